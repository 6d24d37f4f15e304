/-! ===== village: the reference takes over what it read ===== -/
def vo (M I' : ab_I) (a : Nat) (t : Nat → Nat) (dr : Nat) : Prop := rx_is a (I' 89) (sp_b0 a t dr) ∧ I' 73 50 = 0 ∧ I' 73 51 = 0 ∧ I' 73 64 = 0 ∧ I' 73 54 = 0 ∧ (∀ j, j < 3 → I' 107 j = 0) ∧ ∀ r k, r ≠ 89 → r ≠ 90 → r ≠ 107 → ¬ (r = 73 ∧ (k = 50 ∨ k = 51 ∨ k = 64 ∨ k = 54)) → I' r k = M r k
section VM
variable {I : ab_I} {J : ab_J} {a b dr s : Nat} {t : Nat → Nat}
theorem vm_210 (hn : a ≤ 6) (h39 : I 73 39 = nI a) (h38 : I 73 38 = nI dr) (t1 : ∀ p, p < a → I 86 p = nI (t p)) (t2 : ∀ c, c < 30 → I 88 c = nI (t (13 + c))) : ∃ I', fX12_village_210 I J = some (nI a, I', J) ∧ vo I I' a t dr := by
  obtain ⟨I1, b1, b2, b3⟩ := px_mbeginM (t := t) hn h39 t1 t2
  generalize hI2 : ab_u I1 90 44 (nI dr) = I2
  have c0 : I1 73 38 = nI dr := by rw [b3 73 (by decide)]; exact h38
  have c1 : ∀ r, r ≠ 90 → I2 r = I r := fun r hr => by rw [← hI2, ab_u_o hr, b3 r hr]
  have c2 : rx_is a (I2 90) (sp_b0 a t dr) := fun k hk hp => by
    rw [← hI2]
    by_cases e : k = 44
    · subst e
      rw [ab_u_at]
      rfl
    · rw [ab_u_ne e, b2 k hk hp]
      unfold sp_b0
      by_cases x1 : k < 6
      · rw [if_pos x1, if_pos x1]
      · rw [if_neg x1, if_neg x1]
        by_cases x2 : k < 12
        · rw [if_pos x2, if_pos x2]
        · rw [if_neg x2, if_neg x2]
          by_cases x3 : k = 12
          · rw [if_pos x3, if_pos x3]
          · rw [if_neg x3, if_neg x3]
            by_cases x4 : k < 43
            · rw [if_pos x4, if_pos x4]
            · rw [if_neg x4, if_neg x4, if_pos (by omega), if_pos (by omega)]
  obtain ⟨I3, d1, d2, d3⟩ := px_keepAir (I := I2)
  generalize hI4 : ab_u (ab_u (ab_u (ab_u I3 73 50 (0 : Int32)) 73 51 (0 : Int32)) 73 64 (0 : Int32)) 73 54 (0 : Int32) = I4
  have e1 : ∀ r, r ≠ 73 → I4 r = I3 r := fun r hr => by rw [← hI4, ab_u_o hr, ab_u_o hr, ab_u_o hr, ab_u_o hr]
  have e2 : ∀ k, ¬ (k = 50 ∨ k = 51 ∨ k = 64 ∨ k = 54) → I4 73 k = I 73 k := fun k hk => by rw [← hI4, px_u (by omega), px_u (by omega), px_u (by omega), px_u (by omega), d3 73 (by decide), c1 73 (by decide)]
  have e50 : I4 73 50 = 0 := by rw [← hI4, px_u (by omega), px_u (by omega), px_u (by omega), ab_u_at]
  have e51 : I4 73 51 = 0 := by rw [← hI4, px_u (by omega), px_u (by omega), ab_u_at]
  have e64 : I4 73 64 = 0 := by rw [← hI4, px_u (by omega), ab_u_at]
  have e54 : I4 73 54 = 0 := by rw [← hI4, ab_u_at]
  have e89 : rx_is a (I4 89) (sp_b0 a t dr) := fun k hk hp => by
    rw [e1 89 (by decide), d2 k hk]
    exact c2 k hk hp
  have key := px_cplJ (body := fun s : Int32 × ab_I × ab_J => fX12_village_251 s.1 s.2.1 s.2.2) (I := I4) (J := J) (Out := fun x => ∃ I', x = (nI a, I', J) ∧ vo I I' a t dr) 3 107 (fun _ => 0) ?_ ?_ (m := 5000) (by decide)
  · obtain ⟨x, k1, I', k2, k3⟩ := key
    refine ⟨I', ?_, k3⟩
    unfold fX12_village_210
    rw [b1, px_bd, px_gd (by decide), show ((44 : Int32).toNatClampNeg) = 44 from rfl, c0, hI2, d1, px_bd, hI4, k1, k2]
  · intro i I5 hi f1
    dsimp only
    unfold fX12_village_251
    rw [if_neg (show ¬ (3 : Int32) ≤ nI i from nI_ge (b := 3) hi (by decide)), px_gd (px_ix hi (by decide)), nI_clamp (by omega)]
  · intro I5 f1 f2
    dsimp only
    unfold fX12_village_251 fX12_village_269
    rw [if_pos (show (3 : Int32) ≤ nI 3 by decide), f1 73 (by decide), e2 39 (by omega), h39]
    refine ⟨_, rfl, I5, rfl, ?_, ?_, ?_, ?_, ?_, f2, fun r k h1 h2 h3 h4 => ?_⟩
    · rw [f1 89 (by decide)]; exact e89
    · rw [f1 73 (by decide)]; exact e50
    · rw [f1 73 (by decide)]; exact e51
    · rw [f1 73 (by decide)]; exact e64
    · rw [f1 73 (by decide)]; exact e54
    · rw [f1 r h3]
      by_cases e : r = 73
      · subst e
        exact e2 k (by omega)
      · rw [e1 r e, d3 r h1, c1 r h2]
theorem vm_184 (hn : a ≤ 6) (h39 : I 73 39 = nI a) (h38 : I 73 38 = nI dr) (t1 : ∀ p, p < a → I 86 p = nI (t p)) (t2 : ∀ c, c < 30 → I 85 c = nI (t (13 + c))) : ∃ M I', fX12_village_184 I J = some (nI a, I', J) ∧ vo M I' a t dr ∧ (∀ c, c < 30 → M 88 c = I 85 c) ∧ ∀ r, r ≠ 88 → M r = I r := by
  have key := px_cplJ (body := fun s : Int32 × ab_I × ab_J => fX12_village_186 s.1 s.2.1 s.2.2) (I := I) (J := J) (Out := fun x => ∃ M I', x = (nI a, I', J) ∧ vo M I' a t dr ∧ (∀ c, c < 30 → M 88 c = I 85 c) ∧ ∀ r, r ≠ 88 → M r = I r) 30 88 (I 85) ?_ ?_ (m := 5000) (by decide)
  · obtain ⟨x, k1, M, I', k2, k3⟩ := key
    refine ⟨M, I', ?_, k3⟩
    unfold fX12_village_184
    rw [k1, k2]
  · intro i I2 hi f1
    dsimp only
    unfold fX12_village_186
    rw [if_neg (show ¬ (30 : Int32) ≤ nI i from nI_ge (b := 30) hi (by decide)), px_gd (px_ix hi (by decide)), px_gd (px_ix hi (by decide)), nI_clamp (by omega), f1 85 (by decide)]
  · intro I2 f1 f2
    dsimp only
    obtain ⟨I', g1, g2⟩ := vm_210 (I := I2) (J := J) (t := t) (dr := dr) hn (by rw [f1 73 (by decide)]; exact h39) (by rw [f1 73 (by decide)]; exact h38) (fun p hp => by rw [f1 86 (by decide)]; exact t1 p hp) (fun c hc => by rw [f2 c hc]; exact t2 c hc)
    unfold fX12_village_186
    rw [if_pos (show (30 : Int32) ≤ nI 30 by decide), g1]
    exact ⟨_, rfl, I2, I', rfl, g2, f2, f1⟩
theorem vm_156 (hn : a ≤ 6) (hb : b ≤ 5) (h39 : I 73 39 = nI a) (h40 : I 73 40 = nI b) (h38 : I 73 38 = nI dr) (t1 : ∀ p, p < a → I 86 p = nI (t p)) (t2 : ∀ c, c < 30 → I 85 c = nI (t (13 + c))) : ∃ M I', fX12_village_156 I J = some (nI a, I', J) ∧ vo M I' a t dr ∧ (∀ c, c < 30 → M 88 c = I 85 c) ∧ (∀ p, p < b → M 87 p = I 84 p) ∧ ∀ r, r ≠ 87 → r ≠ 88 → M r = I r := by
  have key := px_cplJ (body := fun s : Int32 × ab_I × ab_J => fX12_village_158 s.1 s.2.1 s.2.2) (I := I) (J := J) (Out := fun x => ∃ M I', x = (nI a, I', J) ∧ vo M I' a t dr ∧ (∀ c, c < 30 → M 88 c = I 85 c) ∧ (∀ p, p < b → M 87 p = I 84 p) ∧ ∀ r, r ≠ 87 → r ≠ 88 → M r = I r) b 87 (I 84) ?_ ?_ (m := 5000) (by omega)
  · obtain ⟨x, k1, M, I', k2, k3⟩ := key
    refine ⟨M, I', ?_, k3⟩
    unfold fX12_village_156
    rw [k1, k2]
  · intro i I2 hi f1
    dsimp only
    unfold fX12_village_158
    rw [f1 73 (by decide), h40, if_neg (nI_ge hi (by omega)), px_gd (px_ix (by omega) (by decide)), px_gd (px_ix (by omega) (by decide)), nI_clamp (by omega), f1 84 (by decide)]
  · intro I2 f1 f2
    dsimp only
    obtain ⟨M, I', g1, g2, g3, g4⟩ := vm_184 (I := I2) (J := J) (t := t) (dr := dr) hn (by rw [f1 73 (by decide)]; exact h39) (by rw [f1 73 (by decide)]; exact h38) (fun p hp => by rw [f1 86 (by decide)]; exact t1 p hp) (fun c hc => by rw [f1 85 (by decide)]; exact t2 c hc)
    unfold fX12_village_158
    rw [f1 73 (by decide), h40, if_pos (nI_le (Nat.le_refl _) (by omega)), g1]
    exact ⟨_, rfl, M, I', rfl, g2, fun c hc => by rw [g3 c hc, f1 85 (by decide)], fun p hp => by rw [g4 87 (by decide)]; exact f2 p hp, fun r h1 h2 => by rw [g4 r h2, f1 r h1]⟩
theorem vm_128 (hn : a ≤ 6) (hb : b ≤ 5) (h39 : I 73 39 = nI a) (h40 : I 73 40 = nI b) (h38 : I 73 38 = nI dr) (t1 : ∀ p, p < a → I 83 p = nI (t p)) (t2 : ∀ c, c < 30 → I 85 c = nI (t (13 + c))) : ∃ M I', fX12_village_128 I J = some (nI a, I', J) ∧ vo M I' a t dr ∧ (∀ c, c < 30 → M 88 c = I 85 c) ∧ (∀ p, p < b → M 87 p = I 84 p) ∧ (∀ p, p < a → M 86 p = I 83 p) ∧ ∀ r, r ≠ 86 → r ≠ 87 → r ≠ 88 → M r = I r := by
  have key := px_cplJ (body := fun s : Int32 × ab_I × ab_J => fX12_village_130 s.1 s.2.1 s.2.2) (I := I) (J := J) (Out := fun x => ∃ M I', x = (nI a, I', J) ∧ vo M I' a t dr ∧ (∀ c, c < 30 → M 88 c = I 85 c) ∧ (∀ p, p < b → M 87 p = I 84 p) ∧ (∀ p, p < a → M 86 p = I 83 p) ∧ ∀ r, r ≠ 86 → r ≠ 87 → r ≠ 88 → M r = I r) a 86 (I 83) ?_ ?_ (m := 5000) (by omega)
  · obtain ⟨x, k1, M, I', k2, k3⟩ := key
    refine ⟨M, I', ?_, k3⟩
    unfold fX12_village_128
    rw [k1, k2]
  · intro i I2 hi f1
    dsimp only
    unfold fX12_village_130
    rw [f1 73 (by decide), h39, if_neg (nI_ge hi (by omega)), px_gd (px_ix (by omega) (by decide)), px_gd (px_ix (by omega) (by decide)), nI_clamp (by omega), f1 83 (by decide)]
  · intro I2 f1 f2
    dsimp only
    obtain ⟨M, I', g1, g2, g3, g4, g5⟩ := vm_156 (I := I2) (J := J) (t := t) (dr := dr) hn hb (by rw [f1 73 (by decide)]; exact h39) (by rw [f1 73 (by decide)]; exact h40) (by rw [f1 73 (by decide)]; exact h38) (fun p hp => by rw [f2 p hp]; exact t1 p hp) (fun c hc => by rw [f1 85 (by decide)]; exact t2 c hc)
    unfold fX12_village_130
    rw [f1 73 (by decide), h39, if_pos (nI_le (Nat.le_refl _) (by omega)), g1]
    exact ⟨_, rfl, M, I', rfl, g2, fun c hc => by rw [g3 c hc, f1 85 (by decide)], fun p hp => by rw [g4 p hp, f1 84 (by decide)], fun p hp => by rw [g5 86 (by decide) (by decide)]; exact f2 p hp, fun r h0 h1 h2 => by rw [g5 r h1 h2, f1 r h0]⟩
/-- all that the reference's village does behind the reading -/
theorem vm_85 (hn : a ≤ 6) (hb : b ≤ 5) (hs : s ≤ 300) (h39 : I 73 39 = nI a) (h40 : I 73 40 = nI b) (h38 : I 73 38 = nI dr) (t1 : ∀ p, p < a → I 83 p = nI (t p)) (t2 : ∀ c, c < 30 → I 85 c = nI (t (13 + c))) : ∃ M I', fX12_village_85 (nI s) I J = some (nI a, I', J) ∧ vo M I' a t dr ∧ (∀ c, c < 30 → M 88 c = I 85 c) ∧ (∀ p, p < b → M 87 p = I 84 p) ∧ (∀ p, p < a → M 86 p = I 83 p) ∧ (∀ i, i < s → M 78 i = I 76 i) ∧ (∀ i, i < s → M 79 i = I 77 i) ∧ M 73 18 = nI s ∧ ∀ r k, r ≠ 78 → r ≠ 79 → r ≠ 86 → r ≠ 87 → r ≠ 88 → ¬ (r = 73 ∧ k = 18) → M r k = I r k := by
  generalize hI1 : ab_u I 73 18 (nI s) = I1
  have q18 : I1 73 18 = nI s := by rw [← hI1, ab_u_at]
  have qo : ∀ r k, ¬ (r = 73 ∧ k = 18) → I1 r k = I r k := fun r k h => by rw [← hI1, px_u h]
  have key := px_for (body := fun s : Int32 × ab_I × ab_J => fX12_village_90 s.1 s.2.1 s.2.2) (Out := fun x => ∃ M I', x = (nI a, I', J) ∧ vo M I' a t dr ∧ (∀ c, c < 30 → M 88 c = I 85 c) ∧ (∀ p, p < b → M 87 p = I 84 p) ∧ (∀ p, p < a → M 86 p = I 83 p) ∧ (∀ i, i < s → M 78 i = I 76 i) ∧ (∀ i, i < s → M 79 i = I 77 i) ∧ M 73 18 = nI s ∧ ∀ r k, r ≠ 78 → r ≠ 79 → r ≠ 86 → r ≠ 87 → r ≠ 88 → ¬ (r = 73 ∧ k = 18) → M r k = I r k) (fun i x => x.1 = nI i ∧ x.2.2 = J ∧ (∀ r, r ≠ 78 → r ≠ 79 → x.2.1 r = I1 r) ∧ (∀ k, k < i → x.2.1 78 k = I 76 k) ∧ (∀ k, k < i → x.2.1 79 k = I 77 k)) s ?_ ?_ s 0 5000 (0, I1, J) (by omega) (by omega) ⟨rfl, rfl, fun _ _ _ => rfl, fun k hk => absurd hk (Nat.not_lt_zero k), fun k hk => absurd hk (Nat.not_lt_zero k)⟩
  · obtain ⟨x, k1, M, I', k2, k3⟩ := key
    refine ⟨M, I', ?_, k3⟩
    unfold fX12_village_85
    rw [hI1, k1, k2]
  · rintro i ⟨v, I2, J2⟩ hi ⟨e1, e0, e2, e3, e4⟩
    dsimp only at e1 e0 e2 e3 e4 ⊢
    subst e1 e0
    have m76 : ∀ k, I2 76 k = I 76 k := fun k => by rw [e2 76 (by decide) (by decide)]; exact qo 76 k (by omega)
    have m77 : ∀ k, I2 77 k = I 77 k := fun k => by rw [e2 77 (by decide) (by decide)]; exact qo 77 k (by omega)
    unfold fX12_village_90
    rw [e2 73 (by decide) (by decide), q18, if_neg (nI_ge hi (by omega)), px_gd (px_ix (by omega) (by decide)), px_gd (px_ix (by omega) (by decide)), px_gd (px_ix (by omega) (by decide)), px_gd (px_ix (by omega) (by decide)), nI_clamp (by omega), m76, m77]
    refine ⟨_, rfl, (nI_succ i).symm, rfl, fun r h1 h2 => ?_, fun k hk => ?_, fun k hk => ?_⟩
    · show ab_u (ab_u I2 78 i (I 76 i)) 79 i (I 77 i) r = _
      rw [ab_u_o h2, ab_u_o h1]
      exact e2 r h1 h2
    · show ab_u (ab_u I2 78 i (I 76 i)) 79 i (I 77 i) 78 k = _
      rw [px_u (by omega)]
      by_cases e : k = i
      · subst e
        rw [ab_u_at]
      · rw [ab_u_ne e]
        exact e3 k (by omega)
    · show ab_u (ab_u I2 78 i (I 76 i)) 79 i (I 77 i) 79 k = _
      by_cases e : k = i
      · subst e
        rw [ab_u_at]
      · rw [ab_u_ne e, px_u (by omega)]
        exact e4 k (by omega)
  · rintro ⟨v, I2, J2⟩ ⟨e1, e0, e2, e3, e4⟩
    dsimp only at e1 e0 e2 e3 e4 ⊢
    subst e1 e0
    have m : ∀ r k, r ≠ 78 → r ≠ 79 → ¬ (r = 73 ∧ k = 18) → I2 r k = I r k := fun r k h1 h2 h3 => by rw [e2 r h1 h2]; exact qo r k h3
    obtain ⟨M, I', g1, g2, g3, g4, g5, g6⟩ := vm_128 (I := I2) (J := J2) (t := t) (dr := dr) hn hb (by rw [m 73 39 (by decide) (by decide) (by omega)]; exact h39) (by rw [m 73 40 (by decide) (by decide) (by omega)]; exact h40) (by rw [m 73 38 (by decide) (by decide) (by omega)]; exact h38) (fun p hp => by rw [m 83 p (by decide) (by decide) (by omega)]; exact t1 p hp) (fun c hc => by rw [m 85 c (by decide) (by decide) (by omega)]; exact t2 c hc)
    unfold fX12_village_90
    rw [e2 73 (by decide) (by decide), q18, if_pos (nI_le (Nat.le_refl _) (by omega)), g1]
    refine ⟨_, rfl, M, I', rfl, g2, fun c hc => ?_, fun p hp => ?_, fun p hp => ?_, fun i hi => ?_, fun i hi => ?_, ?_, fun r k h1 h2 h3 h4 h5 h6 => ?_⟩
    · rw [g3 c hc, m 85 c (by decide) (by decide) (by omega)]
    · rw [g4 p hp, m 84 p (by decide) (by decide) (by omega)]
    · rw [g5 p hp, m 83 p (by decide) (by decide) (by omega)]
    · rw [g6 78 (by decide) (by decide) (by decide)]; exact e3 i hi
    · rw [g6 79 (by decide) (by decide) (by decide)]; exact e4 i hi
    · rw [g6 73 (by decide) (by decide) (by decide), e2 73 (by decide) (by decide)]; exact q18
    · rw [g6 r h3 h4 h5]; exact m r k h1 h2 h6
end VM
