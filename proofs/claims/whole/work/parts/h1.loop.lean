/-! ===== village: the whole text ===== -/
section VLP
variable {I0 K0 : ab_I} {J0 L0 : ab_J} {z : Nat} {B : Nat → Nat}
/-- a text's end, both sides -/
def va (I0 K0 : ab_I) (J0 L0 : ab_J) (z : Nat) (cl : Option (Int32 × ab_I × ab_J)) (rf : Option (ab_I × ab_J)) : Prop := (∃ I' J' K' L' p0 a b, cl = some (1, I', J') ∧ rf = some (K', L') ∧ ps I0 K0 J0 L0 z I' J' K' L' p0 0 a b) ∨ ∃ I' J' K' L', cl = some (0, I', J') ∧ rf = some (K', L') ∧ ft I0 K0 J0 L0 I' J' K' L'
theorem vl (hW : lw_W I0 K0 J0 L0 z) (hB0 : tk_B I0 K0 z B) : ∀ d t n p0 c a b (I K : ab_I) (J L : ab_J), t + d = 802 → ps I0 K0 J0 L0 z I J K L p0 c a b → 2 * t ≤ p0 → t ≤ 800 → va I0 K0 J0 L0 z (ab_it (fun s : Int32 × Int32 × ab_I × ab_J => fX4_readsAll_8 s.1 s.2.1 s.2.2.1 s.2.2.2) (n + d + 1) (1, nI t, I, J)) (ab_it (fun s : ab_I × ab_J => fX12_readAll_103 s.1 s.2) (n + d + 1) (K, L)) := by
  intro d
  induction d with
  | zero => intro t n p0 c a b I K J L h1 _ _ h2; omega
  | succ d ih =>
    intro t n p0 c a b I K J L htd h ht h8
    have hT := h.2.1
    have t2 : I 22 2 = nI c := by obtain ⟨pl, _, t2, _⟩ := hT; exact t2
    have f2 := h.2.2.2.2.1
    have hm : ¬ 1600 ≤ nI t := nI_ge (b := 1600) (by omega) (by decide)
    by_cases e : c = 0
    · left
      refine ⟨I, J, K, L, p0, a, b, px_itR (r := (1, I, J)) ?_, px_itR (r := (K, L)) ?_, by rw [← e]; exact h⟩
      · unfold fX4_readsAll_8 fX4_readsAll_149
        dsimp only
        rw [if_neg hm, if_neg (show ¬ (1 : Int32) = 0 by decide), if_pos (show I 22 2 = 0 by rw [t2, e]; rfl), px_gd (Or.inr rfl)]
        rfl
      · unfold fX12_readAll_103 fX12_readAll_124
        dsimp only
        rw [if_pos f2, if_pos ((tk_sort hT).2.1.mp e)]
        rfl
    · have k6 : ¬ K 73 6 = 0 := fun h => e ((tk_sort hT).2.1.mpr h)
      rcases ld_turn (m := nI t) hW hB0 h e hm with ⟨I', J', K', L', c', p1, a', b', e1, e2, h', hp, hz⟩ | ⟨I', J', K', L', e1, e2, h'⟩
      · have e3 : fX12_readAll_103 K L = some (.inl (K', L')) := by
          unfold fX12_readAll_103
          rw [if_pos f2, if_neg k6, e2, px_bd]
        rw [← nI_succ] at e1
        have hz6 := hB0.1
        have := ih (t + 1) n p1 c' a' b' I' K' J' L' (by omega) h' (by omega) (by omega)
        rw [show n + (d + 1) + 1 = (n + d + 1) + 1 by omega, px_itL (s := (1, nI t, I, J)) (s' := (1, nI (t + 1), I', J')) e1, px_itL (s := (K, L)) (s' := (K', L')) e3]
        exact this
      · have e3 : fX12_readAll_103 K L = some (.inl (K', L')) := by
          unfold fX12_readAll_103
          rw [if_pos f2, if_neg k6, e2, px_bd]
        right
        rw [show n + (d + 1) + 1 = (n + d + 1) + 1 by omega, px_itL (s := (1, nI t, I, J)) (s' := (0, nI t + 1, I', J')) e1, px_itL (s := (K, L)) (s' := (K', L')) e3]
        refine ⟨I', J', K', L', px_itR (r := (0, I', J')) ?_, px_itR (r := (K', L')) ?_, h'⟩
        · unfold fX4_readsAll_8 fX4_readsAll_149
          dsimp only
          rw [px_gd (Or.inl rfl)]
          by_cases hh : 1600 ≤ nI t + 1
          · rw [if_pos hh]; rfl
          · rw [if_neg hh, if_pos rfl]; rfl
        · unfold fX12_readAll_103 fX12_readAll_124
          dsimp only
          rw [if_neg (ft_ne h').2]
          rfl
theorem rd_80 (L : ab_J) : ∀ d j n (K : ab_I), j + d = 30 → ∃ K', ab_it (fun s : Int32 × ab_I × ab_J => fX12_readAll_80 s.1 s.2.1 s.2.2) (n + d + 1) (nI j, K, L) = fX12_readAll_99 K' L ∧ (∀ k, j ≤ k → k < 30 → K' 85 k = 0) ∧ (∀ k, k < j → K' 85 k = K 85 k) ∧ ∀ r, r ≠ 85 → K' r = K r := by
  intro d
  induction d with
  | zero =>
    intro j n K h
    refine ⟨K, px_itO ?_, fun k _ _ => by omega, fun k _ => rfl, fun r _ => rfl⟩
    unfold fX12_readAll_80
    dsimp only
    rw [if_pos (show (30 : Int32) ≤ nI j from nI_le (a := 30) (by omega) (by omega))]
  | succ d ih =>
    intro j n K h
    obtain ⟨K', e1, e2, e3, e4⟩ := ih (j + 1) n (ab_u K 85 j 0) (by omega)
    refine ⟨K', ?_, fun k hk hk2 => ?_, fun k hk => ?_, fun r hr => ?_⟩
    · rw [show n + (d + 1) + 1 = (n + d + 1) + 1 by omega, px_itL (s := (nI j, K, L)) (s' := (nI (j + 1), ab_u K 85 j 0, L)) ?_]
      · exact e1
      · unfold fX12_readAll_80
        dsimp only
        rw [if_neg (show ¬ (30 : Int32) ≤ nI j from nI_ge (b := 30) (by omega) (by decide)), px_gd (px_ix (by omega) (by decide)), nI_clamp (by omega), ← nI_succ]
    · by_cases e : k = j
      · rw [e, e3 j (by omega), ab_u_at]
      · exact e2 k (by omega) hk2
    · rw [e3 k (by omega), px_u (by omega)]
    · rw [e4 r hr]; funext i; rw [px_u (by omega)]
theorem vr {I K : ab_I} {J L : ab_J} (hW : lw_W I (ab_u (ab_u K 73 5 (K 73 1)) 73 1 0) J L z) (hB0 : tk_B I (ab_u (ab_u K 73 5 (K 73 1)) 73 1 0) z B) : va I (ab_u (ab_u K 73 5 (K 73 1)) 73 1 0) J L z (fX4_readsAll I J) (fX12_readAll K L) := by
  obtain ⟨I1, i1, i2, i3⟩ := px_fillr (I := I) (r0 := 17) (n0 := 30) (x := 0) (by decide)
  unfold fX4_readsAll fX4_clear fX9_clear fX2_clear fX8_start
  rw [i1, px_bd, px_bd, px_bd]
  generalize eI : ab_u (ab_u (ab_u (ab_u (ab_u (ab_u (ab_u (ab_u (ab_u (ab_u (ab_u (ab_u (ab_u (ab_u I1 18 3 0) 18 4 0) 14 4 0) 14 5 0) 14 6 0) 14 7 (-1)) 14 8 0) 14 9 0) 11 3 0) 11 4 0) 11 5 0) 11 8 0) 11 9 (-1)) 22 1 0 = I2
  have g1 : ∀ r k, ¬ (r = 18 ∧ (k = 3 ∨ k = 4)) → ¬ (r = 14 ∧ 4 ≤ k ∧ k ≤ 9) → ¬ (r = 11 ∧ (k = 3 ∨ k = 4 ∨ k = 5 ∨ k = 8 ∨ k = 9)) → ¬ (r = 22 ∧ k = 1) → I2 r k = I1 r k := fun r k h1 h2 h3 h4 => by
    rw [← eI, px_u (by omega), px_u (by omega), px_u (by omega), px_u (by omega), px_u (by omega), px_u (by omega), px_u (by omega), px_u (by omega), px_u (by omega), px_u (by omega), px_u (by omega), px_u (by omega), px_u (by omega), px_u (by omega)]
  have v22 : I2 22 1 = nI 0 := by rw [← eI]; rfl
  have v119 : I2 11 9 = -1 := by rw [← eI]; rfl
  have v118 : I2 11 8 = 0 := by rw [← eI]; rfl
  have v115 : I2 11 5 = 0 := by rw [← eI]; rfl
  have v114 : I2 11 4 = 0 := by rw [← eI]; rfl
  have v113 : I2 11 3 = 0 := by rw [← eI]; rfl
  have v149 : I2 14 9 = nI 0 := by rw [← eI]; rfl
  have v148 : I2 14 8 = nI 0 := by rw [← eI]; rfl
  have v146 : I2 14 6 = nI 0 := by rw [← eI]; rfl
  have v145 : I2 14 5 = nI 0 := by rw [← eI]; rfl
  have v144 : I2 14 4 = nI 0 := by rw [← eI]; rfl
  have v183 : I2 18 3 = 0 := by rw [← eI]; rfl
  have v184 : I2 18 4 = 0 := by rw [← eI]; rfl
  unfold fX12_readAll
  generalize eK : ab_u (ab_u (ab_u (ab_u (ab_u (ab_u (ab_u (ab_u (ab_u (ab_u (ab_u (ab_u (ab_u (ab_u (ab_u K 73 5 (K 73 1)) 73 1 0) 73 4 0) 73 2 0) 73 3 (-1)) 73 33 0) 73 34 0) 73 35 0) 73 36 0) 73 37 0) 73 38 0) 73 44 0) 73 45 0) 73 24 0) 73 20 0 = K1
  obtain ⟨K2, k1, k2, _, k4⟩ := rd_80 L 30 0 4969 K1 (by omega)
  have e73 : K2 73 = K1 73 := k4 73 (by decide)
  have q1 : ∀ r k, ¬ zm r k → K2 r k = ab_u (ab_u K 73 5 (K 73 1)) 73 1 0 r k := fun r k h => by
    unfold zm at h
    rw [k4 r (by omega), ← eK, px_u (by omega), px_u (by omega), px_u (by omega), px_u (by omega), px_u (by omega), px_u (by omega), px_u (by omega), px_u (by omega), px_u (by omega), px_u (by omega), px_u (by omega), px_u (by omega), px_u (by omega)]
  have w4 : K2 73 4 = nI 0 := by rw [e73, ← eK]; rfl
  have w2 : K2 73 2 = 0 := by rw [e73, ← eK]; rfl
  have w3 : K2 73 3 = -1 := by rw [e73, ← eK]; rfl
  have w33 : K2 73 33 = nI 0 := by rw [e73, ← eK]; rfl
  have w34 : K2 73 34 = nI 0 := by rw [e73, ← eK]; rfl
  have w35 : K2 73 35 = nI 0 := by rw [e73, ← eK]; rfl
  have w37 : K2 73 37 = nI 0 := by rw [e73, ← eK]; rfl
  have w38 : K2 73 38 = nI 0 := by rw [e73, ← eK]; rfl
  have w44 : K2 73 44 = 0 := by rw [e73, ← eK]; rfl
  have w45 : K2 73 45 = 0 := by rw [e73, ← eK]; rfl
  have w24 : K2 73 24 = 0 := by rw [e73, ← eK]; rfl
  have w20 : K2 73 20 = 0 := by rw [e73, ← eK]; rfl
  have hF : ps_F I (ab_u (ab_u K 73 5 (K 73 1)) 73 1 0) J L I2 J K2 L := ⟨fun r k h => by unfold zx at h; rw [g1 r k (by omega) (by omega) (by omega) (by omega), i3 r (by omega)], q1, fun r k _ _ _ => rfl, fun r k _ _ => rfl⟩
  have hd : dr I2 J K2 L 0 0 := by
    refine ⟨⟨by decide, v144, w33, fun p hp => by omega, fun p hp => by omega, fun i j _ hj => by omega⟩, ⟨by decide, v145, w34, fun p hp => by omega, fun p hp => by omega, fun i j _ hj => by omega⟩, ⟨0, by decide, v146, w35, fun c hc => ⟨0, by decide, ?_, ?_, fun h => by omega⟩, fun h => by omega⟩, ⟨0, by decide, v148, w37, by rw [v114, w44], Or.inl w44⟩, ⟨0, by decide, v149, w38, by rw [v115, w45], Or.inl w45⟩, Or.inl ⟨v113, w24, v183, v184, w20⟩⟩
    · rw [g1 17 c (by omega) (by omega) (by omega) (by omega)]; exact i2 c hc
    · exact k2 c (by omega) hc
  obtain ⟨I3, J3, K3, L3, c, a1, a2, a3, a4, a5⟩ := tk_A (J := J) (L := L) (ps_tB hB0 hF) v22 w4 (by omega)
  have hps : ps I (ab_u (ab_u K 73 5 (K 73 1)) 73 1 0) J L z I3 J3 K3 L3 0 c 0 0 := by
    refine ⟨⟨fun r k hz => ?_, fun r k hz => ?_, fun r k x y w => ?_, fun r k x y => ?_⟩, a3, ?_, ?_, ?_, ?_, ?_⟩
    · rw [a4.1 r k (by unfold zx at hz; omega)]; exact hF.1 r k hz
    · rw [a5.1 r k (by unfold zm at hz; omega)]; exact hF.2.1 r k hz
    · rw [a4.2 r k (by omega)]
    · rw [a5.2 r k (by omega)]
    · rw [a4.1 11 8 (by omega)]; exact v118
    · rw [a4.1 11 9 (by omega)]; exact v119
    · rw [a5.1 73 2 (by omega)]; exact w2
    · rw [a5.1 73 3 (by omega)]; exact w3
    · exact dr_c hd (fun r k h => a4.1 r k (by unfold dr_x at h; omega)) (fun r k h => a5.1 r k (by unfold dr_m at h; omega)) (fun r k h => a4.2 r k (by omega)) (fun k => a5.2 75 k (by omega))
  have hv := vl hW hB0 802 0 4197 0 c 0 0 I3 K3 J3 L3 (by omega) hps (by omega) (by omega)
  have k1' : ab_it (fun s : Int32 × ab_I × ab_J => fX12_readAll_80 s.1 s.2.1 s.2.2) 5000 (0, K1, L) = fX12_readAll_99 K2 L := k1
  rw [a1, px_bd, px_bd, px_bd, k1']
  unfold fX12_readAll_99
  rw [a2, px_bd]
  exact hv
end VLP
