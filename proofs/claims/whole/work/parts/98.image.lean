/-! ===== tools: a loop that copies a row, R with new boxes, R with new now and acts ===== -/
/-- a loop that lays src at o, o + 1, .. of row d -/
theorem px_cpl {ρ : Type} {body : Int32 × ab_I → Option ((Int32 × ab_I) ⊕ ρ)} {Out : ρ → Prop} {I : ab_I} (n d o : Nat) (src : Nat → Int32)
    (step : ∀ i I2, i < n → (∀ r, r ≠ d → I2 r = I r) → (∀ k, I2 d k = if o ≤ k ∧ k < o + i then src (k - o) else I d k) → body (nI i, I2) = some (.inl (nI i + 1, ab_u I2 d (o + i) (src i))))
    (out : ∀ I2, (∀ r, r ≠ d → I2 r = I r) → (∀ k, I2 d k = if o ≤ k ∧ k < o + n then src (k - o) else I d k) → ∃ x, body (nI n, I2) = some (.inr x) ∧ Out x) {m : Nat} (hm : n < m) : ∃ x, ab_it body m (0, I) = some x ∧ Out x := by
  refine px_for (body := body) (Out := Out) (fun i s => s.1 = nI i ∧ (∀ r, r ≠ d → s.2 r = I r) ∧ ∀ k, s.2 d k = if o ≤ k ∧ k < o + i then src (k - o) else I d k) n ?_ ?_ n 0 m (0, I) (by omega) hm ⟨rfl, fun _ _ => rfl, fun k => by rw [if_neg (by omega)]⟩
  · rintro i ⟨a, I2⟩ hi ⟨e1, e2, e3⟩
    dsimp only at e1 e2 e3 ⊢
    subst e1
    refine ⟨_, step i I2 hi e2 e3, (nI_succ i).symm, fun r hr => ?_, fun k => ?_⟩
    · show ab_u I2 d (o + i) (src i) r = _
      rw [ab_u_o hr]
      exact e2 r hr
    · show ab_u I2 d (o + i) (src i) d k = _
      by_cases e : k = o + i
      · subst e
        rw [ab_u_at, if_pos (by omega), Nat.add_sub_cancel_left]
      · rw [ab_u_ne e, e3]
        by_cases e4 : o ≤ k ∧ k < o + i
        · rw [if_pos e4, if_pos (by omega)]
        · rw [if_neg e4, if_neg (by omega)]
  · rintro ⟨a, I2⟩ ⟨e1, e2, e3⟩
    dsimp only at e1 e2 e3 ⊢
    subst e1
    exact out I2 e2 e3
theorem rx_R_X {S : ab_S} {I I' : ab_I} {J : ab_J} {P : ab_P} {np nb nl fa lc dr q dn kp c z cn tm bf2 : Nat} {t w : Nat → Nat} {F : Int32 → Int32 → Int32 → Int32 → Int32 → Int32 → Int32} (hB : bz_B S P) (hZ : bz_Z S.length I J P) (hS : ∃ i, S.length = 109 + 4 * i) (hG : rx_G I np nb nl fa t lc dr F) (hN : rx_N I P np nb q w) (hA : rx_A I P np nb dn kp) (hL : rx_L I c) (hP : rx_P I z) (hU : rx_U I) (hW : rx_W I np nb cn tm) (h : ∀ r k, ¬ rx_dX r k → ¬ rx_sc r → I' r k = I r k) (hX : rx_X I' np nb bf2) : rx_R S I' J P := by
  obtain ⟨i, hi⟩ := hS
  refine ⟨hB, fun r hr => ?_, ⟨i, hi⟩, np, nb, nl, fa, lc, dr, t, F, rx_G_c hG (fun r k hd => ?_), ⟨q, w, rx_N_c hN (fun r k hd => ?_)⟩, ⟨dn, kp, rx_A_c hA (fun r k hd => ?_)⟩, ⟨bf2, hX⟩, ⟨c, rx_L_c hL (fun r k hd => ?_)⟩, ⟨z, rx_P_c hP (fun r k hd => ?_)⟩, rx_U_c hU (fun r k hd => ?_), cn, tm, rx_W_c hW (fun r k hd => ?_)⟩
  · obtain ⟨z1, z2, z3⟩ := hZ r hr
    exact ⟨by rw [← z1]; exact funext fun k => h r k (by unfold rx_dX; omega) (by unfold rx_sc; omega), z2, z3⟩
  · exact h r k (by unfold rx_dX; unfold rx_dG at hd; omega) (by unfold rx_sc; unfold rx_dG at hd; omega)
  · exact h r k (by unfold rx_dX; unfold rx_dN rx_dD at hd; omega) (by unfold rx_sc; unfold rx_dN rx_dD at hd; omega)
  · exact h r k (by unfold rx_dX; unfold rx_dA rx_dD at hd; omega) (by unfold rx_sc; unfold rx_dA rx_dD at hd; omega)
  · exact h r k (by unfold rx_dX; unfold rx_dL at hd; omega) (by unfold rx_sc; unfold rx_dL at hd; omega)
  · exact h r k (by unfold rx_dX; unfold rx_dP at hd; omega) (by unfold rx_sc; unfold rx_dP at hd; omega)
  · exact h r k (by unfold rx_dX; unfold rx_dU at hd; omega) (by unfold rx_sc; unfold rx_dU at hd; omega)
  · exact h r k (by unfold rx_dX; unfold rx_dW at hd; omega) (by unfold rx_sc; unfold rx_dW at hd; omega)
/-- now and acts being new, S and P too -/
theorem rx_R_NA {S S' : ab_S} {I I' : ab_I} {J : ab_J} {P P' : ab_P} (hR : rx_R S I J P) (hB : bz_B S' P') (hZ : bz_Z S'.length I' J P') (hS : ∃ i, S'.length = 109 + 4 * i) (h : ∀ r k, ¬ rx_dD r → r ≠ 89 → r ≠ 92 → r ≠ 53 → ¬ (r = 73 ∧ (k = 50 ∨ k = 51)) → ¬ rx_sc r → I' r k = I r k) (hNA : ∀ np nb, np ≤ 6 → nb ≤ 5 → I 3 4 = nI np → I 3 5 = nI nb → (∃ q w, rx_N I P np nb q w) → (∃ dn kp, rx_A I P np nb dn kp) → (∃ bf, rx_X I np nb bf) → (∃ q w, rx_N I' P' np nb q w) ∧ ∃ dn kp, rx_A I' P' np nb dn kp) : rx_R S' I' J P' := by
  obtain ⟨_, _, _, np, nb, nl, fa, lc, dr, t, F, hG, hN, hA, ⟨bf, hX⟩, ⟨c, hL⟩, ⟨z, hP⟩, hU, cn, tm, hW⟩ := hR
  obtain ⟨i, hi⟩ := hS
  obtain ⟨hN2, hA2⟩ := hNA np nb hG.1.1 hG.1.2.1 hG.1.2.2.2.2.1 hG.1.2.2.2.2.2.2.1 hN hA ⟨bf, hX⟩
  refine ⟨hB, hZ, ⟨i, hi⟩, np, nb, nl, fa, lc, dr, t, F, rx_G_c hG (fun r k hd => ?_), hN2, hA2, ⟨bf, rx_X_c hX (fun r k hd => ?_)⟩, ⟨c, rx_L_c hL (fun r k hd => ?_)⟩, ⟨z, rx_P_c hP (fun r k hd => ?_)⟩, rx_U_c hU (fun r k hd => ?_), cn, tm, rx_W_c hW (fun r k hd => ?_)⟩
  · unfold rx_dG at hd; exact h r k (by unfold rx_dD; omega) (by omega) (by omega) (by omega) (by omega) (by unfold rx_sc; omega)
  · unfold rx_dX at hd; exact h r k (by unfold rx_dD; omega) (by omega) (by omega) (by omega) (by omega) (by unfold rx_sc; omega)
  · unfold rx_dL at hd; exact h r k (by unfold rx_dD; omega) (by omega) (by omega) (by omega) (by omega) (by unfold rx_sc; omega)
  · unfold rx_dP at hd; exact h r k (by unfold rx_dD; omega) (by omega) (by omega) (by omega) (by omega) (by unfold rx_sc; omega)
  · unfold rx_dU at hd; exact h r k (by unfold rx_dD; omega) (by omega) (by omega) (by omega) (by omega) (by unfold rx_sc; omega)
  · unfold rx_dW at hd; exact h r k (by unfold rx_dD; omega) (by omega) (by omega) (by omega) (by omega) (by unfold rx_sc; omega)
theorem bz_56 {S : ab_S} {P : ab_P} (hB : bz_B S P) {j : Nat} (hj : j < 3) : P 56 j = some (61 + 4 * j) := by
  match j, hj with
  | 0, _ => exact hB.2.1 64 _ rfl
  | 1, _ => exact hB.2.1 65 _ rfl
  | 2, _ => exact hB.2.1 66 _ rfl
theorem px_isBox (a : Int32) : fX12_isBox a = some (if a < 0 ∨ (2 : Int32) < a then 0 else 1) := by
  unfold fX12_isBox fX12_isBox_13 fX12_isBox_14
  have e : (3 : Int32) ≤ a ↔ (2 : Int32) < a := by
    rw [Int32.le_iff_toInt_le, Int32.lt_iff_toInt_lt, show (3 : Int32).toInt = 3 from rfl, show (2 : Int32).toInt = 2 from rfl]
    omega
  by_cases h1 : a < 0
  · rw [if_pos h1, if_pos (Or.inl h1), px_gd (Or.inl rfl)]
  · rw [if_neg h1]
    by_cases h2 : (2 : Int32) < a
    · rw [if_pos (e.mpr h2), if_pos (Or.inr h2), px_gd (Or.inl rfl)]
    · rw [if_neg (fun h => h2 (e.mp h)), if_neg (fun h => h.elim h1 h2), px_gd (Or.inr rfl)]
theorem px_bxor : ∀ b, b < 8 → ∀ j, j < 3 → nI b ||| ((1 : Int32) <<< (nI j &&& 31)) = nI (b ||| 2 ^ j) ∧ b ||| 2 ^ j < 8 := by decide +kernel
theorem px_bxt : ∀ b, b < 8 → ∀ j, j < 3 → ∀ k, k < 3 → (b ||| 2 ^ j).testBit k = (decide (k = j) || b.testBit k) := by decide +kernel
theorem px_bxb : ∀ b, b < 8 → ∀ j, j < 3 → ((((nI b) >>> (nI j &&& 31)) &&& (1 : Int32)) = 0 ↔ b.testBit j = false) := by decide +kernel
theorem px_45 (j i : Nat) : (45 : Int32) * nI j + nI i = nI (45 * j + i) := by
  rw [show (45 : Int32) = nI 45 from rfl, pk_mul, px_add]
section PR13
variable {S : ab_S} {I : ab_I} {J : ab_J} {P : ab_P} {l : Launch} {G : ab_G}
theorem px_mimage {j : Nat} (hj : j < 3) (h : ¬ (nI j < 0 ∨ (2 : Int32) < nI j)) : ∃ I', fX12_image (nI j) I = some (I 89 43, I') ∧ I' 107 j = 1 ∧ (∀ k, k < 45 → I' 108 (45 * j + k) = I 89 k) ∧ (∀ k, k ≠ j → I' 107 k = I 107 k) ∧ (∀ k, (k < 45 * j ∨ 45 * j + 45 ≤ k) → I' 108 k = I 108 k) ∧ ∀ r, r ≠ 107 → r ≠ 108 → I' r = I r := by
  unfold fX12_image
  rw [px_isBox, if_neg h, px_bd, if_neg (by decide), px_gd (px_ix hj (by decide)), nI_clamp (by omega)]
  have key := px_cpl (body := fun s : Int32 × ab_I => fX12_image_18 (nI j) s.1 s.2) (I := ab_u I 107 j 1) (Out := fun x : Int32 × ab_I => x.1 = I 89 43 ∧ (∀ r, r ≠ 108 → x.2 r = ab_u I 107 j 1 r) ∧ ∀ k, x.2 108 k = if 45 * j ≤ k ∧ k < 45 * j + 45 then I 89 (k - 45 * j) else I 108 k) 45 108 (45 * j) (I 89) ?_ ?_ (m := 5000) (by decide)
  · obtain ⟨⟨x, I2⟩, k1, k2, k3, k4⟩ := key
    dsimp only at k2 k3 k4
    refine ⟨I2, by rw [k1, k2], ?_, fun k hk => ?_, fun k hk => ?_, fun k hk => ?_, fun r h1 h2 => ?_⟩
    · rw [k3 107 (by decide), ab_u_at]
    · rw [k4, if_pos (by omega), Nat.add_sub_cancel_left]
    · rw [k3 107 (by decide), ab_u_ne hk]
    · rw [k4, if_neg (by omega)]
    · rw [k3 r h2, ab_u_o h1]
  · intro i I2 hi f1 f2
    dsimp only
    unfold fX12_image_18
    rw [if_neg (show ¬ (45 : Int32) ≤ nI i from nI_ge (b := 45) hi (by decide)), px_gd (px_ix hi (by decide)), px_45, px_gd (px_ix (by omega) (by decide)), nI_clamp (by omega), nI_clamp (by omega), f1 89 (by decide), ab_u_o (by decide)]
  · intro I2 f1 f2
    dsimp only
    unfold fX12_image_18 fX12_image_47
    rw [if_pos (show (45 : Int32) ≤ nI 45 from by decide), px_gd (by decide), f1 89 (by decide), ab_u_o (by decide)]
    exact ⟨_, rfl, rfl, f1, fun k => (f2 k).trans (by rw [ab_u_o (by decide)])⟩
theorem pr_image (hR : rx_R S I J P) (a1 : Int32) : lz_pr l G rx_R mX11_image 2 mX12_image 1 [.int a1] S I J P := by
  obtain ⟨hB, hZ, ⟨i, hS⟩, np, nb, nl, fa, lc, dr, t, F, hG, ⟨q, w, hN⟩, ⟨dn, kp, hA⟩, ⟨bf, hX⟩, ⟨c, hL⟩, ⟨z, hP⟩, hU, cn, tm, hW⟩ := id hR
  by_cases ha : a1 < 0 ∨ (2 : Int32) < a1
  · have hx : fX11_image a1 I P = some (-1, I) := by
      unfold fX11_image
      rw [px_within, if_pos ha, px_bd, if_pos rfl]
    have hm : fX12_image a1 I = some (-1, I) := by
      unfold fX12_image
      rw [px_isBox, if_pos ha, px_bd, if_pos rfl]
    exact lz_q _ hR (fun Q hQ => mX11_image_ok hB hx hQ) (fun Q hQ => mX12_image_ok hB hm hQ) (fun _ _ => rfl)
  obtain ⟨j, hj, rfl⟩ := px_in (hi := 2) (by decide) ha
  obtain ⟨n1, n2, n3, n4, n5⟩ := id hN
  obtain ⟨x1, x2, x3⟩ := id hX
  have hj3 : j < 3 := by omega
  obtain ⟨I1, c1, c2, c3⟩ := px_copy (I := I) (q0 := 61 + 4 * j) (q1 := q) (by rcases n2 with rfl | ⟨i, rfl⟩ <;> omega)
  obtain ⟨b1, b2⟩ := px_bxor bf x1 j hj3
  have e11 : I1 0 11 = nI bf := by rw [c3 0 (by omega)]; exact x2
  have hx : fX11_image (nI j) I P = some (nI (w 43), ab_u I1 0 11 (nI (bf ||| 2 ^ j))) := by
    unfold fX11_image
    rw [px_within, if_neg ha, px_bd, if_neg (by decide), px_gd (px_ix hj3 (by decide)), nI_clamp (by omega), bz_56 hB hj3, px_bd, n1, px_bd, c1, px_bd, px_bd, e11, b1, px_u (by rcases n2 with rfl | ⟨i, rfl⟩ <;> omega), c3 q (by rcases n2 with rfl | ⟨i, rfl⟩ <;> omega), rx_day n3]
  have e89 : ∀ k, ab_u I1 0 11 (nI (bf ||| 2 ^ j)) 89 k = I 89 k := fun k => by rw [px_u (by omega), c3 89 (by omega)]
  obtain ⟨I2, m1, m2, m3, m4, m5, m6⟩ := px_mimage (I := ab_u I1 0 11 (nI (bf ||| 2 ^ j))) hj3 ha
  rw [e89, n4 43 (by decide) (fun h => absurd h (by decide))] at m1
  refine ⟨nI (w 43), S, ab_u I1 0 11 (nI (bf ||| 2 ^ j)), J, P, S, I2, J, P, fun Q hQ => mX11_image_ok hB hx hQ, fun Q hQ => mX12_image_ok hB m1 hQ, hB.1 73 _ rfl, ?_⟩
  refine rx_R_X (bf2 := bf ||| 2 ^ j) hB hZ ⟨i, hS⟩ hG hN hA hL hP hU hW (fun r k hd _ => ?_) ⟨b2, ?_, fun k hk => ?_⟩
  · unfold rx_dX at hd
    rw [m6 r (by omega) (by omega), px_u (by omega), c3 r (by omega)]
  · rw [m6 0 (by decide) (by decide), ab_u_at]
  · rw [px_bxt bf x1 j hj3 k hk]
    have fv : ∀ g, rx_v I2 (61 + 4 * k) g = rx_v I1 (61 + 4 * k) g := fun g => rx_v_c (fun e he g => by rw [m6 _ (by omega) (by omega), px_u (by omega)])
    by_cases e : k = j
    · subst e
      refine Or.inr ⟨by simp, m2, w, fun g h1 h2 => ?_, fun g h1 h2 => ?_, n5⟩
      · rw [fv, c2 g h1]
        exact n3 g h1 h2
      · show I2 108 _ = _
        rw [m3 g h1, e89]
        exact n4 g h1 h2
    · rw [decide_eq_false e, Bool.false_or]
      have f1 : ∀ r, r ≠ 0 → (r < 61 + 4 * j ∨ 61 + 4 * j + 3 < r) → ∀ k, ab_u I1 0 11 (nI (bf ||| 2 ^ j)) r k = I r k := fun r h0 h1 k => by rw [px_u (by omega), c3 r h1]
      rcases x3 k hk with ⟨y1, y2⟩ | ⟨y1, y2, w2, y3, y4, y5⟩
      · exact Or.inl ⟨y1, by rw [m4 k e, f1 107 (by omega) (by omega)]; exact y2⟩
      · refine Or.inr ⟨y1, by rw [m4 k e, f1 107 (by omega) (by omega)]; exact y2, w2, fun g h1 h2 => ?_, fun g h1 h2 => ?_, y5⟩
        · rw [fv, rx_v_c (fun e he g => by rw [c3 _ (by omega)])]
          exact y3 g h1 h2
        · show I2 108 _ = _
          rw [m5 _ (by omega), f1 108 (by omega) (by omega)]
          exact y4 g h1 h2
theorem px_mback {j : Nat} (hj : j < 3) (h : ¬ (nI j < 0 ∨ (2 : Int32) < nI j)) (h7 : ¬ I 107 j = 0) : ∃ I', fX12_back (nI j) I = some (I 108 (45 * j + 43), I') ∧ (∀ k, k < 45 → I' 89 k = I 108 (45 * j + k)) ∧ I' 73 50 = 0 ∧ I' 73 51 = 0 ∧ ∀ r k, r ≠ 89 → ¬ (r = 73 ∧ (k = 50 ∨ k = 51)) → I' r k = I r k := by
  unfold fX12_back
  rw [px_isBox, if_neg h, px_bd, if_neg (by decide), px_gd (px_ix hj (by decide)), nI_clamp (by omega), if_neg h7]
  have key := px_cpl (body := fun s : Int32 × ab_I => fX12_back_20 (nI j) s.1 s.2) (I := I) (Out := fun x : Int32 × ab_I => x.1 = I 108 (45 * j + 43) ∧ (∀ k, k < 45 → x.2 89 k = I 108 (45 * j + k)) ∧ x.2 73 50 = 0 ∧ x.2 73 51 = 0 ∧ ∀ r k, r ≠ 89 → ¬ (r = 73 ∧ (k = 50 ∨ k = 51)) → x.2 r k = I r k) 45 89 0 (fun i => I 108 (45 * j + i)) ?_ ?_ (m := 5000) (by decide)
  · obtain ⟨⟨x, I2⟩, k1, k2, k3⟩ := key
    dsimp only at k2 k3
    exact ⟨I2, by rw [k1, k2], k3⟩
  · intro i I2 hi f1 f2
    dsimp only
    unfold fX12_back_20
    rw [if_neg (show ¬ (45 : Int32) ≤ nI i from nI_ge (b := 45) hi (by decide)), px_45, px_gd (px_ix (by omega) (by decide)), px_gd (px_ix hi (by decide)), nI_clamp (by omega), nI_clamp (by omega), f1 108 (by decide), Nat.zero_add]
  · intro I2 f1 f2
    dsimp only
    unfold fX12_back_20 fX12_back_49
    rw [if_pos (show (45 : Int32) ≤ nI 45 from by decide), px_gd (by decide)]
    refine ⟨_, rfl, (f2 43).trans (by rw [if_pos (by omega)]), fun k hk => ?_, ?_, ?_, fun r k h1 h2 => ?_⟩
    · dsimp only; rw [px_u (by omega), px_u (by omega), f2 k, if_pos (by omega), Nat.sub_zero]
    · dsimp only; rw [px_u (by omega), ab_u_at]
    · dsimp only; rw [ab_u_at]
    · dsimp only; rw [px_u (by omega), px_u (by omega), f1 r h1]
theorem rx_N_v {np nb q : Nat} {w : Nat → Nat} {f : Nat → Int32} (h : rx_is np f w) (hf : ∀ k, k < 45 → rx_v I q k = f k) : rx_is np (rx_v I q) w := fun k h1 h2 => (hf k h1).trans (h k h1 h2)
theorem pr_back (hR : rx_R S I J P) (a1 : Int32) : lz_pr l G rx_R mX11_back 2 mX12_back 1 [.int a1] S I J P := by
  obtain ⟨hB, hZ, ⟨i, hS⟩, np, nb, nl, fa, lc, dr, t, F, hG, ⟨q, w, hN⟩, ⟨dn, kp, hA⟩, ⟨bf, hX⟩, ⟨c, hL⟩, ⟨z, hP⟩, hU, cn, tm, hW⟩ := id hR
  by_cases ha : a1 < 0 ∨ (2 : Int32) < a1
  · have hx : fX11_back a1 I P = some (-1, I) := by
      unfold fX11_back fX11_back_20
      rw [px_within, if_pos ha, px_bd, if_pos rfl]
    have hm : fX12_back a1 I = some (-1, I) := by
      unfold fX12_back fX12_back_16
      rw [px_isBox, if_pos ha, px_bd, if_pos rfl]
    exact lz_q _ hR (fun Q hQ => mX11_back_ok hB hx hQ) (fun Q hQ => mX12_back_ok hB hm hQ) (fun _ _ => rfl)
  obtain ⟨j, hj, rfl⟩ := px_in (hi := 2) (by decide) ha
  obtain ⟨n1, n2, n3, n4, n5⟩ := id hN
  obtain ⟨x1, x2, x3⟩ := id hX
  have hj3 : j < 3 := by omega
  have hst := hB.2.2.1 q n1
  have hql : q + 3 < S.length := bz_lt hst.2.2.2.1
  rcases x3 j hj3 with ⟨y1, y2⟩ | ⟨y1, y2, w2, y3, y4, y5⟩
  · have hx : fX11_back (nI j) I P = some (-1, I) := by
      unfold fX11_back fX11_back_20
      rw [px_within, if_neg ha, px_bd, if_neg (by decide), x2, if_pos ((px_bxb bf x1 j hj3).mpr y1)]
    have hm : fX12_back (nI j) I = some (-1, I) := by
      unfold fX12_back fX12_back_16
      rw [px_isBox, if_neg ha, px_bd, if_neg (by decide), px_gd (px_ix hj3 (by decide)), nI_clamp (by omega), if_pos y2]
    exact lz_q _ hR (fun Q hQ => mX11_back_ok hB hx hQ) (fun Q hQ => mX12_back_ok hB hm hQ) (fun _ _ => rfl)
  obtain ⟨I1, c1, c2, c3⟩ := px_copy (I := I) (q0 := q) (q1 := 61 + 4 * j) (by rcases n2 with rfl | ⟨i, rfl⟩ <;> omega)
  have hq : ∀ r, r ≠ 57 → r ≠ 58 → r ≠ 59 → r ≠ 60 → r < 109 → (r < q ∨ q + 3 < r) := fun r a b c d e => by rcases n2 with rfl | ⟨i, rfl⟩ <;> omega
  have d4 : I1 q 4 = nI (w2 43) := by
    have := c2 43 (by decide)
    rw [y3 43 (by decide) (fun h => absurd h (by decide))] at this
    simpa [rx_v] using this
  have hq53 : q ≠ 53 := by rcases n2 with rfl | ⟨i, rfl⟩ <;> omega
  generalize hI2 : ab_u (ab_u I1 53 1 (0 : Int32)) 53 2 (0 : Int32) = I2
  have f2 : ∀ r, r ≠ 53 → I2 r = I1 r := fun r h => by rw [← hI2, ab_u_o h, ab_u_o h]
  have hx : fX11_back (nI j) I P = some (nI (w2 43), I2) := by
    unfold fX11_back fX0_forget
    rw [px_within, if_neg ha, px_bd, if_neg (by decide), x2, if_neg (fun h => by rw [(px_bxb bf x1 j hj3).mp h] at y1; exact absurd y1 (by decide)), n1, px_bd, px_gd (px_ix hj3 (by decide)), nI_clamp (by omega), bz_56 hB hj3, px_bd, c1, px_bd, px_bd, px_bd, hI2, f2 q hq53, d4]
  have g1 : ∀ r k, (r < q ∨ q + 3 < r) → r ≠ 53 → I2 r k = I r k := fun r k h1 h2 => by rw [f2 r h2, c3 r h1]
  have e107 : ¬ I2 107 j = 0 := by
    rw [g1 107 j (hq 107 (by decide) (by decide) (by decide) (by decide) (by decide)) (by decide), y2]
    decide
  obtain ⟨I3, m1, m2, m3, m4, m5⟩ := px_mback (I := I2) hj3 ha e107
  have e108 : ∀ k, I2 108 k = I 108 k := fun k => g1 108 k (hq 108 (by decide) (by decide) (by decide) (by decide) (by decide)) (by decide)
  have y43 : I 108 (45 * j + 43) = nI (w2 43) := y4 43 (by decide) (fun h => absurd h (by decide))
  rw [e108, y43] at m1
  refine ⟨nI (w2 43), S, I2, J, P, S, I3, J, P, fun Q hQ => mX11_back_ok hB hx hQ, fun Q hQ => mX12_back_ok hB m1 hQ, hB.1 73 _ rfl, ?_⟩
  have hi := hS
  refine ⟨hB, fun r hr => ?_, ⟨i, hi⟩, np, nb, nl, fa, lc, dr, t, F, rx_G_c hG (fun r k hd => ?_), ⟨q, w2, n1, n2, fun k h1 h2 => ?_, fun k h1 h2 => ?_, y5⟩, ⟨0, 0, Nat.le_refl _, by decide, ?_, ?_, m3, m4, fun j hj => absurd hj (Nat.not_lt_zero _), hA.2.2.2.2.2.2.2.1, hA.2.2.2.2.2.2.2.2⟩, ⟨bf, rx_X_c hX (fun r k hd => ?_)⟩, ⟨c, rx_L_c hL (fun r k hd => ?_)⟩, ⟨z, rx_P_c hP (fun r k hd => ?_)⟩, rx_U_c hU (fun r k hd => ?_), cn, tm, rx_W_c hW (fun r k hd => ?_)⟩
  · obtain ⟨z1, z2, z3⟩ := hZ r hr
    exact ⟨by rw [← z1]; exact funext fun k => by rw [m5 r k (by omega) (by omega), g1 r k (by omega) (by omega)], z2, z3⟩
  · unfold rx_dG at hd
    rw [m5 r k (by omega) (by omega), g1 r k (hq r (by omega) (by omega) (by omega) (by omega) (by omega)) (by omega)]
  · rw [rx_v_c (I := I1) (fun e he g => by rw [m5 _ g (by rcases n2 with rfl | ⟨i, rfl⟩ <;> omega) (by rcases n2 with rfl | ⟨i, rfl⟩ <;> omega), f2 _ (by rcases n2 with rfl | ⟨i, rfl⟩ <;> omega)]), c2 k h1]
    exact y3 k h1 h2
  · rw [m2 k h1, e108]
    exact y4 k h1 h2
  · rw [m5 53 1 (by decide) (by decide), ← hI2, px_u (by decide), ab_u_at]
    rfl
  · rw [m5 53 2 (by decide) (by decide), ← hI2, ab_u_at]
    rfl
  · unfold rx_dX at hd
    rw [m5 r k (by omega) (by omega), g1 r k (hq r (by omega) (by omega) (by omega) (by omega) (by omega)) (by omega)]
  · unfold rx_dL at hd
    rw [m5 r k (by omega) (by omega), g1 r k (hq r (by omega) (by omega) (by omega) (by omega) (by omega)) (by omega)]
  · unfold rx_dP at hd
    rw [m5 r k (by omega) (by omega), g1 r k (hq r (by omega) (by omega) (by omega) (by omega) (by omega)) (by omega)]
  · unfold rx_dU at hd
    rw [m5 r k (by omega) (by omega), g1 r k (hq r (by omega) (by omega) (by omega) (by omega) (by omega)) (by omega)]
  · unfold rx_dW at hd
    rw [m5 r k (by omega) (by omega), g1 r k (hq r (by omega) (by omega) (by omega) (by omega) (by omega)) (by omega)]
end PR13
