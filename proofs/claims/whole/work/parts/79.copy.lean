/-! ===== copies of a State ===== -/
theorem px_cpy0 {f g : Nat → Int32} {n : Nat} {m : Int32} (hm : m.toNatClampNeg = n) {k : Nat} (hk : k < n) : va_cpy f g (0 : Int32).toNatClampNeg (0 : Int32).toNatClampNeg m.toNatClampNeg k = f k := by
  rw [hm, bz_z, pk_cpy_in (Nat.zero_le _) (by omega), Nat.zero_add, Nat.sub_zero]
set_option maxHeartbeats 1000000 in
theorem px_copy {I : ab_I} {q0 q1 : Nat} (hd : q1 + 3 < q0 ∨ q0 + 3 < q1) : ∃ I', fX6_copyFrom q0 q1 I = some I' ∧ (∀ k, k < 45 → rx_v I' q0 k = rx_v I q1 k) ∧ ∀ r, (r < q0 ∨ q0 + 3 < r) → I' r = I r := by
  unfold fX6_copyFrom
  refine ⟨_, rfl, fun k hk => ?_, fun r hr => ?_⟩
  · have d6 : (6 : Int32).toNatClampNeg = 6 := by decide
    have d30 : (30 : Int32).toNatClampNeg = 30 := by decide
    unfold rx_v
    by_cases e : k < 6
    · rw [if_pos e, if_pos e, px_u (by omega), px_u (by omega), px_u (by omega), ab_r_o (show q0 + 1 ≠ q0 + 3 by omega), ab_r_o (show q0 + 1 ≠ q0 + 2 by omega), ab_r_s, px_cpy0 d6 e]
    · rw [if_neg e, if_neg e]
      by_cases e1 : k < 12
      · rw [if_pos e1, if_pos e1, px_u (by omega), px_u (by omega), px_u (by omega), ab_r_o (show q0 + 2 ≠ q0 + 3 by omega), ab_r_s, px_cpy0 d6 (by omega), ab_r_o (show q1 + 2 ≠ q0 + 1 by omega)]
      · rw [if_neg e1, if_neg e1]
        by_cases e2 : k = 12
        · rw [if_pos e2, if_pos e2, px_u (by omega), px_u (by omega), ab_u_at, ab_r_o (show q1 ≠ q0 + 3 by omega), ab_r_o (show q1 ≠ q0 + 2 by omega), ab_r_o (show q1 ≠ q0 + 1 by omega)]
        · rw [if_neg e2, if_neg e2]
          by_cases e3 : k < 43
          · rw [if_pos e3, if_pos e3, px_u (by omega), px_u (by omega), px_u (by omega), ab_r_s, px_cpy0 d30 (by omega), ab_r_o (show q1 + 3 ≠ q0 + 2 by omega), ab_r_o (show q1 + 3 ≠ q0 + 1 by omega)]
          · rw [if_neg e3, if_neg e3]
            by_cases e4 : k = 43
            · rw [if_pos e4, if_pos e4, px_u (by omega), ab_u_at, px_u (by omega), ab_r_o (show q1 ≠ q0 + 3 by omega), ab_r_o (show q1 ≠ q0 + 2 by omega), ab_r_o (show q1 ≠ q0 + 1 by omega)]
            · rw [if_neg e4, if_neg e4, ab_u_at, px_u (by omega), px_u (by omega), ab_r_o (show q1 ≠ q0 + 3 by omega), ab_r_o (show q1 ≠ q0 + 2 by omega), ab_r_o (show q1 ≠ q0 + 1 by omega)]
  · rw [ab_u_o (by omega), ab_u_o (by omega), ab_u_o (by omega), ab_r_o (by omega), ab_r_o (by omega), ab_r_o (by omega)]
theorem px_fill {I : ab_I} : ∃ I', fX12_fill I = some I' ∧ (∀ k, k < 45 → I' 90 k = I 89 k) ∧ ∀ r, r ≠ 90 → I' r = I r := by
  have key := px_for (body := fun s : Int32 × ab_I => fX12_fill_2 s.1 s.2) (Out := fun r : ab_I => (∀ k, k < 45 → r 90 k = I 89 k) ∧ ∀ k, k ≠ 90 → r k = I k)
    (fun i s => s.1 = nI i ∧ (∀ k, k < i → s.2 90 k = I 89 k) ∧ ∀ k, k ≠ 90 → s.2 k = I k) 45 ?_ ?_ 45 0 5000 (0, I) rfl (by decide) ⟨rfl, fun k hk => absurd hk (Nat.not_lt_zero k), fun _ _ => rfl⟩
  · obtain ⟨r, h1, h2⟩ := key
    exact ⟨r, h1, h2⟩
  · rintro i ⟨a1, I2⟩ hi ⟨e1, e2, e3⟩
    dsimp only at e1 e2 e3 ⊢
    subst e1
    unfold fX12_fill_2
    rw [if_neg (show ¬ (45 : Int32) ≤ nI i from nI_ge (b := 45) hi (by decide)), px_gd (px_ix hi (by decide)), px_gd (px_ix hi (by decide)), nI_clamp (by omega), ← nI_succ]
    refine ⟨_, rfl, rfl, fun k hk => ?_, fun k hk => ?_⟩
    · show ab_u I2 90 i (I2 89 i) 90 k = _
      by_cases e : k = i
      · subst e
        rw [ab_u_at, e3 89 (by decide)]
      · rw [ab_u_ne e]
        exact e2 k (by omega)
    · show ab_u I2 90 i (I2 89 i) k = _
      rw [ab_u_o hk]
      exact e3 k hk
  · rintro ⟨a1, I2⟩ ⟨e1, e2, e3⟩
    dsimp only at e1 e2 e3 ⊢
    subst e1
    refine ⟨I2, ?_, e2, e3⟩
    unfold fX12_fill_2 fX12_fill_26
    rw [if_pos (show (45 : Int32) ≤ nI 45 from nI_le (a := 45) (Nat.le_refl _) (by decide))]
    rfl
/-! ===== the village and now, as questions meet them ===== -/
/-- what questions start from: now's numbers are w -/
def rx_Q (I : ab_I) (P : ab_P) (np nb fa : Nat) (hrs : Nat → Int32) (F : Int32 → Int32 → Int32 → Int32 → Int32 → Int32 → Int32) (q : Nat) (w : Nat → Nat) : Prop := np ≤ 6 ∧ nb ≤ 5 ∧ fa ≤ 100 ∧ I 3 4 = nI np ∧ I 3 5 = nI nb ∧ I 3 8 = nI fa ∧ I 73 39 = nI np ∧ I 73 40 = nI nb ∧ I 73 43 = nI fa ∧ (∀ b, b < nb → I 5 b = hrs b) ∧ (∀ b, b < nb → I 87 b = hrs b) ∧ rx_FX F (I 8) (I 7 3) ∧ rx_FM F (I 78) (I 79) (I 73 18) (I 73 25) ∧ P 0 12 = some q ∧ rx_dyn q ∧ rx_is np (rx_v I q) w ∧ rx_is np (I 89) w ∧ rx_ok np nb 999 w
theorem rx_R_Q {S : ab_S} {I : ab_I} {J : ab_J} {P : ab_P} (hR : rx_R S I J P) : ∃ np nb fa hrs F q w, rx_Q I P np nb fa hrs F q w := by
  obtain ⟨hB, hZ, ⟨i, hS⟩, np, nb, nl, fa, lc, dr, t, F, ⟨⟨v1, v2, v3, v4, v5, v6, v7, v8, v9, v10, v11, v12, v13, v14⟩, hT, hX, hM⟩, ⟨q, w, n1, n2, n3, n4, n5⟩, _⟩ := hR
  exact ⟨np, nb, fa, I 5, F, q, w, v1, v2, v4, v5, v7, v11, v6, v8, v12, fun _ _ => rfl, v13, hX, hM, n1, n2, n3, n4, n5⟩
theorem rx_Q_sc {I I' : ab_I} {P : ab_P} {np nb fa q : Nat} {hrs : Nat → Int32} {F : Int32 → Int32 → Int32 → Int32 → Int32 → Int32 → Int32} {w : Nat → Nat} (h : rx_Q I P np nb fa hrs F q w) (hs : ∀ r, ¬ rx_sc r → I' r = I r) : rx_Q I' P np nb fa hrs F q w := by
  obtain ⟨h1, h2, h3, h4, h5, h6, h7, h8, h9, h10, h11, h12, h13, h14, h15, h16, h17, h18⟩ := h
  have e : ∀ r, ¬ rx_sc r → I' r = I r := hs
  have e3 := e 3 (by unfold rx_sc; omega)
  have e5 := e 5 (by unfold rx_sc; omega)
  have e7 := e 7 (by unfold rx_sc; omega)
  have e8 := e 8 (by unfold rx_sc; omega)
  have e73 := e 73 (by unfold rx_sc; omega)
  have e78 := e 78 (by unfold rx_sc; omega)
  have e79 := e 79 (by unfold rx_sc; omega)
  have e87 := e 87 (by unfold rx_sc; omega)
  have e89 := e 89 (by unfold rx_sc; omega)
  unfold rx_Q
  rw [e3, e5, e7, e8, e73, e78, e79, e87, e89]
  refine ⟨h1, h2, h3, h4, h5, h6, h7, h8, h9, h10, h11, h12, h13, h14, h15, rx_is_c (fun j hj k => ?_) h16, h17, h18⟩
  have hd := rx_dyn_d h15 hj
  rw [e (q + j) (by unfold rx_sc; unfold rx_dD at hd; omega)]
