/-! ===== village: the beginning, each side for itself ===== -/
section BG2
variable {I : ab_I} {np dr : Nat} {t : Nat → Nat}
theorem px_beginC {q : Nat} (hq : 10 < q) (hn : np ≤ 6) (h34 : I 3 4 = nI np) (t1 : ∀ p, p < np → I 4 p = nI (t p)) (t2 : ∀ c, c < 30 → I 6 c = nI (t (13 + c))) (t5 : I 3 9 = nI dr) : ∃ I', fX9_begin q I = some I' ∧ rx_is np (rx_v I' q) (sp_b0 np t dr) ∧ ∀ r, (r < q ∨ q + 3 < r) → I' r = I r := by
  generalize hI1 : ab_r I (q + 1) (va_cpy (I 4) (I (q + 1)) (0 : Int32).toNatClampNeg (0 : Int32).toNatClampNeg (6 : Int32).toNatClampNeg) = I1
  have a1 : ∀ k, k < 6 → I1 (q + 1) k = I 4 k := fun k hk => by rw [← hI1, ab_r_s, px_cpy0 (n := 6) rfl hk]
  have a2 : ∀ r, r ≠ q + 1 → I1 r = I r := fun r hr => by rw [← hI1, ab_r_o hr]
  generalize hI2 : ab_r I1 (q + 3) (va_cpy (I1 6) (I1 (q + 3)) (0 : Int32).toNatClampNeg (0 : Int32).toNatClampNeg (30 : Int32).toNatClampNeg) = I2
  have b1 : ∀ k, k < 30 → I2 (q + 3) k = I 6 k := fun k hk => by rw [← hI2, ab_r_s, px_cpy0 (n := 30) rfl hk, a2 6 (by omega)]
  have b2 : ∀ r, r ≠ q + 3 → I2 r = I1 r := fun r hr => by rw [← hI2, ab_r_o hr]
  obtain ⟨I3, c1, c2, c3⟩ := px_fillr (I := I2) (r0 := q + 2) (n0 := 6) (x := 0) (by decide)
  have d3 : ∀ r, (r < q ∨ q + 3 < r) → I3 r = I r := fun r hr => by rw [c3 r (by omega), b2 r (by omega), a2 r (by omega)]
  have e34 : I3 3 4 = nI np := by rw [d3 3 (by omega)]; exact h34
  refine ⟨ab_u (ab_u (ab_u I3 q 3 (nI (2 ^ np - 1))) q 4 0) q 5 (nI dr), ?_, fun k hk hp => ?_, fun r hr => ?_⟩
  · unfold fX9_begin
    rw [hI1, hI2, c1, px_bd, e34, px_ones np (by omega), px_u (by omega), px_u (by omega), d3 3 (by omega), t5]
  · unfold rx_v sp_b0
    by_cases x1 : k < 6
    · rw [if_pos x1, if_pos x1, px_u (by omega), px_u (by omega), px_u (by omega), c3 _ (by omega), b2 _ (by omega), a1 k x1]
      exact t1 k (hp x1)
    · rw [if_neg x1, if_neg x1]
      by_cases x2 : k < 12
      · rw [if_pos x2, if_pos x2, px_u (by omega), px_u (by omega), px_u (by omega), c2 _ (by omega)]
        rfl
      · rw [if_neg x2, if_neg x2]
        by_cases x3 : k = 12
        · rw [if_pos x3, if_pos x3, px_u (by omega), px_u (by omega), ab_u_at]
        · rw [if_neg x3, if_neg x3]
          by_cases x4 : k < 43
          · rw [if_pos x4, if_pos x4, px_u (by omega), px_u (by omega), px_u (by omega), c3 _ (by omega), b1 _ (by omega), t2 (k - 13) (by omega), show 13 + (k - 13) = k by omega]
          · rw [if_neg x4, if_neg x4]
            by_cases x5 : k = 43
            · rw [if_pos x5, if_pos x5, px_u (by omega), ab_u_at]
              rfl
            · rw [if_neg x5, if_neg x5, ab_u_at, if_pos (by omega)]
  · rw [ab_u_o (by omega), ab_u_o (by omega), ab_u_o (by omega)]
    exact d3 r hr
theorem px_mbeginM (hn : np ≤ 6) (h39 : I 73 39 = nI np) (t1 : ∀ p, p < np → I 86 p = nI (t p)) (t2 : ∀ c, c < 30 → I 88 c = nI (t (13 + c))) : ∃ I', fX12_begin I = some I' ∧ rx_is np (I' 90) (sp_b0 np t 0) ∧ ∀ r, r ≠ 90 → I' r = I r := by
  unfold fX12_begin
  refine px_cpl (body := fun s : Int32 × ab_I => fX12_begin_2 s.1 s.2) (I := I) 45 90 0 (fun _ => 0) ?_ ?_ (m := 5000) (by decide)
  · intro i I2 hi f1 f2
    dsimp only
    unfold fX12_begin_2
    rw [if_neg (show ¬ (45 : Int32) ≤ nI i from nI_ge (b := 45) hi (by decide)), px_gd (px_ix hi (by decide)), nI_clamp (by omega), Nat.zero_add]
  · intro I2 f1 f2
    dsimp only
    have key := px_cpl (body := fun s : Int32 × ab_I => fX12_begin_23 s.1 s.2) (I := I2) (Out := fun I' : ab_I => rx_is np (I' 90) (sp_b0 np t 0) ∧ ∀ r, r ≠ 90 → I' r = I r) np 90 0 (I 86) ?_ ?_ (m := 5000) (by omega)
    · obtain ⟨x, k1, k2⟩ := key
      unfold fX12_begin_2 fX12_begin_21
      rw [if_pos (show (45 : Int32) ≤ nI 45 by decide), k1]
      exact ⟨x, rfl, k2⟩
    · intro i I3 hi g1 g2
      dsimp only
      unfold fX12_begin_23
      rw [g1 73 (by decide), f1 73 (by decide), h39, if_neg (nI_ge hi (by omega)), px_gd (px_ix (by omega) (by decide)), px_gd (px_ix (by omega) (by decide)), nI_clamp (by omega), g1 86 (by decide), f1 86 (by decide), Nat.zero_add]
    · intro I3 g1 g2
      dsimp only
      have k2 := px_cpl (body := fun s : Int32 × ab_I => fX12_begin_66 s.1 s.2) (I := ab_u I3 90 12 (nI (2 ^ np - 1))) (Out := fun I' : ab_I => rx_is np (I' 90) (sp_b0 np t 0) ∧ ∀ r, r ≠ 90 → I' r = I r) 30 90 13 (I 88) ?_ ?_ (m := 5000) (by decide)
      · obtain ⟨x, k1, k2⟩ := k2
        unfold fX12_begin_23 fX12_begin_49
        rw [g1 73 (by decide), f1 73 (by decide), h39, if_pos (nI_le (Nat.le_refl _) (by omega)), px_gd (by decide), show ((12 : Int32).toNatClampNeg) = 12 from rfl, px_ones np (by omega), k1]
        exact ⟨x, rfl, k2⟩
      · intro i I4 hi j1 j2
        dsimp only
        unfold fX12_begin_66
        rw [if_neg (show ¬ (30 : Int32) ≤ nI i from nI_ge (b := 30) hi (by decide)), px_gd (px_ix hi (by decide)), show (13 : Int32) = nI 13 from rfl, px_add, px_gd (px_ix (by omega) (by decide)), nI_clamp (by omega), nI_clamp (by omega), j1 88 (by decide), ab_u_o (by decide), g1 88 (by decide), f1 88 (by decide)]
      · intro I4 j1 j2
        dsimp only
        unfold fX12_begin_66 fX12_begin_93
        rw [if_pos (show (30 : Int32) ≤ nI 30 by decide)]
        refine ⟨_, rfl, fun k hk hp => ?_, fun r hr => by rw [j1 r hr, ab_u_o hr, g1 r hr, f1 r hr]⟩
        rw [j2 k]
        unfold sp_b0
        by_cases x1 : k < 6
        · rw [if_neg (by omega), if_pos x1, ab_u_ne (by omega), g2 k, if_pos (by have := hp x1; omega), Nat.sub_zero]
          exact t1 k (hp x1)
        · rw [if_neg x1]
          by_cases x2 : k < 12
          · rw [if_neg (by omega), if_pos x2, ab_u_ne (by omega), g2 k, if_neg (by omega), f2 k, if_pos (by omega)]
            rfl
          · rw [if_neg x2]
            by_cases x3 : k = 12
            · rw [if_neg (by omega), if_pos x3, x3, ab_u_at]
            · rw [if_neg x3]
              by_cases x4 : k < 43
              · rw [if_pos (by omega), if_pos x4, t2 (k - 13) (by omega), show 13 + (k - 13) = k by omega]
              · rw [if_neg (by omega), if_neg x4, ab_u_ne (by omega), g2 k, if_neg (by omega), f2 k, if_pos (by omega), ite_self, ite_self]
                rfl
end BG2
