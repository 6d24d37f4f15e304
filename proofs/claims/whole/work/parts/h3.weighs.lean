/-! ===== village: one F for both formulas ===== -/
section FW
variable {x st ar : Nat → Int32} {s : Nat}
def fw_v (l ha ru ho he da : Int32) : Nat → Int32 := fun i => match i with | 0 => ha | 1 => ho | 2 => l | 3 => ru | 4 => he | _ => da
def sp_FW (x : Nat → Int32) (s : Nat) : Int32 → Int32 → Int32 → Int32 → Int32 → Int32 → Int32 := fun l ha ru ho he da => ev x (fw_v l ha ru ho he da) s 0
theorem fm_h_c {x x' : Nat → Int32} : ∀ t, (∀ i, i < t → x' i = x i) → fm_h x' t = fm_h x t := by
  intro t
  induction t with
  | zero => intro _; rfl
  | succ t ih =>
    intro h
    unfold fm_h
    rw [ih (fun i hi => h i (by omega)), h t (by omega)]
theorem fm_W_c {x' st' ar' : Nat → Int32} (h : fm_W x st ar s) (h1 : ∀ i, i < s → x' i = x i) (h2 : ∀ i, i < s → st' i = st i) (h3 : ∀ i, i < s → ar' i = ar i) : fm_W x' st' ar' s := by
  obtain ⟨a1, a2, a3, a4, a5⟩ := h
  refine ⟨a1, a2, fun i hi => by rw [h1 i hi, h2 i hi, h3 i hi]; exact a3 i hi, by rw [fm_h_c s h1]; exact a4, fun i hi => by rw [fm_h_c i (fun j hj => h1 j (by omega))]; exact a5 i hi⟩
theorem rx_FXw (hW : fm_W x st ar s) : rx_FX (sp_FW x s) x (nI s) := by
  intro I q p b h12 h e8 e7 hq hp hb e12 h64
  have s0 := hW.1
  have s3 := hW.2.1
  have key : ∀ H : ab_I, (H 10 0 = I (q + 1) p ∧ H 10 1 = h ∧ H 10 2 = I (q + 3) (5 * p + b) ∧ H 10 3 = I (q + 2) p ∧ H 10 4 = nI (rx_pop h12) ∧ H 10 5 = I q 4) → (∀ r, r ≠ 10 → H r = I r) → ∃ I', ab_it (fun u : Int32 × Int32 × ab_I => fX2_comesTo_98 q (nI p) (nI b) h u.1 u.2.1 u.2.2) 5000 (0, 0, H) = some (sp_FW x s (I (q + 3) (5 * p + b)) (I (q + 1) p) (I (q + 2) p) h (nI (rx_pop h12)) (I q 4), I') ∧ ∀ r, r ≠ 9 → r ≠ 10 → I' r = I r := by
    intro H ⟨v0, v1, v2, v3, v4, v5⟩ hr
    obtain ⟨I', g1, g2⟩ := cl_loop (q := q) (a2 := nI p) (a3 := nI b) (a4 := h) (v := fw_v (I (q + 3) (5 * p + b)) (I (q + 1) p) (I (q + 2) p) h (nI (rx_pop h12)) (I q 4)) hW s 0 (4999 - s) 0 H (by omega) (by rw [hr 7 (by decide)]; exact e7) (by rw [hr 8 (by decide)]; exact e8) rfl (fun j hj => absurd hj (Nat.not_lt_zero j)) (fun j hj => by
      have jj : j = 0 ∨ j = 1 ∨ j = 2 ∨ j = 3 ∨ j = 4 ∨ j = 5 := by omega
      rcases jj with rfl | rfl | rfl | rfl | rfl | rfl
      · exact v0
      · exact v1
      · exact v2
      · exact v3
      · exact v4
      · exact v5)
    rw [show 4999 - s + s + 1 = 5000 by omega] at g1
    exact ⟨I', g1, fun r h9 h10 => by rw [g2 r h9, hr r h10]⟩
  unfold fX2_comesTo
  rw [px_cell, px_bd, px_gd (px_ix (by omega) (by decide)), if_neg (show ¬ I 7 3 = 0 by rw [e7]; exact nI_ne0 s0 (by omega)), px_gd (px_ix (by omega) (by decide)), px_gd (by decide), px_gd (by decide), px_gd (by decide), px_gd (px_ix (by omega) (by decide)), px_gd (by decide), nI_clamp (n := p) (by omega), nI_clamp (n := 5 * p + b) (by omega)]
  have eh : ∀ (y0 y1 y2 y3 : Int32) (k0 k1 k2 k3 : Nat), fJ6_bitCount_0f7a4 (ab_u (ab_u (ab_u (ab_u I 10 k0 y0) 10 k1 y1) 10 k2 y2) 10 k3 y3 q 3) = some (nI (rx_pop h12)) := fun y0 y1 y2 y3 k0 k1 k2 k3 => by
    rw [px_u (by omega), px_u (by omega), px_u (by omega), px_u (by omega), e12, px_pop h12 h64]
  rw [eh, px_bd, px_gd (by decide), px_gd (by decide)]
  have n0 : ¬ q = 10 := by omega
  have n1 : ¬ q + 1 = 10 := by omega
  have n2 : ¬ q + 2 = 10 := by omega
  have n3 : ¬ q + 3 = 10 := by omega
  refine key _ ⟨?_, ?_, ?_, ?_, ?_, ?_⟩ (fun r hr => ?_)
  · simp [ab_u]
  · simp [ab_u]
  · simp [ab_u]
  · simp [ab_u, n2]
  · simp [ab_u]
  · simp [ab_u, n0]
  · funext k; simp [ab_u, hr]
theorem rx_FMw (hW : fm_W x st ar s) : rx_FM (sp_FW x s) st ar (nI s) 1 := by
  intro I p b h12 e78 e79 e18 e25 hp hb h12e h64
  have s0 := hW.1
  have s3 := hW.2.1
  have key : ∀ H : ab_I, (H 82 0 = I 90 (13 + 5 * p + b) ∧ H 82 1 = I 90 p ∧ H 82 2 = I 90 (6 + p) ∧ H 82 3 = I 87 b ∧ H 82 4 = nI (rx_pop h12) ∧ H 82 5 = I 90 43) → (∀ r, r ≠ 82 → H r = I r) → ∃ I', ab_it (fun u : Int32 × Int32 × ab_I => fX12_weightOf_113 (nI p) (nI b) u.1 u.2.1 u.2.2) 5000 (0, 0, H) = some (sp_FW x s (I 90 (13 + 5 * p + b)) (I 90 p) (I 90 (6 + p)) (I 87 b) (nI (rx_pop h12)) (I 90 43), I') ∧ ∀ r, r ≠ 81 → r ≠ 82 → I' r = I r := by
    intro H hv hr
    obtain ⟨I', g1, g2⟩ := rl_loop (a1 := nI p) (a2 := nI b) (v := fw_v (I 90 (13 + 5 * p + b)) (I 90 p) (I 90 (6 + p)) (I 87 b) (nI (rx_pop h12)) (I 90 43)) hW s 0 (4999 - s) 0 H (by omega) (by rw [hr 73 (by decide)]; exact e18) (by rw [hr 78 (by decide)]; exact e78) (by rw [hr 79 (by decide)]; exact e79) rfl (fun j hj => absurd hj (Nat.not_lt_zero j)) hv
    rw [show 4999 - s + s + 1 = 5000 by omega] at g1
    exact ⟨I', g1, fun r h9 h10 => by rw [g2 r h9, hr r h10]⟩
  unfold fX12_weightOf
  rw [px_mcell, px_gd (px_ix (by omega) (by decide)), px_gd (by decide), px_gd (px_ix (by omega) (by decide)), px_gd (by decide), show (6 : Int32) = nI 6 from rfl, px_add, px_gd (px_ix (by omega) (by decide)), px_gd (by decide), px_gd (px_ix (by omega) (by decide)), px_gd (by decide), px_gd (by decide), show ((12 : Int32).toNatClampNeg) = 12 from rfl, h12e, px_members h12 h64, px_bd, px_gd (by decide), px_gd (by decide), px_gd (by decide), if_neg (show ¬ I 73 25 = 0 by rw [e25]; decide)]
  rw [nI_clamp (n := 13 + 5 * p + b) (by omega), nI_clamp (n := p) (by omega), nI_clamp (n := 6 + p) (by omega), nI_clamp (n := b) (by omega)]
  refine key _ ⟨?_, ?_, ?_, ?_, ?_, ?_⟩ (fun r hr => ?_)
  · simp [ab_u]
  · simp [ab_u]
  · simp [ab_u]
  · simp [ab_u]
  · simp [ab_u]
  · simp [ab_u]
  · funext k; simp [ab_u, hr]
end FW
