/-! ===== what hides needs: who is out rings nothing; the rows that keep the day before ===== -/
theorem sp_ring_12 {F : Int32 → Int32 → Int32 → Int32 → Int32 → Int32 → Int32} {hr : Int32} {w : Nat → Nat} {b np fa : Nat} (hn : np ≤ 6) : sp_ring F hr w b np false fa 12 = w 12 := by
  rcases sp_rg_cases F hr w b np with h | ⟨p, hp, h, hbit, h0⟩
  · unfold sp_ring sp_who
    rw [h, if_pos rfl]
  · rw [sp_ring_p h (by omega)]
    show sp_up (sp_up w (6 + p) (min 999 (w (6 + p) + 1))) p (w p - min (w p) (w (13 + 5 * p + b))) 12 = w 12
    rw [sp_up_ne (by omega), sp_up_ne (by omega)]
theorem sp_dy_12 {F : Int32 → Int32 → Int32 → Int32 → Int32 → Int32 → Int32} {hrs : Nat → Int32} {w : Nat → Nat} {np fa : Nat} (hn : np ≤ 6) : ∀ i, (sp_dy F hrs np false fa w i).1 12 = w 12
  | 0 => rfl
  | i + 1 => (sp_ring_12 hn).trans (sp_dy_12 hn i)
theorem sp_rgr_out {F : Int32 → Int32 → Int32 → Int32 → Int32 → Int32 → Int32} {hrs : Nat → Int32} {w : Nat → Nat} {np fa p : Nat} (hn : np ≤ 6) (hp : p < 6) (h : (w 12).testBit p = false) (b : Nat) : ¬ sp_rgr F hrs np false fa w b = nI p := by
  intro e
  rcases sp_rg_cases F (hrs b) (sp_dy F hrs np false fa w b).1 b np with h1 | ⟨k, hk, h1, hbit, h0⟩
  · have h2 : sp_rgr F hrs np false fa w b = -1 := h1
    exact px_m1 (by omega) (e.symm.trans h2)
  · have h2 : sp_rgr F hrs np false fa w b = nI k := h1
    have h3 : (nI k).toNatClampNeg = (nI p).toNatClampNeg := by rw [← h2, e]
    rw [nI_clamp (by omega), nI_clamp (by omega)] at h3
    rw [sp_dy_12 hn, h3, h] at hbit
    cases hbit
theorem sp_wo_out : ∀ h, h < 64 → ∀ p, p < 6 → (sp_wo h (2 ^ p)).testBit p = false := by decide +kernel
section HID
variable {I : ab_I} {P : ab_P} {np nb fa q : Nat} {hrs : Nat → Int32} {F : Int32 → Int32 → Int32 → Int32 → Int32 → Int32 → Int32} {w : Nat → Nat}
theorem px_passWithout30 (hQ : rx_Q I P np nb fa hrs F q w) {s : Nat} (hs : s < 64) {x : Int32} {I' : ab_I} (h : fX1_passWithout q (nI s) I = some (x, I')) : I' 30 = I 30 := by
  obtain ⟨h1, h2, h3, h4, h5, h6, h7, h8, h9, h10, h11, h12, h13, h14, h15, h16, h17, h18⟩ := id hQ
  obtain ⟨I1, c1, c2, c3⟩ := px_copy (I := I) (q0 := 26) (q1 := q) (by rcases h15 with rfl | ⟨i, rfl⟩ <;> omega)
  have c2' : rx_is np (rx_v I1 26) w := fun k a b => by rw [c2 k a]; exact h16 k a b
  have hw2 := rx_uq (x := sp_wo (w 12) s) (Or.inl ⟨rfl, rfl⟩) c2'
  have hQ2 : rx_Q (ab_u I1 26 3 (nI (sp_wo (w 12) s))) P np nb fa hrs F q w := rx_Q_sc hQ (fun r hr => by rw [ab_u_o (by unfold rx_sc at hr; omega)]; exact c3 r (by unfold rx_sc at hr; omega))
  obtain ⟨g1, g2, g3, g4, g5, g6, g7, g8, g9, g10, g11, g12, g13, g14, g15, g16, g17, g18⟩ := id hQ2
  obtain ⟨I2, d1, d2, d3, d4⟩ := px_passDay (q := 26) (by omega) h1 h2 g4 g5 g6 h3 g12 g10 hw2 (sp_wo_ok h1 h18) false
  rw [show ((if false = true then 1 else 0) : Int32) = 0 from rfl] at d1
  unfold fX1_passWithout at h
  rw [c1, px_bd, rx_here c2', px_wo _ (rx_ok_h h18 h1) _ hs, d1, px_bd] at h
  cases h
  dsimp only
  rw [d4 30 (by decide) (by decide) (by decide) (by decide), ab_u_o (by decide)]
  exact c3 30 (by decide)
theorem px_dayWithout95 (hQ : rx_Q I P np nb fa hrs F q w) {s : Nat} (hs : s < 64) {x : Int32} {I' : ab_I} (h : fX12_dayWithout (nI s) I = some (x, I')) : I' 95 = I 95 := by
  obtain ⟨h1, h2, h3, h4, h5, h6, h7, h8, h9, h10, h11, h12, h13, h14, h15, h16, h17, h18⟩ := id hQ
  obtain ⟨I1, c1, c2, c3⟩ := px_fill (I := I)
  have c2' : rx_is np (I1 90) w := fun k a b => by rw [c2 k a]; exact h17 k a b
  have hw2 := rx_m (r := 90) (k := 12) (x := sp_wo (w 12) s) c2'
  have hQ2 : rx_Q (ab_u I1 90 12 (nI (sp_wo (w 12) s))) P np nb fa hrs F q w := rx_Q_sc hQ (fun r hr => by rw [ab_u_o (by unfold rx_sc at hr; omega)]; exact c3 r (by unfold rx_sc at hr; omega))
  obtain ⟨g1, g2, g3, g4, g5, g6, g7, g8, g9, g10, g11, g12, g13, g14, g15, g16, g17, g18⟩ := id hQ2
  obtain ⟨I2, d1, d2, d3, d4⟩ := px_goDay h1 h2 g7 g8 g9 h3 g13 g11 hw2 (sp_wo_ok h1 h18) false
  rw [show ((if false = true then 1 else 0) : Int32) = 0 from rfl] at d1
  unfold fX12_dayWithout at h
  rw [c1, px_bd, px_gd (by decide), px_gd (by decide), show (12 : Int32).toNatClampNeg = 12 by decide, c2' 12 (by decide) (fun h => absurd h (by decide)), px_wo _ (rx_ok_h h18 h1) _ hs, d1, px_bd] at h
  cases h
  dsimp only
  rw [d4 95 (by decide) (by decide) (by decide) (by decide), ab_u_o (by decide)]
  exact c3 95 (by decide)
end HID
