/-! ===== village: what one loses ===== -/
section LOS
variable {I0 K0 : ab_I} {J0 L0 : ab_J} {z : Nat} {B : Nat → Nat} {I K : ab_I} {J L : ab_J} {p0 c a b : Nat}
theorem lo_61 {x y : Int32} (h1 : ¬ K 73 2 ≤ 0) (h2 : ¬ K 73 2 = 0) : fX12_readLoses_61 x y K L = some (K, L) := by
  unfold fX12_readLoses_61 fX12_readLoses_72 fX12_toldNumber
  rw [if_neg h2, if_neg h1, px_bd]
  dsimp only
  rw [if_neg h1]
theorem lo_25 {x : Int32} (h1 : ¬ K 73 2 ≤ 0) (h2 : ¬ K 73 2 = 0) : fX12_readLoses_25 x K L = some (K, L) := by
  unfold fX12_readLoses_25 fX12_oldName
  rw [if_neg h1, px_bd]
  dsimp only
  rw [if_neg h2, lo_61 h1 h2]
theorem dr_addL (h : dr I J K L a b) {m1 m2 v n : Nat} (hm1 : m1 < a) (hm2 : m2 < b) (hv1 : 1 ≤ v) (hv : v ≤ 20) (hn : n < 20) (hn1 : I 14 6 = nI n) (hn2 : K 73 35 = nI n) : dr (ab_u (ab_u (ab_u I 17 (5 * m1 + m2) (nI v)) 14 7 (nI (5 * m1 + m2))) 14 6 (nI (n + 1))) J (ab_u (ab_u (ab_u K 85 (5 * m1 + m2) (nI v)) 73 36 (nI (5 * m1 + m2))) 73 35 (nI (n + 1))) L a b := by
  obtain ⟨dP, dB, dL, dF, dD, dW⟩ := h
  have a6 := dP.1
  have b5 := dB.1
  have gI : ∀ r k, ¬ (r = 17 ∧ k = 5 * m1 + m2) → ¬ (r = 14 ∧ (k = 6 ∨ k = 7)) → ab_u (ab_u (ab_u I 17 (5 * m1 + m2) (nI v)) 14 7 (nI (5 * m1 + m2))) 14 6 (nI (n + 1)) r k = I r k := fun r k u w => by rw [px_u (by omega), px_u (by omega), px_u u]
  have gK : ∀ r k, ¬ (r = 85 ∧ k = 5 * m1 + m2) → ¬ (r = 73 ∧ (k = 35 ∨ k = 36)) → ab_u (ab_u (ab_u K 85 (5 * m1 + m2) (nI v)) 73 36 (nI (5 * m1 + m2))) 73 35 (nI (n + 1)) r k = K r k := fun r k u w => by rw [px_u (by omega), px_u (by omega), px_u u]
  refine ⟨dr_P_c dP (fun r k hr => gI r k (by omega) (by omega)) (fun r k hr => gK r k (by omega) (by omega)), dr_B_c dB (fun r k hr => gI r k (by omega) (by omega)) (fun r k hr => gK r k (by omega) (by omega)), ?_, dr_F_c dF (gI 14 8 (by omega) (by omega)) (gI 11 4 (by omega) (by omega)) (gK 73 37 (by omega) (by omega)) (gK 73 44 (by omega) (by omega)), dr_D_c dD (gI 14 9 (by omega) (by omega)) (gI 11 5 (by omega) (by omega)) (gK 73 38 (by omega) (by omega)) (gK 73 45 (by omega) (by omega)), dr_W_c dW (fun r k hr => gI r k (by omega) (by omega)) (fun r k hr => gK r k (by omega) (by omega))⟩
  obtain ⟨n', l1, l2, l3, l4, l5⟩ := dL
  refine ⟨n + 1, by omega, ab_u_at, ab_u_at, fun e he => ?_, fun _ => ⟨5 * m1 + m2, by omega, by omega, by rw [px_u (by omega), ab_u_at], by rw [px_u (by omega), ab_u_at]⟩⟩
  by_cases ee : e = 5 * m1 + m2
  · subst ee
    exact ⟨v, hv, by rw [px_u (by omega), px_u (by omega), ab_u_at], by rw [px_u (by omega), px_u (by omega), ab_u_at], fun _ => ⟨by omega, by omega⟩⟩
  · obtain ⟨y, y1, y2, y3, y4⟩ := l4 e he
    exact ⟨y, y1, by rw [gI 17 e (by omega) (by omega)]; exact y2, by rw [gK 85 e (by omega) (by omega)]; exact y3, y4⟩
set_option maxHeartbeats 1000000 in
theorem ln_loses (hB0 : tk_B I0 K0 z B) (h : ps I0 K0 J0 L0 z I J K L p0 c a b) (hc : c = 202) {n : Nat} (hn : n < 20) (hn1 : I 14 6 = nI n) (hn2 : K 73 35 = nI n) : lb I0 K0 J0 L0 z p0 (fX4_readsLoses I J) (fX12_readLoses K L) := by
  have hlt : nI n < (20 : Int32) := nI_lt (b := 20) hn (by decide)
  obtain ⟨I1, J1, K1, L1, c1, p1, x1, x2, hps1, x4, x5, x6⟩ := ps_adv hB0 h (by omega) (by omega)
  have hd1 := hps1.2.2.2.2.2.2
  obtain ⟨q1, q2, q3, q4, q5, q6⟩ := dr_n hd1
  unfold fX4_readsLoses fX12_readLoses
  rw [hn1, if_pos hlt, x1, px_bd, x2, px_bd]
  dsimp only
  rw [q3, q4]
  rcases ps_old (r1 := 12) (n1 := 6) (f := 0) (k := a) hps1 q1 (by decide) (by omega) (fun i hi => by rw [Nat.zero_add]; exact hd1.1.2.2.2.2.1 i hi) hd1.1.2.2.2.2.2 with ⟨m1, w1, w2, w3, w4⟩ | ⟨I2, K2, w1, w2, w3, w4, w5, w6⟩
  case inr =>
    right
    have w2' : fX12_oldName 0 (nI a) K1 L1 = some (0, K2) := w2
    rw [w1, px_bd, w2', px_bd]
    dsimp only
    rw [if_pos rfl, if_neg w6, lo_25 w5 w6]
    exact ⟨_, _, _, _, rfl, rfl, w3⟩
  have w4' : fX12_oldName 0 (nI a) K1 L1 = some (nI m1, K1) := w4
  obtain ⟨I3, J3, K3, L3, c3, p3, y1, y2, hps3, y4, y5, y6⟩ := ps_adv hB0 hps1 (by omega) (by omega)
  have hd3 := hps3.2.2.2.2.2.2
  obtain ⟨t1, t2, t3, t4, t5, t6⟩ := dr_n hd3
  rw [w3, px_bd, w4', px_bd]
  dsimp only
  rw [if_neg (px_m1 (by omega)), y1, px_bd, if_pos hps1.2.2.2.2.1, y2, px_bd]
  dsimp only
  unfold fX12_readLoses_25
  rw [t5, t6]
  rcases ps_old (r1 := 13) (n1 := 5) (f := 6) (k := b) hps3 t2 (by decide) (by omega) (fun i hi => hd3.2.1.2.2.2.2.1 i hi) hd3.2.1.2.2.2.2.2 with ⟨m2, u1, u2, u3, u4⟩ | ⟨I4, K4, u1, u2, u3, u4, u5, u6⟩
  case inr =>
    right
    have u2' : fX12_oldName 6 (nI b) K3 L3 = some (0, K4) := u2
    rw [u1, px_bd, u2', px_bd]
    dsimp only
    rw [if_pos rfl, if_neg u6, lo_61 u5 u6]
    exact ⟨_, _, _, _, rfl, rfl, u3⟩
  have u4' : fX12_oldName 6 (nI b) K3 L3 = some (nI m2, K3) := u4
  have ecell : (5 : Int32) * nI m1 + nI m2 = nI (5 * m1 + m2) := by rw [show (5 : Int32) = nI 5 from rfl, pk_mul, px_add]
  obtain ⟨n', l1, l2, l3, l4, l5⟩ := id hd3.2.2.1
  obtain ⟨x, g1, g2, g3, g4⟩ := l4 (5 * m1 + m2) (by omega)
  have hix : ab_ix (nI (5 * m1 + m2)) 30 = true := px_ix (by omega) (by decide)
  rw [u3, px_bd, u4', px_bd]
  dsimp only
  rw [if_neg (px_m1 (by omega)), px_cell, px_bd, px_gd hix, nI_clamp (by omega), if_pos hps3.2.2.2.2.1, ecell, px_gd hix, nI_clamp (by omega)]
  by_cases hx : x = 0
  case neg =>
    right
    obtain ⟨I5, K5, v1, v2, v3, v4, v5, v6, v7⟩ := ps_ref hps3 (k := 3) (by decide) (by decide)
    have v1' : fX4_refuses 3 I3 = some (0, I5) := v1
    have v2' : fX12_wrong 3 K3 = some K5 := v2
    rw [if_neg (show ¬ I3 17 (5 * m1 + m2) ≤ 0 by rw [g2]; exact nI_nle (by omega) (by omega)), v1', px_bd, px_gd (Or.inl rfl), if_neg (show ¬ K3 85 (5 * m1 + m2) ≤ 0 by rw [g3]; exact nI_nle (by omega) (by omega)), v2', px_bd, lo_61 v6 v7]
    exact ⟨_, _, _, _, rfl, rfl, v3⟩
  have hx0 : nI x ≤ 0 := by rw [hx]; decide
  rw [if_pos (show I3 17 (5 * m1 + m2) ≤ 0 by rw [g2]; exact hx0), if_pos (show K3 85 (5 * m1 + m2) ≤ 0 by rw [g3]; exact hx0)]
  obtain ⟨I5, J5, K5, L5, c5, p5, v1, v2, hps5, v4, v5, v6⟩ := ps_adv hB0 hps3 (by omega) (by omega)
  have hd5 := hps5.2.2.2.2.2.2
  unfold fX12_readLoses_61
  rw [v1, px_bd, if_pos hps3.2.2.2.2.1, v2, px_bd]
  dsimp only
  unfold fX12_readLoses_72
  rcases ps_num (lo := 1) (hi := 20) hB0 hps5 (by decide) (by decide) with ⟨I6, J6, K6, L6, c6, p6, v, b1, b2, b3, b4, b5, b6, b7, b8, b9⟩ | ⟨I6, K6, x, b1, b2, b3, b4, b5, b6⟩
  · left
    have b3' : fX4_takesNumber 1 20 I5 J5 = some (1, I6, J6) := b3
    have b4' : fX12_toldNumber 1 20 K5 L5 = some (nI v, K6, L6) := b4
    have e6 : I6 14 6 = nI n := by rw [b8.1 14 6 (by omega), px_u (by omega), v5.1 14 6 (by omega), y5.1 14 6 (by omega), x5.1 14 6 (by omega)]; exact hn1
    have k6 : K6 73 35 = nI n := by rw [b9.1 73 35 (by omega), v6.1 73 35 (by omega), y6.1 73 35 (by omega), x6.1 73 35 (by omega)]; exact hn2
    rw [b3', px_bd, b4', px_bd]
    dsimp only
    rw [if_neg (show ¬ (1 : Int32) = 0 by decide), px_gd hix, if_pos (show K6 73 2 ≤ 0 by rw [b6.2.2.2.2.1]; decide), ecell, px_gd hix, nI_clamp (by omega), b5, e6, k6, ← nI_succ]
    refine ⟨_, _, _, _, c6, p6, a, b, rfl, rfl, ps_d b6 (fun r k z1 z2 => by rw [px_u (by omega), px_u (by omega), px_u (by omega)]) (fun r k z1 z2 => ?_) (dr_addL b6.2.2.2.2.2.2 w1 u1 b1 b2 hn e6 k6), by omega⟩
    by_cases er : r = 73
    · subst er
      have := z2 rfl
      unfold zm at this
      rw [px_u (by omega), px_u (by omega), px_u (by omega)]
    · have := z1 er
      unfold zm at this
      rw [px_u (by omega), px_u (by omega), px_u (by omega)]
  · right
    have b1' : fX4_takesNumber 1 20 I5 J5 = some (0, I6, J5) := b1
    have b2' : fX12_toldNumber 1 20 K5 L5 = some (x, K6, L5) := b2
    rw [b1', px_bd, b2', px_bd]
    dsimp only
    rw [if_pos rfl, if_neg b5]
    exact ⟨_, _, _, _, rfl, rfl, b3⟩
end LOS
