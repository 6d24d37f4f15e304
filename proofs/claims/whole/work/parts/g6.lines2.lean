/-! ===== village: lines, on ===== -/
section LIN2
variable {I0 K0 : ab_I} {J0 L0 : ab_J} {z : Nat} {B : Nat → Nat} {I K : ab_I} {J L : ab_J} {p0 c a b : Nat}
theorem ln_bell (hB0 : tk_B I0 K0 z B) (h : ps I0 K0 J0 L0 z I J K L p0 c a b) (hc : c = 201) (ha : b < 5) : lb I0 K0 J0 L0 z p0 (fX4_readsBell I J) (fX12_readBell K L) := by
  obtain ⟨n1, n2, n3, n4, n5, n6⟩ := dr_n h.2.2.2.2.2.2
  have hd := h.2.2.2.2.2.2
  have hlt : nI b < (5 : Int32) := nI_lt (b := 5) ha (by decide)
  obtain ⟨I1, J1, x1, q3, q5, hx⟩ := ps_line (r1 := 13) (n1 := 5) (f := 6) (k := b) hB0 h (by omega) (by omega) (Or.inr rfl) ha (by decide) (by omega) (fun i hi => hd.2.1.2.2.2.2.1 i hi) hd.2.1.2.2.2.2.2 (fun x I' J' K' L' hd1 => by
    obtain ⟨⟨r1, r2, r3, r4, r5, r6⟩, ⟨s1, s2, s3, s4, s5, s6⟩, hrest⟩ := hd1
    exact ⟨⟨r1, r2, r3, r4, fun i hi => by rw [ab_u_o (by decide), ab_u_ne (by omega)]; exact r5 i hi, fun i j hij hj => by rw [ab_u_o (by decide)]; exact r6 i j hij hj⟩, ⟨s1, s2, s3, s4, fun i hi => by rw [ab_u_ne (by omega), ab_u_ne (by omega)]; exact s5 i hi, fun i j hij hj => by rw [ab_u_ne (by omega), ab_u_ne (by omega)]; exact s6 i j hij hj⟩, hrest⟩)
  unfold fX4_readsBell fX4_readsBell_62 fX12_readBell fX12_readBell_46
  rw [n5, if_pos hlt, x1, px_bd, n6]
  dsimp only
  rw [q5]
  rcases hx with ⟨I2, J2, K2, L2, c2, p2, w1, w2, hps2, w4, w5, w6⟩ | ⟨I2, K2, L2, w1, w2, w3, w4, w5⟩
  · have w2' : fX12_newName 6 (nI b) K L = some (K2, L2) := w2
    obtain ⟨u1, u2, u3, u4, u5, u6⟩ := dr_n hps2.2.2.2.2.2.2
    rw [w1, px_bd, w2', px_bd]
    dsimp only
    have hix : ab_ix (K2 73 34) 5 = true := by rw [u6]; exact px_ix ha (by decide)
    have hcl : (K2 73 34).toNatClampNeg = b := by rw [u6, nI_clamp (by omega)]
    rw [if_neg (show ¬ (1 : Int32) = 0 by decide)]
    rcases ps_told (i := 7) (lo := 0) (hi := 23) hB0 hps2 (by decide) (by decide) (by decide) with ⟨I3, J3, I4, J4, K4, L4, c4, p4, v, v1, v2, v3, v4, v5, v6, hps4, v8, v9, v10⟩ | ⟨I4, J4, K4, L4, x, v1, v2, v3⟩
    · left
      have v3' : fX4_takes 207 I2 J2 = some (1, I3, J3) := v3
      have v4' : fX4_takesNumber 0 23 I3 J3 = some (1, I4, J4) := v4
      have v5' : fX12_told 1752135026 0 23 K2 L2 = some (nI v, K4, L4) := v5
      obtain ⟨t1, t2, t3, t4, t5, t6⟩ := dr_n hps4.2.2.2.2.2.2
      rw [v3', px_bd]
      dsimp only
      rw [if_neg (show ¬ (1 : Int32) = 0 by decide), v4', px_bd]
      dsimp only
      rw [if_neg (show ¬ (1 : Int32) = 0 by decide), px_gd (show ab_ix (I4 14 5) 5 = true by rw [t5]; exact px_ix ha (by decide)), t5, nI_clamp (by omega), v6, v5', px_bd, px_gd hix, hcl]
      dsimp only
      rw [if_pos hps4.2.2.2.2.1, t6, ← nI_succ]
      refine ⟨_, _, _, _, c4, p4, a, b + 1, rfl, rfl, ps_d hps4 (fun r k u1 u2 => by rw [px_u (by omega), px_u (by omega)]) (fun r k u1 u2 => ?_) (dr_addB hps4.2.2.2.2.2.2 ha v2 ?_ (fun i hi => ?_)), by omega⟩
      · by_cases er : r = 73
        · subst er
          have hne : k ≠ 34 := fun h => by
            have := u2 rfl
            unfold zm at this
            omega
          rw [px_u (by omega), px_u (by omega)]
        · have hz := u1 er
          unfold zm at hz
          rw [px_u (by omega), px_u (by omega)]
      · rw [v9 13 b (Or.inr rfl), v10 (6 + b)]
        exact w5
      · rw [v9 13 i (Or.inr rfl), v9 13 b (Or.inr rfl)]
        exact w6 i hi
    · right
      have v2' : fX12_told 1752135026 0 23 K2 L2 = some (x, K4, L4) := v2
      have hn := ft_ne v3
      rw [v2', px_bd, px_gd hix, hcl]
      dsimp only
      rw [if_neg hn.2]
      have hk := ft_K (r := 84) (i := b) (x := x) v3 (by unfold zm; omega) (by omega)
      rcases v1 with v1 | ⟨I3, J3, v1, v1b⟩
      · have v1' : fX4_takes 207 I2 J2 = some (0, I4, J4) := v1
        rw [v1', px_bd]
        exact ⟨_, _, _, _, rfl, rfl, hk⟩
      · have v1' : fX4_takes 207 I2 J2 = some (1, I3, J3) := v1
        have v1b' : fX4_takesNumber 0 23 I3 J3 = some (0, I4, J4) := v1b
        rw [v1', px_bd]
        dsimp only
        rw [if_neg (show ¬ (1 : Int32) = 0 by decide), v1b', px_bd]
        exact ⟨_, _, _, _, rfl, rfl, hk⟩
  · right
    have w2' : fX12_newName 6 (nI b) K L = some (K2, L2) := w2
    have hn := ft_ne w3
    rw [w1, px_bd, w2', px_bd]
    unfold fX12_told fX12_want0
    dsimp only
    rw [if_neg hn.1, px_bd]
    unfold fX12_toldNumber
    dsimp only
    have hix : ab_ix (K2 73 34) 5 = true := by rw [w5]; exact px_ix ha (by decide)
    have hcl : (K2 73 34).toNatClampNeg = b := by rw [w5, nI_clamp (by omega)]
    rw [if_neg hn.1, px_bd, px_bd, px_gd hix, hcl]
    dsimp only
    rw [if_neg hn.2]
    exact ⟨_, _, _, _, rfl, rfl, ft_K w3 (by unfold zm; omega) (by omega)⟩
theorem dr_P_c {I' K' : ab_I} (h : dr_P I J K L a) (h1 : ∀ r k, (r = 14 ∧ k = 4) ∨ r = 15 → I' r k = I r k) (h2 : ∀ r k, (r = 73 ∧ k = 33) ∨ r = 83 → K' r k = K r k) : dr_P I' J K' L a := by
  unfold dr_P at *
  rw [h1 14 4 (by omega), h2 73 33 (by omega), show I' 15 = I 15 from funext fun k => h1 15 k (by omega), show K' 83 = K 83 from funext fun k => h2 83 k (by omega)]
  exact h
theorem dr_B_c {I' K' : ab_I} (h : dr_B I J K L b) (h1 : ∀ r k, (r = 14 ∧ k = 5) ∨ r = 16 → I' r k = I r k) (h2 : ∀ r k, (r = 73 ∧ k = 34) ∨ r = 84 → K' r k = K r k) : dr_B I' J K' L b := by
  unfold dr_B at *
  rw [h1 14 5 (by omega), h2 73 34 (by omega), show I' 16 = I 16 from funext fun k => h1 16 k (by omega), show K' 84 = K 84 from funext fun k => h2 84 k (by omega)]
  exact h
theorem dr_L_c {I' K' : ab_I} (h : dr_L I K a b) (h1 : ∀ r k, (r = 14 ∧ (k = 6 ∨ k = 7)) ∨ r = 17 → I' r k = I r k) (h2 : ∀ r k, (r = 73 ∧ (k = 35 ∨ k = 36)) ∨ r = 85 → K' r k = K r k) : dr_L I' K' a b := by
  unfold dr_L at *
  rw [h1 14 6 (by omega), h1 14 7 (by omega), h2 73 35 (by omega), h2 73 36 (by omega), show I' 17 = I 17 from funext fun k => h1 17 k (by omega), show K' 85 = K 85 from funext fun k => h2 85 k (by omega)]
  exact h
theorem dr_F_c {I' K' : ab_I} (h : dr_F I K) (h1 : I' 14 8 = I 14 8) (h2 : I' 11 4 = I 11 4) (h3 : K' 73 37 = K 73 37) (h4 : K' 73 44 = K 73 44) : dr_F I' K' := by
  unfold dr_F at *
  rw [h1, h2, h3, h4]
  exact h
theorem dr_D_c {I' K' : ab_I} (h : dr_D I K) (h1 : I' 14 9 = I 14 9) (h2 : I' 11 5 = I 11 5) (h3 : K' 73 38 = K 73 38) (h4 : K' 73 45 = K 73 45) : dr_D I' K' := by
  unfold dr_D at *
  rw [h1, h2, h3, h4]
  exact h
theorem dr_W_c {I' K' : ab_I} (h : dr_W I K) (h1 : ∀ r k, (r = 11 ∧ k = 3) ∨ r = 18 ∨ r = 19 → I' r k = I r k) (h2 : ∀ r k, (r = 73 ∧ (k = 17 ∨ k = 20 ∨ k = 24)) ∨ r = 76 ∨ r = 77 → K' r k = K r k) : dr_W I' K' := by
  unfold dr_W at *
  rw [h1 11 3 (by omega), h1 18 3 (by omega), h1 18 4 (by omega), h2 73 17 (by omega), h2 73 20 (by omega), h2 73 24 (by omega), show I' 19 = I 19 from funext fun k => h1 19 k (by omega), show K' 76 = K 76 from funext fun k => h2 76 k (by omega), show K' 77 = K 77 from funext fun k => h2 77 k (by omega)]
  exact h
theorem ps_uu {r1 k1 r2 k2 : Nat} {x y : Int32} {a' b' : Nat} (h : ps I0 K0 J0 L0 z I J K L p0 c a b) (hI : (14 ≤ r1 ∧ r1 ≤ 19) ∨ (r1 = 11 ∧ (k1 = 3 ∨ k1 = 4 ∨ k1 = 5))) (hK : zm r2 k2 ∧ ¬ (r2 = 73 ∧ (k2 = 2 ∨ k2 = 3 ∨ k2 = 4 ∨ k2 = 6 ∨ k2 = 7 ∨ k2 = 8))) (hd : dr (ab_u I r1 k1 x) J (ab_u K r2 k2 y) L a' b') : ps I0 K0 J0 L0 z (ab_u I r1 k1 x) J (ab_u K r2 k2 y) L p0 c a' b' := by
  refine ps_d h (fun r k u1 u2 => px_u (by omega)) (fun r k u1 u2 => px_u (fun he => ?_)) hd
  obtain ⟨rfl, rfl⟩ := he
  by_cases er : r = 73
  · rcases u2 er with v | v | v | v | v | v | v
    · exact hK.2 ⟨er, by omega⟩
    · exact hK.2 ⟨er, by omega⟩
    · exact hK.2 ⟨er, by omega⟩
    · exact hK.2 ⟨er, by omega⟩
    · exact hK.2 ⟨er, by omega⟩
    · exact hK.2 ⟨er, by omega⟩
    · exact v hK.1
  · exact u1 er hK.1
theorem ln_faces (hB0 : tk_B I0 K0 z B) (h : ps I0 K0 J0 L0 z I J K L p0 c a b) (hc : c = 204) (h0 : K 73 44 = 0) : lb I0 K0 J0 L0 z p0 (fX4_readsFaces I J) ((fX12_told 439720568179 0 100 (ab_u K 73 44 1) L).bind fun u => some (ab_u u.2.1 73 37 u.1, u.2.2)) := by
  obtain ⟨dP, dB, dL, dF, dD, dW⟩ := h.2.2.2.2.2.2
  obtain ⟨f, f1, f2, f3, f4, f5⟩ := id dF
  have h1 : ps I0 K0 J0 L0 z (ab_u I 11 4 1) J (ab_u K 73 44 1) L p0 c a b := ps_uu h (by omega) (by unfold zm; omega) ⟨dr_P_c dP (fun r k hr => px_u (by omega)) (fun r k hr => px_u (by omega)), dr_B_c dB (fun r k hr => px_u (by omega)) (fun r k hr => px_u (by omega)), dr_L_c dL (fun r k hr => px_u (by omega)) (fun r k hr => px_u (by omega)), ⟨f, f1, by rw [px_u (by omega)]; exact f2, by rw [px_u (by omega)]; exact f3, by rw [ab_u_at, ab_u_at], Or.inr ab_u_at⟩, dr_D_c dD (px_u (by omega)) (px_u (by omega)) (px_u (by omega)) (px_u (by omega)), dr_W_c dW (fun r k hr => px_u (by omega)) (fun r k hr => px_u (by omega))⟩
  obtain ⟨I1, J1, K1, L1, c1, p1, x1, x2, hps1, x4, x5, x6⟩ := ps_adv hB0 h1 (by omega) (by omega)
  have ew : fX12_want0 439720568179 (ab_u K 73 44 1) L = some (K1, L1) := by
    have e4 := tk_word1 h1.2.1 (i := 4) (by decide)
    rw [if_pos (show c = 200 + 4 by omega)] at e4
    have e4' : fX12_isWord 439720568179 (ab_u K 73 44 1) L = some 1 := e4
    unfold fX12_want0 fX12_want0_28
    rw [if_pos (show ab_u K 73 44 1 73 2 ≤ 0 by rw [h1.2.2.2.2.1]; decide), e4', px_bd, if_neg (by decide), x2, px_bd]
  unfold fX4_readsFaces fX12_told
  rw [f4, if_pos h0, x1, px_bd, ew, px_bd]
  dsimp only
  rcases ps_num (lo := 0) (hi := 100) hB0 hps1 (by decide) (by decide) with ⟨I2, J2, K2, L2, c2, p2, v, b1, b2, b3, b4, b5, b6, b7, b8, b9⟩ | ⟨I2, K2, x, b1, b2, b3, b4, b5, b6⟩
  · left
    have b3' : fX4_takesNumber 0 100 I1 J1 = some (1, I2, J2) := b3
    have b4' : fX12_toldNumber 0 100 K1 L1 = some (nI v, K2, L2) := b4
    rw [b3', px_bd, b4', px_bd, px_bd]
    dsimp only
    rw [if_neg (by decide), b5]
    obtain ⟨eP, eB, eL, ⟨g, g1, g2, g3, g4, g5⟩, eD, eW⟩ := b6.2.2.2.2.2.2
    refine ⟨_, _, _, _, c2, p2, a, b, rfl, rfl, ps_uu b6 (by omega) (by unfold zm; omega) ⟨dr_P_c eP (fun r k hr => px_u (by omega)) (fun r k hr => px_u (by omega)), dr_B_c eB (fun r k hr => px_u (by omega)) (fun r k hr => px_u (by omega)), dr_L_c eL (fun r k hr => px_u (by omega)) (fun r k hr => px_u (by omega)), ⟨v, b2, ab_u_at, ab_u_at, by rw [px_u (by omega), px_u (by omega)]; exact g4, by rw [px_u (by omega)]; exact g5⟩, dr_D_c eD (px_u (by omega)) (px_u (by omega)) (px_u (by omega)) (px_u (by omega)), dr_W_c eW (fun r k hr => px_u (by omega)) (fun r k hr => px_u (by omega))⟩, by omega⟩
  · right
    have b1' : fX4_takesNumber 0 100 I1 J1 = some (0, I2, J1) := b1
    have b2' : fX12_toldNumber 0 100 K1 L1 = some (x, K2, L1) := b2
    rw [b1', px_bd, b2', px_bd, px_bd]
    dsimp only
    rw [if_pos rfl]
    exact ⟨_, _, _, _, rfl, rfl, ft_K b3 (by unfold zm; omega) (by omega)⟩
theorem ln_draw (hB0 : tk_B I0 K0 z B) (h : ps I0 K0 J0 L0 z I J K L p0 c a b) (hc : c = 205) (h0 : K 73 45 = 0) : lb I0 K0 J0 L0 z p0 (fX4_readsDraw I J) ((fX12_told 1685217655 0 999 (ab_u K 73 45 1) L).bind fun u => some (ab_u u.2.1 73 38 u.1, u.2.2)) := by
  obtain ⟨dP, dB, dL, dF, dD, dW⟩ := h.2.2.2.2.2.2
  obtain ⟨f, f1, f2, f3, f4, f5⟩ := id dD
  have h1 : ps I0 K0 J0 L0 z (ab_u I 11 5 1) J (ab_u K 73 45 1) L p0 c a b := ps_uu h (by omega) (by unfold zm; omega) ⟨dr_P_c dP (fun r k hr => px_u (by omega)) (fun r k hr => px_u (by omega)), dr_B_c dB (fun r k hr => px_u (by omega)) (fun r k hr => px_u (by omega)), dr_L_c dL (fun r k hr => px_u (by omega)) (fun r k hr => px_u (by omega)), dr_F_c dF (px_u (by omega)) (px_u (by omega)) (px_u (by omega)) (px_u (by omega)), ⟨f, f1, by rw [px_u (by omega)]; exact f2, by rw [px_u (by omega)]; exact f3, by rw [ab_u_at, ab_u_at], Or.inr ab_u_at⟩, dr_W_c dW (fun r k hr => px_u (by omega)) (fun r k hr => px_u (by omega))⟩
  obtain ⟨I1, J1, K1, L1, c1, p1, x1, x2, hps1, x4, x5, x6⟩ := ps_adv hB0 h1 (by omega) (by omega)
  have ew : fX12_want0 1685217655 (ab_u K 73 45 1) L = some (K1, L1) := by
    have e4 := tk_word1 h1.2.1 (i := 5) (by decide)
    rw [if_pos (show c = 200 + 5 by omega)] at e4
    have e4' : fX12_isWord 1685217655 (ab_u K 73 45 1) L = some 1 := e4
    unfold fX12_want0 fX12_want0_28
    rw [if_pos (show ab_u K 73 45 1 73 2 ≤ 0 by rw [h1.2.2.2.2.1]; decide), e4', px_bd, if_neg (by decide), x2, px_bd]
  unfold fX4_readsDraw fX12_told
  rw [f4, if_pos h0, x1, px_bd, ew, px_bd]
  dsimp only
  rcases ps_num (lo := 0) (hi := 999) hB0 hps1 (by decide) (by decide) with ⟨I2, J2, K2, L2, c2, p2, v, b1, b2, b3, b4, b5, b6, b7, b8, b9⟩ | ⟨I2, K2, x, b1, b2, b3, b4, b5, b6⟩
  · left
    have b3' : fX4_takesNumber 0 999 I1 J1 = some (1, I2, J2) := b3
    have b4' : fX12_toldNumber 0 999 K1 L1 = some (nI v, K2, L2) := b4
    rw [b3', px_bd, b4', px_bd, px_bd]
    dsimp only
    rw [if_neg (by decide), b5]
    obtain ⟨eP, eB, eL, eF, ⟨g, g1, g2, g3, g4, g5⟩, eW⟩ := b6.2.2.2.2.2.2
    refine ⟨_, _, _, _, c2, p2, a, b, rfl, rfl, ps_uu b6 (by omega) (by unfold zm; omega) ⟨dr_P_c eP (fun r k hr => px_u (by omega)) (fun r k hr => px_u (by omega)), dr_B_c eB (fun r k hr => px_u (by omega)) (fun r k hr => px_u (by omega)), dr_L_c eL (fun r k hr => px_u (by omega)) (fun r k hr => px_u (by omega)), dr_F_c eF (px_u (by omega)) (px_u (by omega)) (px_u (by omega)) (px_u (by omega)), ⟨v, b2, ab_u_at, ab_u_at, by rw [px_u (by omega), px_u (by omega)]; exact g4, by rw [px_u (by omega)]; exact g5⟩, dr_W_c eW (fun r k hr => px_u (by omega)) (fun r k hr => px_u (by omega))⟩, by omega⟩
  · right
    have b1' : fX4_takesNumber 0 999 I1 J1 = some (0, I2, J1) := b1
    have b2' : fX12_toldNumber 0 999 K1 L1 = some (x, K2, L1) := b2
    rw [b1', px_bd, b2', px_bd, px_bd]
    dsimp only
    rw [if_pos rfl]
    exact ⟨_, _, _, _, rfl, rfl, ft_K b3 (by unfold zm; omega) (by omega)⟩
end LIN2
