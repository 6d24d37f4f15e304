/-! ===== pairs: staying ===== -/
theorem rx_Q_L {I I' : ab_I} {P : ab_P} {np nb fa q : Nat} {hrs : Nat → Int32} {F : Int32 → Int32 → Int32 → Int32 → Int32 → Int32 → Int32} {w : Nat → Nat} (h : rx_Q I P np nb fa hrs F q w) (hs : ∀ r k, ¬ rx_dL r k → ¬ rx_sc r → I' r k = I r k) : rx_Q I' P np nb fa hrs F q w := by
  obtain ⟨h1, h2, h3, h4, h5, h6, h7, h8, h9, h10, h11, h12, h13, h14, h15, h16, h17, h18⟩ := h
  have e3 : I' 3 = I 3 := funext fun k => hs 3 k (by unfold rx_dL; omega) (by unfold rx_sc; omega)
  have e5 : I' 5 = I 5 := funext fun k => hs 5 k (by unfold rx_dL; omega) (by unfold rx_sc; omega)
  have e7 : I' 7 = I 7 := funext fun k => hs 7 k (by unfold rx_dL; omega) (by unfold rx_sc; omega)
  have e8 : I' 8 = I 8 := funext fun k => hs 8 k (by unfold rx_dL; omega) (by unfold rx_sc; omega)
  have e78 : I' 78 = I 78 := funext fun k => hs 78 k (by unfold rx_dL; omega) (by unfold rx_sc; omega)
  have e79 : I' 79 = I 79 := funext fun k => hs 79 k (by unfold rx_dL; omega) (by unfold rx_sc; omega)
  have e87 : I' 87 = I 87 := funext fun k => hs 87 k (by unfold rx_dL; omega) (by unfold rx_sc; omega)
  have e89 : I' 89 = I 89 := funext fun k => hs 89 k (by unfold rx_dL; omega) (by unfold rx_sc; omega)
  have m39 := hs 73 39 (by unfold rx_dL; omega) (by unfold rx_sc; omega)
  have m40 := hs 73 40 (by unfold rx_dL; omega) (by unfold rx_sc; omega)
  have m43 := hs 73 43 (by unfold rx_dL; omega) (by unfold rx_sc; omega)
  have m18 := hs 73 18 (by unfold rx_dL; omega) (by unfold rx_sc; omega)
  have m25 := hs 73 25 (by unfold rx_dL; omega) (by unfold rx_sc; omega)
  unfold rx_Q
  rw [e3, e5, e7, e8, e78, e79, e87, e89, m39, m40, m43, m18, m25]
  refine ⟨h1, h2, h3, h4, h5, h6, h7, h8, h9, h10, h11, h12, h13, h14, h15, rx_is_c (fun j hj k => ?_) h16, h17, h18⟩
  have hd := rx_dyn_d h15 hj
  exact hs (q + j) k (by unfold rx_dL; unfold rx_dD at hd; omega) (by unfold rx_sc; unfold rx_dD at hd; omega)
section PR18
variable {S : ab_S} {I : ab_I} {J : ab_J} {P : ab_P} {l : Launch} {G : ab_G}
theorem lz_st0 {a1 a2 : Int32} (hR : rx_R S I J P) (hx : fX11_staying a1 a2 I P = some (-1, ab_u I 0 9 0)) (hm : fX12_staying a1 a2 (ab_u I 0 9 0) = some (-1, ab_u (ab_u I 0 9 0) 73 54 0)) : lz_pr l G rx_R mX11_staying 7 mX12_staying 8 [.int a1, .int a2] S I J P := by
  obtain ⟨hB, hZ, ⟨i, hS⟩, np, nb, nl, fa, lc, dr, t, F, hG, ⟨q, w, hN⟩, ⟨dn, kp, hA⟩, ⟨bf, hX⟩, ⟨c, hL⟩, ⟨z, hP⟩, hU, cn, tm, hW⟩ := id hR
  refine ⟨-1, S, ab_u I 0 9 0, J, P, S, ab_u (ab_u I 0 9 0) 73 54 0, J, P, fun Q hQ => mX11_staying_ok hB hx hQ, fun Q hQ => mX12_staying_ok hB hm hQ, hB.1 73 _ rfl, ?_⟩
  refine rx_R_L (c2 := 0) hB hZ ⟨i, hS⟩ hG hN hA hX hP hU hW (fun r k hd hs => ?_) ⟨by decide, ?_, ?_, fun k hk => absurd hk (Nat.not_lt_zero k)⟩
  · unfold rx_dL at hd
    rw [px_u (by omega), px_u (by omega)]
  · rw [px_u (by decide), ab_u_at]; rfl
  · rw [ab_u_at]; rfl
set_option maxHeartbeats 1000000 in
theorem pr_staying (hR : rx_R S I J P) (a1 a2 : Int32) : lz_pr l G rx_R mX11_staying 7 mX12_staying 8 [.int a1, .int a2] S I J P := by
  obtain ⟨hB, hZ, ⟨i, hS⟩, np, nb, nl, fa, lc, dr, t, F, hG, ⟨q, w, hN⟩, ⟨dn, kp, hA⟩, ⟨bf, hX⟩, ⟨c, hL⟩, ⟨z, hP⟩, hU, cn, tm, hW⟩ := id hR
  obtain ⟨v1, v2, v3, v4, v5, v6, v7, v8, v9, v10, v11, v12, v13, v14⟩ := hG.1
  obtain ⟨n1, n2, n3, n4, n5⟩ := id hN
  have hh := rx_ok_h n5 v1
  have hQ : rx_Q I P np nb fa (I 5) F q w := ⟨v1, v2, v4, v5, v7, v11, v6, v8, v12, fun _ _ => rfl, v13, hG.2.2.1, hG.2.2.2, n1, n2, n3, n4, n5⟩
  have x5 : ab_u I 0 9 (0 : Int32) 3 4 = nI np := by rw [ab_u_o (by decide)]; exact v5
  have m5 : ab_u (ab_u I 0 9 (0 : Int32)) 73 54 (0 : Int32) 73 39 = nI np := by rw [px_u (by decide), ab_u_o (by decide)]; exact v6
  by_cases hp : px_b a1 np
  · refine lz_st0 hR ?_ ?_
    · unfold fX11_staying fX11_staying_32
      rw [px_Person_b x5 hp, px_bd, if_pos rfl]
    · unfold fX12_staying fX12_staying_42
      rw [px_mPerson_b (by omega) m5 hp, px_bd, if_pos rfl]
  by_cases ho : px_b a2 np
  · refine lz_st0 hR ?_ ?_
    · unfold fX11_staying fX11_staying_32
      rw [px_Person_n x5 hp, px_bd, if_neg (by decide), px_Person_b x5 ho, px_bd, if_pos rfl]
    · unfold fX12_staying fX12_staying_42
      rw [px_mPerson_n (by omega) m5 hp, px_bd, if_neg (by decide), px_mPerson_b (by omega) m5 ho, px_bd, if_pos rfl]
  by_cases he : a1 = a2
  · refine lz_st0 hR ?_ ?_
    · unfold fX11_staying fX11_staying_32
      rw [px_Person_n x5 hp, px_bd, if_neg (by decide), px_Person_n x5 ho, px_bd, if_neg (by decide), if_pos he]
    · unfold fX12_staying fX12_staying_42
      rw [px_mPerson_n (by omega) m5 hp, px_bd, if_neg (by decide), px_mPerson_n (by omega) m5 ho, px_bd, if_neg (by decide), if_pos he]
  obtain ⟨p, hp1, rfl⟩ := px_of hp (by omega)
  obtain ⟨o, ho1, rfl⟩ := px_of ho (by omega)
  have hpo : p ≠ o := fun h => he (by rw [h])
  have xq : ab_u I 0 9 (0 : Int32) q 3 = nI (w 12) := by rw [ab_u_o (by rcases n2 with rfl | ⟨i, rfl⟩ <;> omega)]; exact rx_here n3
  have mq : ab_u (ab_u I 0 9 (0 : Int32)) 73 54 (0 : Int32) 89 12 = nI (w 12) := by rw [px_u (by decide), ab_u_o (by decide)]; exact n4 12 (by decide) (fun h => absurd h (by decide))
  by_cases bp : (w 12).testBit p = true
  case neg =>
    refine lz_st0 hR ?_ ?_
    · unfold fX11_staying fX11_staying_56
      rw [px_Person_n x5 hp, px_bd, if_neg (by decide), px_Person_n x5 ho, px_bd, if_neg (by decide), if_neg he, n1, px_bd, px_isHere xq hh (by omega), px_bd, if_neg bp, if_pos rfl]
    · unfold fX12_staying fX12_staying_42
      rw [px_mPerson_n (by omega) m5 hp, px_bd, if_neg (by decide), px_mPerson_n (by omega) m5 ho, px_bd, if_neg (by decide), if_neg he, px_isThere mq hh (by omega), px_bd, if_neg bp, if_pos rfl]
  by_cases bo : (w 12).testBit o = true
  case neg =>
    refine lz_st0 hR ?_ ?_
    · unfold fX11_staying fX11_staying_56
      rw [px_Person_n x5 hp, px_bd, if_neg (by decide), px_Person_n x5 ho, px_bd, if_neg (by decide), if_neg he, n1, px_bd, px_isHere xq hh (by omega), px_bd, if_pos bp, if_neg (by decide), px_bd, px_isHere xq hh (by omega), px_bd, if_neg bo, if_pos rfl]
    · unfold fX12_staying fX12_staying_42
      rw [px_mPerson_n (by omega) m5 hp, px_bd, if_neg (by decide), px_mPerson_n (by omega) m5 ho, px_bd, if_neg (by decide), if_neg he, px_isThere mq hh (by omega), px_bd, if_pos bp, if_neg (by decide), px_isThere mq hh (by omega), px_bd, if_neg bo, if_pos rfl]
  have hQ0 : rx_Q (ab_u I 0 9 0) P np nb fa (I 5) F q w := rx_Q_L hQ (fun r k hd _ => by unfold rx_dL at hd; exact px_u (by omega))
  obtain ⟨D, hD⟩ : ∃ D : Nat → Nat → Nat, ∀ k, D k = sp_day F (I 5) np false fa (sp_up w 12 (sp_wo (w 12) (sp_aw p o k))) nb := ⟨_, fun _ => rfl⟩
  obtain ⟨I1, c1, c2, c3⟩ := px_rests1 hQ0 hp1 ho1 hpo bp bo hD
  obtain ⟨I2, d1, d2, d3⟩ := px_rests2 (q := q) (p := p) (o := o) c2
  generalize hn : (sp_st (sp_sA w D p) (sp_sB w D o) 0).toNat + (sp_st (sp_sA w D p) (sp_sB w D o) 1).toNat + (sp_st (sp_sA w D p) (sp_sB w D o) 2).toNat + (sp_st (sp_sA w D p) (sp_sB w D o) 3).toNat = n at d1
  have hn4 : n ≤ 4 := by
    have tl : ∀ b : Bool, b.toNat ≤ 1 := by decide
    have l0 := tl (sp_st (sp_sA w D p) (sp_sB w D o) 0)
    have l1 := tl (sp_st (sp_sA w D p) (sp_sB w D o) 1)
    have l2 := tl (sp_st (sp_sA w D p) (sp_sB w D o) 2)
    have l3 := tl (sp_st (sp_sA w D p) (sp_sB w D o) 3)
    omega
  have fr2 : ∀ r k, ¬ rx_sc r → ¬ (r = 0 ∧ k = 9) → I2 r k = I r k := fun r k h1 h2 => by
    have h1' := h1
    unfold rx_sc at h1'
    rw [d3 r (by omega), c3 r h1, px_u h2]
  have z09 : I2 0 9 = 0 := by rw [d3 0 (by decide), c3 0 (by unfold rx_sc; omega), ab_u_at]
  have hrt : fX1_restsOfTwo q (nI p) (nI o) (ab_u I 0 9 0) = some (nI n, I2) := by
    unfold fX1_restsOfTwo
    exact c1.trans d1
  -- the class
  have hxc : ∃ I3, fX11_staying (nI p) (nI o) I P = some (nI n, I3) ∧ (n = 0 → I3 0 9 = 0) ∧ (0 < n → I3 0 9 = 2 ∧ I3 55 0 = I2 33 0 ∧ I3 55 1 = I2 33 1) ∧ ∀ r k, ¬ rx_sc r → r ≠ 55 → ¬ (r = 0 ∧ k = 9) → I3 r k = I r k := by
    by_cases e : n = 0
    · refine ⟨I2, ?_, fun _ => z09, fun h => by omega, fun r k h1 h2 h3 => fr2 r k h1 h3⟩
      unfold fX11_staying fX11_staying_88
      rw [px_Person_n x5 hp, px_bd, if_neg (by decide), px_Person_n x5 ho, px_bd, if_neg (by decide), if_neg he, n1, px_bd, px_isHere xq hh (by omega), px_bd, if_pos bp, if_neg (by decide), px_bd, px_isHere xq hh (by omega), px_bd, if_pos bo, if_neg (by decide), px_bd, hrt, px_bd, if_pos ((px_le0 (by omega)).mpr e)]
    · obtain ⟨I3, y1, y2, y3, y4⟩ := px_lay (I := I2) (r1 := 33) (n1 := 2) (m := 2) (by decide) (by decide) (Or.inr rfl)
      refine ⟨I3, ?_, fun h => absurd h e, fun _ => ⟨y2, y3 0 (by decide), y3 1 (by decide)⟩, fun r k h1 h2 h3 => by rw [y4 r k h2 h3]; exact fr2 r k h1 h3⟩
      unfold fX11_staying fX11_staying_88
      rw [px_Person_n x5 hp, px_bd, if_neg (by decide), px_Person_n x5 ho, px_bd, if_neg (by decide), if_neg he, n1, px_bd, px_isHere xq hh (by omega), px_bd, if_pos bp, if_neg (by decide), px_bd, px_isHere xq hh (by omega), px_bd, if_pos bo, if_neg (by decide), px_bd, hrt, px_bd, if_neg (fun h => e ((px_le0 (by omega)).mp h)), show (2 : Int32) = nI 2 from rfl, y1, px_bd]
  obtain ⟨I3, x1, x2, x3, x4⟩ := hxc
  -- the reference
  have hQ3 : rx_Q (ab_u I3 73 54 0) P np nb fa (I 5) F q w := rx_Q_L hQ (fun r k hd hs => by
    unfold rx_dL at hd
    rw [px_u (by omega), x4 r k hs (by omega) (by omega)])
  obtain ⟨I4, s1, s2, s3⟩ := px_mstays hQ3 hp1 ho1 hD
  have z54 : I4 73 54 = 0 := by rw [s3 73 (by unfold rx_sc; omega), ab_u_at]
  obtain ⟨I5, t1, t2, t3, t4⟩ := px_mstay2 (p := p) (o := o) s2 z54
  rw [hn] at t1
  have m5' : ab_u I3 73 54 (0 : Int32) 73 39 = nI np := hQ3.2.2.2.2.2.2.1
  have mq' : ab_u I3 73 54 (0 : Int32) 89 12 = nI (w 12) := hQ3.2.2.2.2.2.2.2.2.2.2.2.2.2.2.2.2.1 12 (by decide) (fun h => absurd h (by decide))
  have hm : fX12_staying (nI p) (nI o) I3 = some (nI n, I5) := by
    unfold fX12_staying
    rw [px_mPerson_n (by omega) m5' hp, px_bd, if_neg (by decide), px_mPerson_n (by omega) m5' ho, px_bd, if_neg (by decide), if_neg he, px_isThere mq' hh (by omega), px_bd, if_pos bp, if_neg (by decide), px_isThere mq' hh (by omega), px_bd, if_pos bo, if_neg (by decide), s1, px_bd]
    exact t1
  have fr5 : ∀ r k, ¬ rx_dL r k → ¬ rx_sc r → I5 r k = I r k := fun r k hd hs => by
    unfold rx_dL at hd
    rw [t4 r k (by omega) (by omega), s3 r hs, px_u (by omega), x4 r k hs (by omega) (by omega)]
  refine ⟨nI n, S, I3, J, P, S, I5, J, P, fun Q hQ => mX11_staying_ok hB x1 hQ, fun Q hQ => mX12_staying_ok hB hm hQ, hB.1 73 _ rfl, ?_⟩
  by_cases e : n = 0
  · have zz : ∀ j, j < 4 → sp_st (sp_sA w D p) (sp_sB w D o) j = false := fun j hj => by
      have tz : ∀ b : Bool, b.toNat = 0 → b = false := by decide
      match j, hj with
      | 0, _ => exact tz _ (by omega)
      | 1, _ => exact tz _ (by omega)
      | 2, _ => exact tz _ (by omega)
      | 3, _ => exact tz _ (by omega)
    refine rx_R_L (c2 := 0) hB hZ ⟨i, hS⟩ hG hN hA hX hP hU hW fr5 ⟨by decide, ?_, ?_, fun k hk => absurd hk (Nat.not_lt_zero k)⟩
    · rw [t4 0 9 (by decide) (by decide), s3 0 (by unfold rx_sc; omega), px_u (by decide)]
      exact x2 e
    · rw [t3 zz, z54]; rfl
  · obtain ⟨k, hk, k1, k2⟩ : ∃ k, k < 4 ∧ sp_st (sp_sA w D p) (sp_sB w D o) k = true ∧ ∀ j, j < k → sp_st (sp_sA w D p) (sp_sB w D o) j = false := by
      have tf : ∀ b : Bool, ¬ b = true → b = false := by decide
      by_cases b0 : sp_st (sp_sA w D p) (sp_sB w D o) 0 = true
      · exact ⟨0, by decide, b0, fun j hj => absurd hj (Nat.not_lt_zero j)⟩
      · by_cases b1 : sp_st (sp_sA w D p) (sp_sB w D o) 1 = true
        · refine ⟨1, by decide, b1, fun j hj => ?_⟩
          obtain rfl : j = 0 := by omega
          exact tf _ b0
        · by_cases b2 : sp_st (sp_sA w D p) (sp_sB w D o) 2 = true
          · refine ⟨2, by decide, b2, fun j hj => ?_⟩
            match j, hj with
            | 0, _ => exact tf _ b0
            | 1, _ => exact tf _ b1
          · by_cases b3 : sp_st (sp_sA w D p) (sp_sB w D o) 3 = true
            · refine ⟨3, by decide, b3, fun j hj => ?_⟩
              match j, hj with
              | 0, _ => exact tf _ b0
              | 1, _ => exact tf _ b1
              | 2, _ => exact tf _ b2
            · exfalso
              rw [tf _ b0, tf _ b1, tf _ b2, tf _ b3] at hn
              exact e hn.symm
    obtain ⟨y1, y2⟩ := d2 k hk k1 k2
    obtain ⟨z1, z2, z3⟩ := t2 k hk k1 k2
    obtain ⟨u1, u2, u3⟩ := x3 (by omega)
    have h55 : ∀ j, I5 55 j = I3 55 j := fun j => by rw [t4 55 j (by decide) (by omega), s3 55 (by unfold rx_sc; omega), px_u (by omega)]
    refine rx_R_L (c2 := 2) hB hZ ⟨i, hS⟩ hG hN hA hX hP hU hW fr5 ⟨by decide, ?_, z3, fun j hj => ?_⟩
    · rw [t4 0 9 (by decide) (by decide), s3 0 (by unfold rx_sc; omega), px_u (by decide)]
      exact u1
    · rw [h55]
      match j, hj with
      | 0, _ => rw [z1, u2, y1]
      | 1, _ => rw [z2, u3, y2]
end PR18
