/-! ===== pair: village ===== -/
section VLG
variable {S : ab_S} {I : ab_I} {J : ab_J} {P : ab_P} {l : Launch} {G : ab_G}
/-- R behind a village well told -/
theorem rx_R_V1 {I1 X K Y : ab_I} {J1 L : ab_J} {q a b s : Nat} (hB : bz_B S P) (hZ : bz_Z S.length I J P) (hS : ∃ i, S.length = 109 + 4 * i) (h12 : P 0 12 = some q) (hq : rx_dyn q) (hA1 : ∀ j q, P 54 j = some q → j < 40 ∧ rx_dyn q ∧ P 0 12 ≠ some q) (hA2 : ∀ i j q, P 54 i = some q → P 54 j = some q → i = j) {tm : Nat} (htm : tm ≤ 100000) (w5 : I 41 11 = nI tm) (w6 : I 73 65 = nI tm)
    (hI : ∀ r k, ¬ zx r → I1 r k = I r k) (hJ : ∀ r k, r ≠ 12 → r ≠ 13 → r ≠ 22 → J1 r k = J r k) (hX : vx I1 X q a) (hK : ∀ r k, ¬ zm r k → K r k = ab_u (ab_u X 73 5 (X 73 1)) 73 1 0 r k) (hL : ∀ r k, ¬ (r = 73 ∧ k = 9) → r ≠ 75 → L r k = J1 r k) (hd : dr I1 J1 K L a b) (f8 : I1 11 8 = 0) (f9 : I1 11 9 = -1) (f2 : K 73 2 = 0) (f3 : K 73 3 = -1)
    (hF : (K 73 24 = 0 ∧ I1 18 3 = 0 ∧ I1 18 4 = K 73 20) ∨ (K 73 24 = 1 ∧ I1 18 3 = nI s ∧ I1 18 4 = K 73 20 ∧ fm_W (I1 19) (K 76) (K 77) s)) (hY : vy K Y a b s (vt I1) (vd I1)) : rx_R S Y L P := by
  obtain ⟨a6, b5, ⟨h36', h35'⟩, _, tp, tb, tc, tz, ⟨nl, lc, n1, n2, n3, n4⟩, ⟨fa, a1, a2, a3⟩, ⟨v1, v2, v3⟩⟩ := dr_t hd
  obtain ⟨⟨x4, x5, x6, x8, x73, x74⟩, ⟨x34, x35, x36, x37, x38, x39⟩, ⟨x11, x013, x014, x531, x532, x4110, x09, x011⟩, xq, xo⟩ := hX
  obtain ⟨⟨y39, y40, y41, y42, y43, y21, y25, y18⟩, ⟨y50, y51, y64, y54, y107⟩, ⟨y88, y87, y86, y78, y79⟩, y89, yo⟩ := hY
  have hq' : q = 57 ∨ 109 ≤ q := by rcases hq with rfl | ⟨i, rfl⟩ <;> omega
  have hql : q + 3 < S.length := bz_lt (hB.2.2.1 q h12).2.2.2.1
  have hSl : 109 ≤ S.length := by obtain ⟨i, hi⟩ := hS; omega
  -- rows that neither the reading nor the reference writes
  have yx : ∀ r k, (r < 73 ∨ 107 < r) → Y r k = X r k := fun r k h => by
    rw [yo r k (by omega) (by omega) (by omega) (by omega) (by omega) (by omega) (by omega) (by omega) (by omega), hK r k (by unfold zm; omega), px_u (by omega), px_u (by omega)]
  have y7 : ∀ k, ¬ zm 73 k → k ≠ 5 → k ≠ 1 → ¬ (k = 39 ∨ k = 40 ∨ k = 41 ∨ k = 42 ∨ k = 43 ∨ k = 21 ∨ k = 25 ∨ k = 18 ∨ k = 50 ∨ k = 51 ∨ k = 64 ∨ k = 54) → Y 73 k = I 73 k := fun k h1 h2 h3 h4 => by
    rw [yo 73 k (by omega) (by omega) (by omega) (by omega) (by omega) (by omega) (by omega) (by omega) (by omega), hK 73 k h1, px_u (by omega), px_u (by omega), xo 73 k (by omega) (by omega) (by omega) (by omega) (by omega) (by omega), hI 73 k (by unfold zx; omega)]
  have yk : ∀ k, ¬ (k = 39 ∨ k = 40 ∨ k = 41 ∨ k = 42 ∨ k = 43 ∨ k = 21 ∨ k = 25 ∨ k = 18 ∨ k = 50 ∨ k = 51 ∨ k = 64 ∨ k = 54) → Y 73 k = K 73 k := fun k h4 => yo 73 k (by omega) (by omega) (by omega) (by omega) (by omega) (by omega) (by omega) (by omega) (by omega)
  have hV : rx_V Y a b nl fa := by
    refine ⟨a6, b5, n1, a1, ?_, y39, ?_, y40, ?_, ?_, ?_, ?_, fun e he => ?_, ?_⟩
    · rw [yx 3 4 (by omega), x34]; exact h36'
    · rw [yx 3 5 (by omega), x35]; exact h35'
    · rw [yx 3 6 (by omega), x36]; exact n2
    · rw [y41]; exact n3
    · rw [yx 3 8 (by omega), x38]; exact a2
    · rw [y43]; exact a3
    · rw [y87 e he, tb e he, yx 5 e (by omega), x5 e (by omega)]
    · rw [y21, yx 7 4 (by omega), x74]
      rcases hF with h | h
      · exact h.2.2.symm
      · exact h.2.2.1.symm
  have hT : rx_T Y a b nl (vt I1) lc (vd I1) := by
    refine ⟨fun p hp => ⟨?_, ?_, (tp p hp).2.2⟩, fun c hc => ⟨?_, ?_, (tc c hc).2.2⟩, tz, fun h0 => ⟨(n4 h0).1, (n4 h0).2.1, ?_, ?_⟩, ?_, v3⟩
    · rw [yx 4 p (by omega), x4 p (by omega)]; exact (tp p hp).1
    · rw [y86 p hp]; exact (tp p hp).2.1
    · rw [yx 6 c (by omega), x6 c hc]; exact (tc c hc).1
    · rw [y88 c hc]; exact (tc c hc).2.1
    · rw [yx 3 7 (by omega), x37]; exact (n4 h0).2.2.1
    · rw [y42]; exact (n4 h0).2.2.2
    · rw [yx 3 9 (by omega), x39]; exact v1
  have y8 : Y 8 = X 8 := funext fun k => yx 8 k (by omega)
  have y73 : Y 7 3 = I1 18 3 := by rw [yx 7 3 (by omega), x73]
  obtain ⟨F, hF1, hF2⟩ : ∃ F, rx_FX F (Y 8) (Y 7 3) ∧ rx_FM F (Y 78) (Y 79) (Y 73 18) (Y 73 25) := by
    rcases hF with ⟨e1, e2, _⟩ | ⟨e1, e2, _, e4⟩
    · refine ⟨sp_F0, ?_, ?_⟩
      · rw [y73, e2]; exact rx_FX0 _
      · rw [y25, e1]; exact rx_FM0 _ _ _
    · have hs := e4.2.1
      have hw : fm_W (Y 8) (Y 78) (Y 79) s := fm_W_c e4 (fun i hi => by rw [y8]; exact x8 i (by omega)) y78 y79
      refine ⟨sp_FW (Y 8) s, ?_, ?_⟩
      · rw [y73, e2]; exact rx_FXw hw
      · rw [y18, y25, e1]; exact rx_FMw hw
  have hok := sp_b0_ok (s := vd I1) a6 hT v3
  have hN : rx_N Y P a b q (sp_b0 a (vt I1) (vd I1)) := ⟨h12, hq, rx_is_c (fun j hj k => yx _ k (by omega)) xq, y89, ⟨hok.1, hok.2.1, hok.2.2.1, hok.2.2.2.1, hok.2.2.2.2.1, Nat.le_trans hok.2.2.2.2.2.1 (Nat.zero_le _), hok.2.2.2.2.2.2⟩⟩
  refine ⟨hB, fun r hr => ?_, hS, a, b, nl, fa, lc, vd I1, vt I1, F, ⟨hV, hT, hF1, hF2⟩, ⟨q, _, hN⟩, ⟨0, 0, Nat.le_refl _, Nat.zero_le _, ?_, ?_, y50, y51, fun j hj => absurd hj (Nat.not_lt_zero j), hA1, hA2⟩, ⟨0, by decide, ?_, fun j hj => Or.inl ⟨Nat.zero_testBit j, y107 j hj⟩⟩, ⟨0, by decide, ?_, y54, fun i hi => absurd hi (Nat.not_lt_zero i)⟩, ⟨0, by decide, ?_, ?_, fun i hi => absurd hi (Nat.not_lt_zero i)⟩, ⟨?_, ?_⟩, 0, tm, by decide, htm, ?_, y64, ?_, ?_, fun i hi => absurd hi (Nat.not_lt_zero i)⟩
  · obtain ⟨z1, z2, z3⟩ := hZ r hr
    refine ⟨?_, ?_, z3⟩
    · rw [← z1]
      funext k
      rw [yx r k (by omega), xo r k (by omega) (by omega) (by omega) (by omega) (by omega) (by omega), hI r k (by unfold zx; omega)]
    · rw [← z2]
      funext k
      rw [hL r k (by omega) (by omega), hJ r k (by omega) (by omega) (by omega)]
  · rw [yx 53 1 (by omega)]; exact x531
  · rw [yx 53 2 (by omega)]; exact x532
  · rw [yx 0 11 (by omega)]; exact x011
  · rw [yx 0 9 (by omega)]; exact x09
  · rw [yx 1 1 (by omega)]; exact x11
  · show Y 73 1 = (0 : Int32)
    rw [yk 1 (by omega), hK 73 1 (by unfold zm; omega), ab_u_at]
  · rw [yk 2 (by omega), f2, yx 0 13 (by omega), x013, f8]
  · rw [yk 3 (by omega), f3, yx 0 14 (by omega), x014, f9]
  · rw [yx 41 10 (by omega)]; exact x4110
  · rw [yx 41 11 (by omega), xo 41 11 (by omega) (by omega) (by omega) (by omega) (by omega) (by omega), hI 41 11 (by unfold zx; omega)]; exact w5
  · rw [y7 65 (by unfold zm; omega) (by omega) (by omega) (by omega)]; exact w6
theorem pr_village (hR : rx_R S I J P) : lz_pr l G rx_R mX11_village 129 mX12_village 7 [] S I J P := by
  obtain ⟨hB, hZ, hS, np, nb, nl, fa, lc, dr0, t, F, hG, ⟨q, w, hN⟩, ⟨dn, kp, hA⟩, ⟨bf, hX⟩, ⟨c, hL⟩, ⟨z, hP⟩, hU, cn, tm, hW⟩ := id hR
  have hSl : 109 ≤ S.length := by obtain ⟨i, hi⟩ := hS; omega
  have h12 := hN.1
  have hq := hN.2.1
  have hq' : q = 57 ∨ 109 ≤ q := by rcases id hq with rfl | ⟨i, rfl⟩ <;> omega
  obtain ⟨B0, hB0⟩ := vg_B (K := I) hP rfl (fun _ => rfl)
  rcases vr (J := J) (L := J) (lw_ok hB0) hB0 with ⟨I1, J1, K1, L1, p0, a, b, hx1, hr1, hps⟩ | ⟨I1, J1, K1, L1, hx1, hr1, hft⟩
  · obtain ⟨⟨c1, _, cJ, _⟩, _, f8, f9, _, _, hd⟩ := hps
    obtain ⟨a6, b5, ⟨h14, h15⟩, _, tp, tb, tc, tz, _, _, ⟨v1, v2, v3⟩⟩ := dr_t hd
    obtain ⟨X, hx, hvx⟩ := vc_ok (P := P) hx1 h12 hq a6 h14 (fun p hp => (tp p hp).1) (fun c hc => (tc c hc).1) v1
    have xo := hvx.2.2.2.2
    have x73 : ∀ k, X 73 k = I 73 k := fun k => by rw [xo 73 k (by omega) (by omega) (by omega) (by omega) (by omega) (by omega), c1 73 k (by unfold zx; omega)]
    have x74 : ∀ k, X 74 k = I 74 k := fun k => by rw [xo 74 k (by omega) (by omega) (by omega) (by omega) (by omega) (by omega), c1 74 k (by unfold zx; omega)]
    obtain ⟨B2, hB2⟩ := vg_B (K := X) hP (x73 1) x74
    rcases vr (J := J) (L := J1) (lw_ok hB2) hB2 with ⟨I2, J2, K2, L2, p2, a2, b2, hx2, hr2, hps2⟩ | ⟨I2, J2, K2, L2, hx2, hr2, hft2⟩
    · rw [hx1] at hx2
      cases hx2
      obtain ⟨⟨_, cK, _, cL⟩, _, _, _, m2, m3, hd2⟩ := hps2
      obtain ⟨a6', b5', ⟨g14, g15⟩, ⟨g33, g34⟩, tp2, tb2, tc2, tz2, _, _, ⟨_, u2, _⟩⟩ := dr_t hd2
      obtain rfl : a2 = a := (nI_eq (by omega) (by omega)).mp (g14.symm.trans h14)
      have hF : ∃ s, s ≤ 300 ∧ ((K2 73 24 = 0 ∧ s = 0) ∨ (K2 73 24 = 1 ∧ K2 73 17 = nI s)) ∧ ((K2 73 24 = 0 ∧ I1 18 3 = 0 ∧ I1 18 4 = K2 73 20) ∨ (K2 73 24 = 1 ∧ I1 18 3 = nI s ∧ I1 18 4 = K2 73 20 ∧ fm_W (I1 19) (K2 76) (K2 77) s)) := by
        rcases hd2.2.2.2.2.2 with ⟨_, e2, e3, e4, e5⟩ | ⟨_, e2, e3, s, e4, e5, e6⟩
        · exact ⟨0, by decide, Or.inl ⟨e2, rfl⟩, Or.inl ⟨e2, e3, by rw [e4, e5]⟩⟩
        · exact ⟨s, e6.2.1, Or.inr ⟨e2, e5⟩, Or.inr ⟨e2, e4, e3, e6⟩⟩
      obtain ⟨s, hs, hf1, hf2⟩ := hF
      obtain ⟨Y, hm, hvy⟩ := vm_ok (t := vt I1) (dr := vd I1) hr2 m2 a6' b5' hs g33 g34 u2 (fun p hp => (tp2 p hp).2.1) (fun c hc => (tc2 c hc).2.1) hf1
      exact ⟨nI a2, S, X, J1, P, S, Y, L2, P, fun Q hQ => mX11_village_ok hB hx hQ, fun Q hQ => mX12_village_ok hB hm hQ, hB.1 73 _ rfl, rx_R_V1 hB hZ hS h12 hq hA.2.2.2.2.2.2.2.1 hA.2.2.2.2.2.2.2.2 hW.2.1 hW.2.2.2.2.1 hW.2.2.2.2.2.1 c1 cJ hvx cK cL hd2 f8 f9 m2 m3 hf2 hvy⟩
    · rw [hx1] at hx2
      have e : (1 : Int32) = 0 := congrArg Prod.fst (Option.some.inj hx2)
      exact absurd e (by decide)
  · obtain ⟨⟨c1, _, cJ, _⟩, _⟩ := hft
    generalize hXd : ab_u (ab_u (ab_u I1 1 1 (0 : Int32)) 0 13 (I1 11 8)) 0 14 (I1 11 9) = X
    have hx : fX11_village I J P = some (-1, X, J1) := by
      unfold fX11_village
      rw [hx1, px_bd]
      dsimp only
      rw [if_pos rfl, hXd]
    have xo : ∀ r k, ¬ (r = 1 ∧ k = 1) → ¬ (r = 0 ∧ (k = 13 ∨ k = 14)) → X r k = I1 r k := fun r k h1 h2 => by rw [← hXd, px_u (by omega), px_u (by omega), px_u (by omega)]
    have x11 : X 1 1 = 0 := by rw [← hXd, px_u (by omega), px_u (by omega), ab_u_at]
    have x13 : X 0 13 = I1 11 8 := by rw [← hXd, px_u (by omega), ab_u_at]
    have x14 : X 0 14 = I1 11 9 := by rw [← hXd, ab_u_at]
    obtain ⟨B2, hB2⟩ := vg_B (K := X) hP (by rw [xo 73 1 (by omega) (by omega), c1 73 1 (by unfold zx; omega)]) (fun k => by rw [xo 74 k (by omega) (by omega), c1 74 k (by unfold zx; omega)])
    rcases vr (J := J) (L := J1) (lw_ok hB2) hB2 with ⟨I2, J2, K2, L2, p2, a2, b2, hx2, hr2, hps2⟩ | ⟨I2, J2, K2, L2, hx2, hr2, hft2⟩
    · rw [hx1] at hx2
      have e : (0 : Int32) = 1 := congrArg Prod.fst (Option.some.inj hx2)
      exact absurd e (by decide)
    · rw [hx1] at hx2
      cases hx2
      obtain ⟨⟨_, cK, _, cL⟩, k, pl, k1, k5, p16, i8, m2, i9, m3⟩ := hft2
      have hm : fX12_village X J1 = some (-1, K2, L2) := by
        unfold fX12_village
        rw [hr2, px_bd]
        dsimp only
        rw [if_neg (show ¬ K2 73 2 ≤ 0 by rw [m2]; exact nI_ge (a := 0) (by omega) (by omega))]
      have k2 : ∀ r k, ¬ zm r k → ¬ (r = 73 ∧ (k = 5 ∨ k = 1)) → K2 r k = X r k := fun r k h1 h2 => by rw [cK r k h1, px_u (by omega), px_u (by omega)]
      refine ⟨-1, S, X, J1, P, S, K2, L2, P, fun Q hQ => mX11_village_ok hB hx hQ, fun Q hQ => mX12_village_ok hB hm hQ, hB.1 73 _ rfl, rx_R_V0 hR (fun r hr => ?_) (fun r k h1 h2 h3 h4 h5 => ?_) ?_ ?_ ⟨?_, ?_⟩⟩
      · obtain ⟨z1, z2, z3⟩ := hZ r hr
        refine ⟨?_, ?_, z3⟩
        · rw [← z1]
          funext k
          rw [k2 r k (by unfold zm; omega) (by omega), xo r k (by omega) (by omega), c1 r k (by unfold zx; omega)]
        · rw [← z2]
          funext k
          rw [cL r k (by omega) (by omega), cJ r k (by omega) (by omega) (by omega)]
      · rw [k2 r k h2 h3, xo r k h4 h5, c1 r k h1]
      · rw [k2 1 1 (by unfold zm; omega) (by omega)]; exact x11
      · rw [cK 73 1 (by unfold zm; omega), ab_u_at]
      · rw [m2, k2 0 13 (by unfold zm; omega) (by omega), x13, i8]
      · rw [m3, k2 0 14 (by unfold zm; omega) (by omega), x14, i9]
end VLG
