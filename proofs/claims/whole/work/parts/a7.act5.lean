/-! ===== pairs: day, want, leave, come, gift ===== -/
theorem px_xorb : ∀ h, h < 64 → ∀ p, p < 6 → nI h ^^^ ((1 : Int32) <<< (nI p &&& 31)) = nI (h ^^^ 2 ^ p) := by decide +kernel
theorem px_xor1 : ∀ h, h < 64 → ∀ p, p < 6 → h.testBit p = true → sp_wo h (2 ^ p) = h ^^^ 2 ^ p := by decide +kernel
theorem px_xor0 : ∀ h, h < 64 → ∀ p, p < 6 → h.testBit p = false → h ||| 2 ^ p = h ^^^ 2 ^ p := by decide +kernel
theorem px_xor_lt : ∀ n, n < 7 → ∀ h, h < 2 ^ n → ∀ p, p < n → h ^^^ 2 ^ p < 2 ^ n := by decide +kernel
theorem px_keepAir {I : ab_I} : ∃ I', fX12_keepAir I = some I' ∧ (∀ k, k < 45 → I' 89 k = I 90 k) ∧ ∀ r, r ≠ 89 → I' r = I r := by
  unfold fX12_keepAir
  refine px_cpl (body := fun s : Int32 × ab_I => fX12_keepAir_2 s.1 s.2) (I := I) 45 89 0 (I 90) ?_ ?_ (m := 5000) (by decide)
  · intro i I2 hi f1 f2
    dsimp only
    unfold fX12_keepAir_2
    rw [if_neg (show ¬ (45 : Int32) ≤ nI i from nI_ge (b := 45) hi (by decide)), px_gd (px_ix hi (by decide)), px_gd (px_ix hi (by decide)), nI_clamp (by omega), f1 90 (by decide), Nat.zero_add]
  · intro I2 f1 f2
    dsimp only
    unfold fX12_keepAir_2 fX12_keepAir_26
    rw [if_pos (show (45 : Int32) ≤ nI 45 by decide)]
    exact ⟨_, rfl, fun k hk => by rw [f2 k, if_pos (by omega), Nat.sub_zero], f1⟩
section ACT5
variable {S : ab_S} {I : ab_I} {J : ab_J} {P : ab_P} {l : Launch} {G : ab_G}
theorem pr_day (hR : rx_R S I J P) : lz_pr l G rx_R mX11_day 5 mX12_day 6 [] S I J P := by
  have hB := hR.1
  have hZ := hR.2.1
  obtain ⟨np, nb, fa, hrs, F, q, w, S1, I1, P1, hQ, k0, k1, k2, kB, k3, k4, k5⟩ := px_acted hR
  obtain ⟨h1, h2, h3, h4, h5, h6, h7, h8, h9, h10, h11, h12, h13, h14, h15, h16, h17, h18⟩ := id hQ
  have n43 : I 89 43 = nI (w 43) := h17 43 (by decide) (fun h => absurd h (by decide))
  have d43 := h18.2.2.2.2.2.1
  by_cases e : w 43 = 999
  · have hx : fX11_day S I P = some (-1, S, I, P) := by
      unfold fX11_day
      rw [h14, px_bd, rx_day h16, e, if_neg (by decide)]
    have hm : fX12_day I = some (-1, I) := by
      unfold fX12_day
      rw [px_gd (by decide), show ((43 : Int32).toNatClampNeg) = 43 from rfl, n43, e, if_pos (by decide)]
    exact lz_q _ hR (fun Q hQ => mX11_day_ok hB hZ hx hQ) (fun Q hQ => mX12_day_ok hB hm hQ) (fun _ _ => rfl)
  · have hlt : nI (w 43) < (999 : Int32) := nI_lt (b := 999) (by omega) (by decide)
    have hne : ¬ nI (w 43) = (999 : Int32) := fun h => e ((nI_eq (b := 999) (by omega) (by decide)).mp h)
    have ho : rx_ok np nb 998 w := ⟨h18.1, h18.2.1, h18.2.2.1, h18.2.2.2.1, h18.2.2.2.2.1, by omega, h18.2.2.2.2.2.2⟩
    have r1 : ∀ r, r = 3 ∨ r = 5 ∨ r = 7 ∨ r = 8 → I1 r = I r := fun r hr => k4 r (by unfold rx_dD; omega) (by omega)
    have hw1 : rx_is np (rx_v I1 q) w := rx_is_c (fun j hj g => by rw [k3 j hj]) h16
    obtain ⟨I2, c1, c2, c3, c4⟩ := px_passDay (hrs := hrs) (rx_dyn25 h15) h1 h2 (by rw [r1 3 (by omega)]; exact h4) (by rw [r1 3 (by omega)]; exact h5) (by rw [r1 3 (by omega)]; exact h6) h3 (by rw [r1 8 (by omega), r1 7 (by omega)]; exact h12) (fun b hb => by rw [r1 5 (by omega)]; exact h10 b hb) hw1 ho true
    have hx : fX11_day S I P = some (nI (sp_dy F hrs np true fa w nb).2, S1, I2, P1) := by
      unfold fX11_day
      rw [h14, px_bd, rx_day h16, if_pos hlt, px_bd, k0, px_bd]
      dsimp only
      rw [k1, px_bd, show (1 : Int32) = (if true = true then 1 else 0) from rfl, c1, px_bd]
    obtain ⟨I3, m1, m2, m3, m4⟩ := k5 I2 (fun r hr hs => by
      unfold rx_sc at hs
      exact c4 r (by omega) (by omega) (by omega) hr)
    have g3 : ∀ r k, ¬ rx_dD r → r ≠ 53 → r ≠ 90 → r ≠ 92 → ¬ (r = 73 ∧ (k = 50 ∨ k = 51)) → r ≠ 9 → r ≠ 10 → r ≠ 24 → I3 r k = I r k := fun r k a1 a2 a3 a4 a5 a6 a7 a8 => by
      rw [m3 r k a3 a4 a5, c4 r a6 a7 a8 (by unfold rx_dD at a1; rcases h15 with rfl | ⟨i, rfl⟩ <;> omega), k4 r a1 a2]
    have e89 : ∀ k, I2 89 k = I 89 k := fun k => by rw [c4 89 (by decide) (by decide) (by decide) (by rcases h15 with rfl | ⟨i, rfl⟩ <;> omega), k4 89 (by unfold rx_dD; omega) (by decide)]
    have hw3 : rx_is np (I3 90) w := fun k x y => by rw [m2 k x, e89]; exact h17 k x y
    have f78 : I3 78 = I 78 := funext fun k => g3 78 k (by unfold rx_dD; omega) (by decide) (by decide) (by decide) (by omega) (by decide) (by decide) (by decide)
    have f79 : I3 79 = I 79 := funext fun k => g3 79 k (by unfold rx_dD; omega) (by decide) (by decide) (by decide) (by omega) (by decide) (by decide) (by decide)
    have f73 : ∀ k, k ≠ 50 → k ≠ 51 → I3 73 k = I 73 k := fun k x y => g3 73 k (by unfold rx_dD; omega) (by decide) (by decide) (by decide) (by omega) (by decide) (by decide) (by decide)
    obtain ⟨I4, d1, d2, d3, d4⟩ := px_goDay (hrs := hrs) h1 h2 (by rw [f73 39 (by decide) (by decide)]; exact h7) (by rw [f73 40 (by decide) (by decide)]; exact h8) (by rw [f73 43 (by decide) (by decide)]; exact h9) h3 (by rw [f78, f79, f73 18 (by decide) (by decide), f73 25 (by decide) (by decide)]; exact h13) (fun b hb => by rw [g3 87 b (by unfold rx_dD; omega) (by decide) (by decide) (by decide) (by omega) (by decide) (by decide) (by decide)]; exact h11 b hb) hw3 ho true
    obtain ⟨I5, y1, y2, y3⟩ := px_keepAir (I := I4)
    have n43' : I2 89 43 = nI (w 43) := by rw [e89]; exact n43
    have hm : fX12_day I2 = some (nI (sp_dy F hrs np true fa w nb).2, I5) := by
      unfold fX12_day
      rw [px_gd (by decide), show ((43 : Int32).toNatClampNeg) = 43 from rfl, n43', if_neg hne, m1, px_bd, show (1 : Int32) = (if true = true then 1 else 0) from rfl, d1, px_bd]
      dsimp only
      rw [y1, px_bd]
    refine ⟨nI (sp_dy F hrs np true fa w nb).2, S1, I2, J, P1, S1, I5, J, P1, fun Q hQ => mX11_day_ok hB hZ hx hQ, fun Q hQ => mX12_day_ok kB hm hQ, k2, ?_⟩
    refine m4 I5 (sp_day F hrs np true fa w nb) (fun r k hr hs => ?_) ?_ ?_ (sp_day_ok h1 h2 ho)
    · rw [y3 r hr]
      unfold rx_sc at hs
      rw [d4 r (by omega) (by omega) (by omega) (by omega)]
    · refine rx_is_c (fun j hj g => ?_) c2
      rw [y3 _ (by rcases h15 with rfl | ⟨i, rfl⟩ <;> omega), d4 _ (by rcases h15 with rfl | ⟨i, rfl⟩ <;> omega) (by rcases h15 with rfl | ⟨i, rfl⟩ <;> omega) (by rcases h15 with rfl | ⟨i, rfl⟩ <;> omega) (by rcases h15 with rfl | ⟨i, rfl⟩ <;> omega), m3 _ g (by rcases h15 with rfl | ⟨i, rfl⟩ <;> omega) (by rcases h15 with rfl | ⟨i, rfl⟩ <;> omega) (by rcases h15 with rfl | ⟨i, rfl⟩ <;> omega)]
    · exact fun k x y => by rw [y2 k x]; exact d2 k x y
/-- an act that changes now's number at k0 -/
theorem px_act1 (hR : rx_R S I J P) : ∃ np nb fa hrs F q w S1 I1 P1, rx_Q I P np nb fa hrs F q w ∧ fX0_keep q S I P = some (S1, I1, P1) ∧ P1 0 12 = some q ∧ S1[73]? = some (17, 0) ∧ bz_B S1 P1 ∧ (∀ j, j < 4 → I1 (q + j) = I (q + j)) ∧ (∀ r, ¬ rx_dD r → r ≠ 53 → I1 r = I r) ∧ rx_is np (rx_v I1 q) w ∧ ∀ (I2 : ab_I) (k0 x : Nat), k0 < 45 → (∀ r, (r < q ∨ q + 3 < r) → I2 r = I1 r) → rx_is np (rx_v I2 q) (sp_up w k0 x) → rx_ok np nb 999 (sp_up w k0 x) → ∃ I3, fX12_act I2 = some I3 ∧ (∀ k, I3 89 k = I 89 k) ∧ rx_R S1 (ab_u I3 89 k0 (nI x)) J P1 := by
  obtain ⟨np, nb, fa, hrs, F, q, w, S1, I1, P1, hQ, k0, k1, k2, kB, k3, k4, k5⟩ := px_acted hR
  obtain ⟨h1, h2, h3, h4, h5, h6, h7, h8, h9, h10, h11, h12, h13, h14, h15, h16, h17, h18⟩ := id hQ
  refine ⟨np, nb, fa, hrs, F, q, w, S1, I1, P1, hQ, k0, k1, k2, kB, k3, k4, rx_is_c (fun j hj g => by rw [k3 j hj]) h16, fun I2 c x hc f1 f2 f3 => ?_⟩
  obtain ⟨I3, m1, m2, m3, m4⟩ := k5 I2 (fun r hr _ => f1 r hr)
  have e89 : ∀ k, I3 89 k = I 89 k := fun k => by rw [m3 89 k (by decide) (by decide) (by omega), f1 89 (by rcases h15 with rfl | ⟨i, rfl⟩ <;> omega), k4 89 (by unfold rx_dD; omega) (by decide)]
  refine ⟨I3, m1, e89, m4 _ (sp_up w c x) (fun r k hr _ => by rw [ab_u_o hr]) ?_ ?_ f3⟩
  · refine rx_is_c (fun j hj g => ?_) f2
    rw [ab_u_o (by rcases h15 with rfl | ⟨i, rfl⟩ <;> omega), m3 _ g (by rcases h15 with rfl | ⟨i, rfl⟩ <;> omega) (by rcases h15 with rfl | ⟨i, rfl⟩ <;> omega) (by rcases h15 with rfl | ⟨i, rfl⟩ <;> omega)]
  · exact rx_m (fun k x y => by rw [e89]; exact h17 k x y)
theorem pr_want (hR : rx_R S I J P) (a1 a2 a3 : Int32) : lz_pr l G rx_R mX11_want 3 mX12_want 2 [.int a1, .int a2, .int a3] S I J P := by
  have hB := hR.1
  have hZ := hR.2.1
  obtain ⟨np, nb, fa, hrs, F, q, w, S1, I1, P1, hQ, k0, k1, k2, kB, k3, k4, k6, k5⟩ := px_act1 hR
  obtain ⟨h1, h2, h3, h4, h5, h6, h7, h8, h9, h10, h11, h12, h13, h14, h15, h16, h17, h18⟩ := id hQ
  have no : fX11_want a1 a2 a3 S I P = some (-1, S, I, P) → fX12_want a1 a2 a3 I = some (-1, I) → lz_pr l G rx_R mX11_want 3 mX12_want 2 [.int a1, .int a2, .int a3] S I J P := fun hx hm => lz_q _ hR (fun Q hQ => mX11_want_ok hB hZ hx hQ) (fun Q hQ => mX12_want_ok hB hm hQ) (fun _ _ => rfl)
  by_cases ha : px_b a1 np
  · refine no ?_ ?_
    · unfold fX11_want fX11_want_22
      rw [px_Pair_b1 h4 ha, px_bd, if_pos rfl]
    · unfold fX12_want fX12_want_26
      rw [px_mPerson_b (by omega) h7 ha, px_bd, if_pos rfl]
  by_cases hb : px_b a2 nb
  · refine no ?_ ?_
    · unfold fX11_want fX11_want_22
      rw [px_Pair_b2 h4 h5 ha hb, px_bd, if_pos rfl]
    · unfold fX12_want fX12_want_26
      rw [px_mPerson_n (by omega) h7 ha, px_bd, if_neg (by decide), px_mBell_b (by omega) h8 hb, px_bd, if_pos rfl]
  by_cases hc : a3 < 0 ∨ (20 : Int32) < a3
  · refine no ?_ ?_
    · unfold fX11_want fX11_want_22
      rw [px_Pair_n h4 h5 ha hb, px_bd, if_neg (by decide), px_within, if_pos hc, px_bd, if_pos rfl]
    · unfold fX12_want fX12_want_26
      rw [px_mPerson_n (by omega) h7 ha, px_bd, if_neg (by decide), px_mBell_n (by omega) h8 hb, px_bd, if_neg (by decide), px_isIn, if_pos hc, px_bd, if_pos rfl]
  obtain ⟨x, hx20, rfl⟩ := px_in (hi := 20) (by decide) hc
  have pX := px_Pair_n h4 h5 ha hb
  have pM := px_mPerson_n (by omega) h7 ha
  have bM := px_mBell_n (by omega) h8 hb
  obtain ⟨p, hp, rfl⟩ := px_of ha (by omega)
  obtain ⟨b, hb2, rfl⟩ := px_of hb (by omega)
  have w20 := h18.2.2.2.1 (5 * p + b) (by omega)
  have eX : I (q + 3) (5 * p + b) = nI (w (13 + (5 * p + b))) := rx_loss h16 (by omega)
  have eM : I 89 (13 + 5 * p + b) = nI (w (13 + (5 * p + b))) := by
    rw [Nat.add_assoc]
    exact h17 _ (by omega) (fun h => by omega)
  by_cases e : w (13 + (5 * p + b)) = x
  · refine no ?_ ?_
    · unfold fX11_want
      rw [pX, px_bd, if_neg (by decide), px_within, if_neg hc, px_bd, if_neg (by decide), h14, px_bd, px_cell, px_bd, px_gd (px_ix (by omega) (by decide)), nI_clamp (by omega), eX, e, if_pos rfl]
    · unfold fX12_want
      rw [pM, px_bd, if_neg (by decide), bM, px_bd, if_neg (by decide), px_isIn, if_neg hc, px_bd, if_neg (by decide), px_mcell, px_gd (px_ix (by omega) (by decide)), nI_clamp (by omega), eM, e, if_pos rfl]
  · have hne : ¬ nI (w (13 + (5 * p + b))) = nI x := fun h => e ((nI_eq (by omega) (by omega)).mp h)
    have hx : fX11_want (nI p) (nI b) (nI x) S I P = some (nI (w (13 + (5 * p + b))), S1, ab_u I1 (q + 3) (5 * p + b) (nI x), P1) := by
      unfold fX11_want
      rw [pX, px_bd, if_neg (by decide), px_within, if_neg hc, px_bd, if_neg (by decide), h14, px_bd, px_cell, px_bd, px_gd (px_ix (by omega) (by decide)), nI_clamp (by omega), eX, if_neg hne, px_bd, k0, px_bd]
      dsimp only
      rw [k1, px_bd, px_bd, px_gd (px_ix (by omega) (by decide)), nI_clamp (by omega)]
    have hok : rx_ok np nb 999 (sp_up w (13 + (5 * p + b)) x) := by
      rw [← Nat.add_assoc]
      exact rx_ok_l h1 h18 (by omega) hb2 h2 hx20
    obtain ⟨I3, m1, m2, m3⟩ := k5 (ab_u I1 (q + 3) (5 * p + b) (nI x)) (13 + (5 * p + b)) x (by omega) (fun r hr => by rw [ab_u_o (by omega)]) (rx_u3 (by omega) k6) hok
    have e73 : ∀ k, ab_u I1 (q + 3) (5 * p + b) (nI x) 73 k = I 73 k := fun k => by rw [px_u (by rcases h15 with rfl | ⟨i, rfl⟩ <;> omega), k4 73 (by unfold rx_dD; omega) (by decide)]
    have eM' : ab_u I1 (q + 3) (5 * p + b) (nI x) 89 (13 + 5 * p + b) = nI (w (13 + (5 * p + b))) := by rw [px_u (by rcases h15 with rfl | ⟨i, rfl⟩ <;> omega), k4 89 (by unfold rx_dD; omega) (by decide)]; exact eM
    have hm : fX12_want (nI p) (nI b) (nI x) (ab_u I1 (q + 3) (5 * p + b) (nI x)) = some (nI (w (13 + (5 * p + b))), ab_u I3 89 (13 + (5 * p + b)) (nI x)) := by
      unfold fX12_want
      rw [px_mPerson_n (n := np) (by omega) (by rw [e73]; exact h7) ha, px_bd, if_neg (by decide), px_mBell_n (n := nb) (by omega) (by rw [e73]; exact h8) hb, px_bd, if_neg (by decide), px_isIn, if_neg hc, px_bd, if_neg (by decide), px_mcell, px_gd (px_ix (by omega) (by decide)), nI_clamp (by omega), eM', if_neg hne, m1, px_bd, px_gd (px_ix (by omega) (by decide)), Nat.add_assoc]
    exact ⟨_, S1, _, J, P1, S1, _, J, P1, fun Q hQ => mX11_want_ok hB hZ hx hQ, fun Q hQ => mX12_want_ok kB hm hQ, k2, m3⟩
theorem pr_leave (hR : rx_R S I J P) (a1 : Int32) : lz_pr l G rx_R mX11_leave 3 mX12_leave 3 [.int a1] S I J P := by
  have hB := hR.1
  have hZ := hR.2.1
  obtain ⟨np, nb, fa, hrs, F, q, w, S1, I1, P1, hQ, k0, k1, k2, kB, k3, k4, k6, k5⟩ := px_act1 hR
  obtain ⟨h1, h2, h3, h4, h5, h6, h7, h8, h9, h10, h11, h12, h13, h14, h15, h16, h17, h18⟩ := id hQ
  have hh := rx_ok_h h18 h1
  have no : fX11_leave a1 S I P = some (-1, S, I, P) → fX12_leave a1 I = some (-1, I) → lz_pr l G rx_R mX11_leave 3 mX12_leave 3 [.int a1] S I J P := fun hx hm => lz_q _ hR (fun Q hQ => mX11_leave_ok hB hZ hx hQ) (fun Q hQ => mX12_leave_ok hB hm hQ) (fun _ _ => rfl)
  by_cases ha : px_b a1 np
  · refine no ?_ ?_
    · unfold fX11_leave fX11_leave_22
      rw [px_Person_b h4 ha, px_bd, if_pos rfl]
    · unfold fX12_leave fX12_leave_24 fX12_leave_25
      rw [px_mPerson_b (by omega) h7 ha, px_bd, if_pos rfl]
  have pX := px_Person_n h4 ha
  have pM := px_mPerson_n (by omega) h7 ha
  obtain ⟨p, hp, rfl⟩ := px_of ha (by omega)
  have n12 : I 89 12 = nI (w 12) := h17 12 (by decide) (fun h => absurd h (by decide))
  by_cases bp : (w 12).testBit p = true
  case neg =>
    refine no ?_ ?_
    · unfold fX11_leave fX11_leave_22
      rw [pX, px_bd, if_neg (by decide), h14, px_bd, px_isHere (rx_here h16) hh (by omega), px_bd, if_neg bp, if_pos rfl]
    · unfold fX12_leave fX12_leave_24 fX12_leave_25
      rw [pM, px_bd, if_neg (by decide), px_isThere n12 hh (by omega), px_bd, if_neg bp, if_pos rfl]
  have hlt := px_xor_lt np (by omega) _ h18.2.2.1 p hp
  have h64 : w 12 ^^^ 2 ^ p < 64 := Nat.lt_of_lt_of_le hlt (sp_two64 h1)
  have hx : fX11_leave (nI p) S I P = some (nI (rx_pop (w 12 ^^^ 2 ^ p)), S1, ab_u I1 q 3 (nI (w 12 ^^^ 2 ^ p)), P1) := by
    unfold fX11_leave
    rw [pX, px_bd, if_neg (by decide), h14, px_bd, px_isHere (rx_here h16) hh (by omega), px_bd, if_pos bp, if_neg (by decide), px_bd, k0, px_bd]
    dsimp only
    rw [k1, px_bd, px_bd, rx_here k6, px_one p (by omega), px_wo _ hh _ (sp_pow64 p (by omega)), px_xor1 _ hh p (by omega) bp, ab_u_at, px_pop _ h64, px_bd]
  have hok : rx_ok np nb 999 (sp_up w 12 (w 12 ^^^ 2 ^ p)) := rx_ok_up h1 h18 (by omega) (by omega) (fun _ => hlt) (by omega) (by omega) (by omega)
  obtain ⟨I3, m1, m2, m3⟩ := k5 (ab_u I1 q 3 (nI (w 12 ^^^ 2 ^ p))) 12 (w 12 ^^^ 2 ^ p) (by omega) (fun r hr => by rw [ab_u_o (by omega)]) (rx_uq (Or.inl ⟨rfl, rfl⟩) k6) hok
  have e73 : ∀ k, ab_u I1 q 3 (nI (w 12 ^^^ 2 ^ p)) 73 k = I 73 k := fun k => by rw [px_u (by rcases h15 with rfl | ⟨i, rfl⟩ <;> omega), k4 73 (by unfold rx_dD; omega) (by decide)]
  have n12' : ab_u I1 q 3 (nI (w 12 ^^^ 2 ^ p)) 89 12 = nI (w 12) := by rw [px_u (by rcases h15 with rfl | ⟨i, rfl⟩ <;> omega), k4 89 (by unfold rx_dD; omega) (by decide)]; exact n12
  have hm : fX12_leave (nI p) (ab_u I1 q 3 (nI (w 12 ^^^ 2 ^ p))) = some (nI (rx_pop (w 12 ^^^ 2 ^ p)), ab_u I3 89 12 (nI (w 12 ^^^ 2 ^ p))) := by
    unfold fX12_leave fX12_leave_25 fX12_turn
    rw [px_mPerson_n (n := np) (by omega) (by rw [e73]; exact h7) ha, px_bd, if_neg (by decide), px_isThere n12' hh (by omega), px_bd, if_pos bp, if_neg (by decide), m1, px_bd, px_gd (by decide), px_gd (by decide), px_gd (by decide), show ((12 : Int32).toNatClampNeg) = 12 from rfl, m2, n12, px_xorb _ hh p (by omega), ab_u_at, px_members _ h64, px_bd, px_bd]
  exact ⟨_, S1, _, J, P1, S1, _, J, P1, fun Q hQ => mX11_leave_ok hB hZ hx hQ, fun Q hQ => mX12_leave_ok kB hm hQ, k2, m3⟩
theorem pr_come (hR : rx_R S I J P) (a1 : Int32) : lz_pr l G rx_R mX11_come 3 mX12_come 3 [.int a1] S I J P := by
  have hB := hR.1
  have hZ := hR.2.1
  obtain ⟨np, nb, fa, hrs, F, q, w, S1, I1, P1, hQ, k0, k1, k2, kB, k3, k4, k6, k5⟩ := px_act1 hR
  obtain ⟨h1, h2, h3, h4, h5, h6, h7, h8, h9, h10, h11, h12, h13, h14, h15, h16, h17, h18⟩ := id hQ
  have hh := rx_ok_h h18 h1
  have no : fX11_come a1 S I P = some (-1, S, I, P) → fX12_come a1 I = some (-1, I) → lz_pr l G rx_R mX11_come 3 mX12_come 3 [.int a1] S I J P := fun hx hm => lz_q _ hR (fun Q hQ => mX11_come_ok hB hZ hx hQ) (fun Q hQ => mX12_come_ok hB hm hQ) (fun _ _ => rfl)
  by_cases ha : px_b a1 np
  · refine no ?_ ?_
    · unfold fX11_come fX11_come_22
      rw [px_Person_b h4 ha, px_bd, if_pos rfl]
    · unfold fX12_come fX12_come_24 fX12_come_25
      rw [px_mPerson_b (by omega) h7 ha, px_bd, if_pos rfl]
  have pX := px_Person_n h4 ha
  have pM := px_mPerson_n (by omega) h7 ha
  obtain ⟨p, hp, rfl⟩ := px_of ha (by omega)
  have n12 : I 89 12 = nI (w 12) := h17 12 (by decide) (fun h => absurd h (by decide))
  by_cases bp : (w 12).testBit p = true
  · refine no ?_ ?_
    · unfold fX11_come fX11_come_22
      rw [pX, px_bd, if_neg (by decide), h14, px_bd, px_isHere (rx_here h16) hh (by omega), px_bd, if_pos bp, if_neg (by decide)]
    · unfold fX12_come fX12_come_24 fX12_come_25
      rw [pM, px_bd, if_neg (by decide), px_isThere n12 hh (by omega), px_bd, if_pos bp, if_neg (by decide)]
  have bp0 : (w 12).testBit p = false := by simpa using bp
  have hlt := px_xor_lt np (by omega) _ h18.2.2.1 p hp
  have h64 : w 12 ^^^ 2 ^ p < 64 := Nat.lt_of_lt_of_le hlt (sp_two64 h1)
  have hx : fX11_come (nI p) S I P = some (nI (rx_pop (w 12 ^^^ 2 ^ p)), S1, ab_u I1 q 3 (nI (w 12 ^^^ 2 ^ p)), P1) := by
    unfold fX11_come
    rw [pX, px_bd, if_neg (by decide), h14, px_bd, px_isHere (rx_here h16) hh (by omega), px_bd, if_neg bp, if_pos rfl, px_bd, k0, px_bd]
    dsimp only
    rw [k1, px_bd, px_bd, rx_here k6, px_or_nI _ hh p (by omega), px_xor0 _ hh p (by omega) bp0, ab_u_at, px_pop _ h64, px_bd]
  have hok : rx_ok np nb 999 (sp_up w 12 (w 12 ^^^ 2 ^ p)) := rx_ok_up h1 h18 (by omega) (by omega) (fun _ => hlt) (by omega) (by omega) (by omega)
  obtain ⟨I3, m1, m2, m3⟩ := k5 (ab_u I1 q 3 (nI (w 12 ^^^ 2 ^ p))) 12 (w 12 ^^^ 2 ^ p) (by omega) (fun r hr => by rw [ab_u_o (by omega)]) (rx_uq (Or.inl ⟨rfl, rfl⟩) k6) hok
  have e73 : ∀ k, ab_u I1 q 3 (nI (w 12 ^^^ 2 ^ p)) 73 k = I 73 k := fun k => by rw [px_u (by rcases h15 with rfl | ⟨i, rfl⟩ <;> omega), k4 73 (by unfold rx_dD; omega) (by decide)]
  have n12' : ab_u I1 q 3 (nI (w 12 ^^^ 2 ^ p)) 89 12 = nI (w 12) := by rw [px_u (by rcases h15 with rfl | ⟨i, rfl⟩ <;> omega), k4 89 (by unfold rx_dD; omega) (by decide)]; exact n12
  have hm : fX12_come (nI p) (ab_u I1 q 3 (nI (w 12 ^^^ 2 ^ p))) = some (nI (rx_pop (w 12 ^^^ 2 ^ p)), ab_u I3 89 12 (nI (w 12 ^^^ 2 ^ p))) := by
    unfold fX12_come fX12_come_25 fX12_turn
    rw [px_mPerson_n (n := np) (by omega) (by rw [e73]; exact h7) ha, px_bd, if_neg (by decide), px_isThere n12' hh (by omega), px_bd, if_neg bp, if_pos rfl, m1, px_bd, px_gd (by decide), px_gd (by decide), px_gd (by decide), show ((12 : Int32).toNatClampNeg) = 12 from rfl, m2, n12, px_xorb _ hh p (by omega), ab_u_at, px_members _ h64, px_bd, px_bd]
  exact ⟨_, S1, _, J, P1, S1, _, J, P1, fun Q hQ => mX11_come_ok hB hZ hx hQ, fun Q hQ => mX12_come_ok kB hm hQ, k2, m3⟩
theorem pr_gift (hR : rx_R S I J P) (a1 a2 : Int32) : lz_pr l G rx_R mX11_gift 3 mX12_gift 2 [.int a1, .int a2] S I J P := by
  have hB := hR.1
  have hZ := hR.2.1
  obtain ⟨np, nb, fa, hrs, F, q, w, S1, I1, P1, hQ, k0, k1, k2, kB, k3, k4, k6, k5⟩ := px_act1 hR
  obtain ⟨h1, h2, h3, h4, h5, h6, h7, h8, h9, h10, h11, h12, h13, h14, h15, h16, h17, h18⟩ := id hQ
  have no : fX11_gift a1 a2 S I P = some (-1, S, I, P) → fX12_gift a1 a2 I = some (-1, I) → lz_pr l G rx_R mX11_gift 3 mX12_gift 2 [.int a1, .int a2] S I J P := fun hx hm => lz_q _ hR (fun Q hQ => mX11_gift_ok hB hZ hx hQ) (fun Q hQ => mX12_gift_ok hB hm hQ) (fun _ _ => rfl)
  by_cases ha : px_b a1 np
  · refine no ?_ ?_
    · unfold fX11_gift fX11_gift_36
      rw [px_Person_b h4 ha, px_bd, if_pos rfl]
    · unfold fX12_gift fX12_gift_30
      rw [px_mPerson_b (by omega) h7 ha, px_bd, if_pos rfl]
  have pX := px_Person_n h4 ha
  have pM := px_mPerson_n (by omega) h7 ha
  by_cases hc : a2 < 1 ∨ (99 : Int32) < a2
  · refine no ?_ ?_
    · unfold fX11_gift fX11_gift_36
      rw [pX, px_bd, if_neg (by decide), px_within, if_pos hc, px_bd, if_pos rfl]
    · unfold fX12_gift fX12_gift_30
      rw [pM, px_bd, if_neg (by decide), px_isIn, if_pos hc, px_bd, if_pos rfl]
  obtain ⟨x, hx1, rfl⟩ : ∃ x, x ≤ 99 ∧ a2 = nI x := px_in (hi := 99) (by decide) (fun h => hc (h.elim (fun h => Or.inl (Int32.lt_of_lt_of_le h (by decide))) (fun h => Or.inr h)))
  obtain ⟨p, hp, rfl⟩ := px_of ha (by omega)
  have w9 := h18.1 p hp
  have eX : I (q + 1) p = nI (w p) := rx_has h16 h1 hp
  have eX1 : I1 (q + 1) p = nI (w p) := rx_has k6 h1 hp
  have eM : I 89 p = nI (w p) := h17 p (by omega) (fun _ => hp)
  by_cases e : w p = 999
  · refine no ?_ ?_
    · unfold fX11_gift fX11_gift_36
      rw [pX, px_bd, if_neg (by decide), px_within, if_neg hc, px_bd, if_neg (by decide), h14, px_bd, px_gd (px_ix (by omega) (by decide)), nI_clamp (by omega), eX, e, if_neg (by decide)]
    · unfold fX12_gift fX12_gift_30
      rw [pM, px_bd, if_neg (by decide), px_isIn, if_neg hc, px_bd, if_neg (by decide), px_gd (px_ix (by omega) (by decide)), nI_clamp (by omega), eM, e, if_pos (by decide)]
  have hlt : nI (w p) < (999 : Int32) := nI_lt (b := 999) (by omega) (by decide)
  have hne : ¬ nI (w p) = (999 : Int32) := fun h => e ((nI_eq (b := 999) (by omega) (by decide)).mp h)
  have emin : (if nI (w p + x) < (999 : Int32) then nI (w p + x) else (999 : Int32)) = nI (min 999 (w p + x)) := px_min (a := w p + x) (b := 999) (by omega) (by decide)
  have emin' : (if I1 (q + 1) p + nI x < (999 : Int32) then I1 (q + 1) p + nI x else (999 : Int32)) = nI (min 999 (w p + x)) := by
    have e2 : I1 (q + 1) p + nI x = nI (w p + x) := by rw [eX1, px_add]
    simp only [e2]
    exact emin
  have hx : fX11_gift (nI p) (nI x) S I P = some (nI (min 999 (w p + x)), S1, ab_u I1 (q + 1) p (nI (min 999 (w p + x))), P1) := by
    unfold fX11_gift
    rw [pX, px_bd, if_neg (by decide), px_within, if_neg hc, px_bd, if_neg (by decide), h14, px_bd, px_gd (px_ix (by omega) (by decide)), nI_clamp (by omega), eX, if_pos hlt, px_bd, k0, px_bd]
    dsimp only
    rw [k1, px_bd, px_bd, px_gd (px_ix (by omega) (by decide)), px_gd (px_ix (by omega) (by decide)), px_bd, px_gd (px_ix (by omega) (by decide)), emin', ab_u_at]
  have hok : rx_ok np nb 999 (sp_up w p (min 999 (w p + x))) := rx_ok_up h1 h18 (by omega) (by omega) (by omega) (by omega) (by omega) (by omega)
  obtain ⟨I3, m1, m2, m3⟩ := k5 (ab_u I1 (q + 1) p (nI (min 999 (w p + x)))) p (min 999 (w p + x)) (by omega) (fun r hr => by rw [ab_u_o (by omega)]) (rx_u1 (by omega) k6) hok
  have e73 : ∀ k, ab_u I1 (q + 1) p (nI (min 999 (w p + x))) 73 k = I 73 k := fun k => by rw [px_u (by rcases h15 with rfl | ⟨i, rfl⟩ <;> omega), k4 73 (by unfold rx_dD; omega) (by decide)]
  have eM' : ab_u I1 (q + 1) p (nI (min 999 (w p + x))) 89 p = nI (w p) := by rw [px_u (by rcases h15 with rfl | ⟨i, rfl⟩ <;> omega), k4 89 (by unfold rx_dD; omega) (by decide)]; exact eM
  have hm : fX12_gift (nI p) (nI x) (ab_u I1 (q + 1) p (nI (min 999 (w p + x)))) = some (nI (min 999 (w p + x)), ab_u I3 89 p (nI (min 999 (w p + x)))) := by
    unfold fX12_gift
    rw [px_mPerson_n (n := np) (by omega) (by rw [e73]; exact h7) ha, px_bd, if_neg (by decide), px_isIn, if_neg hc, px_bd, if_neg (by decide), px_gd (px_ix (by omega) (by decide)), nI_clamp (by omega), eM', if_neg hne, m1, px_bd, px_gd (px_ix (by omega) (by decide)), m2, eM, px_add, show (999 : Int32) = nI 999 from rfl, px_lesser (by decide) (by omega), px_bd, px_gd (px_ix (by omega) (by decide)), px_gd (px_ix (by omega) (by decide)), ab_u_at]
  exact ⟨_, S1, _, J, P1, S1, _, J, P1, fun Q hQ => mX11_gift_ok hB hZ hx hQ, fun Q hQ => mX12_gift_ok kB hm hQ, k2, m3⟩
end ACT5
