/-! ===== pairs: ringer, weight, purse, will ===== -/
section PR3
variable {S : ab_S} {I : ab_I} {J : ab_J} {P : ab_P} {l : Launch} {G : ab_G}
theorem rx_dyn25 {q : Nat} (h : rx_dyn q) : 25 < q := by rcases h with rfl | ⟨i, rfl⟩ <;> omega
theorem pr_ringer (hR : rx_R S I J P) (a1 : Int32) : lz_pr l G rx_R mX11_ringer 3 mX12_ringer 4 [.int a1] S I J P := by
  have hB := hR.1
  obtain ⟨np, nb, fa, hrs, F, q, w, hQ⟩ := rx_R_Q hR
  obtain ⟨h1, h2, h3, h4, h5, h6, h7, h8, h9, h10, h11, h12, h13, h14, h15, h16, h17, h18⟩ := id hQ
  by_cases hb : px_b a1 nb
  · obtain ⟨I2, d1, d2, d3⟩ := px_mfill hQ
    have hx : fX11_ringer a1 I P = some (-2, I) := by
      unfold fX11_ringer fX11_ringer_28
      rw [px_Bell_b h5 hb, px_bd, if_pos rfl]
    have hm : fX12_ringer a1 I = some (-2, I2) := by
      unfold fX12_ringer fX12_ringer_22
      rw [d1, px_bd, px_mBell_b (by omega) (by rw [d3 73 (by unfold rx_sc; omega)]; exact h8) hb, px_bd, if_pos rfl]
    exact lz_q _ hR (fun Q hQ => mX11_ringer_ok hB hx hQ) (fun Q hQ => mX12_ringer_ok hB hm hQ) d3
  · obtain ⟨b, hb2, rfl⟩ := px_of hb (by omega)
    obtain ⟨I1, c1, c2⟩ := px_chosen (rx_dyn25 h15) h1 (by omega) h4 h12 h16 h18 (b := b)
    rw [h10 b hb2] at c1
    have c4 : ∀ r, ¬ rx_sc r → I1 r = I r := fun r hr => c2 r (by unfold rx_sc at hr; omega) (by unfold rx_sc at hr; omega)
    have hx : fX11_ringer (nI b) I P = some ((sp_rg F (hrs b) w b np).1, I1) := by
      unfold fX11_ringer fX11_ringer_28
      rw [px_Bell_n h5 hb, px_bd, if_neg (by decide), h14, px_bd, c1, px_bd]
    have hQ1 := rx_Q_sc hQ c4
    obtain ⟨I2, d1, d2, d3⟩ := px_mfill hQ1
    have hQ2 := rx_Q_sc hQ1 d3
    obtain ⟨g1, g2, g3, g4, g5, g6, g7, g8, g9, g10, g11, g12, g13, g14, g15, g16, g17, g18⟩ := id hQ2
    obtain ⟨I3, k1, k2⟩ := px_ringerOf g1 (show b < 5 by omega) g7 g13 d2 g18
    rw [g11 b hb2] at k1
    have hm : fX12_ringer (nI b) I1 = some ((sp_rg F (hrs b) w b np).1, I3) := by
      unfold fX12_ringer fX12_ringer_22
      rw [d1, px_bd, px_mBell_n (by omega) g8 hb, px_bd, if_neg (by decide), k1, px_bd]
    exact lz_q _ hR (fun Q hQ => mX11_ringer_ok hB hx hQ) (fun Q hQ => mX12_ringer_ok hB hm hQ) (fun r hr => (k2 r (by unfold rx_sc at hr; omega) (by unfold rx_sc at hr; omega)).trans ((d3 r hr).trans (c4 r hr)))
theorem pr_weight (hR : rx_R S I J P) (a1 a2 : Int32) : lz_pr l G rx_R mX11_weight 2 mX12_weight 3 [.int a1, .int a2] S I J P := by
  have hB := hR.1
  obtain ⟨np, nb, fa, hrs, F, q, w, hQ⟩ := rx_R_Q hR
  obtain ⟨h1, h2, h3, h4, h5, h6, h7, h8, h9, h10, h11, h12, h13, h14, h15, h16, h17, h18⟩ := id hQ
  by_cases ha : px_b a1 np
  · obtain ⟨I2, d1, d2, d3⟩ := px_mfill hQ
    have hx : fX11_weight a1 a2 I P = some (-1000000000, I) := by
      unfold fX11_weight
      rw [px_Pair_b1 h4 ha, px_bd, if_pos rfl]
    have hm : fX12_weight a1 a2 I = some (-1000000000, I2) := by
      unfold fX12_weight fX12_weight_29 fX12_weight_32
      rw [d1, px_bd, px_mPerson_b (by omega) (by rw [d3 73 (by unfold rx_sc; omega)]; exact h7) ha, px_bd, if_pos rfl]
    exact lz_q _ hR (fun Q hQ => mX11_weight_ok hB hx hQ) (fun Q hQ => mX12_weight_ok hB hm hQ) d3
  · by_cases hb : px_b a2 nb
    · obtain ⟨I2, d1, d2, d3⟩ := px_mfill hQ
      have hx : fX11_weight a1 a2 I P = some (-1000000000, I) := by
        unfold fX11_weight
        rw [px_Pair_b2 h4 h5 ha hb, px_bd, if_pos rfl]
      have hm : fX12_weight a1 a2 I = some (-1000000000, I2) := by
        unfold fX12_weight fX12_weight_29 fX12_weight_32
        rw [d1, px_bd, px_mPerson_n (by omega) (by rw [d3 73 (by unfold rx_sc; omega)]; exact h7) ha, px_bd, if_neg (by decide), px_mBell_b (by omega) (by rw [d3 73 (by unfold rx_sc; omega)]; exact h8) hb, px_bd, if_pos rfl]
      exact lz_q _ hR (fun Q hQ => mX11_weight_ok hB hx hQ) (fun Q hQ => mX12_weight_ok hB hm hQ) d3
    · obtain ⟨p, hp, rfl⟩ := px_of ha (by omega)
      obtain ⟨b, hb2, rfl⟩ := px_of hb (by omega)
      have hh := rx_ok_h h18 h1
      obtain ⟨I1, c1, c2⟩ := h12 I q p b (w 12) (I 5 b) rfl rfl (rx_dyn25 h15) (by omega) (by omega) (rx_here h16) hh
      have ev : F (I (q + 3) (5 * p + b)) (I (q + 1) p) (I (q + 2) p) (I 5 b) (nI (rx_pop (w 12))) (I q 4) = sp_wt F (hrs b) w p b := by
        unfold sp_wt
        rw [rx_loss h16 (by omega), rx_has h16 h1 hp, rx_rang h16 (by omega), h10 b hb2, rx_day h16, Nat.add_assoc]
      rw [ev] at c1
      have c4 : ∀ r, ¬ rx_sc r → I1 r = I r := fun r hr => c2 r (by unfold rx_sc at hr; omega) (by unfold rx_sc at hr; omega)
      have hx : fX11_weight (nI p) (nI b) I P = some (sp_wt F (hrs b) w p b, I1) := by
        unfold fX11_weight
        rw [px_Pair_n h4 h5 ha hb, px_bd, if_neg (by decide), h14, px_bd, px_gd (px_ix (by omega) (by decide)), nI_clamp (by omega), c1, px_bd]
      have hQ1 := rx_Q_sc hQ c4
      obtain ⟨I2, d1, d2, d3⟩ := px_mfill hQ1
      obtain ⟨g1, g2, g3, g4, g5, g6, g7, g8, g9, g10, g11, g12, g13, g14, g15, g16, g17, g18⟩ := rx_Q_sc hQ1 d3
      obtain ⟨I3, k1, k2⟩ := g13 I2 p b (w 12) rfl rfl rfl rfl (by omega) (by omega) (d2 12 (by decide) (fun h => absurd h (by decide))) hh
      have ev2 : F (I2 90 (13 + 5 * p + b)) (I2 90 p) (I2 90 (6 + p)) (I2 87 b) (nI (rx_pop (w 12))) (I2 90 43) = sp_wt F (hrs b) w p b := by
        unfold sp_wt
        rw [d2 (13 + 5 * p + b) (by omega) (fun h => by omega), d2 p (by omega) (fun _ => hp), d2 (6 + p) (by omega) (fun h => by omega), g11 b hb2, d2 43 (by decide) (fun h => absurd h (by decide))]
      rw [ev2] at k1
      have hm : fX12_weight (nI p) (nI b) I1 = some (sp_wt F (hrs b) w p b, I3) := by
        unfold fX12_weight fX12_weight_32
        rw [d1, px_bd, px_mPerson_n (by omega) g7 ha, px_bd, if_neg (by decide), px_mBell_n (by omega) g8 hb, px_bd, if_neg (by decide), k1, px_bd]
      exact lz_q _ hR (fun Q hQ => mX11_weight_ok hB hx hQ) (fun Q hQ => mX12_weight_ok hB hm hQ) (fun r hr => (k2 r (by unfold rx_sc at hr; omega) (by unfold rx_sc at hr; omega)).trans ((d3 r hr).trans (c4 r hr)))
theorem pr_purse (hR : rx_R S I J P) (a1 a2 : Int32) : lz_pr l G rx_R mX11_purse 6 mX12_purse 6 [.int a1, .int a2] S I J P := by
  have hB := hR.1
  obtain ⟨np, nb, fa, hrs, F, q, w, hQ⟩ := rx_R_Q hR
  obtain ⟨h1, h2, h3, h4, h5, h6, h7, h8, h9, h10, h11, h12, h13, h14, h15, h16, h17, h18⟩ := id hQ
  by_cases ha : px_b a1 np
  · have hx : fX11_purse a1 a2 I P = some (-1, I) := by
      unfold fX11_purse fX11_purse_21
      rw [px_Person_b h4 ha, px_bd, if_pos rfl]
    have hm : fX12_purse a1 a2 I = some (-1, I) := by
      unfold fX12_purse fX12_purse_18
      rw [px_mPerson_b (by omega) h7 ha, px_bd, if_pos rfl]
    exact lz_q _ hR (fun Q hQ => mX11_purse_ok hB hx hQ) (fun Q hQ => mX12_purse_ok hB hm hQ) (fun _ _ => rfl)
  · by_cases hb : a2 < 0 ∨ (60 : Int32) < a2
    · have hx : fX11_purse a1 a2 I P = some (-1, I) := by
        unfold fX11_purse fX11_purse_21
        rw [px_Person_n h4 ha, px_bd, if_neg (by decide), px_within, if_pos hb, px_bd, if_pos rfl]
      have hm : fX12_purse a1 a2 I = some (-1, I) := by
        unfold fX12_purse fX12_purse_18
        rw [px_mPerson_n (by omega) h7 ha, px_bd, if_neg (by decide), px_isIn, if_pos hb, px_bd, if_pos rfl]
      exact lz_q _ hR (fun Q hQ => mX11_purse_ok hB hx hQ) (fun Q hQ => mX12_purse_ok hB hm hQ) (fun _ _ => rfl)
    · obtain ⟨p, hp, rfl⟩ := px_of ha (by omega)
      obtain ⟨n, -, hn60, rfl⟩ := px_w60 0 hb (by decide)
      obtain ⟨I1, c1, c2, c3, c4⟩ := px_passDays hQ hn60 false
      rw [show ((if false = true then 1 else 0) : Int32) = 0 from rfl] at c1
      have hx : fX11_purse (nI p) (nI n) I P = some (nI ((sp_go F hrs np false fa nb w n).1 p), I1) := by
        unfold fX11_purse
        rw [px_Person_n h4 ha, px_bd, if_neg (by decide), px_within, if_neg hb, px_bd, if_neg (by decide), h14, px_bd, c1, px_bd, px_gd (px_ix (by omega) (by decide)), nI_clamp (by omega)]
        dsimp only
        rw [rx_has c2 h1 hp]
      have hQ1 := rx_Q_sc hQ c4
      obtain ⟨I2, d1, d2, d3⟩ := px_mfill hQ1
      have key := px_for (body := fun s : Int32 × ab_I => fX12_purse_26 (nI p) (nI n) s.1 s.2) (Out := fun r : Int32 × ab_I => r.1 = nI ((sp_go F hrs np false fa nb w n).1 p) ∧ ∀ k, ¬ rx_sc k → r.2 k = I1 k)
        (fun i s => s.1 = nI i ∧ rx_is np (s.2 90) (sp_go F hrs np false fa nb w i).1 ∧ ∀ k, ¬ rx_sc k → s.2 k = I1 k) n ?_ ?_ n 0 5000 (0, I2) (by omega) (by omega) ⟨rfl, d2, d3⟩
      · obtain ⟨r, k1, k2, k3⟩ := key
        have hm : fX12_purse (nI p) (nI n) I1 = some (nI ((sp_go F hrs np false fa nb w n).1 p), r.2) := by
          unfold fX12_purse
          rw [px_mPerson_n (by omega) hQ1.2.2.2.2.2.2.1 ha, px_bd, if_neg (by decide), px_isIn, if_neg hb, px_bd, if_neg (by decide), d1, px_bd, k1, ← k2]
        exact lz_q _ hR (fun Q hQ => mX11_purse_ok hB hx hQ) (fun Q hQ => mX12_purse_ok hB hm hQ) (fun r' hr => (k3 r' hr).trans (c4 r' hr))
      · rintro i ⟨a4, I3⟩ hi ⟨e4, ew, eI⟩
        dsimp only at e4 ew eI ⊢
        subst e4
        obtain ⟨I4, k1, k2, k3, k4⟩ := px_mgo hQ1 false ew eI
        rw [show ((if false = true then 1 else 0) : Int32) = 0 from rfl] at k1
        unfold fX12_purse_26
        rw [if_neg (nI_ge hi (by omega)), k1, px_bd]
        exact ⟨_, rfl, (nI_succ i).symm, k2, k4⟩
      · rintro ⟨a4, I3⟩ ⟨e4, ew, eI⟩
        dsimp only at e4 ew eI ⊢
        subst e4
        refine ⟨(nI ((sp_go F hrs np false fa nb w n).1 p), I3), ?_, rfl, eI⟩
        unfold fX12_purse_26 fX12_purse_43
        rw [if_pos (nI_le (Nat.le_refl _) (by omega)), px_gd (px_ix (by omega) (by decide)), nI_clamp (by omega), ew p (by omega) (fun _ => hp)]
        rfl
end PR3
