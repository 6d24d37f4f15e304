/-! ===== pairs: fault, hour, loss, lies, about, later, untell, end ===== -/
section RXN
variable {I : ab_I} {q np nb : Nat} {w : Nat → Nat}
theorem rx_here (h : rx_is np (rx_v I q) w) : I q 3 = nI (w 12) := by have := h 12 (by decide) (fun h => absurd h (by decide)); simpa [rx_v] using this
theorem rx_day (h : rx_is np (rx_v I q) w) : I q 4 = nI (w 43) := by have := h 43 (by decide) (fun h => absurd h (by decide)); simpa [rx_v] using this
theorem rx_seed (h : rx_is np (rx_v I q) w) : I q 5 = nI (w 44) := by have := h 44 (by decide) (fun h => absurd h (by decide)); simpa [rx_v] using this
theorem rx_has (h : rx_is np (rx_v I q) w) (hn : np ≤ 6) {p : Nat} (hp : p < np) : I (q + 1) p = nI (w p) := by
  have := h p (by omega) (fun _ => hp)
  unfold rx_v at this
  rwa [if_pos (by omega)] at this
theorem rx_rang (h : rx_is np (rx_v I q) w) {p : Nat} (hp : p < 6) : I (q + 2) p = nI (w (6 + p)) := by
  have := h (6 + p) (by omega) (fun h => by omega)
  unfold rx_v at this
  rwa [if_neg (by omega), if_pos (by omega), Nat.add_sub_cancel_left] at this
theorem rx_loss (h : rx_is np (rx_v I q) w) {c : Nat} (hc : c < 30) : I (q + 3) c = nI (w (13 + c)) := by
  have := h (13 + c) (by omega) (fun h => by omega)
  unfold rx_v at this
  rwa [if_neg (by omega), if_neg (by omega), if_neg (by omega), if_pos (by omega), Nat.add_sub_cancel_left] at this
end RXN
section PR1
variable {l : Launch} {G : ab_G} {S : ab_S} {I : ab_I} {J : ab_J} {P : ab_P}
theorem pr_fault (hR : rx_R S I J P) (a1 : Int32) : lz_pr l G rx_R mX11_fault 0 mX12_fault 0 [.int a1] S I J P := by
  obtain ⟨hB, hZ, ⟨i, hS⟩, np, nb, nl, fa, lc, dr, t, F, hG, ⟨q, w, hN⟩, ⟨dn, kp, hA⟩, ⟨bf, hX⟩, ⟨c, hL⟩, ⟨z, hP⟩, hU, cn, tm, hW⟩ := id hR
  have hx : fX11_fault a1 I = some (if a1 = 0 then I 0 13 else if a1 = 1 then I 0 14 else -1) := by
    unfold fX11_fault fX11_fault_43
    split
    · rfl
    · split <;> rfl
  have hm : fX12_fault a1 I = some (if a1 = 0 then I 0 13 else if a1 = 1 then I 0 14 else -1) := by
    unfold fX12_fault fX12_fault_24
    rw [hU.1, hU.2]
    split
    · rfl
    · split <;> rfl
  exact lz_q _ hR (fun Q hQ => mX11_fault_ok hB hx hQ) (fun Q hQ => mX12_fault_ok hB hm hQ) (fun _ _ => rfl)
theorem pr_hour (hR : rx_R S I J P) (a1 : Int32) : lz_pr l G rx_R mX11_hour 1 mX12_hour 2 [.int a1] S I J P := by
  obtain ⟨hB, hZ, ⟨i, hS⟩, np, nb, nl, fa, lc, dr, t, F, hG, ⟨q, w, hN⟩, ⟨dn, kp, hA⟩, ⟨bf, hX⟩, ⟨c, hL⟩, ⟨z, hP⟩, hU, cn, tm, hW⟩ := id hR
  obtain ⟨v1, v2, v3, v4, v5, v6, v7, v8, v9, v10, v11, v12, v13, v14⟩ := hG.1
  by_cases hb : px_b a1 nb
  · have hx : fX11_hour a1 I = some (-1) := by
      unfold fX11_hour fX11_hour_24
      rw [px_Bell_b v7 hb, px_bd, if_pos rfl]
    have hm : fX12_hour a1 I = some (-1) := by
      unfold fX12_hour fX12_hour_18
      rw [px_mBell_b (by omega) v8 hb, px_bd, if_pos rfl]
    exact lz_q _ hR (fun Q hQ => mX11_hour_ok hB hx hQ) (fun Q hQ => mX12_hour_ok hB hm hQ) (fun _ _ => rfl)
  · obtain ⟨j, hj, rfl⟩ := px_of hb (by omega)
    have hx : fX11_hour (nI j) I = some (I 5 j) := by
      unfold fX11_hour fX11_hour_24
      rw [px_Bell_n v7 hb, px_bd, if_neg (by decide), px_gd (px_ix (by omega) (by decide)), nI_clamp (by omega)]
    have hm : fX12_hour (nI j) I = some (I 5 j) := by
      unfold fX12_hour fX12_hour_18
      rw [px_mBell_n (by omega) v8 hb, px_bd, if_neg (by decide), px_gd (px_ix (by omega) (by decide)), nI_clamp (by omega), v13 j hj]
    exact lz_q _ hR (fun Q hQ => mX11_hour_ok hB hx hQ) (fun Q hQ => mX12_hour_ok hB hm hQ) (fun _ _ => rfl)
theorem pr_loss (hR : rx_R S I J P) (a1 a2 : Int32) : lz_pr l G rx_R mX11_loss 2 mX12_loss 2 [.int a1, .int a2] S I J P := by
  obtain ⟨hB, hZ, ⟨i, hS⟩, np, nb, nl, fa, lc, dr, t, F, hG, ⟨q, w, hN⟩, ⟨dn, kp, hA⟩, ⟨bf, hX⟩, ⟨c, hL⟩, ⟨z, hP⟩, hU, cn, tm, hW⟩ := id hR
  obtain ⟨v1, v2, v3, v4, v5, v6, v7, v8, v9, v10, v11, v12, v13, v14⟩ := hG.1
  obtain ⟨n1, n2, n3, n4, n5⟩ := hN
  by_cases ha : px_b a1 np
  · have hx : fX11_loss a1 a2 I P = some (-1) := by
      unfold fX11_loss fX11_loss_29
      rw [px_Pair_b1 v5 ha, px_bd, if_pos rfl]
    have hm : fX12_loss a1 a2 I = some (-1) := by
      unfold fX12_loss fX12_loss_32 fX12_loss_33
      rw [px_mPerson_b (by omega) v6 ha, px_bd, if_pos rfl]
    exact lz_q _ hR (fun Q hQ => mX11_loss_ok hB hx hQ) (fun Q hQ => mX12_loss_ok hB hm hQ) (fun _ _ => rfl)
  · by_cases hb : px_b a2 nb
    · have hx : fX11_loss a1 a2 I P = some (-1) := by
        unfold fX11_loss fX11_loss_29
        rw [px_Pair_b2 v5 v7 ha hb, px_bd, if_pos rfl]
      have hm : fX12_loss a1 a2 I = some (-1) := by
        unfold fX12_loss fX12_loss_32 fX12_loss_33
        rw [px_mPerson_n (by omega) v6 ha, px_bd, if_neg (by decide), px_mBell_b (by omega) v8 hb, px_bd, if_pos rfl]
      exact lz_q _ hR (fun Q hQ => mX11_loss_ok hB hx hQ) (fun Q hQ => mX12_loss_ok hB hm hQ) (fun _ _ => rfl)
    · obtain ⟨p, hp, rfl⟩ := px_of ha (by omega)
      obtain ⟨b, hb2, rfl⟩ := px_of hb (by omega)
      have hx : fX11_loss (nI p) (nI b) I P = some (nI (w (13 + 5 * p + b))) := by
        unfold fX11_loss fX11_loss_29
        rw [px_Pair_n v5 v7 ha hb, px_bd, if_neg (by decide), n1, px_bd, px_cell, px_bd, px_gd (px_ix (by omega) (by decide)), nI_clamp (by omega), rx_loss n3 (by omega), Nat.add_assoc]
      have hm : fX12_loss (nI p) (nI b) I = some (nI (w (13 + 5 * p + b))) := by
        unfold fX12_loss fX12_loss_33
        rw [px_mPerson_n (by omega) v6 ha, px_bd, if_neg (by decide), px_mBell_n (by omega) v8 hb, px_bd, if_neg (by decide), px_mcell, px_gd (px_ix (by omega) (by decide)), nI_clamp (by omega), n4 _ (by omega) (fun h => by omega)]
      exact lz_q _ hR (fun Q hQ => mX11_loss_ok hB hx hQ) (fun Q hQ => mX12_loss_ok hB hm hQ) (fun _ _ => rfl)
theorem pr_lies (hR : rx_R S I J P) (a1 : Int32) : lz_pr l G rx_R mX11_lies 0 mX12_lies 1 [.int a1] S I J P := by
  obtain ⟨hB, hZ, ⟨i, hS⟩, np, nb, nl, fa, lc, dr, t, F, hG, ⟨q, w, hN⟩, ⟨dn, kp, hA⟩, ⟨bf, hX⟩, ⟨c, hL⟩, ⟨z, hP⟩, hU, cn, tm, hW⟩ := id hR
  obtain ⟨l1, l2, l3, l4⟩ := hL
  by_cases hb : px_b a1 c
  · have hx : fX11_lies a1 I = some (-2) := by
      unfold fX11_lies fX11_lies_21 fX11_lies_23
      rw [l2]
      by_cases h1 : a1 < 0
      · rw [if_pos h1]
      · rw [if_neg h1, if_pos (hb.resolve_left h1)]
    have hm : fX12_lies a1 I = some (-2) := by
      unfold fX12_lies fX12_lies_25
      rw [l3, px_isIn_b (by omega) hb, px_bd, if_pos rfl]
    exact lz_q _ hR (fun Q hQ => mX11_lies_ok hB hx hQ) (fun Q hQ => mX12_lies_ok hB hm hQ) (fun _ _ => rfl)
  · obtain ⟨j, hj, rfl⟩ := px_of hb (by omega)
    have hx : fX11_lies (nI j) I = some (I 55 j) := by
      unfold fX11_lies fX11_lies_23
      rw [l2, if_neg (fun h => hb (Or.inl h)), if_neg (fun h => hb (Or.inr h)), px_gd (px_ix (by omega) (by decide)), nI_clamp (by omega)]
    have hm : fX12_lies (nI j) I = some (I 55 j) := by
      unfold fX12_lies fX12_lies_25
      rw [l3, px_isIn_n (by omega) hb, px_bd, if_neg (by decide), px_gd (px_ix (by omega) (by decide)), nI_clamp (by omega), l4 j hj]
    exact lz_q _ hR (fun Q hQ => mX11_lies_ok hB hx hQ) (fun Q hQ => mX12_lies_ok hB hm hQ) (fun _ _ => rfl)
set_option maxRecDepth 10000 in
theorem pr_about (hR : rx_R S I J P) (a1 : Int32) : lz_pr l G rx_R mX11_about 0 mX12_about 0 [.int a1] S I J P := by
  obtain ⟨hB, hZ, ⟨i, hS⟩, np, nb, nl, fa, lc, dr, t, F, hG, ⟨q, w, hN⟩, ⟨dn, kp, hA⟩, ⟨bf, hX⟩, ⟨c, hL⟩, ⟨z, hP⟩, hU, cn, tm, hW⟩ := id hR
  obtain ⟨v1, v2, v3, v4, v5, v6, v7, v8, v9, v10, v11, v12, v13, v14⟩ := hG.1
  obtain ⟨n1, n2, n3, n4, n5⟩ := hN
  have e12 : I 89 12 = nI (w 12) := n4 12 (by decide) (fun h => absurd h (by decide))
  have e43 : I 89 43 = nI (w 43) := n4 43 (by decide) (fun h => absurd h (by decide))
  have e44 : I 89 44 = nI (w 44) := n4 44 (by decide) (fun h => absurd h (by decide))
  have g12 : ab_gd (ab_ix (12 : Int32) 45 = true) (some (I 89 ((12 : Int32).toNatClampNeg))) = some (nI (w 12)) := by rw [← e12]; rfl
  have g43 : ab_gd (ab_ix (43 : Int32) 45 = true) (some (I 89 ((43 : Int32).toNatClampNeg))) = some (nI (w 43)) := by rw [← e43]; rfl
  have g44 : ab_gd (ab_ix (44 : Int32) 45 = true) (some (I 89 ((44 : Int32).toNatClampNeg))) = some (nI (w 44)) := by rw [← e44]; rfl
  have key : ∃ v, fX11_about a1 I P = some v ∧ fX12_about a1 I = some v := by
    unfold fX11_about fX11_about_221 fX12_about
    rw [n1, g12, g43, g44, v6, v5, v8, v7, v10, v9, hA.2.2.1, hA.2.2.2.1, hA.2.2.2.2.1, hA.2.2.2.2.2.1, pk_sub hA.1, hW.2.2.1, hW.2.2.2.1, hW.2.2.2.2.1, hW.2.2.2.2.2.1, hP.2.1, hP.2.2.1, v14, hL.2.1, hL.2.2.1, v11, v12]
    simp only [px_bd, rx_here n3, rx_day n3, rx_seed n3]
    by_cases h0 : a1 = 0
    · rw [if_pos h0]; exact ⟨_, rfl, rfl⟩
    rw [if_neg h0]
    by_cases h1 : a1 = 1
    · rw [if_pos h1]; exact ⟨_, rfl, rfl⟩
    rw [if_neg h1]
    by_cases h2 : a1 = 2
    · rw [if_pos h2]; exact ⟨_, rfl, rfl⟩
    rw [if_neg h2]
    by_cases h3 : a1 = 3
    · rw [if_pos h3]; exact ⟨_, rfl, rfl⟩
    rw [if_neg h3]
    by_cases h4 : a1 = 4
    · rw [if_pos h4]; exact ⟨_, rfl, rfl⟩
    rw [if_neg h4]
    by_cases h5 : a1 = 5
    · rw [if_pos h5]; exact ⟨_, rfl, rfl⟩
    rw [if_neg h5]
    by_cases h6 : a1 = 6
    · rw [if_pos h6]; exact ⟨_, rfl, rfl⟩
    rw [if_neg h6]
    by_cases h7 : a1 = 7
    · rw [if_pos h7]; exact ⟨_, rfl, rfl⟩
    rw [if_neg h7]
    by_cases h8 : a1 = 8
    · rw [if_pos h8]; exact ⟨_, rfl, rfl⟩
    rw [if_neg h8]
    by_cases h9 : a1 = 9
    · rw [if_pos h9]; exact ⟨_, rfl, rfl⟩
    rw [if_neg h9]
    by_cases h10 : a1 = 10
    · rw [if_pos h10]; exact ⟨_, rfl, rfl⟩
    rw [if_neg h10]
    by_cases h11 : a1 = 11
    · rw [if_pos h11]; exact ⟨_, rfl, rfl⟩
    rw [if_neg h11]
    by_cases h12 : a1 = 12
    · rw [if_pos h12]; exact ⟨_, rfl, rfl⟩
    rw [if_neg h12]
    by_cases h13 : a1 = 13
    · rw [if_pos h13]; exact ⟨_, rfl, rfl⟩
    rw [if_neg h13]
    exact ⟨_, rfl, rfl⟩
  obtain ⟨v, hx, hm⟩ := key
  exact lz_q _ hR (fun Q hQ => mX11_about_ok hB hx hQ) (fun Q hQ => mX12_about_ok hB hm hQ) (fun _ _ => rfl)
end PR1
