/-! ===== R again, one part being new ===== -/
theorem rx_R_W {S : ab_S} {I I' : ab_I} {J : ab_J} {P : ab_P} {np nb nl fa lc dr q dn kp bf c z cn2 tm2 : Nat} {t w : Nat → Nat} {F : Int32 → Int32 → Int32 → Int32 → Int32 → Int32 → Int32} (hB : bz_B S P) (hZ : bz_Z S.length I J P) (hS : ∃ i, S.length = 109 + 4 * i) (hG : rx_G I np nb nl fa t lc dr F) (hN : rx_N I P np nb q w) (hA : rx_A I P np nb dn kp) (hX : rx_X I np nb bf) (hL : rx_L I c) (hP : rx_P I z) (hU : rx_U I) (h : ∀ r k, ¬ rx_dW r k → ¬ rx_sc r → I' r k = I r k) (hW : rx_W I' np nb cn2 tm2) : rx_R S I' J P := by
  obtain ⟨i, hi⟩ := hS
  refine ⟨hB, fun r hr => ?_, ⟨i, hi⟩, np, nb, nl, fa, lc, dr, t, F, rx_G_c hG (fun r k hd => ?_), ⟨q, w, rx_N_c hN (fun r k hd => ?_)⟩, ⟨dn, kp, rx_A_c hA (fun r k hd => ?_)⟩, ⟨bf, rx_X_c hX (fun r k hd => ?_)⟩, ⟨c, rx_L_c hL (fun r k hd => ?_)⟩, ⟨z, rx_P_c hP (fun r k hd => ?_)⟩, rx_U_c hU (fun r k hd => ?_), cn2, tm2, hW⟩
  · obtain ⟨z1, z2, z3⟩ := hZ r hr
    exact ⟨by rw [← z1]; exact funext fun k => h r k (by unfold rx_dW; omega) (by unfold rx_sc; omega), z2, z3⟩
  · exact h r k (by unfold rx_dW; unfold rx_dG at hd; omega) (by unfold rx_sc; unfold rx_dG at hd; omega)
  · exact h r k (by unfold rx_dW; unfold rx_dN rx_dD at hd; omega) (by unfold rx_sc; unfold rx_dN rx_dD at hd; omega)
  · exact h r k (by unfold rx_dW; unfold rx_dA rx_dD at hd; omega) (by unfold rx_sc; unfold rx_dA rx_dD at hd; omega)
  · exact h r k (by unfold rx_dW; unfold rx_dX at hd; omega) (by unfold rx_sc; unfold rx_dX at hd; omega)
  · exact h r k (by unfold rx_dW; unfold rx_dL at hd; omega) (by unfold rx_sc; unfold rx_dL at hd; omega)
  · exact h r k (by unfold rx_dW; unfold rx_dP at hd; omega) (by unfold rx_sc; unfold rx_dP at hd; omega)
  · exact h r k (by unfold rx_dW; unfold rx_dU at hd; omega) (by unfold rx_sc; unfold rx_dU at hd; omega)
theorem rx_R_L {S : ab_S} {I I' : ab_I} {J : ab_J} {P : ab_P} {np nb nl fa lc dr q dn kp bf z cn tm c2 : Nat} {t w : Nat → Nat} {F : Int32 → Int32 → Int32 → Int32 → Int32 → Int32 → Int32} (hB : bz_B S P) (hZ : bz_Z S.length I J P) (hS : ∃ i, S.length = 109 + 4 * i) (hG : rx_G I np nb nl fa t lc dr F) (hN : rx_N I P np nb q w) (hA : rx_A I P np nb dn kp) (hX : rx_X I np nb bf) (hP : rx_P I z) (hU : rx_U I) (hW : rx_W I np nb cn tm) (h : ∀ r k, ¬ rx_dL r k → ¬ rx_sc r → I' r k = I r k) (hL : rx_L I' c2) : rx_R S I' J P := by
  obtain ⟨i, hi⟩ := hS
  refine ⟨hB, fun r hr => ?_, ⟨i, hi⟩, np, nb, nl, fa, lc, dr, t, F, rx_G_c hG (fun r k hd => ?_), ⟨q, w, rx_N_c hN (fun r k hd => ?_)⟩, ⟨dn, kp, rx_A_c hA (fun r k hd => ?_)⟩, ⟨bf, rx_X_c hX (fun r k hd => ?_)⟩, ⟨c2, hL⟩, ⟨z, rx_P_c hP (fun r k hd => ?_)⟩, rx_U_c hU (fun r k hd => ?_), cn, tm, rx_W_c hW (fun r k hd => ?_)⟩
  · obtain ⟨z1, z2, z3⟩ := hZ r hr
    exact ⟨by rw [← z1]; exact funext fun k => h r k (by unfold rx_dL; omega) (by unfold rx_sc; omega), z2, z3⟩
  · exact h r k (by unfold rx_dL; unfold rx_dG at hd; omega) (by unfold rx_sc; unfold rx_dG at hd; omega)
  · exact h r k (by unfold rx_dL; unfold rx_dN rx_dD at hd; omega) (by unfold rx_sc; unfold rx_dN rx_dD at hd; omega)
  · exact h r k (by unfold rx_dL; unfold rx_dA rx_dD at hd; omega) (by unfold rx_sc; unfold rx_dA rx_dD at hd; omega)
  · exact h r k (by unfold rx_dL; unfold rx_dX at hd; omega) (by unfold rx_sc; unfold rx_dX at hd; omega)
  · exact h r k (by unfold rx_dL; unfold rx_dP at hd; omega) (by unfold rx_sc; unfold rx_dP at hd; omega)
  · exact h r k (by unfold rx_dL; unfold rx_dU at hd; omega) (by unfold rx_sc; unfold rx_dU at hd; omega)
  · exact h r k (by unfold rx_dL; unfold rx_dW at hd; omega) (by unfold rx_sc; unfold rx_dW at hd; omega)
theorem rx_R_P {S : ab_S} {I I' : ab_I} {J : ab_J} {P : ab_P} {np nb nl fa lc dr q dn kp bf c cn tm z2 : Nat} {t w : Nat → Nat} {F : Int32 → Int32 → Int32 → Int32 → Int32 → Int32 → Int32} (hB : bz_B S P) (hZ : bz_Z S.length I J P) (hS : ∃ i, S.length = 109 + 4 * i) (hG : rx_G I np nb nl fa t lc dr F) (hN : rx_N I P np nb q w) (hA : rx_A I P np nb dn kp) (hX : rx_X I np nb bf) (hL : rx_L I c) (hU : rx_U I) (hW : rx_W I np nb cn tm) (h : ∀ r k, ¬ rx_dP r k → ¬ rx_sc r → I' r k = I r k) (hP : rx_P I' z2) : rx_R S I' J P := by
  obtain ⟨i, hi⟩ := hS
  refine ⟨hB, fun r hr => ?_, ⟨i, hi⟩, np, nb, nl, fa, lc, dr, t, F, rx_G_c hG (fun r k hd => ?_), ⟨q, w, rx_N_c hN (fun r k hd => ?_)⟩, ⟨dn, kp, rx_A_c hA (fun r k hd => ?_)⟩, ⟨bf, rx_X_c hX (fun r k hd => ?_)⟩, ⟨c, rx_L_c hL (fun r k hd => ?_)⟩, ⟨z2, hP⟩, rx_U_c hU (fun r k hd => ?_), cn, tm, rx_W_c hW (fun r k hd => ?_)⟩
  · obtain ⟨z1, z2, z3⟩ := hZ r hr
    exact ⟨by rw [← z1]; exact funext fun k => h r k (by unfold rx_dP; omega) (by unfold rx_sc; omega), z2, z3⟩
  · exact h r k (by unfold rx_dP; unfold rx_dG at hd; omega) (by unfold rx_sc; unfold rx_dG at hd; omega)
  · exact h r k (by unfold rx_dP; unfold rx_dN rx_dD at hd; omega) (by unfold rx_sc; unfold rx_dN rx_dD at hd; omega)
  · exact h r k (by unfold rx_dP; unfold rx_dA rx_dD at hd; omega) (by unfold rx_sc; unfold rx_dA rx_dD at hd; omega)
  · exact h r k (by unfold rx_dP; unfold rx_dX at hd; omega) (by unfold rx_sc; unfold rx_dX at hd; omega)
  · exact h r k (by unfold rx_dP; unfold rx_dL at hd; omega) (by unfold rx_sc; unfold rx_dL at hd; omega)
  · exact h r k (by unfold rx_dP; unfold rx_dU at hd; omega) (by unfold rx_sc; unfold rx_dU at hd; omega)
  · exact h r k (by unfold rx_dP; unfold rx_dW at hd; omega) (by unfold rx_sc; unfold rx_dW at hd; omega)
/-! ===== pairs: later, untell, seen, end ===== -/
section PR2
variable {l : Launch} {G : ab_G} {S : ab_S} {I : ab_I} {J : ab_J} {P : ab_P}
theorem pr_later (hR : rx_R S I J P) (a1 : Int32) : lz_pr l G rx_R mX11_later 1 mX12_later 0 [.int a1] S I J P := by
  obtain ⟨hB, hZ, ⟨i, hS⟩, np, nb, nl, fa, lc, dr, t, F, hG, ⟨q, w, hN⟩, ⟨dn, kp, hA⟩, ⟨bf, hX⟩, ⟨c, hL⟩, ⟨z, hP⟩, hU, cn, tm, hW⟩ := id hR
  obtain ⟨w1, w2, w3, w4, w5, w6, w7⟩ := id hW
  by_cases h1 : a1 < 0 ∨ (1000 : Int32) < a1
  · have hx : fX11_later a1 I = some (-1, I) := by
      unfold fX11_later fX11_later_26
      rw [px_within, if_pos h1, px_bd, if_pos rfl]
    have hm : fX12_later a1 I = some (-1, I) := by
      unfold fX12_later fX12_later_23
      by_cases h2 : a1 < 0
      · rw [if_pos h2]
      · rw [if_neg h2, if_pos (h1.resolve_left h2)]
    exact lz_q _ hR (fun Q hQ => mX11_later_ok hB hx hQ) (fun Q hQ => mX12_later_ok hB hm hQ) (fun _ _ => rfl)
  · have hn1 : ¬ a1 < 0 := fun h => h1 (Or.inl h)
    have hn2 : ¬ (1000 : Int32) < a1 := fun h => h1 (Or.inr h)
    obtain ⟨j, hj, rfl⟩ : ∃ j, j < 1001 ∧ a1 = nI j := by
      refine px_of (fun hb => ?_) (by decide)
      rcases hb with hb | hb
      · exact hn1 hb
      · exact hn2 (Int32.lt_of_lt_of_le (by decide : (1000 : Int32) < nI 1001) hb)
    have hadd : nI tm + nI j = nI (tm + j) := px_add _ _
    by_cases h3 : tm + j ≤ 100000
    · have hle : nI (tm + j) ≤ (100000 : Int32) := nI_le (b := 100000) h3 (by decide)
      have hx : fX11_later (nI j) I = some (nI (tm + j), ab_u I 41 11 (nI (tm + j))) := by
        unfold fX11_later
        rw [px_within, if_neg h1, px_bd, if_neg (by decide), w5, hadd, if_pos hle]
      have hm : fX12_later (nI j) (ab_u I 41 11 (nI (tm + j))) = some (nI (tm + j), ab_u (ab_u I 41 11 (nI (tm + j))) 73 65 (nI (tm + j))) := by
        unfold fX12_later
        rw [if_neg hn1, if_neg hn2, show ab_u I 41 11 (nI (tm + j)) 73 65 = I 73 65 from px_u (by decide), w6, hadd, if_pos hle]
      have hu : ∀ r k, ¬ (r = 41 ∧ k = 11) → ¬ (r = 73 ∧ k = 65) → ab_u (ab_u I 41 11 (nI (tm + j))) 73 65 (nI (tm + j)) r k = I r k := fun r k ha hb => by rw [px_u hb, px_u ha]
      refine ⟨nI (tm + j), S, ab_u I 41 11 (nI (tm + j)), J, P, S, ab_u (ab_u I 41 11 (nI (tm + j))) 73 65 (nI (tm + j)), J, P, fun Q hQ => mX11_later_ok hB hx hQ, fun Q hQ => mX12_later_ok hB hm hQ, hB.1 73 _ rfl, ?_⟩
      refine rx_R_W (cn2 := cn) (tm2 := tm + j) hB hZ ⟨i, hS⟩ hG hN hA hX hL hP hU (fun r k hd _ => hu r k (by unfold rx_dW at hd; omega) (by unfold rx_dW at hd; omega)) ⟨w1, h3, ?_, ?_, ?_, ?_, ?_⟩
      · rw [hu 41 10 (by omega) (by omega)]; exact w3
      · rw [hu 73 64 (by omega) (by omega)]; exact w4
      · rw [px_u (by omega), ab_u_at]
      · rw [ab_u_at]
      · intro k hk
        have := w7 k hk
        simpa only [hu 46 k (by omega) (by omega), hu 98 k (by omega) (by omega), hu 47 k (by omega) (by omega), hu 99 k (by omega) (by omega), hu 48 k (by omega) (by omega), hu 100 k (by omega) (by omega), hu 49 k (by omega) (by omega), hu 103 k (by omega) (by omega), hu 50 k (by omega) (by omega), hu 101 k (by omega) (by omega), hu 51 k (by omega) (by omega), hu 102 k (by omega) (by omega)] using this
    · have hle : ¬ nI (tm + j) ≤ (100000 : Int32) := nI_ge (a := 100000) (by omega) (by omega)
      have hx : fX11_later (nI j) I = some (-1, I) := by
        unfold fX11_later fX11_later_26
        rw [px_within, if_neg h1, px_bd, if_neg (by decide), w5, hadd, if_neg hle]
      have hm : fX12_later (nI j) I = some (-1, I) := by
        unfold fX12_later fX12_later_23
        rw [if_neg hn1, if_neg hn2, w6, hadd, if_neg hle]
      exact lz_q _ hR (fun Q hQ => mX11_later_ok hB hx hQ) (fun Q hQ => mX12_later_ok hB hm hQ) (fun _ _ => rfl)
theorem pr_end (hR : rx_R S I J P) (a1 : Int32) : lz_pr l G rx_R mX11_end 0 mX12_end 0 [.int a1] S I J P := by
  obtain ⟨hB, hZ, ⟨i, hS⟩, np, nb, nl, fa, lc, dr, t, F, hG, ⟨q, w, hN⟩, ⟨dn, kp, hA⟩, ⟨bf, hX⟩, ⟨c, hL⟩, ⟨z, hP⟩, hU, cn, tm, hW⟩ := id hR
  obtain ⟨p1, p2, p3, p4⟩ := id hP
  by_cases hb : px_b a1 (z + 1)
  · have hle : ¬ a1 < 0 → ¬ a1 ≤ nI z := fun h1 h2 => absurd (hb.resolve_left h1) (by
      intro h3
      exact nI_ge (Nat.lt_succ_self z) (by omega) (Int32.le_trans h3 h2))
    have hx : fX11_end a1 I = some (-1, I) := by
      unfold fX11_end fX11_end_15
      rw [p2]
      by_cases h1 : a1 < 0
      · rw [if_pos h1]
      · rw [if_neg h1, if_neg (hle h1)]
    have hm : fX12_end a1 I = some (-1, I) := by
      unfold fX12_end fX12_end_12
      rw [p3]
      by_cases h1 : a1 < 0
      · rw [if_pos h1]
      · rw [if_neg h1, if_neg (hle h1)]
    exact lz_q _ hR (fun Q hQ => mX11_end_ok hB hx hQ) (fun Q hQ => mX12_end_ok hB hm hQ) (fun _ _ => rfl)
  · obtain ⟨j, hj, rfl⟩ := px_of hb (by omega)
    have h1 : ¬ nI j < 0 := fun h => hb (Or.inl h)
    have h2 : nI j ≤ nI z := nI_le (by omega) (by omega)
    have hx : fX11_end (nI j) I = some (nI j, ab_u I 1 1 (nI j)) := by
      unfold fX11_end
      rw [if_neg h1, p2, if_pos h2]
    have hm : fX12_end (nI j) (ab_u I 1 1 (nI j)) = some (nI j, ab_u (ab_u I 1 1 (nI j)) 73 1 (nI j)) := by
      unfold fX12_end
      rw [if_neg h1, show ab_u I 1 1 (nI j) 73 1 = I 73 1 from px_u (by decide), p3, if_pos h2]
    have hu : ∀ r k, ¬ (r = 1 ∧ k = 1) → ¬ (r = 73 ∧ k = 1) → ab_u (ab_u I 1 1 (nI j)) 73 1 (nI j) r k = I r k := fun r k ha hb => by rw [px_u hb, px_u ha]
    refine ⟨nI j, S, ab_u I 1 1 (nI j), J, P, S, ab_u (ab_u I 1 1 (nI j)) 73 1 (nI j), J, P, fun Q hQ => mX11_end_ok hB hx hQ, fun Q hQ => mX12_end_ok hB hm hQ, hB.1 73 _ rfl, ?_⟩
    refine rx_R_P (z2 := j) hB hZ ⟨i, hS⟩ hG hN hA hX hL hU hW (fun r k hd _ => hu r k (by unfold rx_dP at hd; omega) (by unfold rx_dP at hd; omega)) ⟨by omega, ?_, ?_, fun k hk => ?_⟩
    · rw [px_u (by omega), ab_u_at]
    · rw [ab_u_at]
    · rw [hu 74 k (by omega) (by omega), hu 2 k (by omega) (by omega)]
      exact p4 k (by omega)
theorem pr_untell (hR : rx_R S I J P) (a1 : Int32) : lz_pr l G rx_R mX11_untell 1 mX12_untell 1 [.int a1] S I J P := by
  obtain ⟨hB, hZ, ⟨i, hS⟩, np, nb, nl, fa, lc, dr, t, F, hG, ⟨q, w, hN⟩, ⟨dn, kp, hA⟩, ⟨bf, hX⟩, ⟨c, hL⟩, ⟨z, hP⟩, hU, cn, tm, hW⟩ := id hR
  obtain ⟨w1, w2, w3, w4, w5, w6, w7⟩ := id hW
  by_cases hb : px_b a1 cn
  · have hx : fX11_untell a1 I = some (0, I) := by
      unfold fX11_untell fX10_takeOut fX10_takeOut_23
      rw [w3]
      by_cases h1 : a1 < 0
      · rw [if_pos h1, px_bd, px_gd (Or.inl rfl)]
      · rw [if_neg h1, if_pos (hb.resolve_left h1), px_bd, px_gd (Or.inl rfl)]
    have hm : fX12_untell a1 I = some (0, I) := by
      unfold fX12_untell fX12_untell_23
      rw [w4, px_isIn_b (by omega) hb, px_bd, if_pos rfl]
    exact lz_q _ hR (fun Q hQ => mX11_untell_ok hB hx hQ) (fun Q hQ => mX12_untell_ok hB hm hQ) (fun _ _ => rfl)
  · obtain ⟨j, hj, rfl⟩ := px_of hb (by omega)
    have hj31 : j < 2 ^ 31 := by omega
    obtain ⟨d, b, p, tt, c1, c2, c3, c4, c5, c6, c7, c8, c9, c10, c11, c12, c13, c14, c15, c16⟩ := w7 j hj
    rcases c16 with ⟨e1, e2⟩ | ⟨v, ev, e1, e2⟩
    · have hx : fX11_untell (nI j) I = some (1, ab_u I 51 j (nI tm)) := by
        unfold fX11_untell fX10_takeOut
        rw [w3, if_neg (fun h => hb (Or.inl h)), if_neg (fun h => hb (Or.inr h)), px_gd (px_ix (by omega) (by decide)), nI_clamp hj31, e1, if_pos rfl, px_gd (px_ix (by omega) (by decide)), w5, px_bd, px_gd (Or.inr rfl)]
      have hm : fX12_untell (nI j) (ab_u I 51 j (nI tm)) = some (1, ab_u (ab_u I 51 j (nI tm)) 102 j (nI tm)) := by
        unfold fX12_untell
        rw [show ab_u I 51 j (nI tm) 73 64 = I 73 64 from px_u (by omega), show ab_u I 51 j (nI tm) 73 65 = I 73 65 from px_u (by omega), w4, px_isIn_n (by omega) hb, px_bd, if_neg (by decide), px_gd (px_ix (by omega) (by decide)), nI_clamp hj31, show ab_u I 51 j (nI tm) 102 j = I 102 j from px_u (by omega), e2, if_pos (by decide), px_gd (px_ix (by omega) (by decide)), w6]
      have hu : ∀ r k, ¬ (r = 51 ∧ k = j) → ¬ (r = 102 ∧ k = j) → ab_u (ab_u I 51 j (nI tm)) 102 j (nI tm) r k = I r k := fun r k ha hb => by rw [px_u hb, px_u ha]
      refine ⟨1, S, ab_u I 51 j (nI tm), J, P, S, ab_u (ab_u I 51 j (nI tm)) 102 j (nI tm), J, P, fun Q hQ => mX11_untell_ok hB hx hQ, fun Q hQ => mX12_untell_ok hB hm hQ, hB.1 73 _ rfl, ?_⟩
      refine rx_R_W (cn2 := cn) (tm2 := tm) hB hZ ⟨i, hS⟩ hG hN hA hX hL hP hU (fun r k hd _ => hu r k (by unfold rx_dW at hd; omega) (by unfold rx_dW at hd; omega)) ⟨w1, w2, ?_, ?_, ?_, ?_, ?_⟩
      · rw [hu 41 10 (by omega) (by omega)]; exact w3
      · rw [hu 73 64 (by omega) (by omega)]; exact w4
      · rw [hu 41 11 (by omega) (by omega)]; exact w5
      · rw [hu 73 65 (by omega) (by omega)]; exact w6
      · intro k hk
        simp only [hu 46 k (by omega) (by omega), hu 98 k (by omega) (by omega), hu 47 k (by omega) (by omega), hu 99 k (by omega) (by omega), hu 48 k (by omega) (by omega), hu 100 k (by omega) (by omega), hu 49 k (by omega) (by omega), hu 103 k (by omega) (by omega), hu 50 k (by omega) (by omega), hu 101 k (by omega) (by omega)]
        by_cases ek : k = j
        · subst ek
          refine ⟨d, b, p, tt, c1, c2, c3, c4, c5, c6, c7, c8, c9, c10, c11, c12, c13, c14, c15, Or.inr ⟨tm, w2, ?_, ?_⟩⟩
          · rw [px_u (by omega), ab_u_at]
          · rw [ab_u_at]
        · rw [hu 51 k (by omega) (by omega), hu 102 k (by omega) (by omega)]
          exact w7 k hk
    · have hx : fX11_untell (nI j) I = some (0, I) := by
        unfold fX11_untell fX10_takeOut fX10_takeOut_23
        rw [w3, if_neg (fun h => hb (Or.inl h)), if_neg (fun h => hb (Or.inr h)), px_gd (px_ix (by omega) (by decide)), nI_clamp hj31, e1, if_neg, px_bd, px_gd (Or.inl rfl)]
        intro h
        have h2 := congrArg Int32.toInt h
        rw [nI_toInt (by omega)] at h2
        have h3 : (100001 : Int32).toInt = 100001 := by decide
        rw [h3] at h2
        omega
      have hm : fX12_untell (nI j) I = some (0, I) := by
        unfold fX12_untell fX12_untell_23
        rw [w4, px_isIn_n (by omega) hb, px_bd, if_neg (by decide), px_gd (px_ix (by omega) (by decide)), nI_clamp hj31, e2, if_neg (nI_pos (by omega))]
      exact lz_q _ hR (fun Q hQ => mX11_untell_ok hB hx hQ) (fun Q hQ => mX12_untell_ok hB hm hQ) (fun _ _ => rfl)
end PR2
