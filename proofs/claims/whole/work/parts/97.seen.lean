/-! ===== pairs: seen ===== -/
section PR12
variable {S : ab_S} {I : ab_I} {J : ab_J} {P : ab_P} {l : Launch} {G : ab_G}
theorem px_xadd {cn : Nat} {a1 a2 a3 a4 : Int32} (hcn : cn < 30) (h10 : I 41 10 = nI cn) (h4 : a4 = 0 ∨ a4 = 1) : ∃ I', fX10_add a1 a2 a3 a4 I = some (nI cn + 1 - 1, I') ∧ I' 46 cn = a1 ∧ I' 47 cn = a2 ∧ I' 48 cn = a3 ∧ I' 49 cn = a4 ∧ I' 50 cn = I 41 11 ∧ I' 51 cn = 100001 ∧ I' 41 10 = nI (cn + 1) ∧ ∀ r k, ¬ ((46 ≤ r ∧ r ≤ 51) ∧ k = cn) → ¬ (r = 41 ∧ k = 10) → I' r k = I r k := by
  have hlt : nI cn < (30 : Int32) := nI_lt (b := 30) hcn (by decide)
  have hg : ab_ix (nI cn) 30 = true := px_ix hcn (by decide)
  unfold fX10_add
  rw [h10, if_pos hlt, nI_clamp (by omega), px_gd hg, px_gd hg, px_gd hg, px_gd hg, px_gd h4, px_gd hg, px_gd hg]
  refine ⟨_, rfl, ?_, ?_, ?_, ?_, ?_, ?_, ?_, ?_⟩
  · simp [ab_u]
  · simp [ab_u]
  · simp [ab_u]
  · simp [ab_u]
  · simp [ab_u]
  · simp [ab_u]
  · simp [ab_u, nI_succ]
  · intro r k n1 n2
    rw [px_u (by omega), px_u (by omega), px_u (by omega), px_u (by omega), px_u (by omega), px_u (by omega), px_u (by omega)]
theorem px_mseen {cn : Nat} {a1 a2 a3 a4 : Int32} {np nb : Nat} (hcn : cn < 30) (hd : ¬ (a1 < 1 ∨ (12 : Int32) < a1)) (hnp : np ≤ 6) (hnb : nb ≤ 5) (v6 : I 73 39 = nI np) (v8 : I 73 40 = nI nb) (hb : ¬ px_b a2 nb) (hp : ¬ px_b a3 np) (hl : ¬ I 73 41 = 0) (h10 : I 73 64 = nI cn) (h4 : a4 = 0 ∨ a4 = 1) : ∃ I', fX12_seen a1 a2 a3 a4 I = some (nI cn + 1 - 1, I') ∧ I' 98 cn = a1 ∧ I' 99 cn = a2 ∧ I' 100 cn = a3 ∧ I' 103 cn = a4 ∧ I' 101 cn = I 73 65 ∧ I' 102 cn = -1 ∧ I' 73 64 = nI (cn + 1) ∧ ∀ r k, ¬ ((98 ≤ r ∧ r ≤ 103) ∧ k = cn) → ¬ (r = 73 ∧ k = 64) → I' r k = I r k := by
  have hne : ¬ nI cn = (30 : Int32) := fun h => absurd (show (30 : Int32) ≤ nI cn by rw [h]; decide) (nI_ge (b := 30) hcn (by decide))
  have hg : ab_ix (nI cn) 30 = true := px_ix hcn (by decide)
  unfold fX12_seen
  rw [px_isIn, if_neg hd, px_bd, if_neg (by decide), px_mBell_n (by omega) v8 hb, px_bd, if_neg (by decide), px_mPerson_n (by omega) v6 hp, px_bd, if_neg (by decide), if_neg hl, h10, if_neg hne, nI_clamp (by omega), px_gd hg, px_gd hg, px_gd hg, px_gd hg, px_gd h4, px_gd hg, px_gd hg]
  refine ⟨_, rfl, ?_, ?_, ?_, ?_, ?_, ?_, ?_, ?_⟩
  · simp [ab_u]
  · simp [ab_u]
  · simp [ab_u]
  · simp [ab_u]
  · simp [ab_u]
  · simp [ab_u]
  · simp [ab_u, nI_succ]
  · intro r k n1 n2
    rw [px_u (by omega), px_u (by omega), px_u (by omega), px_u (by omega), px_u (by omega), px_u (by omega), px_u (by omega)]
theorem pr_seen (hR : rx_R S I J P) (a1 a2 a3 a4 : Int32) : lz_pr l G rx_R mX11_seen 2 mX12_seen 2 [.int a1, .int a2, .int a3, .int (if a4 = 0 then 0 else 1)] S I J P := by
  obtain ⟨hB, hZ, ⟨i, hS⟩, np, nb, nl, fa, lc, dr, t, F, hG, ⟨q, w, hN⟩, ⟨dn, kp, hA⟩, ⟨bf, hX⟩, ⟨c, hL⟩, ⟨z, hP⟩, hU, cn, tm, hW⟩ := id hR
  obtain ⟨w1, w2, w3, w4, w5, w6, w7⟩ := id hW
  obtain ⟨v1, v2, v3, v4, v5, v6, v7, v8, v9, v10, v11, v12, v13, v14⟩ := hG.1
  have h4 : (if a4 = 0 then (0 : Int32) else 1) = 0 ∨ (if a4 = 0 then (0 : Int32) else 1) = 1 := by
    by_cases h : a4 = 0
    · exact Or.inl (if_pos h)
    · exact Or.inr (if_neg h)
  generalize (if a4 = 0 then (0 : Int32) else 1) = b4 at h4 ⊢
  by_cases hd : a1 < 1 ∨ (12 : Int32) < a1
  · have hx : fX11_seen a1 a2 a3 b4 I = some (-1, I) := by
      unfold fX11_seen fX11_seen_32
      rw [px_within, if_pos hd, px_bd, if_pos rfl]
    have hm : fX12_seen a1 a2 a3 b4 I = some (-1, I) := by
      unfold fX12_seen fX12_seen_42
      rw [px_isIn, if_pos hd, px_bd, if_pos rfl]
    exact lz_q _ hR (fun Q hQ => mX11_seen_ok hB hx hQ) (fun Q hQ => mX12_seen_ok hB hm hQ) (fun _ _ => rfl)
  by_cases hb : px_b a2 nb
  · have hx : fX11_seen a1 a2 a3 b4 I = some (-1, I) := by
      unfold fX11_seen fX11_seen_32
      rw [px_within, if_neg hd, px_bd, if_neg (by decide)]
      by_cases hp : px_b a3 np
      · rw [px_Pair_b1 v5 hp, px_bd, if_pos rfl]
      · rw [px_Pair_b2 v5 v7 hp hb, px_bd, if_pos rfl]
    have hm : fX12_seen a1 a2 a3 b4 I = some (-1, I) := by
      unfold fX12_seen fX12_seen_42
      rw [px_isIn, if_neg hd, px_bd, if_neg (by decide), px_mBell_b (by omega) v8 hb, px_bd, if_pos rfl]
    exact lz_q _ hR (fun Q hQ => mX11_seen_ok hB hx hQ) (fun Q hQ => mX12_seen_ok hB hm hQ) (fun _ _ => rfl)
  by_cases hp : px_b a3 np
  · have hx : fX11_seen a1 a2 a3 b4 I = some (-1, I) := by
      unfold fX11_seen fX11_seen_32
      rw [px_within, if_neg hd, px_bd, if_neg (by decide), px_Pair_b1 v5 hp, px_bd, if_pos rfl]
    have hm : fX12_seen a1 a2 a3 b4 I = some (-1, I) := by
      unfold fX12_seen fX12_seen_42
      rw [px_isIn, if_neg hd, px_bd, if_neg (by decide), px_mBell_n (by omega) v8 hb, px_bd, if_neg (by decide), px_mPerson_b (by omega) v6 hp, px_bd, if_pos rfl]
    exact lz_q _ hR (fun Q hQ => mX11_seen_ok hB hx hQ) (fun Q hQ => mX12_seen_ok hB hm hQ) (fun _ _ => rfl)
  have pX : fX9_isPair a3 a2 I = some 1 := px_Pair_n v5 v7 hp hb
  by_cases hl : nl = 0
  · subst hl
    have hx : fX11_seen a1 a2 a3 b4 I = some (-1, I) := by
      unfold fX11_seen fX11_seen_32
      rw [px_within, if_neg hd, px_bd, if_neg (by decide), pX, px_bd, if_neg (by decide), v9, if_pos (by decide)]
    have hm : fX12_seen a1 a2 a3 b4 I = some (-1, I) := by
      unfold fX12_seen fX12_seen_42
      rw [px_isIn, if_neg hd, px_bd, if_neg (by decide), px_mBell_n (by omega) v8 hb, px_bd, if_neg (by decide), px_mPerson_n (by omega) v6 hp, px_bd, if_neg (by decide), v10, if_pos (by decide)]
    exact lz_q _ hR (fun Q hQ => mX11_seen_ok hB hx hQ) (fun Q hQ => mX12_seen_ok hB hm hQ) (fun _ _ => rfl)
  have hl0 : ¬ nI nl = 0 := fun h => hl ((px_eq0 (by omega)).mp h)
  by_cases hc : cn = 30
  · subst hc
    have hx : fX11_seen a1 a2 a3 b4 I = some (-1, I) := by
      unfold fX11_seen fX10_add
      rw [px_within, if_neg hd, px_bd, if_neg (by decide), pX, px_bd, if_neg (by decide), v9, if_neg hl0, w3, if_neg (by decide), px_bd]
    have hm : fX12_seen a1 a2 a3 b4 I = some (-1, I) := by
      unfold fX12_seen fX12_seen_42
      rw [px_isIn, if_neg hd, px_bd, if_neg (by decide), px_mBell_n (by omega) v8 hb, px_bd, if_neg (by decide), px_mPerson_n (by omega) v6 hp, px_bd, if_neg (by decide), v10, if_neg hl0, w4, if_pos (by decide)]
    exact lz_q _ hR (fun Q hQ => mX11_seen_ok hB hx hQ) (fun Q hQ => mX12_seen_ok hB hm hQ) (fun _ _ => rfl)
  have hcn : cn < 30 := by omega
  obtain ⟨I1, x0, x1, x2, x3, x4, x5, x6, x7, x8⟩ := px_xadd (a1 := a1) (a2 := a2) (a3 := a3) hcn w3 h4
  have hx : fX11_seen a1 a2 a3 b4 I = some (nI cn + 1 - 1, I1) := by
    unfold fX11_seen
    rw [px_within, if_neg hd, px_bd, if_neg (by decide), pX, px_bd, if_neg (by decide), v9, if_neg hl0, x0, px_bd]
  obtain ⟨I2, m0, m1, m2, m3, m4, m5, m6, m7, m8⟩ := px_mseen (I := I1) (a1 := a1) (a2 := a2) (a3 := a3) (np := np) (nb := nb) hcn hd v1 v2 (by rw [x8 73 39 (by omega) (by omega)]; exact v6) (by rw [x8 73 40 (by omega) (by omega)]; exact v8) hb hp (by rw [x8 73 41 (by omega) (by omega), v10]; exact hl0) (by rw [x8 73 64 (by omega) (by omega)]; exact w4) h4
  have fr : ∀ r k, ¬ rx_dW r k → I2 r k = I r k := fun r k hd => by
    unfold rx_dW at hd
    rw [m8 r k (by omega) (by omega), x8 r k (by omega) (by omega)]
  refine ⟨nI cn + 1 - 1, S, I1, J, P, S, I2, J, P, fun Q hQ => mX11_seen_ok hB hx hQ, fun Q hQ => mX12_seen_ok hB m0 hQ, hB.1 73 _ rfl, ?_⟩
  refine rx_R_W (cn2 := cn + 1) (tm2 := tm) hB hZ ⟨i, hS⟩ hG hN hA hX hL hP hU (fun r k hd _ => fr r k hd) ⟨by omega, w2, ?_, m7, ?_, ?_, ?_⟩
  · rw [m8 41 10 (by omega) (by omega)]; exact x7
  · rw [m8 41 11 (by omega) (by omega), x8 41 11 (by omega) (by omega)]; exact w5
  · rw [m8 73 65 (by omega) (by omega), x8 73 65 (by omega) (by omega)]; exact w6
  · intro k hk
    by_cases ek : k = cn
    · subst ek
      obtain ⟨p, hp1, rfl⟩ := px_of hp (by omega)
      obtain ⟨b, hb1, rfl⟩ := px_of hb (by omega)
      obtain ⟨d, hd1, hd2, rfl⟩ : ∃ d, 1 ≤ d ∧ d ≤ 12 ∧ a1 = nI d := by
        obtain ⟨d, hd1, rfl⟩ : ∃ d, d < 13 ∧ a1 = nI d := by
          refine px_of (fun hb => ?_) (by decide)
          rcases hb with hb | hb
          · exact hd (Or.inl (Int32.lt_of_lt_of_le hb (by decide)))
          · exact hd (Or.inr (Int32.lt_of_lt_of_le (by decide : (12 : Int32) < nI 13) hb))
        refine ⟨d, ?_, by omega, rfl⟩
        by_cases e0 : d = 0
        · subst e0
          exact absurd (Or.inl (by decide)) hd
        · omega
      refine ⟨d, b, p, tm, hd1, hd2, hb1, hp1, w2, ?_, m1, ?_, m2, ?_, m3, ?_, ?_, ?_, ?_, Or.inl ⟨?_, m6⟩⟩
      · rw [m8 46 _ (by omega) (by omega)]; exact x1
      · rw [m8 47 _ (by omega) (by omega)]; exact x2
      · rw [m8 48 _ (by omega) (by omega)]; exact x3
      · rw [m8 49 _ (by omega) (by omega), x4]; exact h4
      · rw [m8 49 _ (by omega) (by omega), x4]; exact m4
      · rw [m8 50 _ (by omega) (by omega), x5]; exact w5
      · rw [m5, x8 73 65 (by omega) (by omega)]; exact w6
      · rw [m8 51 _ (by omega) (by omega)]; exact x6
    · have := w7 k (by omega)
      have hu : ∀ r, r ≠ 41 → r ≠ 73 → I2 r k = I r k := fun r ha hb => by rw [m8 r k (by omega) (by omega), x8 r k (by omega) (by omega)]
      simpa only [hu 46 (by decide) (by decide), hu 98 (by decide) (by decide), hu 47 (by decide) (by decide), hu 99 (by decide) (by decide), hu 48 (by decide) (by decide), hu 100 (by decide) (by decide), hu 49 (by decide) (by decide), hu 103 (by decide) (by decide), hu 50 (by decide) (by decide), hu 101 (by decide) (by decide), hu 51 (by decide) (by decide), hu 102 (by decide) (by decide)] using this
end PR12
