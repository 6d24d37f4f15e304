/-! ===== pairs: odds ===== -/
theorem px_odds_x (a1 a2 : Int32) (I : ab_I) : fX11_odds a1 a2 I = fX11_odds a1 a2 (fun _ _ => I 3 8) := by
  unfold fX11_odds fX11_odds_55 fX11_odds_65 fX11_odds_84 fX11_odds_18
  rfl
theorem px_odds_m (a1 a2 : Int32) (I : ab_I) : fX12_odds a1 a2 I = fX12_odds a1 a2 (fun _ _ => I 73 43) := by
  unfold fX12_odds fX12_odds_64 fX12_odds_18
  rfl
theorem px_odds : ∀ f, f < 101 → ∀ n, n < 5 → ∀ p, p < 2 → fX11_odds (nI n) (nI p) (fun _ _ => nI f) = fX12_odds (nI n) (nI p) (fun _ _ => nI f) ∧ (fX12_odds (nI n) (nI p) (fun _ _ => nI f)).isSome = true := by decide +kernel
section PR10
variable {S : ab_S} {I : ab_I} {J : ab_J} {P : ab_P} {l : Launch} {G : ab_G}
theorem px_in {a : Int32} {hi : Nat} (hh : hi < 1000) (h : ¬ (a < 0 ∨ nI hi < a)) : ∃ n, n ≤ hi ∧ a = nI n := by
  obtain ⟨n, hn, rfl⟩ : ∃ n, n < hi + 1 ∧ a = nI n := by
    refine px_of (fun hb => ?_) (by omega)
    rcases hb with hb | hb
    · exact h (Or.inl hb)
    · exact h (Or.inr (Int32.lt_of_lt_of_le (nI_lt (Nat.lt_succ_self hi) (by omega)) hb))
  exact ⟨n, by omega, rfl⟩
theorem pr_odds (hR : rx_R S I J P) (a1 a2 : Int32) : lz_pr l G rx_R mX11_odds 2 mX12_odds 1 [.int a1, .int a2] S I J P := by
  have hB := hR.1
  obtain ⟨np, nb, fa, hrs, F, q, w, hQ⟩ := rx_R_Q hR
  obtain ⟨h1, h2, h3, h4, h5, h6, h7, h8, h9, _⟩ := id hQ
  by_cases ha : a1 < 0 ∨ (4 : Int32) < a1
  · have hx : fX11_odds a1 a2 I = some (-1) := by
      unfold fX11_odds fX11_odds_18
      rw [px_within, if_pos ha, px_bd, if_pos rfl]
    have hm : fX12_odds a1 a2 I = some (-1) := by
      unfold fX12_odds fX12_odds_18
      rw [px_isIn, if_pos ha, px_bd, if_pos rfl]
    exact lz_q _ hR (fun Q hQ => mX11_odds_ok hB hx hQ) (fun Q hQ => mX12_odds_ok hB hm hQ) (fun _ _ => rfl)
  by_cases hb : a2 < 0 ∨ (1 : Int32) < a2
  · have hx : fX11_odds a1 a2 I = some (-1) := by
      unfold fX11_odds fX11_odds_18
      rw [px_within, if_neg ha, px_bd, if_neg (by decide), px_within, if_pos hb, px_bd, if_pos rfl]
    have hm : fX12_odds a1 a2 I = some (-1) := by
      unfold fX12_odds fX12_odds_18
      rw [px_isIn, if_neg ha, px_bd, if_neg (by decide), px_isIn, if_pos hb, px_bd, if_pos rfl]
    exact lz_q _ hR (fun Q hQ => mX11_odds_ok hB hx hQ) (fun Q hQ => mX12_odds_ok hB hm hQ) (fun _ _ => rfl)
  obtain ⟨n, hn, rfl⟩ := px_in (hi := 4) (by decide) ha
  obtain ⟨p, hp, rfl⟩ := px_in (hi := 1) (by decide) hb
  obtain ⟨e1, e2⟩ := px_odds fa (by omega) n (by omega) p (by omega)
  obtain ⟨v, hv⟩ := Option.isSome_iff_exists.mp e2
  have hx : fX11_odds (nI n) (nI p) I = some v := by rw [px_odds_x, h6, e1, hv]
  have hm : fX12_odds (nI n) (nI p) I = some v := by rw [px_odds_m, h9, hv]
  exact lz_q _ hR (fun Q hQ => mX11_odds_ok hB hx hQ) (fun Q hQ => mX12_odds_ok hB hm hQ) (fun _ _ => rfl)
end PR10
