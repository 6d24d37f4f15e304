/-! ===== village: R behind a fault ===== -/
theorem rx_R_V0 {S : ab_S} {I I2 : ab_I} {J J2 : ab_J} {P : ab_P} (hR : rx_R S I J P) (hZ2 : bz_Z S.length I2 J2 P) (hI : ∀ r k, ¬ zx r → ¬ zm r k → ¬ (r = 73 ∧ (k = 5 ∨ k = 1)) → ¬ (r = 1 ∧ k = 1) → ¬ (r = 0 ∧ (k = 13 ∨ k = 14)) → I2 r k = I r k) (h1 : I2 1 1 = 0) (h2 : I2 73 1 = 0) (hU : I2 73 2 = I2 0 13 ∧ I2 73 3 = I2 0 14) : rx_R S I2 J2 P := by
  obtain ⟨hB, hZ, hS, np, nb, nl, fa, lc, dr, t, F, hG, ⟨q, w, hN⟩, ⟨dn, kp, hA⟩, ⟨bf, hX⟩, ⟨c, hL⟩, ⟨z, hP⟩, _, cn, tm, hW⟩ := hR
  have g : ∀ r k, ¬ zx r → ¬ zm r k → ¬ (r = 73 ∧ (k = 5 ∨ k = 1)) → ¬ (r = 1 ∧ k = 1) → ¬ (r = 0 ∧ (k = 13 ∨ k = 14)) → I2 r k = I r k := hI
  refine ⟨hB, hZ2, hS, np, nb, nl, fa, lc, dr, t, F, rx_G_c hG (fun r k h => ?_), ⟨q, w, rx_N_c hN (fun r k h => ?_)⟩, ⟨dn, kp, rx_A_c hA (fun r k h => ?_)⟩, ⟨bf, rx_X_c hX (fun r k h => ?_)⟩, ⟨c, rx_L_c hL (fun r k h => ?_)⟩, ⟨0, by decide, h1, h2, fun i hi => absurd hi (Nat.not_lt_zero i)⟩, hU, cn, tm, rx_W_c hW (fun r k h => ?_)⟩
  · unfold rx_dG at h
    exact g r k (by unfold zx; omega) (by unfold zm; omega) (by omega) (by omega) (by omega)
  · unfold rx_dN rx_dD at h
    exact g r k (by unfold zx; omega) (by unfold zm; omega) (by omega) (by omega) (by omega)
  · unfold rx_dA rx_dD at h
    exact g r k (by unfold zx; omega) (by unfold zm; omega) (by omega) (by omega) (by omega)
  · unfold rx_dX at h
    exact g r k (by unfold zx; omega) (by unfold zm; omega) (by omega) (by omega) (by omega)
  · unfold rx_dL at h
    exact g r k (by unfold zx; omega) (by unfold zm; omega) (by omega) (by omega) (by omega)
  · unfold rx_dW at h
    exact g r k (by unfold zx; omega) (by unfold zm; omega) (by omega) (by omega) (by omega)
