/-! ===== no weighs told: what one would lose less how often one rang; R at the start ===== -/
def sp_F0 : Int32 → Int32 → Int32 → Int32 → Int32 → Int32 → Int32 := fun l _ r _ _ _ => l - r
theorem rx_FX0 (s8 : Nat → Int32) : rx_FX sp_F0 s8 0 := by
  intro I q p b h12 h _ h73 hq hp hb _ _
  refine ⟨I, ?_, fun _ _ _ => rfl⟩
  unfold fX2_comesTo
  rw [px_cell, px_bd, px_gd (px_ix (by omega) (by decide)), h73, if_pos rfl, px_gd (px_ix (by omega) (by decide)), nI_clamp (by omega), nI_clamp (by omega)]
  rfl
theorem rx_FM0 (sp ar : Nat → Int32) (n : Int32) : rx_FM sp_F0 sp ar n 0 := by
  intro I p b h12 _ _ _ h25 hp hb h12e h64
  unfold fX12_weightOf
  rw [px_mcell, px_gd (px_ix (by omega) (by decide)), px_gd (by decide), px_gd (px_ix (by omega) (by decide)), px_gd (by decide), show (6 : Int32) = nI 6 from rfl, px_add, px_gd (px_ix (by omega) (by decide)), px_gd (by decide), px_gd (px_ix (by omega) (by decide)), px_gd (by decide), px_gd (by decide), show ((12 : Int32).toNatClampNeg) = 12 from rfl, h12e, px_members h12 h64, px_bd, px_gd (by decide), px_gd (by decide), px_gd (by decide), h25, if_pos rfl, px_gd (by decide), px_gd (by decide)]
  rw [nI_clamp (n := 13 + 5 * p + b) (by omega), nI_clamp (n := p) (by omega), nI_clamp (n := 6 + p) (by omega)]
  refine ⟨_, congrArg some (Prod.ext ?_ (Eq.refl _)), ?_⟩
  · simp [ab_u, sp_F0]
  · intro r h1 h2
    simp [ab_u, h2]
set_option maxRecDepth 100000 in
theorem lz_P54 : lz_P2 54 = (fun _ => none) := rfl
set_option maxRecDepth 100000 in
theorem lz_P012 : lz_P2 0 12 = some 57 := by decide +kernel
set_option maxRecDepth 100000 in
theorem rx_R0 : rx_R bz_S0 lz_I2 lz_J2 lz_P2 := by
  have n12 : ∀ k : Nat, k < 6 → k < 0 → False := fun k _ h => absurd h (Nat.not_lt_zero k)
  refine ⟨lz_B2, lz_Z2, ⟨0, rfl⟩, 0, 0, 0, 0, 0, 0, fun _ => 0, sp_F0, ⟨⟨by decide, by decide, by decide, by decide, by decide +kernel, by decide +kernel, by decide +kernel, by decide +kernel, by decide +kernel, by decide +kernel, by decide +kernel, by decide +kernel, fun b hb => absurd hb (Nat.not_lt_zero b), by decide +kernel⟩, ⟨fun p hp => absurd hp (Nat.not_lt_zero p), by decide +kernel, fun _ _ _ _ _ => rfl, fun h => absurd h (Nat.not_lt_zero _), by decide +kernel, by decide⟩, ?_, ?_⟩, ⟨57, fun _ => 0, lz_P012, Or.inl rfl, fun k hk _ => (by decide +kernel : ∀ k, k < 45 → rx_v lz_I2 57 k = nI 0) k hk, fun k hk _ => (by decide +kernel : ∀ k, k < 45 → lz_I2 89 k = nI 0) k hk, ?_⟩, ⟨0, 0, by decide, by decide, by decide +kernel, by decide +kernel, by decide +kernel, by decide +kernel, fun j hj => absurd hj (Nat.not_lt_zero j), fun j q h => ?_, fun i j q h => ?_⟩, ⟨0, by decide, by decide +kernel, fun j hj => Or.inl ⟨by simp, (by decide +kernel : ∀ j, j < 3 → lz_I2 107 j = 0) j hj⟩⟩, ⟨0, by decide, by decide +kernel, by decide +kernel, fun i hi => absurd hi (Nat.not_lt_zero i)⟩, ⟨0, by decide, by decide +kernel, by decide +kernel, fun i hi => absurd hi (Nat.not_lt_zero i)⟩, ⟨by decide +kernel, by decide +kernel⟩, 0, 0, by decide, by decide, by decide +kernel, by decide +kernel, by decide +kernel, by decide +kernel, fun i hi => absurd hi (Nat.not_lt_zero i)⟩
  · rw [show lz_I2 7 3 = 0 by decide +kernel]
    exact rx_FX0 _
  · rw [show lz_I2 73 25 = 0 by decide +kernel]
    exact rx_FM0 _ _ _
  · exact ⟨fun p hp => absurd hp (Nat.not_lt_zero p), fun _ _ => Nat.zero_le _, by decide, fun _ _ => Nat.zero_le _, fun _ _ _ _ _ => rfl, by decide, by decide⟩
  · rw [lz_P54] at h; cases h
  · rw [lz_P54] at h; cases h
