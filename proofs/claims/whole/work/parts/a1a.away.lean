/-! ===== who is away ===== -/
/-- who is away at choice k -/
def sp_aw (p o k : Nat) : Nat := (if k / 2 = 0 then 2 ^ p else 0) ||| (if k % 2 = 0 then 2 ^ o else 0)
theorem sp_aw64 : ∀ p, p < 6 → ∀ o, o < 6 → ∀ k, k < 4 → sp_aw p o k < 64 := by decide +kernel
theorem sp_aw_x : ∀ p, p < 6 → ∀ o, o < 6 → ∀ k, k < 4 → (if (nI k &&& (2 : Int32)) = 0 then (1 : Int32) <<< (nI p &&& 31) else 0) ||| (if (nI k &&& (1 : Int32)) = 0 then (1 : Int32) <<< (nI o &&& 31) else 0) = nI (sp_aw p o k) := by decide +kernel
theorem sp_aw_m : ∀ p, p < 6 → ∀ o, o < 6 → ∀ k, k < 4 → (((1 : Int32) - (nI k / (2 : Int32))) <<< (nI p &&& 31)) ||| (((1 : Int32) - (nI k - nI k / (2 : Int32) * (2 : Int32))) <<< (nI o &&& 31)) = nI (sp_aw p o k) := by decide +kernel
theorem sp_aw_p0 : ∀ h, h < 64 → ∀ p, p < 6 → ∀ o, o < 6 → ∀ k, k < 4 → (decide (p = o) || !h.testBit p || ((sp_wo h (sp_aw p o k)).testBit p == decide (¬ k / 2 = 0))) = true := by decide +kernel
theorem sp_aw_p (h : Nat) (hh : h < 64) (p : Nat) (hp : p < 6) (o : Nat) (ho : o < 6) (k : Nat) (hk : k < 4) (hpo : p ≠ o) (hb : h.testBit p = true) : (sp_wo h (sp_aw p o k)).testBit p = decide (¬ k / 2 = 0) := by
  have := sp_aw_p0 h hh p hp o ho k hk
  rw [decide_eq_false hpo, hb] at this
  simpa using this
theorem sp_aw_o0 : ∀ h, h < 64 → ∀ p, p < 6 → ∀ o, o < 6 → ∀ k, k < 4 → (decide (p = o) || !h.testBit o || ((sp_wo h (sp_aw p o k)).testBit o == decide (¬ k % 2 = 0))) = true := by decide +kernel
theorem sp_aw_o (h : Nat) (hh : h < 64) (p : Nat) (hp : p < 6) (o : Nat) (ho : o < 6) (k : Nat) (hk : k < 4) (hpo : p ≠ o) (hb : h.testBit o = true) : (sp_wo h (sp_aw p o k)).testBit o = decide (¬ k % 2 = 0) := by
  have := sp_aw_o0 h hh p hp o ho k hk
  rw [decide_eq_false hpo, hb] at this
  simpa using this
