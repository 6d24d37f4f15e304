/-! ===== pair: law ===== -/
/-- the first i losses that are some: n each -/
def sp_all (w : Nat → Nat) (n i : Nat) : Nat → Nat := fun k => if 13 ≤ k ∧ k < 13 + i ∧ 0 < w k then n else w k
theorem sp_all_at (w : Nat → Nat) (n i : Nat) : sp_all w n i (13 + i) = w (13 + i) := if_neg (by omega)
theorem sp_all_s {w : Nat → Nat} {n i : Nat} (h : 0 < w (13 + i)) : sp_up (sp_all w n i) (13 + i) n = sp_all w n (i + 1) := by
  funext k
  unfold sp_up sp_all
  by_cases e : k = 13 + i
  · subst e
    rw [if_pos rfl, if_pos (by omega)]
  · rw [if_neg e]
    by_cases e2 : 13 ≤ k ∧ k < 13 + i ∧ 0 < w k
    · rw [if_pos e2, if_pos (by omega)]
    · rw [if_neg e2, if_neg (by omega)]
theorem sp_all_z {w : Nat → Nat} {n i : Nat} (h : w (13 + i) = 0) : sp_all w n i = sp_all w n (i + 1) := by
  funext k
  unfold sp_all
  by_cases e : k = 13 + i
  · subst e
    rw [if_neg (by omega), if_neg (by omega)]
  · by_cases e2 : 13 ≤ k ∧ k < 13 + i ∧ 0 < w k
    · rw [if_pos e2, if_pos (by omega)]
    · rw [if_neg e2, if_neg (by omega)]
theorem sp_all_z0 {w : Nat → Nat} {n i : Nat} (h : w (13 + i) = 0) : sp_up (sp_all w n i) (13 + i) 0 = sp_all w n (i + 1) := by
  rw [← sp_all_z h]
  funext k
  unfold sp_up
  by_cases e : k = 13 + i
  · subst e
    rw [if_pos rfl, sp_all_at, h]
  · rw [if_neg e]
theorem sp_all_ok {np nb dm n : Nat} {w : Nat → Nat} (hn : n ≤ 20) (hp : np ≤ 6) (ho : rx_ok np nb dm w) : rx_ok np nb dm (sp_all w n 30) := by
  obtain ⟨h1, h2, h3, h4, h5, h6, h7⟩ := ho
  have e : ∀ k, k < 13 ∨ 43 ≤ k → sp_all w n 30 k = w k := fun k hk => if_neg (by omega)
  refine ⟨fun p hp => ?_, fun p hp => ?_, ?_, fun c hc => ?_, fun p b hp hb hb5 => ?_, ?_, ?_⟩
  · rw [e p (by omega)]; exact h1 p hp
  · rw [e (6 + p) (by omega)]; exact h2 p hp
  · rw [e 12 (by omega)]; exact h3
  · have := h4 c hc
    unfold sp_all
    split <;> omega
  · have := h5 p b hp hb hb5
    unfold sp_all
    rw [if_neg (by omega)]
    exact this
  · rw [e 43 (by omega)]; exact h6
  · rw [e 44 (by omega)]; exact h7
