/-! ===== a bell is rung ===== -/
def sp_up (w : Nat → Nat) (k x : Nat) : Nat → Nat := fun j => if j = k then x else w j
section UPS
variable {I : ab_I} {np nb dm q p x c : Nat} {w : Nat → Nat}
theorem rx_uo {r k : Nat} {y : Int32} (hr : r < q ∨ q + 3 < r) (h : rx_is np (rx_v I q) w) : rx_is np (rx_v (ab_u I r k y) q) w := rx_is_c (fun j hj i => px_u (by omega)) h
theorem rx_u1 (hp : p < 6) (h : rx_is np (rx_v I q) w) : rx_is np (rx_v (ab_u I (q + 1) p (nI x)) q) (sp_up w p x) := by
  intro k h1 h2
  have := h k h1 h2
  unfold rx_v sp_up at *
  by_cases e : k < 6
  · rw [if_pos e] at this ⊢
    by_cases e2 : k = p
    · rw [if_pos e2, e2, ab_u_at]
    · rw [if_neg e2, px_u (by omega)]; exact this
  · rw [if_neg e] at this ⊢
    rw [if_neg (show ¬ k = p by omega), px_u (by omega), px_u (by omega), px_u (by omega), px_u (by omega), px_u (by omega)]
    exact this
theorem rx_u2 (hp : p < 6) (h : rx_is np (rx_v I q) w) : rx_is np (rx_v (ab_u I (q + 2) p (nI x)) q) (sp_up w (6 + p) x) := by
  intro k h1 h2
  have := h k h1 h2
  unfold rx_v sp_up at *
  by_cases e : k < 6
  · rw [if_pos e] at this ⊢
    rw [if_neg (show ¬ k = 6 + p by omega), px_u (by omega)]; exact this
  · rw [if_neg e] at this ⊢
    by_cases e1 : k < 12
    · rw [if_pos e1] at this ⊢
      by_cases e2 : k = 6 + p
      · rw [if_pos e2, e2, Nat.add_sub_cancel_left, ab_u_at]
      · rw [if_neg e2, px_u (by omega)]; exact this
    · rw [if_neg e1] at this ⊢
      rw [if_neg (show ¬ k = 6 + p by omega), px_u (by omega), px_u (by omega), px_u (by omega), px_u (by omega)]
      exact this
theorem rx_u3 (hc : c < 30) (h : rx_is np (rx_v I q) w) : rx_is np (rx_v (ab_u I (q + 3) c (nI x)) q) (sp_up w (13 + c) x) := by
  intro k h1 h2
  have := h k h1 h2
  unfold rx_v sp_up at *
  by_cases e : k < 6
  · rw [if_pos e] at this ⊢
    rw [if_neg (show ¬ k = 13 + c by omega), px_u (by omega)]; exact this
  · rw [if_neg e] at this ⊢
    by_cases e1 : k < 12
    · rw [if_pos e1] at this ⊢
      rw [if_neg (show ¬ k = 13 + c by omega), px_u (by omega)]; exact this
    · rw [if_neg e1] at this ⊢
      by_cases e2 : k = 12
      · rw [if_pos e2] at this ⊢
        rw [if_neg (show ¬ k = 13 + c by omega), px_u (by omega)]; exact this
      · rw [if_neg e2] at this ⊢
        by_cases e3 : k < 43
        · rw [if_pos e3] at this ⊢
          by_cases e4 : k = 13 + c
          · rw [if_pos e4, e4, Nat.add_sub_cancel_left, ab_u_at]
          · rw [if_neg e4, px_u (by omega)]; exact this
        · rw [if_neg e3] at this ⊢
          rw [if_neg (show ¬ k = 13 + c by omega), px_u (by omega), px_u (by omega)]; exact this
/-- one of the three single numbers -/
theorem rx_uq {j k0 : Nat} (hj : (j = 3 ∧ k0 = 12) ∨ (j = 4 ∧ k0 = 43) ∨ (j = 5 ∧ k0 = 44)) (h : rx_is np (rx_v I q) w) : rx_is np (rx_v (ab_u I q j (nI x)) q) (sp_up w k0 x) := by
  intro k h1 h2
  have := h k h1 h2
  unfold rx_v sp_up at *
  by_cases e : k < 6
  · rw [if_pos e] at this ⊢
    rw [if_neg (show ¬ k = k0 by omega), px_u (by omega)]; exact this
  · rw [if_neg e] at this ⊢
    by_cases e1 : k < 12
    · rw [if_pos e1] at this ⊢
      rw [if_neg (show ¬ k = k0 by omega), px_u (by omega)]; exact this
    · rw [if_neg e1] at this ⊢
      by_cases e2 : k = 12
      · rw [if_pos e2] at this ⊢
        by_cases e3 : k = k0
        · obtain rfl : j = 3 := by omega
          rw [if_pos e3, ab_u_at]
        · rw [if_neg e3, px_u (by omega)]; exact this
      · rw [if_neg e2] at this ⊢
        by_cases e3 : k < 43
        · rw [if_pos e3] at this ⊢
          rw [if_neg (show ¬ k = k0 by omega), px_u (by omega)]; exact this
        · rw [if_neg e3] at this ⊢
          by_cases e4 : k = 43
          · rw [if_pos e4] at this ⊢
            by_cases e5 : k = k0
            · obtain rfl : j = 4 := by omega
              rw [if_pos e5, ab_u_at]
            · rw [if_neg e5, px_u (by omega)]; exact this
          · rw [if_neg e4] at this ⊢
            by_cases e5 : k = k0
            · obtain rfl : j = 5 := by omega
              rw [if_pos e5, ab_u_at]
            · rw [if_neg e5, px_u (by omega)]; exact this
/-- the reference's row -/
theorem rx_m {r k : Nat} (h : rx_is np (I r) w) : rx_is np (ab_u I r k (nI x) r) (sp_up w k x) := by
  intro j h1 h2
  unfold sp_up
  by_cases e : j = k
  · rw [if_pos e, e, ab_u_at]
  · rw [if_neg e, ab_u_ne e]; exact h j h1 h2
theorem rx_mo {r r0 k : Nat} {y : Int32} (hr : r ≠ r0) (h : rx_is np (I r) w) : rx_is np (ab_u I r0 k y r) w := by
  rw [ab_u_o hr]; exact h
end UPS
theorem px_min {a b : Nat} (ha : a < 2 ^ 31) (hb : b < 2 ^ 31) : (if nI a < nI b then nI a else nI b) = nI (min b a) := by
  by_cases h : a < b
  · rw [if_pos (nI_lt h hb), Nat.min_eq_right (by omega)]
  · rw [if_neg (nI_nlt (by omega) ha), Nat.min_eq_left (by omega)]
theorem px_lesser {a b : Nat} (ha : a < 2 ^ 31) (hb : b < 2 ^ 31) : fX12_lesser (nI a) (nI b) = some (nI (min a b)) := by
  unfold fX12_lesser fX12_lesser_10
  by_cases h : b ≤ a
  · rw [if_pos (nI_le h ha), Nat.min_eq_right h]
  · rw [if_neg (nI_ge (by omega) hb), Nat.min_eq_left (by omega)]
section SPR
variable (F : Int32 → Int32 → Int32 → Int32 → Int32 → Int32 → Int32) (hr : Int32) (w : Nat → Nat) (b : Nat)
theorem sp_rg_cases : ∀ n, (sp_rg F hr w b n).1 = -1 ∨ ∃ p, p < n ∧ (sp_rg F hr w b n).1 = nI p ∧ (w 12).testBit p = true ∧ 0 < w (13 + 5 * p + b)
  | 0 => Or.inl rfl
  | n + 1 => by
    rw [sp_rg]
    split
    · rename_i h
      exact Or.inr ⟨n, Nat.lt_succ_self n, rfl, h.1, h.2.1⟩
    · rcases sp_rg_cases n with h | ⟨p, h1, h2⟩
      · exact Or.inl h
      · exact Or.inr ⟨p, Nat.lt_succ_of_lt h1, h2⟩
/-- what p's ringing b leaves, by how much he has less -/
def sp_rung (p : Nat) (fo : Bool) (fa : Nat) : Nat → Nat :=
  let lost := min (w p) (w (13 + 5 * p + b))
  let w1 := sp_up (sp_up w (6 + p) (min 999 (w (6 + p) + 1))) p (w p - lost)
  if fo then
    let sd := (w 44 * 137 + 71) % 1000
    if sd % 100 < fa then sp_up (sp_up w1 44 sd) (13 + 5 * p + b) 0 else sp_up w1 44 sd
  else w1
/-- who rings b (-1: nobody) -/
def sp_who (np : Nat) : Int32 := (sp_rg F hr w b np).1
def sp_ring (np : Nat) (fo : Bool) (fa : Nat) : Nat → Nat := if sp_who F hr w b np = -1 then w else sp_rung w b (sp_who F hr w b np).toNatClampNeg fo fa
def sp_lost (np : Nat) : Nat := if sp_who F hr w b np = -1 then 0 else min (w (sp_who F hr w b np).toNatClampNeg) (w (13 + 5 * (sp_who F hr w b np).toNatClampNeg + b))
end SPR
