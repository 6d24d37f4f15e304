/-! ===== orders, one behind another ===== -/
def or_f : Nat → Nat
  | 0 => 1
  | n + 1 => (n + 1) * or_f n
def or_p : Nat → List Nat → Nat → List Nat
  | 0, _, _ => []
  | n + 1, av, i => av.getD (i / or_f n) 0 :: or_p n (av.eraseIdx (i / or_f n)) (i % or_f n)
/-- the j-th bell of the i-th order -/
def or_r (nb i j : Nat) : Nat := (or_p nb (List.range nb) i).getD j 0
/-- where the row rises last, at or below k -/
def or_nr (f : Nat → Nat) : Nat → Option Nat
  | 0 => none
  | k + 1 => if f (k + 1) < f k then or_nr f k else some k
def or_ov (f : Nat → Nat) (r : Nat) : Nat → Nat
  | 0 => 0
  | j + 1 => if r < j + 1 ∧ f (j + 1) < f r then or_ov f r j else j + 1
def or_sw (f : Nat → Nat) (a b : Nat) : Nat → Nat := fun j => if j = b then f a else if j = a then f b else f j
def or_rv : Nat → (Nat → Nat) → Nat → Nat → (Nat → Nat)
  | 0, f, _, _ => f
  | n + 1, f, l, r => if r ≤ l then f else or_rv n (or_sw f l r) (l + 1) (r - 1)
def or_nx (nb : Nat) (f : Nat → Nat) : Nat → Nat := match or_nr f (nb - 1) with
  | none => or_rv 3 f 0 (nb - 1)
  | some k => or_rv 3 (or_sw f k (or_ov f k (nb - 1))) (k + 1) (nb - 1)
theorem or_step : ∀ nb, nb < 6 → ∀ i, i < or_f nb → (if i + 1 < or_f nb then (or_nr (or_r nb i) (nb - 1)).isSome && (List.range nb).all (fun j => or_nx nb (or_r nb i) j == or_r nb (i + 1) j) else (or_nr (or_r nb i) (nb - 1)).isNone) = true := by decide +kernel
theorem or_lt : ∀ nb, nb < 6 → ∀ i, i < or_f nb → (List.range nb).all (fun j => decide (or_r nb i j < nb)) = true := by decide +kernel
theorem or_0 : ∀ nb, nb < 6 → (List.range nb).all (fun j => or_r nb 0 j == j) = true := by decide +kernel
theorem or_f1 : ∀ nb, nb < 6 → 1 ≤ or_f nb ∧ or_f nb ≤ 120 := by decide
theorem or_ov_le {f : Nat → Nat} {r : Nat} : ∀ j, or_ov f r j ≤ j
  | 0 => Nat.le_refl _
  | j + 1 => by
    rw [or_ov]
    have := or_ov_le (f := f) (r := r) j
    split <;> omega
theorem or_nr_lt {f : Nat → Nat} : ∀ k m, or_nr f k = some m → m < k
  | 0, m, h => by cases h
  | k + 1, m, h => by
    rw [or_nr] at h
    by_cases e : f (k + 1) < f k
    · rw [if_pos e] at h
      have := or_nr_lt k m h
      omega
    · rw [if_neg e] at h
      cases h
      omega
/-- what nextOrder and nextRow lean on: row d holds f -/
def or_h (I : ab_I) (d nb : Nat) (f : Nat → Nat) : Prop := ∀ j, j < nb → I d j = nI (f j) ∧ f j < 2 ^ 30
theorem or_sw_h {I : ab_I} {d nb a b : Nat} {f : Nat → Nat} (h : or_h I d nb f) (ha : a < nb) (hb : b < nb) : or_h (ab_u (ab_u I d a (I d b)) d b (I d a)) d nb (or_sw f a b) := fun j hj => by
  unfold or_sw
  by_cases e1 : j = b
  · rw [if_pos e1, e1, ab_u_at]
    exact h a ha
  · rw [if_neg e1, ab_u_ne e1]
    by_cases e2 : j = a
    · rw [if_pos e2, e2, ab_u_at]
      exact h b hb
    · rw [if_neg e2, ab_u_ne e2]
      exact h j hj
section ORD
variable {I : ab_I} {nb : Nat} {f : Nat → Nat}
/-! the class -/
theorem px_swapT {a b : Nat} (ha : a < 6) (hb : b < 6) : fX3_swapTried (nI a) (nI b) I = some (ab_u (ab_u I 39 a (I 39 b)) 39 b (I 39 a)) := by
  have ga : ab_ix (nI a) 6 = true := px_ix ha (by decide)
  have gb : ab_ix (nI b) 6 = true := px_ix hb (by decide)
  unfold fX3_swapTried
  rw [px_gd ga, px_gd gb, px_gd ga, px_gd gb, nI_clamp (by omega), nI_clamp (by omega)]
theorem px_revT (hnb : nb ≤ 5) : ∀ n m l r (f : Nat → Nat) (I : ab_I), r ≤ l + 2 * n → r < nb → l ≤ 5 → or_h I 39 nb f → ∃ I', ab_it (fun s : Int32 × Int32 × ab_I => fX3_nextOrder_97 s.1 s.2.1 s.2.2) (m + n + 1) (nI l, nI r, I) = some I' ∧ or_h I' 39 nb (or_rv n f l r) ∧ ∀ x, x ≠ 39 → I' x = I x
  | 0, m, l, r, f, I, h1, h2, hl, hf => by
    refine ⟨I, ?_, hf, fun _ _ => rfl⟩
    refine px_itR ?_
    dsimp only
    unfold fX3_nextOrder_97 fX3_nextOrder_117
    rw [if_pos (nI_le (by omega) (by omega))]
    rfl
  | n + 1, m, l, r, f, I, h1, h2, hl, hf => by
    by_cases e : r ≤ l
    · refine ⟨I, ?_, by rw [or_rv, if_pos e]; exact hf, fun _ _ => rfl⟩
      refine px_itR ?_
      dsimp only
      unfold fX3_nextOrder_97 fX3_nextOrder_117
      rw [if_pos (nI_le e (by omega))]
      rfl
    · obtain ⟨r', rfl⟩ : ∃ r', r = r' + 1 := ⟨r - 1, by omega⟩
      obtain ⟨I', k1, k2, k3⟩ := px_revT hnb n m (l + 1) r' (or_sw f l (r' + 1)) (ab_u (ab_u I 39 l (I 39 (r' + 1))) 39 (r' + 1) (I 39 l)) (by omega) (by omega) (by omega) (or_sw_h hf (by omega) h2)
      refine ⟨I', ?_, by rw [or_rv, if_neg e, Nat.add_sub_cancel]; exact k2, fun x hx => by rw [k3 x hx, ab_u_o hx, ab_u_o hx]⟩
      rw [show m + (n + 1) + 1 = (m + n + 1) + 1 by omega, px_itL (s' := (nI (l + 1), nI r', ab_u (ab_u I 39 l (I 39 (r' + 1))) 39 (r' + 1) (I 39 l)))]
      · exact k1
      · dsimp only
        unfold fX3_nextOrder_97
        rw [if_neg (nI_ge (by omega) (by omega)), px_swapT (by omega) (by omega), px_bd, ← nI_succ, px_dec, nI_pred]
end ORD
