/-! ===== THE PURE WORLD: tools ===== -/
theorem px_gd {α : Type} {c : Prop} [Decidable c] {x : Option α} (h : c) : ab_gd c x = x := if_pos h
theorem px_ix {j n : Nat} (h : j < n) (hn : n < 2 ^ 31) : ab_ix (nI j) n = true := by
  unfold ab_ix
  simp only [Bool.and_eq_true, Bool.not_eq_true', decide_eq_false_iff_not, decide_eq_true_eq]
  exact ⟨nI_pos (by omega), by rw [nI_clamp (by omega)]; exact h⟩
/-- an index that none of n has -/
def px_b (a : Int32) (n : Nat) : Prop := a < 0 ∨ nI n ≤ a
theorem px_of {a : Int32} {n : Nat} (h : ¬ px_b a n) (hn : n < 2 ^ 31) : ∃ j, j < n ∧ a = nI j := by
  rcases pk_ix a hn with h1 | h1 | h1
  · exact absurd (Or.inl h1) h
  · exact absurd (Or.inr h1) h
  · exact h1
theorem px_nb {j n : Nat} (h : j < n) (hn : n < 2 ^ 31) : ¬ px_b (nI j) n := by
  intro hc
  rcases hc with hc | hc
  · exact nI_pos (by omega) hc
  · exact nI_ge h hn hc
theorem px_le1 {a : Int32} {n : Nat} (hn : n < 2 ^ 30) (h : ¬ a < 0) : nI n - 1 < a ↔ nI n ≤ a := by
  have e : (nI n - 1).toInt = (n : Int) - 1 := pk_sub_toInt (a := n) (b := 1) hn (by decide)
  rw [Int32.lt_iff_toInt_lt, Int32.le_iff_toInt_le, e, nI_toInt (by omega)]
  omega
/-! class: within, isPerson, isBell, isPair -/
theorem px_within (a lo hi : Int32) : fX11_within a lo hi = some (if a < lo ∨ hi < a then 0 else 1) := by
  unfold fX11_within fX11_within_14 fX11_within_15
  by_cases h1 : a < lo
  · rw [if_pos h1, if_pos (Or.inl h1), px_gd (Or.inl rfl)]
  · rw [if_neg h1]
    by_cases h2 : hi < a
    · rw [if_pos h2, if_pos (Or.inr h2), px_gd (Or.inl rfl)]
    · rw [if_neg h2, if_neg (fun h => h.elim h1 h2), px_gd (Or.inr rfl)]
theorem px_isIn (a lo hi : Int32) : fX12_isIn a lo hi = some (if a < lo ∨ hi < a then 0 else 1) := by
  unfold fX12_isIn fX12_isIn_14 fX12_isIn_15
  by_cases h1 : a < lo
  · rw [if_pos h1, if_pos (Or.inl h1), px_gd (Or.inl rfl)]
  · rw [if_neg h1]
    by_cases h2 : hi < a
    · rw [if_pos h2, if_pos (Or.inr h2), px_gd (Or.inl rfl)]
    · rw [if_neg h2, if_neg (fun h => h.elim h1 h2), px_gd (Or.inr rfl)]
theorem px_isIn_b {a : Int32} {n : Nat} (hn : n < 2 ^ 30) (h : px_b a n) : fX12_isIn a 0 (nI n - 1) = some 0 := by
  rw [px_isIn, if_pos]
  by_cases h1 : a < 0
  · exact Or.inl h1
  · rcases h with h | h
    · exact absurd h h1
    · exact Or.inr ((px_le1 hn h1).mpr h)
theorem px_isIn_n {a : Int32} {n : Nat} (hn : n < 2 ^ 30) (h : ¬ px_b a n) : fX12_isIn a 0 (nI n - 1) = some 1 := by
  rw [px_isIn, if_neg]
  intro hc
  rcases hc with hc | hc
  · exact h (Or.inl hc)
  · exact h (Or.inr ((px_le1 hn (fun h1 => h (Or.inl h1))).mp hc))
theorem px_Person_b {I : ab_I} {a : Int32} {n : Nat} (hI : I 3 4 = nI n) (h : px_b a n) : fX9_isPerson a I = some 0 := by
  unfold fX9_isPerson fX9_isPerson_16 fX9_isPerson_17
  rw [hI, px_gd (Or.inl rfl)]
  by_cases h1 : a < 0
  · rw [if_pos h1]
  · rw [if_neg h1, if_pos (h.resolve_left h1)]
theorem px_Person_n {I : ab_I} {a : Int32} {n : Nat} (hI : I 3 4 = nI n) (h : ¬ px_b a n) : fX9_isPerson a I = some 1 := by
  unfold fX9_isPerson fX9_isPerson_17
  rw [hI, if_neg (fun h1 => h (Or.inl h1)), if_neg (fun h1 => h (Or.inr h1)), px_gd (Or.inr rfl)]
theorem px_Bell_b {I : ab_I} {a : Int32} {n : Nat} (hI : I 3 5 = nI n) (h : px_b a n) : fX9_isBell a I = some 0 := by
  unfold fX9_isBell fX9_isBell_16 fX9_isBell_17
  rw [hI, px_gd (Or.inl rfl)]
  by_cases h1 : a < 0
  · rw [if_pos h1]
  · rw [if_neg h1, if_pos (h.resolve_left h1)]
theorem px_Bell_n {I : ab_I} {a : Int32} {n : Nat} (hI : I 3 5 = nI n) (h : ¬ px_b a n) : fX9_isBell a I = some 1 := by
  unfold fX9_isBell fX9_isBell_17
  rw [hI, if_neg (fun h1 => h (Or.inl h1)), if_neg (fun h1 => h (Or.inr h1)), px_gd (Or.inr rfl)]
theorem px_bd {α β : Type} {x : α} {f : α → Option β} : (some x).bind f = f x := rfl
theorem px_Pair_b1 {I : ab_I} {a b : Int32} {n : Nat} (hI : I 3 4 = nI n) (h : px_b a n) : fX9_isPair a b I = some 0 := by
  unfold fX9_isPair fX9_isPair_20 fX9_isPair_21
  rw [px_Person_b hI h, px_bd, if_pos rfl, px_gd (Or.inl rfl)]
theorem px_Pair_b2 {I : ab_I} {a b : Int32} {n m : Nat} (hI : I 3 4 = nI n) (hJ : I 3 5 = nI m) (h : ¬ px_b a n) (h2 : px_b b m) : fX9_isPair a b I = some 0 := by
  unfold fX9_isPair fX9_isPair_20 fX9_isPair_21
  rw [px_Person_n hI h, px_bd, if_neg (by decide), px_Bell_b hJ h2, px_bd, if_pos rfl, px_gd (Or.inl rfl)]
theorem px_Pair_n {I : ab_I} {a b : Int32} {n m : Nat} (hI : I 3 4 = nI n) (hJ : I 3 5 = nI m) (h : ¬ px_b a n) (h2 : ¬ px_b b m) : fX9_isPair a b I = some 1 := by
  unfold fX9_isPair fX9_isPair_21
  rw [px_Person_n hI h, px_bd, if_neg (by decide), px_Bell_n hJ h2, px_bd, if_neg (by decide), px_gd (Or.inr rfl)]
theorem px_mPerson_b {I : ab_I} {a : Int32} {n : Nat} (hn : n < 2 ^ 30) (hI : I 73 39 = nI n) (h : px_b a n) : fX12_isPerson a I = some 0 := by
  unfold fX12_isPerson
  rw [hI, px_isIn_b hn h, px_bd, px_gd (Or.inl rfl)]
theorem px_mPerson_n {I : ab_I} {a : Int32} {n : Nat} (hn : n < 2 ^ 30) (hI : I 73 39 = nI n) (h : ¬ px_b a n) : fX12_isPerson a I = some 1 := by
  unfold fX12_isPerson
  rw [hI, px_isIn_n hn h, px_bd, px_gd (Or.inr rfl)]
theorem px_mBell_b {I : ab_I} {a : Int32} {n : Nat} (hn : n < 2 ^ 30) (hI : I 73 40 = nI n) (h : px_b a n) : fX12_isBell a I = some 0 := by
  unfold fX12_isBell
  rw [hI, px_isIn_b hn h, px_bd, px_gd (Or.inl rfl)]
theorem px_mBell_n {I : ab_I} {a : Int32} {n : Nat} (hn : n < 2 ^ 30) (hI : I 73 40 = nI n) (h : ¬ px_b a n) : fX12_isBell a I = some 1 := by
  unfold fX12_isBell
  rw [hI, px_isIn_n hn h, px_bd, px_gd (Or.inr rfl)]
theorem px_add (a b : Nat) : nI a + nI b = nI (a + b) := by
  have h1 := pk_sub (a := a + b) (b := b) (by omega)
  rw [Nat.add_sub_cancel] at h1
  rw [← h1, Int32.sub_add_cancel]
/-- the cell of a person and a bell -/
theorem px_cell (p b : Nat) : fX11_cell (nI p) (nI b) = some (nI (5 * p + b)) := by
  unfold fX11_cell
  rw [show (5 : Int32) = nI 5 from rfl, pk_mul, px_add, Nat.mul_comm p 5]
theorem px_mcell (p b : Nat) : (13 : Int32) + (5 : Int32) * nI p + nI b = nI (13 + 5 * p + b) := by
  rw [show (5 : Int32) = nI 5 from rfl, show (13 : Int32) = nI 13 from rfl, pk_mul, px_add, px_add]
/-! loops: ab_it step by step -/
theorem px_itL {σ ρ : Type} {body : σ → Option (σ ⊕ ρ)} {n : Nat} {s s' : σ} (h : body s = some (.inl s')) : ab_it body (n + 1) s = ab_it body n s' := by
  show (match body s with | none => none | some (.inl s') => ab_it body n s' | some (.inr r) => some r) = _
  rw [h]
theorem px_itR {σ ρ : Type} {body : σ → Option (σ ⊕ ρ)} {n : Nat} {s : σ} {r : ρ} (h : body s = some (.inr r)) : ab_it body (n + 1) s = some r := by
  show (match body s with | none => none | some (.inl s') => ab_it body n s' | some (.inr r) => some r) = _
  rw [h]
/-- a loop that counts: Inv i s at the i-th turn; e turns; then out -/
theorem px_for {σ ρ : Type} {body : σ → Option (σ ⊕ ρ)} {Out : ρ → Prop} (Inv : Nat → σ → Prop) (e : Nat) (step : ∀ i s, i < e → Inv i s → ∃ s', body s = some (.inl s') ∧ Inv (i + 1) s') (out : ∀ s, Inv e s → ∃ r, body s = some (.inr r) ∧ Out r) :
    ∀ (d i : Nat) (n : Nat) (s : σ), i + d = e → d < n → Inv i s → ∃ r, ab_it body n s = some r ∧ Out r
  | 0, i, n, s, hi, hn, h => by
    obtain ⟨n, rfl⟩ : ∃ m, n = m + 1 := ⟨n - 1, by omega⟩
    obtain rfl : i = e := by omega
    obtain ⟨r, h1, h2⟩ := out s h
    exact ⟨r, px_itR h1, h2⟩
  | d + 1, i, n, s, hi, hn, h => by
    obtain ⟨n, rfl⟩ : ∃ m, n = m + 1 := ⟨n - 1, by omega⟩
    obtain ⟨s', h1, h2⟩ := step i s (by omega) h
    rw [px_itL h1]
    exact px_for Inv e step out d (i + 1) n s' (by omega) (by omega) h2
