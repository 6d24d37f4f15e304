/-! ===== village: the class takes over what it read ===== -/
/-- what is told, read from the class's draft -/
def vt (I : ab_I) (k : Nat) : Nat := if k < 13 then (I 15 k).toNatClampNeg else (I 17 (k - 13)).toNatClampNeg
def vd (I : ab_I) : Nat := (I 14 9).toNatClampNeg
theorem dr_t {I K : ab_I} {J L : ab_J} {a b : Nat} (h : dr I J K L a b) : a ≤ 6 ∧ b ≤ 5 ∧ (I 14 4 = nI a ∧ I 14 5 = nI b) ∧ (K 73 33 = nI a ∧ K 73 34 = nI b) ∧ (∀ p, p < a → I 15 p = nI (vt I p) ∧ K 83 p = nI (vt I p) ∧ vt I p ≤ 999) ∧ (∀ p, p < b → K 84 p = I 16 p) ∧ (∀ c, c < 30 → I 17 c = nI (vt I (13 + c)) ∧ K 85 c = nI (vt I (13 + c)) ∧ vt I (13 + c) ≤ 20) ∧ (∀ p e, p < 6 → b ≤ e → e < 5 → vt I (13 + 5 * p + e) = 0) ∧ (∃ nl lc, nl ≤ 20 ∧ I 14 6 = nI nl ∧ K 73 35 = nI nl ∧ (0 < nl → lc < 30 ∧ lc % 5 < b ∧ I 14 7 = nI lc ∧ K 73 36 = nI lc)) ∧ (∃ fa, fa ≤ 100 ∧ I 14 8 = nI fa ∧ K 73 37 = nI fa) ∧ (I 14 9 = nI (vd I) ∧ K 73 38 = nI (vd I) ∧ vd I ≤ 999) := by
  obtain ⟨⟨a1, a2, a3, a4, _, _⟩, ⟨b1, b2, b3, b4, _, _⟩, ⟨n, l1, l2, l3, l4, l5⟩, ⟨f, f1, f2, f3, _⟩, ⟨d, d1, d2, d3, _⟩, _⟩ := h
  have tl : ∀ c x, x ≤ 20 → I 17 c = nI x → vt I (13 + c) = x := fun c x hx e => by
    unfold vt
    rw [if_neg (by omega), Nat.add_sub_cancel_left, e, nI_clamp (by omega)]
  refine ⟨a1, b1, ⟨a2, b2⟩, ⟨a3, b3⟩, fun p hp => ?_, fun p hp => ?_, fun c hc => ?_, fun p e hp h1 h2 => ?_, ?_, ⟨f, f1, f2, f3⟩, ?_⟩
  · obtain ⟨x, x1, x2, x3⟩ := a4 p hp
    have e : vt I p = x := by
      unfold vt
      rw [if_pos (by omega), x2, nI_clamp (by omega)]
    rw [e]
    exact ⟨x2, x3, x1⟩
  · obtain ⟨x, _, x2, x3⟩ := b4 p hp
    rw [x2, x3]
  · obtain ⟨x, x1, x2, x3, _⟩ := l4 c hc
    rw [tl c x x1 x2]
    exact ⟨x2, x3, x1⟩
  · obtain ⟨x, x1, x2, _, x4⟩ := l4 (5 * p + e) (by omega)
    rw [Nat.add_assoc, tl _ x x1 x2]
    by_cases h0 : 0 < x
    · have := (x4 h0).2
      omega
    · omega
  · by_cases h0 : 0 < n
    · obtain ⟨lc, m1, m2, m3, m4⟩ := l5 h0
      exact ⟨n, lc, l1, l2, l3, fun _ => ⟨m1, m2, m3, m4⟩⟩
    · exact ⟨n, 0, l1, l2, l3, fun h => absurd h h0⟩
  · have e : vd I = d := by
      unfold vd
      rw [d2, nI_clamp (by omega)]
    rw [e]
    exact ⟨d2, d3, d1⟩
/-- the class's heap X behind a village well told, I1 being its heap behind the reading -/
def vx (I1 X : ab_I) (q a : Nat) : Prop := ((∀ k, k < 6 → X 4 k = I1 15 k) ∧ (∀ k, k < 5 → X 5 k = I1 16 k) ∧ (∀ k, k < 30 → X 6 k = I1 17 k) ∧ (∀ k, k < 300 → X 8 k = I1 19 k) ∧ X 7 3 = I1 18 3 ∧ X 7 4 = I1 18 4) ∧ (X 3 4 = I1 14 4 ∧ X 3 5 = I1 14 5 ∧ X 3 6 = I1 14 6 ∧ X 3 7 = I1 14 7 ∧ X 3 8 = I1 14 8 ∧ X 3 9 = I1 14 9) ∧ (X 1 1 = 0 ∧ X 0 13 = I1 11 8 ∧ X 0 14 = I1 11 9 ∧ X 53 1 = 0 ∧ X 53 2 = 0 ∧ X 41 10 = 0 ∧ X 0 9 = 0 ∧ X 0 11 = 0) ∧ rx_is a (rx_v X q) (sp_b0 a (vt I1) (vd I1)) ∧ ∀ r k, (r < 3 ∨ 8 < r) → (r < q ∨ q + 3 < r) → ¬ (r = 1 ∧ k = 1) → ¬ (r = 0 ∧ (k = 13 ∨ k = 14 ∨ k = 9 ∨ k = 11)) → ¬ (r = 53 ∧ (k = 1 ∨ k = 2)) → ¬ (r = 41 ∧ k = 10) → X r k = I1 r k
theorem vc_ok {I I1 : ab_I} {J J1 : ab_J} {P : ab_P} {q a : Nat} (hx1 : fX4_readsAll I J = some (1, I1, J1)) (h12 : P 0 12 = some q) (hq : rx_dyn q) (ha : a ≤ 6) (h14 : I1 14 4 = nI a) (t1 : ∀ p, p < a → I1 15 p = nI (vt I1 p)) (t2 : ∀ c, c < 30 → I1 17 c = nI (vt I1 (13 + c))) (t5 : I1 14 9 = nI (vd I1)) : ∃ X, fX11_village I J P = some (nI a, X, J1) ∧ vx I1 X q a := by
  have hq' : q = 57 ∨ 109 ≤ q := by rcases hq with rfl | ⟨i, rfl⟩ <;> omega
  generalize hX0 : ab_u (ab_u (ab_u I1 1 1 (0 : Int32)) 0 13 (I1 11 8)) 0 14 (I1 11 9) = X0
  have a0 : ∀ r k, ¬ (r = 1 ∧ k = 1) → ¬ (r = 0 ∧ (k = 13 ∨ k = 14)) → X0 r k = I1 r k := fun r k h1 h2 => by rw [← hX0, px_u (by omega), px_u (by omega), px_u (by omega)]
  have a11 : X0 1 1 = 0 := by rw [← hX0, px_u (by omega), px_u (by omega), ab_u_at]
  have a13 : X0 0 13 = I1 11 8 := by rw [← hX0, px_u (by omega), ab_u_at]
  have a14 : X0 0 14 = I1 11 9 := by rw [← hX0, ab_u_at]
  have ar : ∀ r k, 1 < r → X0 r k = I1 r k := fun r k h => a0 r k (by omega) (by omega)
  obtain ⟨X1, b1, b4, b5, b6, b8, b73, b74, ⟨b34, b35, b36, b37, b38, b39⟩, bo⟩ := px_copyFrom (I := X0)
  rw [ar 18 3 (by omega)] at b73
  rw [ar 18 4 (by omega)] at b74
  rw [ar 14 4 (by omega)] at b34
  rw [ar 14 5 (by omega)] at b35
  rw [ar 14 6 (by omega)] at b36
  rw [ar 14 7 (by omega)] at b37
  rw [ar 14 8 (by omega)] at b38
  rw [ar 14 9 (by omega)] at b39
  have b4' : ∀ k, k < 6 → X1 4 k = I1 15 k := fun k hk => by rw [b4 k hk, ar 15 k (by omega)]
  have b5' : ∀ k, k < 5 → X1 5 k = I1 16 k := fun k hk => by rw [b5 k hk, ar 16 k (by omega)]
  have b6' : ∀ k, k < 30 → X1 6 k = I1 17 k := fun k hk => by rw [b6 k hk, ar 17 k (by omega)]
  have b8' : ∀ k, k < 300 → X1 8 k = I1 19 k := fun k hk => by rw [b8 k hk, ar 19 k (by omega)]
  obtain ⟨X2, d1, d2, d3⟩ := px_beginC (I := X1) (q := q) (np := a) (dr := vd I1) (t := vt I1) (by omega) ha (by rw [b34]; exact h14) (fun p hp => by rw [b4' p (by omega)]; exact t1 p hp) (fun c hc => by rw [b6' c hc]; exact t2 c hc) (by rw [b39]; exact t5)
  generalize hX5 : ab_u (ab_u (ab_u (ab_u (ab_u X2 53 1 (0 : Int32)) 53 2 (0 : Int32)) 41 10 (0 : Int32)) 0 9 (0 : Int32)) 0 11 (0 : Int32) = X5
  have e0 : ∀ r k, ¬ (r = 53 ∧ (k = 1 ∨ k = 2)) → ¬ (r = 41 ∧ k = 10) → ¬ (r = 0 ∧ (k = 9 ∨ k = 11)) → X5 r k = X2 r k := fun r k h1 h2 h3 => by rw [← hX5, px_u (by omega), px_u (by omega), px_u (by omega), px_u (by omega), px_u (by omega)]
  have e1 : ∀ r k, r < 41 → 0 < r → X5 r k = X1 r k := fun r k h1 h2 => by rw [e0 r k (by omega) (by omega) (by omega), d3 r (by omega)]
  have v34 : ab_u (ab_u (ab_u X2 53 1 (0 : Int32)) 53 2 (0 : Int32)) 41 10 (0 : Int32) 3 4 = nI a := by rw [px_u (by omega), px_u (by omega), px_u (by omega), d3 3 (by omega), b34]; exact h14
  refine ⟨X5, ?_, ⟨fun k hk => ?_, fun k hk => ?_, fun k hk => ?_, fun k hk => ?_, ?_, ?_⟩, ⟨?_, ?_, ?_, ?_, ?_, ?_⟩, ⟨?_, ?_, ?_, ?_, ?_, ?_, ?_, ?_⟩, ?_, fun r k h1 h2 h3 h4 h5 h6 => ?_⟩
  · unfold fX11_village
    rw [hx1, px_bd]
    dsimp only
    rw [if_neg (show ¬ (1 : Int32) = 0 by decide), hX0, b1, px_bd, h12, px_bd, d1, px_bd]
    unfold fX0_forget
    rw [px_bd]
    unfold fX10_forget
    rw [px_bd, v34, hX5]
  · rw [e1 4 k (by omega) (by omega)]; exact b4' k hk
  · rw [e1 5 k (by omega) (by omega)]; exact b5' k hk
  · rw [e1 6 k (by omega) (by omega)]; exact b6' k hk
  · rw [e1 8 k (by omega) (by omega)]; exact b8' k hk
  · rw [e1 7 3 (by omega) (by omega)]; exact b73
  · rw [e1 7 4 (by omega) (by omega)]; exact b74
  · rw [e1 3 4 (by omega) (by omega)]; exact b34
  · rw [e1 3 5 (by omega) (by omega)]; exact b35
  · rw [e1 3 6 (by omega) (by omega)]; exact b36
  · rw [e1 3 7 (by omega) (by omega)]; exact b37
  · rw [e1 3 8 (by omega) (by omega)]; exact b38
  · rw [e1 3 9 (by omega) (by omega)]; exact b39
  · rw [e1 1 1 (by omega) (by omega), bo 1 (by omega)]; exact a11
  · rw [e0 0 13 (by omega) (by omega) (by omega), d3 0 (by omega), bo 0 (by omega)]; exact a13
  · rw [e0 0 14 (by omega) (by omega) (by omega), d3 0 (by omega), bo 0 (by omega)]; exact a14
  · rw [← hX5, px_u (by omega), px_u (by omega), px_u (by omega), px_u (by omega), ab_u_at]
  · rw [← hX5, px_u (by omega), px_u (by omega), px_u (by omega), ab_u_at]
  · rw [← hX5, px_u (by omega), px_u (by omega), ab_u_at]
  · rw [← hX5, px_u (by omega), ab_u_at]
  · rw [← hX5, ab_u_at]
  · exact rx_is_c (fun j hj k => e0 _ k (by omega) (by omega) (by omega)) d2
  · rw [e0 r k h5 h6 (by omega), d3 r h2, bo r h1]
    exact a0 r k h3 (by omega)
