/-! ===== village: a sign within a formula ===== -/
section TRN
variable {I0 K0 : ab_I} {J0 L0 : ab_J} {z a b : Nat} {B : Nat → Nat}
theorem px_itB {σ ρ γ : Type} {body : σ → Option (σ ⊕ ρ)} {n : Nat} {s : σ} {o : Option γ} {g : γ → σ} (h : body s = o.bind fun u => some (.inl (g u))) : ab_it body (n + 1) s = o.bind fun u => ab_it body n (g u) := by
  cases o with
  | none => rw [ab_it, h]; rfl
  | some u => rw [px_itL (s' := g u) h]; rfl
theorem fq_A {I K : ab_I} {J L : ab_J} {p0 c s u h : Nat} {pd σ : List Nat} (hB0 : tk_B I0 K0 z B) (hq : fq I0 K0 J0 L0 z a b I J K L p0 c s u h pd σ) (h0 : c ≠ 0) (h1 : c ≠ 1) : ∃ I' J' K' L' c' p1, fX8_advance I J = some (I', J') ∧ fX12_token K L = some (K', L') ∧ fq I0 K0 J0 L0 z a b I' J' K' L' p1 c' s u h pd σ ∧ p0 < p1 ∧ p0 < 1600 := by
  obtain ⟨hz, ⟨b1, b2⟩, ⟨o1, o2, o3, o4⟩, ⟨u1, u2, u3, u4⟩, ⟨k1, k2, k3, k4⟩, m1, m2, m3⟩ := hq
  obtain ⟨I', J', K', L', c', p1, x1, x2, x3, x4, x5, x6, x7⟩ := pz_adv hB0 hz h0 h1
  have e19 : I' 19 = I 19 := funext fun k => x6.1 19 k (by omega)
  refine ⟨I', J', K', L', c', p1, x1, x2, ⟨x3, ⟨by rw [x6.1 11 3 (by omega)]; exact b1, by rw [x7.1 73 24 (by omega)]; exact b2⟩, ⟨by rw [x6.1 18 3 (by omega)]; exact o1, by rw [x7.1 73 17 (by omega)]; exact o2, by rw [e19]; exact o3, fun i hi => by rw [e19, x7.1 76 i (by omega), x7.1 77 i (by omega)]; exact o4 i hi⟩, ⟨by rw [x6.1 18 4 (by omega)]; exact u1, by rw [x7.1 73 20 (by omega)]; exact u2, by rw [x7.1 73 22 (by omega)]; exact u3, u4⟩, ⟨by rw [x7.1 73 19 (by omega)]; exact k1, sks_c _ k2 (fun k _ => x7.1 80 k (by omega)), by rw [x7.1 73 23 (by omega)]; exact k3, k4⟩, by rw [e19]; exact m1, m2, by rw [e19]; exact m3⟩, x4, by have := hB0.1; omega⟩
/-- closing what is kept back, all of it -/
theorem fq_close {I K : ab_I} {J L : ab_J} {p0 c s u h t : Nat} {pd σ : List Nat} (hq : fq I0 K0 J0 L0 z a b I J K L p0 c s u h pd σ) (h3 : s + pd.length ≤ 300) (hl : (pd ++ σ).length ≤ 100) (ht : t < 100) (hσ : tc t σ) (hp : ∀ e, e ∈ pd → ok t e) : ∃ K', fX12_close (nI t) K = some K' ∧ fq I0 K0 J0 L0 z a b I J K' L p0 c (s + pd.length) u h [] σ := by
  obtain ⟨hz, ⟨b1, b2⟩, ⟨o1, o2, o3, o4⟩, ⟨u1, u2, u3, u4⟩, ⟨k1, k2, k3, k4⟩, m1, m2, m3⟩ := hq
  have hpl : pd.length ≤ 100 := by rw [List.length_append] at hl; omega
  obtain ⟨K', g1, g2, g3, g4, g5, g6, g7⟩ := cl_pop (x := I 19) ht hσ pd (4999 - pd.length) s K hp k1 k2 hl o2 h3 k3 o3 o4
  rw [show 4999 - pd.length + pd.length + 1 = 5000 by omega] at g1
  refine ⟨K', g1, pz_w hz (fun r k _ => rfl) (fun r k hr => g7 r k (by omega)), ⟨b1, by rw [g7 73 24 (by omega)]; exact b2⟩, ⟨o1, g4, trivial, g6⟩, ⟨u1, by rw [g7 73 20 (by omega)]; exact u2, by rw [g7 73 22 (by omega)]; exact u3, u4⟩, ⟨g2, g3, g5, fun e he => k4 e (List.mem_append_right _ he)⟩, m1, m2, m3⟩
/-- something is laid on the reference's stack -/
theorem fq_push {I K : ab_I} {J L : ab_J} {p0 c s u h e : Nat} {σ : List Nat} (hq : fq I0 K0 J0 L0 z a b I J K L p0 c s u h [] σ) (he : e < 125) : fq I0 K0 J0 L0 z a b I J (ab_u (ab_u (ab_u K 80 σ.length (nI e)) 73 19 (nI (σ.length + 1))) 73 23 (nI (dl (e :: σ)))) L p0 c s u h [] (e :: σ) := by
  obtain ⟨hz, ⟨b1, b2⟩, ⟨o1, o2, o3, o4⟩, ⟨u1, u2, u3, u4⟩, ⟨k1, k2, k3, k4⟩, m1, m2, m3⟩ := hq
  have g : ∀ r k, ¬ (r = 80 ∨ (r = 73 ∧ (k = 19 ∨ k = 23))) → ab_u (ab_u (ab_u K 80 σ.length (nI e)) 73 19 (nI (σ.length + 1))) 73 23 (nI (dl (e :: σ))) r k = K r k := fun r k hr => by rw [px_u (by omega), px_u (by omega), px_u (by omega)]
  refine ⟨pz_w hz (fun r k _ => rfl) (fun r k hr => g r k (by omega)), ⟨b1, by rw [g 73 24 (by omega)]; exact b2⟩, ⟨o1, by rw [g 73 17 (by omega)]; exact o2, trivial, fun i hi => by rw [g 76 i (by omega), g 77 i (by omega)]; exact o4 i hi⟩, ⟨u1, by rw [g 73 20 (by omega)]; exact u2, by rw [g 73 22 (by omega)]; exact u3, u4⟩, ⟨by rw [px_u (by omega), ab_u_at]; rfl, ⟨by rw [px_u (by omega), px_u (by omega), ab_u_at], sks_c σ k2 (fun k hk => by rw [px_u (by omega), px_u (by omega), px_u (by omega)])⟩, by rw [ab_u_at]; rfl, fun x hx => ?_⟩, m1, m2, m3⟩
  rcases List.mem_cons.mp hx with h | h
  · rw [h]; exact he
  · exact k4 x h
theorem fq_tR {I K : ab_I} {J L : ab_J} {p0 c s u h : Nat} {pd σ : List Nat} (hq : fq I0 K0 J0 L0 z a b I J K L p0 c s u h pd σ) : tk_R I J K L z p0 c ∧ K 73 2 = 0 ∧ I 22 2 = nI c ∧ c < 300 := by
  have hT := hq.1.2.1
  obtain ⟨pl, _, t2, t3, _⟩ := id hT
  exact ⟨hT, hq.1.2.2.2.2.1, t2, t3⟩
/-- behind a unit, at a sign that joins -/
theorem fq_op {I K : ab_I} {J L : ab_J} {p0 c s u h k : Nat} {pd σ : List Nat} (hB0 : tk_B I0 K0 z B) (hq : fq I0 K0 J0 L0 z a b I J K L p0 c s u h pd σ) (h3 : s + pd.length ≤ 300) (hl : (pd ++ σ).length ≤ 100) (hs : sgn c ≠ 0) (hσ : tc (tg (sgn c)) σ) (hp : ∀ e, e ∈ pd → ok (tg (sgn c)) e) (hr4 : tg (sgn c) = 4 → hr (pd ++ σ) = false) (hk : k ≤ p0) : ∃ I' J' K' L' c' p1, fX8_advance I J = some (I', J') ∧ fR k K L = fU 0 (k + 1) K' L' ∧ fq I0 K0 J0 L0 z a b I' J' K' L' p1 c' (s + pd.length) u h [] (sgn c :: σ) ∧ p0 < p1 ∧ k + 1 ≤ 1601 := by
  obtain ⟨hT, f2, t2, t3⟩ := fq_tR hq
  obtain ⟨v0, v1, v41, v3⟩ := lv_e c t3 hs
  have hb := lv_b c t3 hs
  have h125 : sgn c < 125 := by omega
  have ht := tg_le (sgn c)
  obtain ⟨K1, c1, q1⟩ := fq_close hq h3 hl (by omega) hσ hp
  have q2 := fq_push (e := sgn c) q1 h125
  have ed : dl (sgn c :: σ) = dl σ := by rw [dl, if_neg (by omega), Nat.zero_add]
  have e23 : ab_u (ab_u (ab_u K1 80 σ.length (nI (sgn c))) 73 19 (nI (σ.length + 1))) 73 23 (nI (dl (sgn c :: σ))) = ab_u (ab_u K1 80 σ.length (nI (sgn c))) 73 19 (nI (σ.length + 1)) := by
    have e1 : K1 73 23 = nI (dl σ) := q1.2.2.2.2.1.2.2.1
    funext r k
    by_cases e : r = 73 ∧ k = 23
    · rw [e.1, e.2, ab_u_at, px_u (by omega), px_u (by omega), e1, ed]
    · rw [px_u e]
  rw [e23] at q2
  obtain ⟨I', J', K', L', c', p1, x1, x2, x3, x4, x5⟩ := fq_A hB0 q2 v0 v1
  refine ⟨I', J', K', L', c', p1, x1, ?_, x3, x4, by omega⟩
  have e19 : K1 73 19 = nI σ.length := q1.2.2.2.2.1.1
  have hsl : σ.length ≤ 100 := by rw [List.length_append] at hl; omega
  have body : fX12_formula_35 1 K L = (fX12_unit K' L').bind fun u => some (.inl (1, u.1, u.2)) := by
    have e118 : fX12_formula_118 1 (nI (sgn c)) K L = (fX12_unit K' L').bind fun u => some (.inl (1, u.1, u.2)) := by
      unfold fX12_formula_118 fX12_formula_159
      rw [tg_ok _ h125, px_bd, c1, px_bd, e19, px_gd (px_ix (by omega) (by decide)), nI_clamp (by omega), ← nI_succ, x2, px_bd]
    unfold fX12_formula_35
    rw [if_neg (show ¬ (1 : Int32) = 0 by decide), if_pos f2, sgn_ok hT, px_bd, if_neg (show ¬ K 73 6 = 41 from fun h => v41 (((tk_sort hT).2.2.2.2 41 (by decide)).mpr h))]
    unfold fX12_formula_99
    rw [if_neg (nI_ne0 (by omega) (by omega)), tg_ok _ h125, px_bd]
    by_cases e4 : tg (sgn c) = 4
    · rw [if_pos (show nI (tg (sgn c)) = 4 by rw [e4]; rfl), hr_ok hl hq.2.2.2.2.1.1 hq.2.2.2.2.1.2.1 hq.2.2.2.2.1.2.2.2, px_bd, hr4 e4, if_pos (show (if false = true then (1 : Int32) else 0) = 0 by decide)]
      exact e118
    · rw [if_neg (show ¬ nI (tg (sgn c)) = 4 from fun h => e4 ((nI_eq (b := 4) (by omega) (by decide)).mp h))]
      exact e118
  unfold fR fU
  rw [show 5000 - k = (5000 - (k + 1)) + 1 by omega, px_itB (g := fun u : ab_I × ab_J => (1, u.1, u.2)) body]
  rfl
end TRN
