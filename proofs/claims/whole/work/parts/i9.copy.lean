/-! ===== village: what is told goes over ===== -/
theorem px_copyFrom {I : ab_I} : ∃ I', fX9_copyFrom I = some I' ∧ (∀ k, k < 6 → I' 4 k = I 15 k) ∧ (∀ k, k < 5 → I' 5 k = I 16 k) ∧ (∀ k, k < 30 → I' 6 k = I 17 k) ∧ (∀ k, k < 300 → I' 8 k = I 19 k) ∧ I' 7 3 = I 18 3 ∧ I' 7 4 = I 18 4 ∧ (I' 3 4 = I 14 4 ∧ I' 3 5 = I 14 5 ∧ I' 3 6 = I 14 6 ∧ I' 3 7 = I 14 7 ∧ I' 3 8 = I 14 8 ∧ I' 3 9 = I 14 9) ∧ ∀ r, (r < 3 ∨ 8 < r) → I' r = I r := by
  generalize hI1 : ab_r I 4 (va_cpy (I 15) (I 4) (0 : Int32).toNatClampNeg (0 : Int32).toNatClampNeg (6 : Int32).toNatClampNeg) = I1
  have a1 : ∀ k, k < 6 → I1 4 k = I 15 k := fun k hk => by rw [← hI1, ab_r_s, px_cpy0 (n := 6) rfl hk]
  have a2 : ∀ r, r ≠ 4 → I1 r = I r := fun r hr => by rw [← hI1, ab_r_o hr]
  generalize hI2 : ab_r I1 5 (va_cpy (I1 16) (I1 5) (0 : Int32).toNatClampNeg (0 : Int32).toNatClampNeg (5 : Int32).toNatClampNeg) = I2
  have b1 : ∀ k, k < 5 → I2 5 k = I 16 k := fun k hk => by rw [← hI2, ab_r_s, px_cpy0 (n := 5) rfl hk, a2 16 (by omega)]
  have b2 : ∀ r, r ≠ 5 → I2 r = I1 r := fun r hr => by rw [← hI2, ab_r_o hr]
  generalize hI3 : ab_r I2 6 (va_cpy (I2 17) (I2 6) (0 : Int32).toNatClampNeg (0 : Int32).toNatClampNeg (30 : Int32).toNatClampNeg) = I3
  have c1 : ∀ k, k < 30 → I3 6 k = I 17 k := fun k hk => by rw [← hI3, ab_r_s, px_cpy0 (n := 30) rfl hk, b2 17 (by omega), a2 17 (by omega)]
  have c2 : ∀ r, r ≠ 6 → I3 r = I2 r := fun r hr => by rw [← hI3, ab_r_o hr]
  have c3 : ∀ r, r ≠ 4 → r ≠ 5 → r ≠ 6 → I3 r = I r := fun r h1 h2 h3 => by rw [c2 r h3, b2 r h2, a2 r h1]
  generalize hI4 : ab_r I3 8 (va_cpy (I3 19) (I3 8) (0 : Int32).toNatClampNeg (0 : Int32).toNatClampNeg (300 : Int32).toNatClampNeg) = I4
  have d1 : ∀ k, k < 300 → I4 8 k = I 19 k := fun k hk => by rw [← hI4, ab_r_s, px_cpy0 (n := 300) rfl hk, c3 19 (by omega) (by omega) (by omega)]
  have d2 : ∀ r, r ≠ 8 → I4 r = I3 r := fun r hr => by rw [← hI4, ab_r_o hr]
  generalize hI5 : ab_u (ab_u I4 7 3 (I3 18 3)) 7 4 (I3 18 4) = I5
  have e1 : ∀ r, r ≠ 7 → I5 r = I4 r := fun r hr => by rw [← hI5, ab_u_o hr, ab_u_o hr]
  have e2 : I5 7 3 = I 18 3 := by rw [← hI5, px_u (by omega), ab_u_at, c3 18 (by omega) (by omega) (by omega)]
  have e3 : I5 7 4 = I 18 4 := by rw [← hI5, ab_u_at, c3 18 (by omega) (by omega) (by omega)]
  have e4 : ∀ r, r ≠ 4 → r ≠ 5 → r ≠ 6 → r ≠ 7 → r ≠ 8 → I5 r = I r := fun r h1 h2 h3 h4 h5 => by rw [e1 r h4, d2 r h5, c3 r h1 h2 h3]
  have f14 : I5 14 = I 14 := e4 14 (by omega) (by omega) (by omega) (by omega) (by omega)
  generalize hI6 : ab_u (ab_u (ab_u (ab_u (ab_u (ab_u I5 3 4 (I5 14 4)) 3 5 (I5 14 5)) 3 6 (I5 14 6)) 3 7 (I5 14 7)) 3 8 (I5 14 8)) 3 9 (I5 14 9) = I6
  have g1 : ∀ r, r ≠ 3 → I6 r = I5 r := fun r hr => by rw [← hI6, ab_u_o hr, ab_u_o hr, ab_u_o hr, ab_u_o hr, ab_u_o hr, ab_u_o hr]
  refine ⟨I6, ?_, fun k hk => ?_, fun k hk => ?_, fun k hk => ?_, fun k hk => ?_, ?_, ?_, ⟨?_, ?_, ?_, ?_, ?_, ?_⟩, fun r hr => ?_⟩
  · unfold fX9_copyFrom fX2_copyFrom
    rw [hI1, hI2, hI3, hI4, hI5, px_bd, hI6]
  · rw [g1 4 (by omega), e1 4 (by omega), d2 4 (by omega), c2 4 (by omega), b2 4 (by omega)]
    exact a1 k hk
  · rw [g1 5 (by omega), e1 5 (by omega), d2 5 (by omega), c2 5 (by omega)]
    exact b1 k hk
  · rw [g1 6 (by omega), e1 6 (by omega), d2 6 (by omega)]
    exact c1 k hk
  · rw [g1 8 (by omega), e1 8 (by omega)]
    exact d1 k hk
  · rw [g1 7 (by omega)]; exact e2
  · rw [g1 7 (by omega)]; exact e3
  · rw [← hI6, px_u (by omega), px_u (by omega), px_u (by omega), px_u (by omega), px_u (by omega), ab_u_at, f14]
  · rw [← hI6, px_u (by omega), px_u (by omega), px_u (by omega), px_u (by omega), ab_u_at, f14]
  · rw [← hI6, px_u (by omega), px_u (by omega), px_u (by omega), ab_u_at, f14]
  · rw [← hI6, px_u (by omega), px_u (by omega), ab_u_at, f14]
  · rw [← hI6, px_u (by omega), ab_u_at, f14]
  · rw [← hI6, ab_u_at, f14]
  · rw [g1 r (by omega), e4 r (by omega) (by omega) (by omega) (by omega) (by omega)]
/-- a loop that copies into row d, the longs carried along -/
theorem px_cplJ {ρ : Type} {body : Int32 × ab_I × ab_J → Option ((Int32 × ab_I × ab_J) ⊕ ρ)} {Out : ρ → Prop} {I : ab_I} {J : ab_J} (n d : Nat) (src : Nat → Int32)
    (step : ∀ i I2, i < n → (∀ r, r ≠ d → I2 r = I r) → body (nI i, I2, J) = some (.inl (nI i + 1, ab_u I2 d i (src i), J)))
    (out : ∀ I2, (∀ r, r ≠ d → I2 r = I r) → (∀ k, k < n → I2 d k = src k) → ∃ x, body (nI n, I2, J) = some (.inr x) ∧ Out x) {m : Nat} (hm : n < m) : ∃ x, ab_it body m (0, I, J) = some x ∧ Out x := by
  refine px_for (body := body) (Out := Out) (fun i s => s.1 = nI i ∧ s.2.2 = J ∧ (∀ r, r ≠ d → s.2.1 r = I r) ∧ ∀ k, k < i → s.2.1 d k = src k) n ?_ ?_ n 0 m (0, I, J) (by omega) hm ⟨rfl, rfl, fun _ _ => rfl, fun k hk => absurd hk (Nat.not_lt_zero k)⟩
  · rintro i ⟨a, I2, J2⟩ hi ⟨e1, e0, e2, e3⟩
    dsimp only at e1 e0 e2 e3 ⊢
    subst e1 e0
    refine ⟨_, step i I2 hi e2, (nI_succ i).symm, rfl, fun r hr => ?_, fun k hk => ?_⟩
    · show ab_u I2 d i (src i) r = _
      rw [ab_u_o hr]
      exact e2 r hr
    · show ab_u I2 d i (src i) d k = _
      by_cases e : k = i
      · subst e
        rw [ab_u_at]
      · rw [ab_u_ne e]
        exact e3 k (by omega)
  · rintro ⟨a, I2, J2⟩ ⟨e1, e0, e2, e3⟩
    dsimp only at e1 e0 e2 e3 ⊢
    subst e1 e0
    exact out I2 e2 e3
