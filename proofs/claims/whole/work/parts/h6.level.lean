/-! ===== village: one level of a formula ===== -/
section LEV
/-- both sides within a formula: s steps written by the reference, pd kept back on its stack over σ; u units; h values wait -/
def fq (I0 K0 : ab_I) (J0 L0 : ab_J) (z a b : Nat) (I : ab_I) (J : ab_J) (K : ab_I) (L : ab_J) (p0 c s u h : Nat) (pd σ : List Nat) : Prop :=
  pz I0 K0 J0 L0 z I J K L p0 c a b ∧ (I 11 3 = 1 ∧ K 73 24 = 1) ∧ (I 18 3 = nI (s + pd.length) ∧ K 73 17 = nI s ∧ pn (I 19) s pd ∧ ∀ i, i < s → fm_1 (I 19 i) (K 76 i) (K 77 i)) ∧ (I 18 4 = nI u ∧ K 73 20 = nI u ∧ K 73 22 = nI u ∧ u ≤ 30) ∧ (K 73 19 = nI (pd ++ σ).length ∧ sks K (pd ++ σ) ∧ K 73 23 = nI (dl (pd ++ σ)) ∧ sev (pd ++ σ)) ∧ fm_h (I 19) (s + pd.length) = some h ∧ h ≤ u ∧ ∀ i, i ≤ s + pd.length → ∃ h, fm_h (I 19) i = some h ∧ h ≤ 30
def fT (lv : Nat) : Nat := if lv = 0 then 1 else if lv = 1 then 2 else lv + 2
def fl (lv : Nat) : Nat := if lv = 2 then 3 else fT lv
/-- why a level ends at token c -/
def fE (lv c : Nat) (pd : List Nat) : Prop := sgn c = 0 ∨ tg (sgn c) < fT lv ∨ (tg (sgn c) = 4 ∧ lv ≤ 2 ∧ hr pd = true)
/-- the reference, waiting for a unit; behind a unit -/
def fR (k : Nat) (K : ab_I) (L : ab_J) : Option (ab_I × ab_J) := ab_it (fun s : Int32 × ab_I × ab_J => fX12_formula_35 s.1 s.2.1 s.2.2) (5000 - k) (1, K, L)
def fU (j k : Nat) (K : ab_I) (L : ab_J) : Option (ab_I × ab_J) := (ab_it (fun s : Int32 × ab_I × ab_J => fX12_unit_2 s.1 s.2.1 s.2.2) (5000 - j) (1, K, L)).bind fun u => fR k u.1 u.2
variable {I0 K0 : ab_I} {J0 L0 : ab_J} {z a b : Nat} {B : Nat → Nat}
/-- a level's end -/
def fP (I0 K0 : ab_I) (J0 L0 : ab_J) (z a b lv dep s u h : Nat) (σ : List Nat) (p0 k : Nat) (cl : Option (Int32 × ab_I × ab_J)) (rf : Option (ab_I × ab_J)) : Prop :=
  (∃ I' J' K' L' p1 c' s' u' pd k', cl = some (1, I', J') ∧ rf = fR k' K' L' ∧ fq I0 K0 J0 L0 z a b I' J' K' L' p1 c' s' u' (h + 1) pd σ ∧ (∀ e, e ∈ pd → ok (fl lv) e) ∧ fE lv c' pd ∧ u < u' ∧ s' + pd.length + dep + 1 + 9 * u ≤ s + 9 * u' ∧ (pd ++ σ).length + 1 ≤ u' + dl (pd ++ σ) ∧ p0 < p1 ∧ k' ≤ p1 ∧ k' ≤ 1601 ∧ dl (pd ++ σ) ≤ 7) ∨ ∃ I' J' K' L', cl = some (0, I', J') ∧ rf = some (K', L') ∧ fz I0 K0 J0 L0 I' J' K' L'
def fM (I0 K0 : ab_I) (J0 L0 : ab_J) (z a b : Nat) (rd : Int32 → Int32 → ab_I → ab_J → Option (Int32 × ab_I × ab_J)) (lv dep : Nat) : Prop :=
  ∀ I J K L p0 c s u h σ j k, fq I0 K0 J0 L0 z a b I J K L p0 c s u h [] σ → s ≤ 9 * u → σ.length ≤ u + dl σ → dl σ = dep → tc (fT lv) σ → (c = 214 → 3 ≤ lv → ∃ e l, σ = e :: l ∧ e ≠ 20 ∧ 4 ≤ tg e) → j ≤ p0 → j ≤ 1601 → k ≤ p0 → k ≤ 1601 → fP I0 K0 J0 L0 z a b lv dep s u h σ p0 k (rd (nI lv) (nI dep) I J) (fU j k K L)
theorem pn_c {x x' : Nat → Int32} : ∀ (l : List Nat) (s : Nat), pn x s l → (∀ i, s ≤ i → i < s + l.length → x' i = x i) → pn x' s l := by
  intro l
  induction l with
  | nil => intro s _ _; trivial
  | cons e l ih =>
    intro s h hx
    exact ⟨by rw [hx s (by omega) (by rw [List.length_cons]; omega)]; exact h.1, ih (s + 1) h.2 (fun i h1 h2 => hx i (by omega) (by rw [List.length_cons]; omega))⟩
theorem pn_app {x : Nat → Int32} {e : Nat} : ∀ (l : List Nat) (s : Nat), pn x s l → x (s + l.length) = cst e → pn x s (l ++ [e]) := by
  intro l
  induction l with
  | nil => intro s _ h; exact ⟨h, trivial⟩
  | cons e' l ih =>
    intro s h hx
    refine ⟨h.1, ih (s + 1) h.2 ?_⟩
    rw [← hx, List.length_cons]
    congr 1
    omega
theorem cst_s {e : Nat} (h : bo e) : ¬ cst e = -214 ∧ ¬ (0 ≤ cst e ∨ (-211 ≤ cst e ∧ cst e ≤ -206)) := by
  rcases h with rfl | rfl | rfl | rfl | rfl | rfl | rfl | rfl | rfl | rfl <;> decide +kernel
theorem fh_bin {x : Nat → Int32} {t h e : Nat} (e1 : fm_h x t = some (h + 2)) (hb : bo e) (hx : x t = cst e) : fm_h x (t + 1) = some (h + 1) := by
  obtain ⟨c1, c2⟩ := cst_s hb
  unfold fm_h
  rw [e1]
  dsimp only
  rw [hx, if_neg c1, if_neg c2, if_pos (by omega)]
  rfl
theorem fh_not {x : Nat → Int32} {t h : Nat} (e1 : fm_h x t = some (h + 1)) (hx : x t = -214) : fm_h x (t + 1) = some (h + 1) := by
  unfold fm_h
  rw [e1]
  dsimp only
  rw [if_pos hx, if_pos (by omega)]
theorem dl_app (l m : List Nat) : dl (l ++ m) = dl l + dl m := by
  induction l with
  | nil => simp [dl]
  | cons e l ih => rw [List.cons_append, dl, dl, ih]; omega
/-- the class adds what the reference still keeps on its stack -/
theorem fq_add {I K : ab_I} {J L : ab_J} {p0 c s u h h' e : Nat} {pd σ : List Nat} (hq : fq I0 K0 J0 L0 z a b I J K L p0 c s u h pd (e :: σ)) (h3 : s + pd.length < 300) (he : ∀ x : Nat → Int32, fm_h x (s + pd.length) = some h → x (s + pd.length) = cst e → fm_h x (s + pd.length + 1) = some h') (hu : h' ≤ u) : ∃ I', fX2_add (cst e) I = some I' ∧ fq I0 K0 J0 L0 z a b I' J K L p0 c s u h' (pd ++ [e]) σ := by
  obtain ⟨hz, ⟨b1, b2⟩, ⟨o1, o2, o3, o4⟩, ⟨u1, u2, u3, u4⟩, ⟨k1, k2, k3, k4⟩, m1, m2, m3⟩ := hq
  refine ⟨_, ad_ok o1 h3, ?_⟩
  have g19 : ∀ i, i ≠ s + pd.length → ab_u (ab_u I 19 (s + pd.length) (cst e)) 18 3 (nI (s + pd.length + 1)) 19 i = I 19 i := fun i hi => by rw [px_u (by omega), px_u (by omega)]
  have g19' : ab_u (ab_u I 19 (s + pd.length) (cst e)) 18 3 (nI (s + pd.length + 1)) 19 (s + pd.length) = cst e := by rw [px_u (by omega), ab_u_at]
  have ea : pd ++ [e] ++ σ = pd ++ e :: σ := by rw [List.append_assoc]; rfl
  have el : s + (pd ++ [e]).length = s + pd.length + 1 := by rw [List.length_append]; rfl
  have hh : ∀ i, i ≤ s + pd.length → fm_h (ab_u (ab_u I 19 (s + pd.length) (cst e)) 18 3 (nI (s + pd.length + 1)) 19) i = fm_h (I 19) i := fun i hi => fm_h_c i (fun j hj => g19 j (by omega))
  have hN := he _ (by rw [hh _ (Nat.le_refl _)]; exact m1) g19'
  refine ⟨pz_w hz (fun r k hr => by rw [px_u (by omega), px_u (by omega)]) (fun r k _ => rfl), ⟨by rw [px_u (by omega), px_u (by omega)]; exact b1, b2⟩, ⟨by rw [ab_u_at, el], o2, pn_app pd s (pn_c pd s o3 (fun i _ hi => g19 i (by omega))) g19', fun i hi => by rw [g19 i (by omega)]; exact o4 i hi⟩, ⟨by rw [px_u (by omega), px_u (by omega)]; exact u1, u2, u3, u4⟩, ⟨by rw [ea]; exact k1, by rw [ea]; exact k2, by rw [ea]; exact k3, by rw [ea]; exact k4⟩, by rw [el]; exact hN, hu, fun i hi => ?_⟩
  rw [el] at hi
  by_cases ei : i = s + pd.length + 1
  · exact ⟨h', by rw [ei]; exact hN, by omega⟩
  · rw [hh i (by omega)]; exact m3 i (by omega)
end LEV
