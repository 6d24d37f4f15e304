/-! ===== village: a bracket ===== -/
section BRA
variable {I0 K0 : ab_I} {J0 L0 : ab_J} {z a b : Nat} {B : Nat → Nat}
theorem br_no {I K : ab_I} {J L : ab_J} {p0 c s u h j k dep : Nat} {σ : List Nat} (hq : fq I0 K0 J0 L0 z a b I J K L p0 c s u h [] σ) (hs : s ≤ 9 * u) (hl : σ.length ≤ 100) (hdl : dl σ = dep) (hd7 : dep ≤ 7) (hj : j ≤ 1601) (hk : k ≤ 1601) (h40 : c = 40) (hf : u = 30 ∨ dep = 7) {cl : Option (Int32 × ab_I × ab_J)} (hcl : ∀ I', fX4_refuses 2 I = some (0, I') → cl = some (0, I', J)) : fP I0 K0 J0 L0 z a b 5 dep s u h σ p0 k cl (fU j k K L) := by
  right
  obtain ⟨hT, f2, t2, t3⟩ := fq_tR hq
  have u30 : u ≤ 30 := hq.2.2.2.1.2.2.2
  obtain ⟨I1, K1, v1, v2, v3, v4, v5, v6, v7⟩ := pz_ref hq.1 (k := 2) (by decide) (by decide)
  have v1' : fX4_refuses 2 I = some (0, I1) := v1
  have v2' : fX12_wrong 2 K = some K1 := v2
  have hk1 : K 73 19 = nI σ.length := hq.2.2.2.2.1.1
  have hk3 : K 73 23 = nI (dl σ) := hq.2.2.2.2.1.2.2.1
  obtain ⟨Kc, eKc⟩ : ∃ Kc, Kc = ab_u (ab_u K1 73 20 (K1 73 20 + 1)) 73 22 (K1 73 22 + 1) := ⟨_, rfl⟩
  have fc : ft I0 K0 J0 L0 I1 J Kc L := by
    rw [eKc]
    exact ft_K (ft_K v3 (by unfold zm; omega) (by omega)) (by unfold zm; omega) (by omega)
  have c19 : Kc 73 19 = nI σ.length := by rw [eKc, px_u (by omega), px_u (by omega), v5 73 19 (by omega)]; exact hk1
  have f3 := ft_K (x := Kc 73 23 + 1) (ft_K (x := Kc 73 19 + 1) (ft_K (r := 80) (i := (Kc 73 19).toNatClampNeg) (x := 20) fc (by unfold zm; omega) (by omega)) (r := 73) (i := 19) (by unfold zm; omega) (by omega)) (r := 73) (i := 23) (by unfold zm; omega) (by omega)
  refine ⟨I1, J, _, L, hcl I1 v1', ?_, f3, s, by omega, by rw [v4 18 3 (by omega)]; exact hq.2.2.1.1⟩
  have e78 : fX12_unit_78 1 K L = some (.inl (1, ab_u (ab_u (ab_u Kc 80 (Kc 73 19).toNatClampNeg 20) 73 19 (Kc 73 19 + 1)) 73 23 (Kc 73 23 + 1), L)) := by
    unfold fX12_unit_78 fX12_unit_83 fX12_countUnit fX12_openUp fX12_openUp_41
    rw [v2', px_bd, px_bd, ← eKc, px_gd (show ab_ix (Kc 73 19) 160 = true by rw [c19]; exact px_ix (by omega) (by decide)), if_neg (ft_ne fc).2, px_bd]
  have hb : fX12_unit_2 1 K L = some (.inl (1, ab_u (ab_u (ab_u Kc 80 (Kc 73 19).toNatClampNeg 20) 73 19 (Kc 73 19 + 1)) 73 23 (Kc 73 23 + 1), L)) := by
    rw [un_turn hq hl (fun h => by omega)]
    unfold fX12_unit_53
    rw [if_pos (show K 73 6 = 40 from ((tk_sort hT).2.2.2.2 40 (by decide)).mp h40), if_ok hq.2.2.2.1.2.1 hq.2.2.2.1.2.2.1 u30, px_bd]
    by_cases e : u = 30
    · rw [if_pos e, if_neg (show ¬ (1 : Int32) = 0 by decide)]; exact e78
    · rw [if_neg e, if_pos (show (0 : Int32) = 0 from rfl), if_neg (show ¬ K 73 23 ≤ 6 by rw [hk3, hdl]; exact nI_ge (a := 6) (by omega) (by omega))]; exact e78
  have := fU_ft (j := j + 1) (k := k) f3 (by omega) (by omega)
  unfold fU at this ⊢
  rw [show 5000 - j = (5000 - (j + 1)) + 1 by omega, px_itL (s := (1, K, L)) (s' := (1, ab_u (ab_u (ab_u Kc 80 (Kc 73 19).toNatClampNeg 20) 73 19 (Kc 73 19 + 1)) 73 23 (Kc 73 23 + 1), L)) hb]
  exact this
/-- behind what stands in a bracket: its end, or a fault -/
theorem br_end (hB0 : tk_B I0 K0 z B) {I K : ab_I} {J L : ab_J} {p0 c s u h k : Nat} {pd σ : List Nat} (hq : fq I0 K0 J0 L0 z a b I J K L p0 c s u h pd (20 :: σ)) (h3 : s + pd.length ≤ 300) (hl : (pd ++ 20 :: σ).length ≤ 100) (hp : ∀ e, e ∈ pd → ok 0 e) (hE : fE 0 c pd) (hk : k ≤ p0) (hk2 : k ≤ 1601) : (∃ I' J' K' L' c' p1, fX4_takes 41 I J = some (1, I', J') ∧ fR k K L = fR (k + 1) K' L' ∧ fq I0 K0 J0 L0 z a b I' J' K' L' p1 c' (s + pd.length) u h [] σ ∧ p0 < p1 ∧ k + 1 ≤ 1601) ∨ ∃ I' K', fX4_takes 41 I J = some (0, I', J) ∧ fR k K L = some (K', L) ∧ fz I0 K0 J0 L0 I' J K' L := by
  obtain ⟨hT, f2, t2, t3⟩ := fq_tR hq
  have hsl : σ.length ≤ 100 := by rw [List.length_append, List.length_cons] at hl; omega
  have h20 : (20 : Nat) ∈ pd ++ 20 :: σ := List.mem_append_right _ (List.mem_cons_self ..)
  have hb := hb_ok hl hq.2.2.2.2.1.1 hq.2.2.2.2.1.2.1 hq.2.2.2.2.1.2.2.2
  rw [if_pos h20] at hb
  have t41 := (tk_sort hT).2.2.2.2 41 (by decide)
  unfold fX4_takes
  by_cases e : c = 41
  · left
    obtain ⟨K1, c1, q1⟩ := fq_close (t := 0) hq h3 hl (by decide) ⟨by decide, Or.inl rfl⟩ hp
    have c1' : fX12_close 0 K = some K1 := c1
    have q2 := fq_popb q1
    have k19 : K1 73 19 = nI (σ.length + 1) := q1.2.2.2.2.1.1
    have k23 : K1 73 23 = nI (dl σ + 1) := by
      have := q1.2.2.2.2.1.2.2.1
      rw [this]
      show nI (dl (20 :: σ)) = _
      rw [dl, if_pos (Or.inl rfl), Nat.add_comm]
    obtain ⟨I2, J2, K2, L2, c2, p2, x1, x2, x3, x4, x5⟩ := fq_A hB0 q2 (by omega) (by omega)
    rw [if_pos (show I 22 2 = 41 by rw [t2, e]; rfl), x1, px_bd]
    refine ⟨I2, J2, K2, L2, c2, p2, rfl, ?_, x3, x4, by omega⟩
    unfold fR
    rw [show 5000 - k = (5000 - (k + 1)) + 1 by omega, px_itL (s := (1, K, L)) (s' := (1, K2, L2)) ?_]
    unfold fX12_formula_35 fX12_formula_159
    dsimp only
    rw [if_neg (show ¬ (1 : Int32) = 0 by decide), if_pos f2, sgn_ok hT, px_bd, if_pos (show K 73 6 = 41 from t41.mp e), hb, px_bd, if_neg (show ¬ (1 : Int32) = 0 by decide), c1', px_bd, k19, k23, nI_pred, nI_pred, x2, px_bd]
  · right
    obtain ⟨I1, K1, v1, v2, v3, v4, v5, v6, v7⟩ := pz_ref hq.1 (k := 2) (by decide) (by decide)
    have v1' : fX4_refuses 2 I = some (0, I1) := v1
    have v2' : fX12_wrong 2 K = some K1 := v2
    rw [if_neg (show ¬ I 22 2 = 41 by rw [t2]; exact fun h => e ((nI_eq (b := 41) (by omega) (by decide)).mp h)), v1', px_bd, px_gd (Or.inl rfl)]
    refine ⟨I1, K1, rfl, ?_, v3, s + pd.length, h3, by rw [v4 18 3 (by omega)]; exact hq.2.2.1.1⟩
    have e157 : fX12_formula_35 1 K L = some (.inl (0, K, L)) := by
      unfold fX12_formula_35
      rw [if_neg (show ¬ (1 : Int32) = 0 by decide), if_pos f2, sgn_ok hT, px_bd, if_neg (show ¬ K 73 6 = 41 from fun h => e (t41.mpr h))]
      unfold fX12_formula_99 fX12_formula_157 fX12_formula_159
      by_cases hs : sgn c = 0
      · rw [if_pos (show nI (sgn c) = 0 by rw [hs]; rfl)]
      · have hbo := lv_b c t3 hs
        have htg := tg_le (sgn c)
        rcases hE with g | g | ⟨g1, _, g3⟩
        · exact absurd g hs
        · have : tg (sgn c) < 1 := g
          omega
        · rw [if_neg (show ¬ nI (sgn c) = 0 from nI_ne0 (by omega) (by omega)), tg_ok _ (by omega), px_bd, if_pos (show nI (tg (sgn c)) = 4 by rw [g1]; rfl), hr_ok hl hq.2.2.2.2.1.1 hq.2.2.2.2.1.2.1 hq.2.2.2.2.1.2.2.2, px_bd, hr_app g3, if_neg (show ¬ (if true = true then (1 : Int32) else 0) = 0 by decide)]
    unfold fR
    rw [show 5000 - k = (4998 - k) + 1 + 1 by omega, px_itL (s := (1, K, L)) (s' := (0, K, L)) e157]
    refine px_itO ?_
    unfold fX12_formula_35 fX12_formula_162 fX12_formula_181 fX12_formula_193
    dsimp only
    rw [if_pos (show (0 : Int32) = 0 from rfl), if_pos f2, hb, px_bd, if_neg (show ¬ (1 : Int32) = 0 by decide), v2', px_bd, if_neg v7]
end BRA
