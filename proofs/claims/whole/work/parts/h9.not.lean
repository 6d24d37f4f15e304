/-! ===== village: a level, and not ===== -/
section NOT
variable {I0 K0 : ab_I} {J0 L0 : ab_J} {z a b : Nat} {B : Nat → Nat}
theorem fR_ft {I K : ab_I} {J L : ab_J} {k : Nat} (h : ft I0 K0 J0 L0 I J K L) (hk : k ≤ 2000) : fR k K L = some (K, L) := by
  unfold fR
  rw [show 5000 - k = (4999 - k) + 1 by omega]
  refine px_itO ?_
  unfold fX12_formula_35 fX12_formula_162 fX12_formula_181 fX12_formula_193
  dsimp only
  rw [if_neg (show ¬ (1 : Int32) = 0 by decide), if_neg (ft_ne h).2, if_neg (ft_ne h).2, if_neg (ft_ne h).2]
theorem fU_ft {I K : ab_I} {J L : ab_J} {j k : Nat} (h : ft I0 K0 J0 L0 I J K L) (hj : j ≤ 2000) (hk : k ≤ 2000) : fU j k K L = some (K, L) := by
  unfold fU
  rw [show 5000 - j = (4999 - j) + 1 by omega, px_itO (o := some (K, L)) ?_, px_bd, fR_ft h hk]
  unfold fX12_unit_2 fX12_unit_101
  dsimp only
  rw [if_neg (show ¬ (1 : Int32) = 0 by decide), if_neg (ft_ne h).2, if_neg (ft_ne h).1]
theorem lv_level (hB0 : tk_B I0 K0 z B) {rd : Int32 → Int32 → ab_I → ab_J → Option (Int32 × ab_I × ab_J)} {lv dep : Nat} (hlv : lv ≤ 4) (ih : fM I0 K0 J0 L0 z a b rd (lv + 1) dep) {I K : ab_I} {J L : ab_J} {p0 c s u h j k : Nat} {σ : List Nat} (hq : fq I0 K0 J0 L0 z a b I J K L p0 c s u h [] σ) (hs : s ≤ 9 * u) (hl : σ.length ≤ u + dl σ) (hdl : dl σ = dep) (hσ : tc (fT lv) σ) (hn : c = 214 → 3 ≤ lv → ∃ e l, σ = e :: l ∧ e ≠ 20 ∧ 4 ≤ tg e) (h2 : lv = 2 → c ≠ 214) (hlv0 : c = 214 → 2 ≤ lv → 3 ≤ lv) (hj : j ≤ p0) (hj2 : j ≤ 1601) (hk : k ≤ p0) (hk2 : k ≤ 1601) : fP I0 K0 J0 L0 z a b lv dep s u h σ p0 k (fX4_readsLevel_35 rd (nI lv) (nI dep) I J) (fU j k K L) := by
  obtain ⟨b1, b2, b3, b4, b5, b6, b7, b8⟩ := fT_b lv hlv
  have hL : ∀ (v : Int32) (I1 : ab_I) (J1 : ab_J), rd (nI (lv + 1)) (nI dep) I J = some (v, I1, J1) → fX4_readsLevel_35 rd (nI lv) (nI dep) I J = ab_it (fun s : Int32 × Int32 × Int32 × ab_I × ab_J => fX4_readsLevel_60 rd (nI lv) (nI dep) s.1 s.2.1 s.2.2.1 s.2.2.2.1 s.2.2.2.2) 5000 (v, (if lv = 2 then 1 else 30), nI 0, I1, J1) := fun v I1 J1 e => by
    unfold fX4_readsLevel_35 fX4_readsLevel_55
    rw [← nI_succ, e, px_bd]
    dsimp only
    by_cases e2 : lv = 2
    · rw [if_pos (show nI lv = 2 by rw [e2]; rfl), if_pos e2]
      rfl
    · rw [if_neg (show ¬ nI lv = 2 from fun h => e2 ((nI_eq (b := 2) (by omega) (by decide)).mp h)), if_neg e2]
      rfl
  rcases ih I J K L p0 c s u h σ j k hq hs hl hdl (tc_le hσ (by omega)) (fun e1 e2 => hn e1 (hlv0 e1 (by omega))) hj hj2 hk hk2 with ⟨I1, J1, K1, L1, p1, c1, s1, u1, pd, k1, r1, r2, r3, r4, r5, r6, r7, r8, r9, r10, r11, r12⟩ | ⟨I1, J1, K1, L1, r1, r2, r3⟩
  · have u1le : u1 ≤ 30 := r3.2.2.2.1.2.2.2
    rw [hL 1 I1 J1 r1, r2]
    have := lv_loop (k0 := k) hB0 hlv ih (h := h) (s0 := s) (u0 := u) (p00 := p0) hσ hdl hs 31 (30 - u1) (4998 - (30 - u1)) 0 I1 J1 K1 L1 p1 c1 s1 u1 pd k1 (by omega) (by omega) r3 (fun e he => ok_le (r4 e he) b4) (fun _ e he => ok_le (r4 e he) b2) (fun l2 _ e he => ok_le (r4 e he) (by rw [l2]; decide)) (fun _ h => absurd rfl h) (fun _ => by omega) r5 r7 r6 r8 r12 r9 r10 r11
    rw [show 4998 - (30 - u1) + (30 - u1) + 2 = 5000 by omega] at this
    exact this
  · right
    refine ⟨I1, J1, K1, L1, ?_, r2, r3⟩
    rw [hL 0 I1 J1 r1]
    refine px_itR ?_
    unfold fX4_readsLevel_60 fX4_readsLevel_129
    dsimp only
    rw [px_gd (Or.inl rfl), if_pos (show (0 : Int32) = 0 from rfl)]
    split <;> split <;> rfl
theorem lv_not (hB0 : tk_B I0 K0 z B) {rd : Int32 → Int32 → ab_I → ab_J → Option (Int32 × ab_I × ab_J)} {dep : Nat} (hd7 : dep ≤ 7) (ih : dep < 7 → fM I0 K0 J0 L0 z a b rd 2 (dep + 1)) {I K : ab_I} {J L : ab_J} {p0 c s u h j k : Nat} {σ : List Nat} (hq : fq I0 K0 J0 L0 z a b I J K L p0 c s u h [] σ) (hs : s ≤ 9 * u) (hl : σ.length ≤ u + dl σ) (hdl : dl σ = dep) (hσ : tc 4 σ) (hc : c = 214) (hj : j ≤ p0) (hj2 : j ≤ 1601) (hk : k ≤ p0) (hk2 : k ≤ 1601) : fP I0 K0 J0 L0 z a b 2 dep s u h σ p0 k (fX4_readsNot rd (nI dep) I J) (fU j k K L) := by
  obtain ⟨hT, f2, t2, t3⟩ := fq_tR hq
  have u30 : u ≤ 30 := hq.2.2.2.1.2.2.2
  have hk1 : K 73 19 = nI σ.length := hq.2.2.2.2.1.1
  have hk3 : K 73 23 = nI (dl σ) := hq.2.2.2.2.1.2.2.1
  have w := tk_word1 hT (i := 14) (by decide)
  rw [if_pos (show c = 200 + 14 by omega)] at w
  have w' : fX12_isWord 7237492 K L = some 1 := w
  have mn := (mn_ok (l := σ) (by omega) hk1 hq.2.2.2.2.1.2.1 hq.2.2.2.2.1.2.2.2).1 hσ
  have turn : fX12_unit_2 1 K L = if K 73 23 ≤ 6 then fX12_unit_44 1 K L else (fX12_wrong 2 K).bind fun u5 => fX12_unit_44 1 u5 L := by
    unfold fX12_unit_2
    rw [if_neg (show ¬ (1 : Int32) = 0 by decide), if_pos f2, w', px_bd, if_neg (show ¬ (1 : Int32) = 0 by decide), mn, px_bd, if_neg (show ¬ (1 : Int32) = 0 by decide)]
  have hix : ab_ix (nI σ.length) 160 = true := px_ix (by omega) (by decide)
  have ed : dl (21 :: σ) = dep + 1 := by rw [dl, if_pos (Or.inr rfl), hdl]; omega
  unfold fX4_readsNot
  by_cases h7 : dep < 7
  · have q1 := fq_push (e := 21) hq (by decide)
    obtain ⟨I1, J1, K1, L1, c1, p1, x1, x2, x3, x4, x5⟩ := fq_A hB0 q1 (by omega) (by omega)
    rw [if_pos (show nI dep < 7 from nI_lt (b := 7) h7 (by decide)), x1, px_bd]
    dsimp only
    rw [← nI_succ]
    have eU : fU j k K L = fU (j + 1) k K1 L1 := by
      unfold fU
      rw [show 5000 - j = (5000 - (j + 1)) + 1 by omega, px_itL (s := (1, K, L)) (s' := (1, K1, L1)) ?_]
      dsimp only
      rw [turn, if_pos (show K 73 23 ≤ 6 by rw [hk3, hdl]; exact nI_le (b := 6) (by omega) (by decide))]
      unfold fX12_unit_44 fX12_openUp fX12_openUp_41
      rw [hk1, px_gd hix, if_pos f2, nI_clamp (by omega), hk3, ← nI_succ, ← nI_succ, hdl, ← ed]
      have x2' : fX12_token (ab_u (ab_u (ab_u K 80 σ.length 21) 73 19 (nI (σ.length + 1))) 73 23 (nI (dl (21 :: σ)))) L = some (K1, L1) := x2
      rw [x2', px_bd, px_bd]
    rcases ih h7 I1 J1 K1 L1 p1 c1 s u h (21 :: σ) (j + 1) k x3 hs (by rw [List.length_cons, ed]; omega) ed ⟨by decide, Or.inr ⟨by decide, by decide⟩⟩ (fun _ h => by omega) (by omega) (by omega) (by omega) (by omega) with ⟨I2, J2, K2, L2, p2, c2, s2, u2, pd, k2, r1, r2, r3, r4, r5, r6, r7, r8, r9, r10, r11, r12⟩ | ⟨I2, J2, K2, L2, r1, r2, r3⟩
    · left
      have hh2 : h + 1 ≤ u2 := r3.2.2.2.2.2.2.1
      have u2le : u2 ≤ 30 := r3.2.2.2.1.2.2.2
      obtain ⟨I3, y1, y2⟩ := fq_add (h' := h + 1) r3 (by omega) (fun x e1 e2 => fh_not e1 e2) hh2
      have y1' : fX2_add (-214) I2 = some I3 := y1
      have r1' : rd 2 (nI (dep + 1)) I1 J1 = some (1, I2, J2) := r1
      have ea : pd ++ [21] ++ σ = pd ++ 21 :: σ := by rw [List.append_assoc]; rfl
      have el : (pd ++ [21]).length = pd.length + 1 := by rw [List.length_append]; rfl
      refine ⟨I3, J2, K2, L2, p2, c2, s2, u2, pd ++ [21], k2, ?_, by rw [eU, r2], y2, fun e he => ?_, r5.imp_right (fun h => h.imp_right (fun h => ⟨h.1, h.2.1, hr_app h.2.2⟩)), r6, by rw [el]; omega, by rw [ea]; exact r8, by omega, r10, r11, by rw [ea]; exact r12⟩
      · rw [r1', px_bd]
        dsimp only
        rw [y1', px_bd, px_gd (Or.inr rfl)]
      · rcases List.mem_append.mp he with h | h
        · exact r4 e h
        · rw [List.mem_singleton.mp h]; exact ⟨Or.inl rfl, by decide⟩
    · right
      obtain ⟨I3, y1, y2⟩ := fz_add (x := -214) r3
      have r1' : rd 2 (nI (dep + 1)) I1 J1 = some (0, I2, J2) := r1
      refine ⟨I3, J2, K2, L2, ?_, by rw [eU, r2], y2⟩
      rw [r1', px_bd]
      dsimp only
      rw [y1, px_bd, px_gd (Or.inl rfl)]
  · right
    obtain ⟨I1, K1, v1, v2, v3, v4, v5, v6, v7⟩ := pz_ref hq.1 (k := 2) (by decide) (by decide)
    have v1' : fX4_refuses 2 I = some (0, I1) := v1
    have v2' : fX12_wrong 2 K = some K1 := v2
    have f3 := ft_K (x := K1 73 23 + 1) (ft_K (x := K1 73 19 + 1) (ft_K (r := 80) (i := σ.length) (x := 21) v3 (by unfold zm; omega) (by omega)) (r := 73) (i := 19) (by unfold zm; omega) (by omega)) (r := 73) (i := 23) (by unfold zm; omega) (by omega)
    refine ⟨I1, J, _, L, ?_, ?_, f3, s, by omega, by rw [v4 18 3 (by omega)]; exact hq.2.2.1.1⟩
    · rw [if_neg (show ¬ nI dep < 7 from nI_nlt (b := 7) (by omega) (by omega)), v1', px_bd, px_gd (Or.inl rfl)]
    · have hb : fX12_unit_2 1 K L = some (.inl (1, ab_u (ab_u (ab_u K1 80 σ.length 21) 73 19 (K1 73 19 + 1)) 73 23 (K1 73 23 + 1), L)) := by
        rw [turn, if_neg (show ¬ K 73 23 ≤ 6 by rw [hk3, hdl]; exact nI_ge (a := 6) (by omega) (by omega)), v2', px_bd]
        unfold fX12_unit_44 fX12_openUp fX12_openUp_41
        rw [px_gd (show ab_ix (K1 73 19) 160 = true by rw [v5 73 19 (by omega), hk1]; exact hix), if_neg v7, show (K1 73 19).toNatClampNeg = σ.length by rw [v5 73 19 (by omega), hk1, nI_clamp (by omega)], px_bd]
      have := fU_ft (j := j + 1) (k := k) f3 (by omega) (by omega)
      unfold fU at this ⊢
      rw [show 5000 - j = (5000 - (j + 1)) + 1 by omega, px_itL (s := (1, K, L)) (s' := (1, ab_u (ab_u (ab_u K1 80 σ.length 21) 73 19 (K1 73 19 + 1)) 73 23 (K1 73 23 + 1), L)) hb]
      exact this
end NOT
