/-! ===== village: the loop of one level ===== -/
section LVL
variable {I0 K0 : ab_I} {J0 L0 : ab_J} {z a b : Nat} {B : Nat → Nat}
theorem fT_l : ∀ t, t ≤ 6 → ∀ lv, lv ≤ 4 → 1 ≤ t → t ≠ 3 → (lvl t = lv ↔ t = fT lv) := by decide +kernel
theorem fT_s : ∀ t, t ≤ 6 → ∀ lv, lv ≤ 4 → t ≠ 3 → t < fT (lv + 1) → t < fT lv ∨ t = fT lv := by decide +kernel
theorem fT_b : ∀ lv, lv ≤ 4 → fT lv < fT (lv + 1) ∧ fT lv ≤ fl (lv + 1) ∧ fl lv ≤ fT lv ∧ fl lv ≤ fl (lv + 1) ∧ fT lv ≤ 6 ∧ (lv = 2 → fT lv = 4) ∧ (fT lv = 4 → lv = 2) ∧ (2 ≤ lv → 4 ≤ fT lv) := by decide +kernel
theorem ok_le {t t' e : Nat} (h : ok t e) (ht : t' ≤ t) : ok t' e := ⟨h.1, by have := h.2; omega⟩
theorem tc_le {t t' : Nat} {l : List Nat} (h : tc t l) (ht : t ≤ t') : tc t' l := by
  cases l with
  | nil => trivial
  | cons e l =>
    obtain ⟨h1, h2⟩ := h
    exact ⟨h1, h2.elim Or.inl (fun h => Or.inr ⟨h.1, by omega⟩)⟩
theorem dl_le (l : List Nat) : dl l ≤ l.length := by
  induction l with
  | nil => exact Nat.le_refl _
  | cons e l ih =>
    rw [dl, List.length_cons]
    split <;> omega
theorem lv_loop (hB0 : tk_B I0 K0 z B) {rd : Int32 → Int32 → ab_I → ab_J → Option (Int32 × ab_I × ab_J)} {lv dep : Nat} (hlv : lv ≤ 4) (ih : fM I0 K0 J0 L0 z a b rd (lv + 1) dep) {h s0 u0 p00 k0 : Nat} {σ : List Nat} (hσ : tc (fT lv) σ) (hdl : dl σ = dep) (hs0 : s0 ≤ 9 * u0) : ∀ D d m i I J K L p c s u pd k, d < D → u + d = 30 → fq I0 K0 J0 L0 z a b I J K L p c s u (h + 1) pd σ → (∀ e, e ∈ pd → ok (fl lv) e) → (lv ≠ 2 ∨ i = 0 → ∀ e, e ∈ pd → ok (fT lv) e) → (lv = 2 → i = 0 → ∀ e, e ∈ pd → ok 5 e) → (lv = 2 → i ≠ 0 → i = 1 ∧ hr pd = true) → (lv ≠ 2 → i + 1 ≤ u) → fE (lv + 1) c pd → s + pd.length + dep + 1 + 9 * u0 ≤ s0 + 9 * u → u0 < u → (pd ++ σ).length + 1 ≤ u + dl (pd ++ σ) → dl (pd ++ σ) ≤ 7 → p00 < p → k ≤ p → k ≤ 1601 →
    fP I0 K0 J0 L0 z a b lv dep s0 u0 h σ p00 k0 (ab_it (fun s : Int32 × Int32 × Int32 × ab_I × ab_J => fX4_readsLevel_60 rd (nI lv) (nI dep) s.1 s.2.1 s.2.2.1 s.2.2.2.1 s.2.2.2.2) (m + d + 2) (1, (if lv = 2 then 1 else 30), nI i, I, J)) (fR k K L) := by
  intro D
  induction D with
  | zero => intro d m i I J K L p c s u pd k hd; omega
  | succ D iD =>
    intro d m i I J K L p c s u pd k hd hu hq h1 h2 h3 h4 h5 hE hb huu hll hd7 hp hk hk2
    obtain ⟨hT, f2, t2, t3⟩ := fq_tR hq
    obtain ⟨b1, b2, b3, b4, b5, b6, b7, b8⟩ := fT_b lv hlv
    have u30 : u ≤ 30 := by omega
    have exit : fX4_readsLevel_60 rd (nI lv) (nI dep) 1 (if lv = 2 then 1 else 30) (nI i) I J = some (.inr (1, I, J)) → fE lv c pd → fP I0 K0 J0 L0 z a b lv dep s0 u0 h σ p00 k0 (ab_it (fun s : Int32 × Int32 × Int32 × ab_I × ab_J => fX4_readsLevel_60 rd (nI lv) (nI dep) s.1 s.2.1 s.2.2.1 s.2.2.2.1 s.2.2.2.2) (m + d + 2) (1, (if lv = 2 then 1 else 30), nI i, I, J)) (fR k K L) := fun e1 e2 => Or.inl ⟨I, J, K, L, p, c, s, u, pd, k, px_itR e1, rfl, hq, h1, e2, huu, hb, hll, hp, hk, hk2, hd7⟩
    have hE' : tg (sgn c) ≠ fT lv ∨ sgn c = 0 ∨ (lv = 2 ∧ hr pd = true) → fE lv c pd := fun hh => by
      by_cases hs : sgn c = 0
      · exact Or.inl hs
      have hv := (lv_e c t3 hs).2.2.2
      rcases hE with g | g | ⟨g1, g2, g3⟩
      · exact Or.inl g
      · rcases fT_s _ (tg_le _).1 lv hlv hv g with g | g
        · exact Or.inr (Or.inl g)
        · rcases hh with hh | hh | ⟨hh, hh2⟩
          · exact absurd g hh
          · exact absurd hh hs
          · exact Or.inr (Or.inr ⟨by rw [g, b6 hh], by omega, hh2⟩)
      · exact Or.inr (Or.inr ⟨g1, by omega, g3⟩)
    by_cases hm : lv = 2 ∧ i ≠ 0
    · obtain ⟨i1, i2⟩ := h4 hm.1 hm.2
      refine exit ?_ (hE' (Or.inr (Or.inr ⟨hm.1, i2⟩)))
      unfold fX4_readsLevel_60 fX4_readsLevel_129
      rw [if_pos (show (if lv = 2 then (1 : Int32) else 30) ≤ nI i by rw [if_pos hm.1, i1]; decide), px_gd (Or.inr rfl)]
      rfl
    have hmost : ¬ (if lv = 2 then (1 : Int32) else 30) ≤ nI i := by
      by_cases e2 : lv = 2
      · have : i = 0 := by omega
        rw [if_pos e2, this]; decide
      · rw [if_neg e2]; exact nI_ge (b := 30) (by have := h5 e2; omega) (by decide)
    by_cases hs : sgn c = 0
    · refine exit ?_ (Or.inl hs)
      unfold fX4_readsLevel_60 fX4_readsLevel_129
      rw [if_neg hmost, if_neg (show ¬ (1 : Int32) = 0 by decide), t2, lv_a c t3 hs, px_bd, if_neg (show ¬ (-1 : Int32) = nI lv from fun h => px_m1 (by omega) h.symm), px_gd (Or.inr rfl)]
      rfl
    obtain ⟨v0, v1, v41, v3⟩ := lv_e c t3 hs
    have hbo := lv_b c t3 hs
    have htg := tg_le (sgn c)
    have hll' := fT_l _ htg.1 lv hlv htg.2 v3
    by_cases hTl : tg (sgn c) = fT lv
    · have hp' := h2 (by omega)
      have hrr : tg (sgn c) = 4 → hr (pd ++ σ) = false := fun e4 => by
        have l2 := b7 (by omega)
        rw [hr_no (h3 l2 (by omega))]
        exact hr_tc (by rw [← b6 l2]; exact hσ)
      obtain ⟨I1, J1, K1, L1, c1, p1, x1, x2, q1, x4, x5⟩ := fq_op hB0 hq (by omega) (by omega) hs (by rw [hTl]; exact hσ) (by rw [hTl]; exact hp') hrr hk
      have hdlp : dl pd ≤ pd.length := dl_le pd
      have hd1 : dl (sgn c :: σ) = dl σ := by rw [dl, if_neg (by omega), Nat.zero_add]
      have hll2 := hll
      rw [List.length_append, dl_app] at hll2
      have body : ∀ (v : Int32) I2 J2 I3, rd (nI (lv + 1)) (nI dep) I1 J1 = some (v, I2, J2) → fX2_add (cst (sgn c)) I2 = some I3 → fX4_readsLevel_60 rd (nI lv) (nI dep) 1 (if lv = 2 then 1 else 30) (nI i) I J = some (.inl (v, (if lv = 2 then 1 else 30), nI (i + 1), I3, J2)) := fun v I2 J2 I3 e1 e2 => by
        unfold fX4_readsLevel_60
        rw [if_neg hmost, if_neg (show ¬ (1 : Int32) = 0 by decide), t2, lv_c c t3 hs, px_bd, if_pos (show nI (lvl (tg (sgn c))) = nI lv by rw [hll'.mpr hTl]), x1, px_bd, ← nI_succ, e1, px_bd, lv_d c t3 hs, e2, px_bd, ← nI_succ]
      rcases ih I1 J1 K1 L1 p1 c1 (s + pd.length) u (h + 1) (sgn c :: σ) 0 (k + 1) q1 (by omega) (by rw [List.length_cons, hd1]; omega) (by rw [hd1]; exact hdl) ⟨by omega, Or.inr ⟨by omega, by omega⟩⟩ (fun _ e3 => ⟨sgn c, σ, rfl, by omega, by have := b8 (by omega); omega⟩) (by omega) (by omega) (by omega) x5 with ⟨I2, J2, K2, L2, p2, c2, s2, u2, pd2, k2, r1, r2, r3, r4, r5, r6, r7, r8, r9, r10, r11, r12⟩ | ⟨I2, J2, K2, L2, r1, r2, r3⟩
      · have u2le : u2 ≤ 30 := r3.2.2.2.1.2.2.2
        have hh2 : h + 1 + 1 ≤ u2 := r3.2.2.2.2.2.2.1
        obtain ⟨I3, y1, y2⟩ := fq_add (h' := h + 1) r3 (by omega) (fun x e1 e2 => fh_bin e1 hbo e2) (by omega)
        have ea : pd2 ++ [sgn c] ++ σ = pd2 ++ sgn c :: σ := by rw [List.append_assoc]; rfl
        have el : (pd2 ++ [sgn c]).length = pd2.length + 1 := by rw [List.length_append]; rfl
        have hmem : ∀ t, t ≤ fl (lv + 1) → t ≤ fT lv → ∀ e, e ∈ pd2 ++ [sgn c] → ok t e := fun t g1 g2 e he => by
          rcases List.mem_append.mp he with h | h
          · exact ok_le (r4 e h) g1
          · rw [List.mem_singleton.mp h]; exact ⟨Or.inr hbo, by omega⟩
        have := iD (30 - u2) (m + (d - 1 - (30 - u2))) (i + 1) I3 J2 K2 L2 p2 c2 s2 u2 (pd2 ++ [sgn c]) k2 (by omega) (by omega) y2 (hmem _ b4 b3) (fun _ => hmem _ b2 (by omega)) (fun _ h => by omega) (fun l2 _ => ⟨by omega, by
          rw [hr_no (fun e he => ok_le (r4 e he) (by rw [l2]; decide)), hr, if_neg (by omega), if_pos (by rw [hTl, b6 l2]; decide), hTl, b6 l2]; rfl⟩) (fun l2 => by have := h5 l2; omega) (r5.imp_right (fun h => h.imp_right (fun h => ⟨h.1, h.2.1, hr_app h.2.2⟩))) (by rw [el]; omega) (by omega) (by rw [ea]; exact r8) (by rw [ea]; exact r12) (by omega) r10 r11
        rw [show m + (d - 1 - (30 - u2)) + (30 - u2) + 2 = m + d + 1 by omega] at this
        rw [show m + d + 2 = (m + d + 1) + 1 by omega, px_itL (s := (1, (if lv = 2 then 1 else 30), nI i, I, J)) (s' := (1, (if lv = 2 then 1 else 30), nI (i + 1), I3, J2)) (body 1 I2 J2 I3 r1 y1), x2, r2]
        exact this
      · obtain ⟨I3, y1, y2⟩ := fz_add (x := cst (sgn c)) r3
        right
        refine ⟨I3, J2, K2, L2, ?_, by rw [x2, r2], y2⟩
        rw [show m + d + 2 = (m + d + 1) + 1 by omega, px_itL (s := (1, (if lv = 2 then 1 else 30), nI i, I, J)) (s' := (0, (if lv = 2 then 1 else 30), nI (i + 1), I3, J2)) (body 0 I2 J2 I3 r1 y1)]
        refine px_itR ?_
        unfold fX4_readsLevel_60 fX4_readsLevel_129
        dsimp only
        rw [px_gd (Or.inl rfl), if_pos (show (0 : Int32) = 0 from rfl)]
        split <;> split <;> rfl
    · refine exit ?_ (hE' (Or.inl hTl))
      unfold fX4_readsLevel_60 fX4_readsLevel_129
      rw [if_neg hmost, if_neg (show ¬ (1 : Int32) = 0 by decide), t2, lv_c c t3 hs, px_bd, if_neg (show ¬ nI (lvl (tg (sgn c))) = nI lv from fun h => hTl (hll'.mp ((nI_eq (by unfold lvl; split; omega; split; omega; omega) (by omega)).mp h))), px_gd (Or.inr rfl)]
      rfl
end LVL
