/-! ===== village: a whole formula ===== -/
section FRM
variable {I0 K0 : ab_I} {J0 L0 : ab_J} {z a b : Nat} {B : Nat → Nat}
theorem lv_main (hB0 : tk_B I0 K0 z B) : ∀ n lv dep, lv ≤ 5 → dep ≤ 7 → 48 ≤ n + 6 * dep + lv → fM I0 K0 J0 L0 z a b (fX4_readsLevel n) lv dep := by
  intro n
  induction n with
  | zero => intro lv dep h1 h2 h3; omega
  | succ n ih =>
    intro lv dep h1 h2 h3 I J K L p0 c s u h σ j k hq hs hl hdl hσ hn hj hj2 hk hk2
    have t2 : I 22 2 = nI c := (fq_tR hq).2.2.1
    have t3 : c < 300 := (fq_tR hq).2.2.2
    show fP I0 K0 J0 L0 z a b lv dep s u h σ p0 k (fX4_readsLevel_b (fX4_readsLevel n) (nI lv) (nI dep) I J) (fU j k K L)
    have wrap : ∀ cl : Option (Int32 × ab_I × ab_J), fP I0 K0 J0 L0 z a b lv dep s u h σ p0 k cl (fU j k K L) → fP I0 K0 J0 L0 z a b lv dep s u h σ p0 k (cl.bind fun u2 => ab_gd (u2.1 = 0 ∨ u2.1 = 1) (some (u2.1, u2.2.1, u2.2.2))) (fU j k K L) := fun cl hc => by
      rcases hc with ⟨I', J', K', L', p1, c', s', u', pd, k', r1, r2⟩ | ⟨I', J', K', L', r1, r2⟩
      · left
        refine ⟨I', J', K', L', p1, c', s', u', pd, k', ?_, r2⟩
        rw [r1, px_bd, px_gd (Or.inr rfl)]
      · right
        refine ⟨I', J', K', L', ?_, r2⟩
        rw [r1, px_bd, px_gd (Or.inl rfl)]
    unfold fX4_readsLevel_b
    by_cases h5 : lv = 5
    · subst h5
      rw [if_neg (by decide)]
      exact wrap _ (lv_unit hB0 h2 (fun h7 => ih 0 (dep + 1) (by omega) (by omega) (by omega)) hq hs hl hdl (fun e => hn e (by omega)) hj hj2 hk hk2)
    · rw [if_pos (show nI lv ≤ 4 from nI_le (b := 4) (by omega) (by decide))]
      have lev : (lv = 2 → c ≠ 214) → fP I0 K0 J0 L0 z a b lv dep s u h σ p0 k (fX4_readsLevel_35 (fX4_readsLevel n) (nI lv) (nI dep) I J) (fU j k K L) := fun hc => lv_level hB0 (by omega) (ih (lv + 1) dep (by omega) h2 (by omega)) hq hs hl hdl hσ hn hc (fun e e2 => by by_cases e3 : lv = 2; exact absurd e (hc e3); omega) hj hj2 hk hk2
      by_cases e2 : lv = 2
      · rw [if_pos (show nI lv = 2 by rw [e2]; rfl)]
        by_cases e4 : c = 214
        · rw [if_pos (show I 22 2 = 214 by rw [t2, e4]; rfl)]
          subst e2
          exact wrap _ (lv_not hB0 h2 (fun h7 => ih 2 (dep + 1) (by omega) (by omega) (by omega)) hq hs hl hdl hσ e4 hj hj2 hk hk2)
        · rw [if_neg (show ¬ I 22 2 = 214 by rw [t2]; exact fun h => e4 ((nI_eq (b := 214) (by omega) (by decide)).mp h))]
          exact lev (fun _ => e4)
      · rw [if_neg (show ¬ nI lv = 2 from fun h => e2 ((nI_eq (b := 2) (by omega) (by decide)).mp h))]
        exact lev (fun h => absurd h e2)
/-- the reference at a formula's end -/
theorem fm_end {I K : ab_I} {J L : ab_J} {p0 c s u h k : Nat} {pd : List Nat} (hq : fq I0 K0 J0 L0 z a b I J K L p0 c s u h pd []) (h3 : s + pd.length ≤ 300) (hl : pd.length ≤ 100) (hp : ∀ e, e ∈ pd → ok 1 e) (hE : fE 0 c pd) (hk2 : k ≤ 1601) : ∃ K', fR k K L = some (K', L) ∧ fq I0 K0 J0 L0 z a b I J K' L p0 c (s + pd.length) u h [] [] := by
  obtain ⟨hT, f2, t2, t3⟩ := fq_tR hq
  have hl' : (pd ++ []).length ≤ 100 := by rw [List.append_nil]; exact hl
  have n20 : (20 : Nat) ∉ pd ++ [] := by
    rw [List.append_nil]
    intro h
    have := (hp 20 h).1
    unfold bo at this
    omega
  have hb := hb_ok hl' hq.2.2.2.2.1.1 hq.2.2.2.2.1.2.1 hq.2.2.2.2.1.2.2.2
  rw [if_neg n20] at hb
  have t41 := (tk_sort hT).2.2.2.2 41 (by decide)
  obtain ⟨K1, c1, q1⟩ := fq_close (t := 0) hq h3 hl' (by decide) trivial (fun e he => ok_le (hp e he) (Nat.zero_le _))
  have c1' : fX12_close 0 K = some K1 := c1
  refine ⟨K1, ?_, q1⟩
  have e99 : fX12_formula_99 1 (nI (sgn c)) K L = some (.inl (0, K, L)) := by
    unfold fX12_formula_99 fX12_formula_157 fX12_formula_159
    by_cases hs : sgn c = 0
    · rw [if_pos (show nI (sgn c) = 0 by rw [hs]; rfl)]
    · have hbo := lv_b c t3 hs
      have htg := tg_le (sgn c)
      rcases hE with g | g | ⟨g1, _, g3⟩
      · exact absurd g hs
      · have : tg (sgn c) < 1 := g
        omega
      · rw [if_neg (show ¬ nI (sgn c) = 0 from nI_ne0 (by omega) (by omega)), tg_ok _ (by omega), px_bd, if_pos (show nI (tg (sgn c)) = 4 by rw [g1]; rfl), hr_ok hl' hq.2.2.2.2.1.1 hq.2.2.2.2.1.2.1 hq.2.2.2.2.1.2.2.2, px_bd, hr_app g3, if_neg (show ¬ (if true = true then (1 : Int32) else 0) = 0 by decide)]
  have e157 : fX12_formula_35 1 K L = some (.inl (0, K, L)) := by
    unfold fX12_formula_35
    rw [if_neg (show ¬ (1 : Int32) = 0 by decide), if_pos f2, sgn_ok hT, px_bd, hb, px_bd, if_pos (show (0 : Int32) = 0 from rfl), e99]
    split <;> rfl
  unfold fR
  rw [show 5000 - k = (4998 - k) + 1 + 1 by omega, px_itL (s := (1, K, L)) (s' := (0, K, L)) e157]
  refine px_itO ?_
  unfold fX12_formula_35 fX12_formula_162 fX12_formula_181 fX12_formula_193
  dsimp only
  rw [if_pos (show (0 : Int32) = 0 from rfl), if_pos f2, hb, px_bd, if_pos (show (0 : Int32) = 0 from rfl), if_pos f2, c1', px_bd]
end FRM
