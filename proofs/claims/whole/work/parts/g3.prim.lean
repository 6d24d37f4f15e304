/-! ===== village: words, numbers, names on both sides ===== -/
theorem tk_winj : ∀ i, i < 15 → ∀ j, j < 15 → bz_word i = bz_word j → i = j := by decide +kernel
section PRM
variable {I0 K0 : ab_I} {J0 L0 : ab_J} {z : Nat} {B : Nat → Nat} {I K : ab_I} {J L : ab_J} {p0 c a b : Nat}
theorem tk_word1 (h : tk_R I J K L z p0 c) {i : Nat} (hi : i < 15) : fX12_isWord (bz_word i) K L = some (if c = 200 + i then 1 else 0) := by
  have hs := tk_sort h
  obtain ⟨pl, t1, t2, t3, t4, t5, t6⟩ := h
  unfold fX12_isWord fX12_isWord_21 fX12_isWord_22
  by_cases e : K 73 6 = 1
  · rw [if_pos e]
    have hc := hs.2.2.2.1.mpr e
    have hw : (c = 2 ∧ ∀ i, i < 15 → L 73 9 ≠ bz_word i) ∨ ∃ i, i < 15 ∧ c = 200 + i ∧ L 73 9 = bz_word i := by
      rcases t6 with ⟨h1, h2⟩ | ⟨h1, h2, _⟩ | ⟨p, _, _, _, _, h⟩
      · omega
      · omega
      · rcases h with ⟨_, _, h2⟩ | ⟨h1, h2, _⟩ | ⟨h1, h2⟩
        · exact h2
        · omega
        · unfold tk_sg at h1
          simp only [Bool.or_eq_true, beq_iff_eq] at h1
          omega
    rcases hw with ⟨h1, h2⟩ | ⟨j, h1, h2, h3⟩
    · rw [if_neg (fun h => h2 i hi ((tk_cmp _ _).mp h)), if_neg (show ¬ c = 200 + i by omega), px_gd (Or.inl rfl)]
    · by_cases ej : j = i
      · subst ej
        rw [if_pos ((tk_cmp _ _).mpr h3), if_pos h2, px_gd (Or.inr rfl)]
      · rw [if_neg (fun h => ej (tk_winj j h1 i hi (h3.symm.trans ((tk_cmp _ _).mp h)))), if_neg (show ¬ c = 200 + i by omega), px_gd (Or.inl rfl)]
  · rw [if_neg e, if_neg (fun h => e (hs.2.2.2.1.mp (Or.inr (by omega)))), px_gd (Or.inl rfl)]
theorem tk_isOwn (h : tk_R I J K L z p0 c) (hc : c = 2 ∨ 200 ≤ c) : fX12_isOwn L = some (if c = 2 then 0 else 1) := by
  have hw : (c = 2 ∧ ∀ i, i < 15 → L 73 9 ≠ bz_word i) ∨ ∃ i, i < 15 ∧ c = 200 + i ∧ L 73 9 = bz_word i := by
    obtain ⟨pl, t1, t2, t3, t4, t5, t6⟩ := h
    rcases t6 with ⟨h1, h2⟩ | ⟨h1, h2, _⟩ | ⟨p, _, _, _, _, h⟩
    · omega
    · omega
    · rcases h with ⟨_, _, h2⟩ | ⟨h1, h2, _⟩ | ⟨h1, h2⟩
      · exact h2
      · omega
      · unfold tk_sg at h1
        simp only [Bool.or_eq_true, beq_iff_eq] at h1
        omega
  unfold fX12_isOwn fX12_isOwn_165 fX12_isOwn_170
  rw [show (123581014175598 : Int64) = bz_word 0 from rfl, show (6840691 : Int64) = bz_word 6 from rfl, show (1650814060 : Int64) = bz_word 1 from rfl, show (1752135026 : Int64) = bz_word 7 from rfl, show (465726301555 : Int64) = bz_word 2 from rfl, show (131277443786867 : Int64) = bz_word 3 from rfl, show (439720568179 : Int64) = bz_word 4 from rfl, show (1685217655 : Int64) = bz_word 5 from rfl, show (1819243379 : Int64) = bz_word 8 from rfl, show (1920298599 : Int64) = bz_word 9 from rfl, show (1751478885 : Int64) = bz_word 10 from rfl, show (6578553 : Int64) = bz_word 11 from rfl, show (6385252 : Int64) = bz_word 13 from rfl, show (28530 : Int64) = bz_word 12 from rfl, show (7237492 : Int64) = bz_word 14 from rfl]
  simp only [tk_cmp]
  rcases hw with ⟨h1, h2⟩ | ⟨j, h1, h2, h3⟩
  · rw [if_neg (h2 0 (by decide)), if_neg (h2 6 (by decide)), if_neg (h2 1 (by decide)), if_neg (h2 7 (by decide)), if_neg (h2 2 (by decide)), if_neg (h2 3 (by decide)), if_neg (h2 4 (by decide)), if_neg (h2 5 (by decide)), if_neg (h2 8 (by decide)), if_neg (h2 9 (by decide)), if_neg (h2 10 (by decide)), if_neg (h2 11 (by decide)), if_neg (h2 13 (by decide)), if_neg (h2 12 (by decide)), if_neg (h2 14 (by decide)), if_pos h1, px_gd (Or.inl trivial)]
  · rw [if_neg (show ¬ c = 2 by omega), h3, px_gd (Or.inr trivial), px_gd (Or.inl trivial)]
    clear h2 h3
    revert h1
    revert j
    decide +kernel
theorem tk_isName (h : tk_R I J K L z p0 c) : fX12_isName K L = some (if c = 2 then 1 else 0) := by
  have hs := tk_sort h
  unfold fX12_isName fX12_isName_19 fX12_isName_20
  by_cases e : K 73 6 = 1
  · have hc := hs.2.2.2.1.mpr e
    rw [if_pos e, tk_isOwn h hc, px_bd]
    by_cases h2 : c = 2
    · rw [if_pos h2, if_pos rfl, if_pos h2, px_gd (Or.inr rfl)]
    · rw [if_neg h2, if_neg (by decide), if_neg h2, px_gd (Or.inl rfl)]
  · rw [if_neg e, if_neg (fun h => e (hs.2.2.2.1.mp (Or.inl h))), px_gd (Or.inl rfl)]
/-- a word of the language is wanted -/
theorem ps_word (hB0 : tk_B I0 K0 z B) (h : ps I0 K0 J0 L0 z I J K L p0 c a b) {i : Nat} (hi : i < 15) : (∃ I' J' K' L' c' p1, fX4_takes (nI (200 + i)) I J = some (1, I', J') ∧ fX12_want0 (bz_word i) K L = some (K', L') ∧ ps I0 K0 J0 L0 z I' J' K' L' p1 c' a b ∧ p0 < p1 ∧ tk_fx I I' J J' ∧ tk_fm K K' L L') ∨ ∃ I' K', fX4_takes (nI (200 + i)) I J = some (0, I', J) ∧ fX12_want0 (bz_word i) K L = some (K', L) ∧ ft I0 K0 J0 L0 I' J K' L ∧ (∀ r x, ¬ (r = 73 ∧ (x = 2 ∨ x = 3)) → K' r x = K r x) ∧ ¬ K' 73 2 ≤ 0 ∧ ¬ K' 73 2 = 0 := by
  have hT := h.2.1
  have t2 : I 22 2 = nI c := by obtain ⟨pl, _, t2, _⟩ := hT; exact t2
  have t3 : c < 300 := by obtain ⟨pl, _, _, t3, _⟩ := hT; exact t3
  have f2 := h.2.2.2.2.1
  unfold fX4_takes fX12_want0 fX12_want0_28
  rw [t2, f2, if_pos (show (0 : Int32) ≤ 0 by decide), tk_word1 hT hi, px_bd]
  by_cases e : c = 200 + i
  · left
    obtain ⟨I', J', K', L', c', p1, a1, a2, a3, a4, a5, a6⟩ := ps_adv hB0 h (by omega) (by omega)
    rw [if_pos (by rw [e]), if_pos e, if_neg (by decide), a1, px_bd, a2, px_bd]
    exact ⟨_, _, _, _, c', p1, rfl, rfl, a3, a4, a5, a6⟩
  · right
    obtain ⟨I', K', a1, a2, a3, a4, a5, a6, a7⟩ := ps_ref h (k := 2) (by decide) (by decide)
    have a1' : fX4_refuses 2 I = some (0, I') := a1
    have a2' : fX12_wrong 2 K = some K' := a2
    rw [if_neg (fun h => e ((nI_eq (by omega) (by omega)).mp h)), if_neg e, if_pos rfl, a1', px_bd, px_gd (Or.inl rfl), a2', px_bd]
    exact ⟨_, _, rfl, rfl, a3, a5, a6, a7⟩
/-- a number is wanted -/
theorem ps_num (hB0 : tk_B I0 K0 z B) (h : ps I0 K0 J0 L0 z I J K L p0 c a b) {lo hi : Nat} (hlo : lo < 10000) (hhi : hi < 10000) : (∃ I' J' K' L' c' p1 v, lo ≤ v ∧ v ≤ hi ∧ fX4_takesNumber (nI lo) (nI hi) I J = some (1, I', J') ∧ fX12_toldNumber (nI lo) (nI hi) K L = some (nI v, K', L') ∧ I' 11 6 = nI v ∧ ps I0 K0 J0 L0 z I' J' K' L' p1 c' a b ∧ p0 < p1 ∧ tk_fx (ab_u I 11 6 (nI v)) I' J J' ∧ tk_fm K K' L L') ∨ ∃ I' K' x, fX4_takesNumber (nI lo) (nI hi) I J = some (0, I', J) ∧ fX12_toldNumber (nI lo) (nI hi) K L = some (x, K', L) ∧ ft I0 K0 J0 L0 I' J K' L ∧ (∀ r x, ¬ (r = 73 ∧ (x = 2 ∨ x = 3)) → K' r x = K r x) ∧ ¬ K' 73 2 ≤ 0 ∧ ¬ K' 73 2 = 0 := by
  have hT := h.2.1
  have hs := tk_sort hT
  have t2 : I 22 2 = nI c := by obtain ⟨pl, _, t2, _⟩ := hT; exact t2
  have t3 : c < 300 := by obtain ⟨pl, _, _, t3, _⟩ := hT; exact t3
  have f2 := h.2.2.2.2.1
  unfold fX4_takesNumber fX12_toldNumber fX12_toldNumber_41
  rw [t2, f2, if_pos (show (0 : Int32) ≤ 0 by decide)]
  by_cases e : c = 3
  · rw [if_pos (by rw [e]; rfl), if_pos (hs.2.2.1.mp e)]
    obtain ⟨v, v1, v2, v3⟩ : ∃ v, v ≤ 9999 ∧ I 22 4 = nI v ∧ K 73 8 = nI v := by
      obtain ⟨pl, t1, t2, t3, t4, t5, t6⟩ := hT
      rcases t6 with ⟨h1, h2⟩ | ⟨h1, h2, _⟩ | ⟨p, _, _, _, _, h⟩
      · omega
      · omega
      · rcases h with ⟨_, _, h2⟩ | ⟨h1, h2, h3⟩ | ⟨h1, h2⟩
        · rcases h2 with ⟨h, _⟩ | ⟨i, _, h, _⟩ <;> omega
        · exact h3
        · unfold tk_sg at h1
          simp only [Bool.or_eq_true, beq_iff_eq] at h1
          omega
    rw [v2, v3, px_within, px_bd]
    by_cases hin : lo ≤ v ∧ v ≤ hi
    · left
      have hin' : ¬ (nI v < nI lo ∨ nI hi < nI v) := fun h => h.elim (fun h => nI_nlt hin.1 (by omega) h) (fun h => nI_nlt hin.2 (by omega) h)
      have hps : ps I0 K0 J0 L0 z (ab_u I 11 6 (nI v)) J K L p0 c a b := by
        obtain ⟨hF, hT, g8, g9, g2, g3, hd⟩ := h
        refine ⟨⟨fun r k hz => by unfold zx at hz; rw [px_u (by omega)]; exact hF.1 r k (by unfold zx; omega), hF.2.1, hF.2.2.1, hF.2.2.2⟩, ?_, by rw [px_u (by decide)]; exact g8, by rw [px_u (by decide)]; exact g9, g2, g3, dr_c hd (fun r k hx => px_u (by unfold dr_x at hx; omega)) (fun _ _ _ => rfl) (fun _ _ _ => rfl) (fun _ => rfl)⟩
        have e22 : ab_u I 11 6 (nI v) 22 = I 22 := ab_u_o (by decide)
        unfold tk_R at *
        rw [e22]; exact hT
      obtain ⟨I', J', K', L', c', p1, a1, a2, a3, a4, a5, a6⟩ := ps_adv hB0 hps (by omega) (by omega)
      unfold fX12_toldNumber_46 fX12_toldNumber_62
      rw [if_neg hin', if_neg (by decide), a1, px_bd, if_neg (nI_nlt hin.1 (by omega)), if_pos (nI_le hin.2 (by omega)), f2, if_pos rfl, a2, px_bd, v3]
      exact ⟨_, _, _, _, c', p1, v, hin.1, hin.2, rfl, rfl, by show I' 11 6 = _; rw [a5.1 11 6 (by omega), ab_u_at], a3, a4, a5, a6⟩
    · right
      obtain ⟨I', K', a1, a2, a3, a4, a5, a6, a7⟩ := ps_ref h (k := 4) (by decide) (by decide)
      have a1' : fX4_refuses 4 I = some (0, I') := a1
      have a2' : fX12_wrong 4 K = some K' := a2
      have hin' : nI v < nI lo ∨ nI hi < nI v := by
        by_cases h1 : lo ≤ v
        · exact Or.inr (nI_lt (by omega) (by omega))
        · exact Or.inl (nI_lt (by omega) (by omega))
      unfold fX12_toldNumber_46 fX12_toldNumber_62
      rw [if_pos hin', if_pos rfl, a1', px_bd, px_gd (Or.inl rfl), a2', px_bd, if_neg a7]
      by_cases h1 : nI v < nI lo
      · rw [if_pos h1]
        exact ⟨_, _, _, rfl, rfl, a3, a5, a6, a7⟩
      · rw [if_neg h1, if_neg (fun h => absurd (Int32.lt_of_le_of_lt h (hin'.resolve_left h1)) Int32.lt_irrefl)]
        exact ⟨_, _, _, rfl, rfl, a3, a5, a6, a7⟩
  · right
    obtain ⟨I', K', a1, a2, a3, a4, a5, a6, a7⟩ := ps_ref h (k := 2) (by decide) (by decide)
    have a1' : fX4_refuses 2 I = some (0, I') := a1
    have a2' : fX12_wrong 2 K = some K' := a2
    unfold fX12_toldNumber_46 fX12_toldNumber_62
    rw [if_neg (show ¬ nI c = (3 : Int32) from fun h => e ((nI_eq (b := 3) (by omega) (by decide)).mp h)), if_neg (fun h => e (hs.2.2.1.mpr h)), a1', px_bd, px_gd (Or.inl rfl), a2', px_bd, if_neg a7]
    exact ⟨_, _, _, rfl, rfl, a3, a5, a6, a7⟩
end PRM
