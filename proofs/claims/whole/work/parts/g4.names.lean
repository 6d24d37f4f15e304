/-! ===== village: names ===== -/
section NAM
variable {I0 K0 : ab_I} {J0 L0 : ab_J} {z : Nat} {B : Nat → Nat} {I K : ab_I} {J L : ab_J} {p0 c a b : Nat}
theorem px_numberOfName {r1 n1 k : Nat} (hk : k ≤ n1) (hn : n1 ≤ 6) : ∃ o, fX4_numberOfName r1 n1 (nI k) J = some (sp_int o) ∧ (o = none → ∀ i, i < k → J r1 i ≠ J 22 5) ∧ ∀ m, o = some m → m < k ∧ J r1 m = J 22 5 := by
  have key := px_forE (body := fun s : Int32 => fX4_numberOfName_2 r1 n1 (nI k) J s) (Out := fun x : Int32 => ∃ o, x = sp_int o ∧ (o = none → ∀ i, i < k → J r1 i ≠ J 22 5) ∧ ∀ m, o = some m → m < k ∧ J r1 m = J 22 5)
    (fun i s => s = nI i ∧ ∀ j, j < i → J r1 j ≠ J 22 5) k ?_ ?_ k 0 5000 0 (by omega) (by omega) ⟨rfl, fun j hj => absurd hj (Nat.not_lt_zero j)⟩
  · obtain ⟨x, k1, o, k2, k3⟩ := key
    exact ⟨o, by unfold fX4_numberOfName; rw [k1, k2], k3⟩
  · rintro i s hi ⟨e1, e2⟩
    subst e1
    have hof : ¬ Int32.ofNat n1 ≤ nI i := nI_ge (b := n1) (by omega) (by omega)
    unfold fX4_numberOfName_2 fX4_numberOfName_27
    rw [if_neg (nI_ge hi (by omega)), if_neg hof, px_gd (px_ix (by omega) (by omega)), nI_clamp (by omega)]
    by_cases e : J r1 i = J 22 5
    · rw [if_pos ((tk_cmp _ _).mpr e)]
      exact Or.inr ⟨_, rfl, some i, rfl, fun h => (by cases h), fun m h => by cases h; exact ⟨hi, e⟩⟩
    · rw [if_neg (fun h => e ((tk_cmp _ _).mp h))]
      refine Or.inl ⟨_, rfl, (nI_succ i).symm, fun j hj => ?_⟩
      by_cases ej : j = i
      · subst ej; exact e
      · exact e2 j (by omega)
  · rintro s ⟨e1, e2⟩
    subst e1
    unfold fX4_numberOfName_2 fX4_numberOfName_35
    rw [if_pos (nI_le (Nat.le_refl _) (by omega))]
    exact ⟨_, rfl, none, rfl, fun _ => e2, fun m h => by cases h⟩
theorem px_findM {f k : Nat} (hf : f + k ≤ 11) : ∃ o, fX12_find (nI f) (nI k) L = some (sp_int o) ∧ (o = none → ∀ i, i < k → L 75 (f + i) ≠ L 73 9) ∧ ∀ m, o = some m → m < k ∧ L 75 (f + m) = L 73 9 := by
  have key := px_for (body := fun s : Int32 × Int32 => fX12_find_5 (nI f) (nI k) L s.1 s.2) (Out := fun x : Int32 => ∃ o, x = sp_int o ∧ (o = none → ∀ i, i < k → L 75 (f + i) ≠ L 73 9) ∧ ∀ m, o = some m → m < k ∧ L 75 (f + m) = L 73 9)
    (fun i s => s.2 = nI i ∧ ∃ o, s.1 = sp_int o ∧ (o = none → ∀ j, j < i → L 75 (f + j) ≠ L 73 9) ∧ ∀ m, o = some m → m < i ∧ L 75 (f + m) = L 73 9) k ?_ ?_ k 0 5000 (-1, 0) (by omega) (by omega) ⟨rfl, none, rfl, fun _ j hj => absurd hj (Nat.not_lt_zero j), fun m h => by cases h⟩
  · obtain ⟨x, k1, o, k2, k3⟩ := key
    exact ⟨o, by unfold fX12_find; rw [k1, k2], k3⟩
  · rintro i ⟨s1, s2⟩ hi ⟨e1, o, e2, e3, e4⟩
    dsimp only at e1 e2 ⊢
    subst e1 e2
    unfold fX12_find_5 fX12_find_34
    rw [if_neg (nI_ge hi (by omega)), px_add, px_gd (px_ix (by omega) (by decide)), nI_clamp (by omega)]
    by_cases e : L 75 (f + i) = L 73 9
    · rw [if_pos ((tk_cmp _ _).mpr e)]
      exact ⟨_, rfl, (nI_succ i).symm, some i, rfl, fun h => (by cases h), fun m h => by cases h; exact ⟨by omega, e⟩⟩
    · rw [if_neg (fun h => e ((tk_cmp _ _).mp h))]
      refine ⟨_, rfl, (nI_succ i).symm, o, rfl, fun h j hj => ?_, fun m h => ⟨by have := (e4 m h).1; omega, (e4 m h).2⟩⟩
      by_cases ej : j = i
      · subst ej; exact e
      · exact e3 h j (by omega)
  · rintro ⟨s1, s2⟩ ⟨e1, o, e2, e3, e4⟩
    dsimp only at e1 e2 ⊢
    subst e1 e2
    unfold fX12_find_5 fX12_find_41
    rw [if_pos (nI_le (Nat.le_refl _) (by omega))]
    exact ⟨_, rfl, o, rfl, e3, e4⟩
/-- a name at hand, looked up on both sides -/
theorem ps_find {r1 n1 f k : Nat} (hT : tk_R I J K L z p0 c) (hc : c = 2) (hk : k ≤ n1) (hn : n1 ≤ 6) (hf : f + k ≤ 11) (hJL : ∀ i, i < k → J r1 i = L 75 (f + i)) (hdis : ∀ i j, i < j → j < k → J r1 i ≠ J r1 j) : ∃ o, fX4_numberOfName r1 n1 (nI k) J = some (sp_int o) ∧ fX12_find (nI f) (nI k) L = some (sp_int o) ∧ (o = none → ∀ i, i < k → J r1 i ≠ J 22 5) ∧ (∀ m, o = some m → m < k) ∧ J 22 5 = L 73 9 := by
  have hw : J 22 5 = L 73 9 := by
    obtain ⟨pl, t1, t2, t3, t4, t5, t6⟩ := hT
    rcases t6 with ⟨h1, h2⟩ | ⟨h1, h2, _⟩ | ⟨p, _, _, _, _, h⟩
    · omega
    · omega
    · rcases h with ⟨_, h2, _⟩ | ⟨h1, h2, h3⟩ | ⟨h1, h2⟩
      · exact h2
      · omega
      · unfold tk_sg at h1
        simp only [Bool.or_eq_true, beq_iff_eq] at h1
        omega
  obtain ⟨o, a1, a2, a3⟩ := px_numberOfName (J := J) (r1 := r1) hk hn
  obtain ⟨o', b1, b2, b3⟩ := px_findM (L := L) hf
  have eo : o = o' := by
    cases o with
    | none =>
      cases o' with
      | none => rfl
      | some m =>
        obtain ⟨m1, m2⟩ := b3 m rfl
        exact absurd (show J r1 m = J 22 5 by rw [hJL m m1, hw, m2]) (a2 rfl m m1)
    | some m =>
      obtain ⟨m1, m2⟩ := a3 m rfl
      cases o' with
      | none => exact absurd (show L 75 (f + m) = L 73 9 by rw [← hJL m m1, ← hw, m2]) (b2 rfl m m1)
      | some m' =>
        obtain ⟨n1, n2⟩ := b3 m' rfl
        have e2 : J r1 m' = J 22 5 := by rw [hJL m' n1, hw, n2]
        by_cases c1 : m < m'
        · exact absurd (m2.trans e2.symm) (hdis m m' c1 n1)
        · by_cases c2 : m' < m
          · exact absurd (e2.trans m2.symm) (hdis m' m c2 m1)
          · rw [show m = m' by omega]
  subst eo
  exact ⟨o, a1, b1, a2, fun m h => (a3 m h).1, hw⟩
/-- a new name: the class behind its advance, the reference behind its token -/
theorem ps_new (hB0 : tk_B I0 K0 z B) (h : ps I0 K0 J0 L0 z I J K L p0 c a b) {r1 n1 f k : Nat} (hr : r1 = 12 ∨ r1 = 13) (hk : k < n1) (hn : n1 ≤ 6) (hf : f + k < 11) (hJL : ∀ i, i < k → J r1 i = L 75 (f + i)) (hdis : ∀ i j, i < j → j < k → J r1 i ≠ J r1 j) (hkeep : ∀ x, dr I (ab_u J r1 k x) K (ab_u L 75 (f + k) x) a b) :
    (∃ I' J' K' L' c' p1 x, fX4_takesNewName r1 n1 (nI k) I J = some (1, I', J') ∧ (fX12_isName K L).bind (fun u2 => if u2 = 0 then (fX12_wrong 2 K).bind fun u5 => fX12_newName_33 (nI f) (nI k) u5 L else (fX12_find (nI f) (nI k) L).bind fun u3 => if u3 < 0 then fX12_newName_33 (nI f) (nI k) K L else (fX12_wrong 3 K).bind fun u4 => fX12_newName_33 (nI f) (nI k) u4 L) = some (K', L') ∧ ps I0 K0 J0 L0 z I' J' K' L' p1 c' a b ∧ p0 < p1 ∧ tk_fx I I' (ab_u J r1 k x) J' ∧ tk_fm K K' (ab_u L 75 (f + k) x) L' ∧ ∀ i, i < k → J r1 i ≠ x) ∨
    ∃ I' K', fX4_takesNewName r1 n1 (nI k) I J = some (0, I', J) ∧ (fX12_isName K L).bind (fun u2 => if u2 = 0 then (fX12_wrong 2 K).bind fun u5 => fX12_newName_33 (nI f) (nI k) u5 L else (fX12_find (nI f) (nI k) L).bind fun u3 => if u3 < 0 then fX12_newName_33 (nI f) (nI k) K L else (fX12_wrong 3 K).bind fun u4 => fX12_newName_33 (nI f) (nI k) u4 L) = some (K', L) ∧ ft I0 K0 J0 L0 I' J K' L ∧ (∀ r x, ¬ (r = 73 ∧ (x = 2 ∨ x = 3)) → K' r x = K r x) ∧ ¬ K' 73 2 ≤ 0 ∧ ¬ K' 73 2 = 0 := by
  have hT := h.2.1
  have t2 : I 22 2 = nI c := by obtain ⟨pl, _, t2, _⟩ := hT; exact t2
  have t3 : c < 300 := by obtain ⟨pl, _, _, t3, _⟩ := hT; exact t3
  have f2 := h.2.2.2.2.1
  unfold fX4_takesNewName
  rw [t2, tk_isName hT, px_bd]
  by_cases e : c = 2
  · obtain ⟨o, o1, o2, o3, o4, o5⟩ := ps_find hT e (by omega) hn (by omega) hJL hdis
    rw [if_pos (by rw [e]; rfl), if_pos e, if_neg (show ¬ (1 : Int32) = 0 by decide), o1, px_bd, o2, px_bd]
    cases o with
    | none =>
      left
      have hof : ¬ Int32.ofNat n1 ≤ nI k := nI_ge (b := n1) hk (by omega)
      have hps : ps I0 K0 J0 L0 z I (ab_u J r1 k (J 22 5)) K (ab_u L 75 (f + k) (J 22 5)) p0 c a b := by
        obtain ⟨hF, hT, g8, g9, g2, g3, hd⟩ := h
        refine ⟨⟨hF.1, hF.2.1, fun r i x y w => by rw [ab_u_o (by omega)]; exact hF.2.2.1 r i x y w, fun r i x y => by rw [ab_u_o y]; exact hF.2.2.2 r i x y⟩, ?_, g8, g9, g2, g3, hkeep _⟩
        have e1 : ab_u J r1 k (J 22 5) 22 = J 22 := ab_u_o (by omega)
        have e2 : ab_u L 75 (f + k) (J 22 5) 73 = L 73 := ab_u_o (by decide)
        unfold tk_R at *
        rw [e1, e2]; exact hT
      obtain ⟨I', J', K', L', c', p1, a1, a2, a3, a4, a5, a6⟩ := ps_adv hB0 hps (by omega) (by omega)
      unfold fX4_takesNewName_49 fX12_newName_33
      rw [show sp_int none = -1 from rfl, if_pos rfl, if_neg hof, px_gd (px_ix hk (by omega)), nI_clamp (by omega), a1, px_bd, if_pos (show (-1 : Int32) < 0 by decide), f2, if_pos (show (0 : Int32) ≤ 0 by decide), px_add, px_gd (px_ix hf (by decide)), nI_clamp (by omega), ← o5, a2, px_bd]
      exact ⟨_, _, _, _, c', p1, J 22 5, rfl, rfl, a3, a4, a5, a6, fun i hi => o3 rfl i hi⟩
    | some m =>
      right
      have hm := o4 m rfl
      obtain ⟨I', K', a1, a2, a3, a4, a5, a6, a7⟩ := ps_ref h (k := 3) (by decide) (by decide)
      have a1' : fX4_refuses 3 I = some (0, I') := a1
      have a2' : fX12_wrong 3 K = some K' := a2
      unfold fX12_newName_33
      rw [show sp_int (some m) = nI m from rfl, if_neg (px_m1 (by omega)), a1', px_bd, px_gd (Or.inl rfl), if_neg (nI_pos (by omega)), a2', px_bd, if_neg a6]
      exact ⟨_, _, rfl, rfl, a3, a5, a6, a7⟩
  · right
    obtain ⟨I', K', a1, a2, a3, a4, a5, a6, a7⟩ := ps_ref h (k := 2) (by decide) (by decide)
    have a1' : fX4_refuses 2 I = some (0, I') := a1
    have a2' : fX12_wrong 2 K = some K' := a2
    unfold fX12_newName_33
    rw [if_neg (show ¬ nI c = (2 : Int32) from fun h => e ((nI_eq (b := 2) (by omega) (by decide)).mp h)), if_neg e, if_pos rfl, a1', px_bd, px_gd (Or.inl rfl), a2', px_bd, if_neg a6]
    exact ⟨_, _, rfl, rfl, a3, a5, a6, a7⟩
/-- a name that is told already -/
theorem ps_old (h : ps I0 K0 J0 L0 z I J K L p0 c a b) {r1 n1 f k : Nat} (hk : k ≤ n1) (hn : n1 ≤ 6) (hf : f + k ≤ 11) (hJL : ∀ i, i < k → J r1 i = L 75 (f + i)) (hdis : ∀ i j, i < j → j < k → J r1 i ≠ J r1 j) :
    (∃ m, m < k ∧ c = 2 ∧ fX4_knownName r1 n1 (nI k) I J = some (nI m, I) ∧ fX12_oldName (nI f) (nI k) K L = some (nI m, K)) ∨ ∃ I' K', fX4_knownName r1 n1 (nI k) I J = some (-1, I') ∧ fX12_oldName (nI f) (nI k) K L = some (0, K') ∧ ft I0 K0 J0 L0 I' J K' L ∧ (∀ r x, ¬ (r = 73 ∧ (x = 2 ∨ x = 3)) → K' r x = K r x) ∧ ¬ K' 73 2 ≤ 0 ∧ ¬ K' 73 2 = 0 := by
  have hT := h.2.1
  have t2 : I 22 2 = nI c := by obtain ⟨pl, _, t2, _⟩ := hT; exact t2
  have t3 : c < 300 := by obtain ⟨pl, _, _, t3, _⟩ := hT; exact t3
  have f2 := h.2.2.2.2.1
  unfold fX4_knownName fX4_knownName_37 fX12_oldName fX12_oldName_38 fX12_oldName_55
  rw [t2, f2, if_pos (show (0 : Int32) ≤ 0 by decide), tk_isName hT, px_bd]
  by_cases e : c = 2
  · obtain ⟨o, o1, o2, o3, o4, o5⟩ := ps_find hT e hk hn hf hJL hdis
    rw [if_pos (by rw [e]; rfl), if_pos e, if_neg (by decide), o1, px_bd, o2, px_bd]
    cases o with
    | none =>
      right
      obtain ⟨I', K', a1, a2, a3, a4, a5, a6, a7⟩ := ps_ref h (k := 5) (by decide) (by decide)
      have a1' : fX4_refuses 5 I = some (0, I') := a1
      have a2' : fX12_wrong 5 K = some K' := a2
      rw [show sp_int none = -1 from rfl, if_pos rfl, a1', px_bd, if_neg (show ¬ (0 : Int32) ≤ -1 by decide), a2', px_bd, if_neg a6]
      exact ⟨_, _, rfl, rfl, a3, a5, a6, a7⟩
    | some m =>
      left
      have hm := o4 m rfl
      rw [show sp_int (some m) = nI m from rfl, if_neg (px_m1 (by omega)), if_pos (nI_pos' (by omega)), if_pos (show (0 : Int32) ≤ 0 by decide), px_bd]
      exact ⟨m, hm, e, rfl, rfl⟩
  · right
    obtain ⟨I', K', a1, a2, a3, a4, a5, a6, a7⟩ := ps_ref h (k := 2) (by decide) (by decide)
    have a1' : fX4_refuses 2 I = some (0, I') := a1
    have a2' : fX12_wrong 2 K = some K' := a2
    rw [if_neg (show ¬ nI c = (2 : Int32) from fun h => e ((nI_eq (b := 2) (by omega) (by decide)).mp h)), if_neg e, if_pos rfl, a1', px_bd, a2', px_bd, if_neg a6]
    exact ⟨_, _, rfl, rfl, a3, a5, a6, a7⟩
end NAM
