/-! ===== village: what the reference asks its stack ===== -/
def sev (l : List Nat) : Prop := ∀ e, e ∈ l → e < 125
theorem sks_mem {K : ab_I} : ∀ l : List Nat, sks K l → sev l → ((20 ∈ l → ∃ j, j < l.length ∧ K 80 j = 20) ∧ (20 ∉ l → ∀ j, j < l.length → ¬ K 80 j = 20)) := by
  intro l
  induction l with
  | nil => intro _ _; exact ⟨fun h => absurd h (by simp), fun _ j hj => absurd hj (Nat.not_lt_zero j)⟩
  | cons e l ih =>
    intro hs hv
    obtain ⟨h1, h2⟩ := ih hs.2 (fun e he => hv e (List.mem_cons_of_mem _ he))
    have he := hv e (List.mem_cons_self ..)
    refine ⟨fun h => ?_, fun h j hj => ?_⟩
    · rcases List.mem_cons.mp h with h | h
      · exact ⟨l.length, by rw [List.length_cons]; omega, by rw [hs.1, ← h]; rfl⟩
      · obtain ⟨j, a, b⟩ := h1 h
        exact ⟨j, by rw [List.length_cons]; omega, b⟩
    · rw [List.length_cons] at hj
      by_cases ej : j = l.length
      · rw [ej, hs.1]
        intro h'
        have := (nI_eq (b := 20) (by omega) (by decide)).mp h'
        exact h (by rw [this]; exact List.mem_cons_self ..)
      · exact h2 (fun h' => h (List.mem_cons_of_mem _ h')) j (by omega)
theorem hb_loop {K : ab_I} {m : Nat} (hm : m ≤ 100) (h19 : K 73 19 = nI m) : ∀ d i n (f : Int32), i + d = m → ((f = 1 ∧ ∃ j, j < i ∧ K 80 j = 20) ∨ (f = 0 ∧ ∀ j, j < i → ¬ K 80 j = 20)) → ∃ v, ab_it (fun s : Int32 × Int32 => fX12_hasBracket_4 K s.1 s.2) (n + d + 1) (f, nI i) = some v ∧ ((v = 1 ∧ ∃ j, j < m ∧ K 80 j = 20) ∨ (v = 0 ∧ ∀ j, j < m → ¬ K 80 j = 20)) := by
  intro d
  induction d with
  | zero =>
    intro i n f hi hf
    have : i = m := by omega
    subst this
    refine ⟨f, px_itR ?_, hf⟩
    unfold fX12_hasBracket_4 fX12_hasBracket_39
    dsimp only
    rw [if_pos (show K 73 19 ≤ nI i by rw [h19]; exact nI_le (by omega) (by omega)), px_gd (by rcases hf with h | h; exact Or.inr h.1; exact Or.inl h.1)]
    rfl
  | succ d ih =>
    intro i n f hi hf
    have step : ∃ f', fX12_hasBracket_4 K f (nI i) = some (.inl (f', nI (i + 1))) ∧ ((f' = 1 ∧ ∃ j, j < i + 1 ∧ K 80 j = 20) ∨ (f' = 0 ∧ ∀ j, j < i + 1 → ¬ K 80 j = 20)) := by
      unfold fX12_hasBracket_4 fX12_hasBracket_27 fX12_hasBracket_32
      rw [if_neg (show ¬ K 73 19 ≤ nI i by rw [h19]; exact nI_ge (by omega) (by omega))]
      rcases hf with ⟨f1, j, j1, j2⟩ | ⟨f1, f2⟩
      · rw [if_neg (show ¬ f = 0 by rw [f1]; decide), ← nI_succ]
        exact ⟨1, rfl, Or.inl ⟨rfl, j, by omega, j2⟩⟩
      · rw [if_pos f1, px_gd (px_ix (by omega) (by decide)), nI_clamp (by omega), ← nI_succ]
        by_cases e : K 80 i = 20
        · rw [if_pos e]
          exact ⟨1, rfl, Or.inl ⟨rfl, i, by omega, e⟩⟩
        · rw [if_neg e]
          refine ⟨0, rfl, Or.inr ⟨rfl, fun j hj => ?_⟩⟩
          by_cases ej : j = i
          · rw [ej]; exact e
          · exact f2 j (by omega)
    obtain ⟨f', s1, s2⟩ := step
    obtain ⟨v, g1, g2⟩ := ih (i + 1) n f' (by omega) s2
    refine ⟨v, ?_, g2⟩
    rw [show n + (d + 1) + 1 = (n + d + 1) + 1 by omega, px_itL (s := (f, nI i)) (s' := (f', nI (i + 1))) s1]
    exact g1
theorem hb_ok {K : ab_I} {l : List Nat} (hl : l.length ≤ 100) (h19 : K 73 19 = nI l.length) (hs : sks K l) (hv : sev l) : fX12_hasBracket K = some (if 20 ∈ l then 1 else 0) := by
  obtain ⟨v, g1, g2⟩ := hb_loop hl h19 l.length 0 (4999 - l.length) 0 (by omega) (Or.inr ⟨rfl, fun j hj => absurd hj (Nat.not_lt_zero j)⟩)
  rw [show 4999 - l.length + l.length + 1 = 5000 by omega] at g1
  obtain ⟨m1, m2⟩ := sks_mem l hs hv
  have g1' : fX12_hasBracket K = some v := g1
  rw [g1']
  by_cases e : 20 ∈ l
  · obtain ⟨j, j1, j2⟩ := m1 e
    rw [if_pos e]
    rcases g2 with ⟨h, _⟩ | ⟨_, h⟩
    · rw [h]
    · exact absurd j2 (h j j1)
  · rw [if_neg e]
    rcases g2 with ⟨_, j, j1, j2⟩ | ⟨h, _⟩
    · exact absurd j2 (m2 e j j1)
    · rw [h]
/-- a relation stands open at this level -/
def hr : List Nat → Bool
  | [] => false
  | e :: l => if e = 20 then false else if tg e ≤ 4 then tg e == 4 else hr l
theorem hr_loop {K : ab_I} : ∀ (l : List Nat) n, l.length ≤ 100 → sks K l → sev l → ab_it (fun s : Int32 => fX12_hasRelation_7 K s) (n + l.length + 1) (nI l.length - 1) = some (if hr l = true then 1 else 0) := by
  intro l
  induction l with
  | nil =>
    intro n _ _ _
    refine px_itR ?_
    unfold fX12_hasRelation_7 fX12_hasRelation_41 fX12_hasRelation_73 fX12_hasRelation_74
    rw [if_pos (by decide), if_pos (by decide), px_gd (Or.inl rfl)]
    rfl
  | cons e l ih =>
    intro n hl hs hv
    have hl' : l.length + 1 ≤ 100 := hl
    have he := hv e (List.mem_cons_self ..)
    have ht := tg_le e
    rw [List.length_cons, nI_pred]
    have hn : ¬ nI l.length < 0 := nI_pos (by omega)
    have hix : ab_ix (nI l.length) 160 = true := px_ix (by omega) (by decide)
    have c20 : nI e = 20 ↔ e = 20 := nI_eq (b := 20) (by omega) (by decide)
    have c4 : nI (tg e) ≤ 4 ↔ tg e ≤ 4 := nI_leI (b := 4) (by omega) (by decide)
    have c44 : nI (tg e) = 4 ↔ tg e = 4 := nI_eq (b := 4) (by omega) (by decide)
    have f7 : fX12_hasRelation_7 K (nI l.length) = if e = 20 ∨ tg e ≤ 4 then some (.inr (if hr (e :: l) = true then 1 else 0)) else some (.inl (nI l.length - 1)) := by
      unfold fX12_hasRelation_7 fX12_hasRelation_41 fX12_hasRelation_73 fX12_hasRelation_74
      rw [if_neg hn, if_neg hn, px_gd hix, px_gd hix, nI_clamp (by omega), hs.1, tg_ok e he, px_bd, px_bd]
      unfold hr
      by_cases e0 : e = 20
      · rw [if_pos (c20.mpr e0), if_pos (c20.mpr e0), if_pos (Or.inl e0), if_pos e0, px_gd (Or.inl rfl)]
        rfl
      · rw [if_neg (fun h => e0 (c20.mp h)), if_neg (fun h => e0 (c20.mp h)), px_gd hix, px_gd hix, if_neg e0]
        by_cases e4 : tg e ≤ 4
        · rw [if_pos (c4.mpr e4), if_pos (Or.inr e4), if_pos e4]
          by_cases e5 : tg e = 4
          · rw [if_pos (c44.mpr e5), px_gd (Or.inr rfl), e5]
            rfl
          · rw [if_neg (fun h => e5 (c44.mp h)), px_gd (Or.inl rfl), if_neg (by simp [e5])]
            rfl
        · rw [if_neg (fun h => e4 (c4.mp h)), if_neg (by omega), px_dec]
    rw [show n + (l.length + 1) + 1 = (n + l.length + 1) + 1 by omega]
    by_cases h : e = 20 ∨ tg e ≤ 4
    · rw [if_pos h] at f7
      exact px_itR f7
    · rw [if_neg h] at f7
      rw [px_itL (s := nI l.length) (s' := nI l.length - 1) f7, ih n (by omega) hs.2 (fun e he => hv e (List.mem_cons_of_mem _ he))]
      rw [show hr (e :: l) = hr l by rw [hr, if_neg (by omega), if_neg (by omega)]]
theorem hr_ok {K : ab_I} {l : List Nat} (hl : l.length ≤ 100) (h19 : K 73 19 = nI l.length) (hs : sks K l) (hv : sev l) : fX12_hasRelation K = some (if hr l = true then 1 else 0) := by
  have g1 := hr_loop l (4999 - l.length) hl hs hv
  rw [show 4999 - l.length + l.length + 1 = 5000 by omega] at g1
  unfold fX12_hasRelation
  rw [h19]
  exact g1
theorem hr_app {ps l : List Nat} (h : hr ps = true) : hr (ps ++ l) = true := by
  induction ps with
  | nil => exact absurd h (by decide)
  | cons e ps ih =>
    rw [List.cons_append]
    rw [hr] at h ⊢
    by_cases e0 : e = 20
    · rw [if_pos e0] at h; cases h
    · rw [if_neg e0] at h ⊢
      by_cases e4 : tg e ≤ 4
      · rw [if_pos e4] at h ⊢; exact h
      · rw [if_neg e4] at h ⊢; exact ih h
theorem hr_no {ps l : List Nat} (h : ∀ e, e ∈ ps → ok 5 e) : hr (ps ++ l) = hr l := by
  induction ps with
  | nil => rfl
  | cons e ps ih =>
    have := h e (List.mem_cons_self ..)
    unfold ok bo at this
    rw [List.cons_append, hr, if_neg (by omega), if_neg (by omega)]
    exact ih (fun e he => h e (List.mem_cons_of_mem _ he))
theorem hr_tc {l : List Nat} (h : tc 4 l) : hr l = false := by
  cases l with
  | nil => rfl
  | cons e l =>
    obtain ⟨_, h⟩ := h
    unfold hr
    rcases h with h | ⟨h1, h2⟩
    · rw [if_pos h]
    · rw [if_neg h1, if_pos (by omega)]
      simp
      omega
theorem mn_ok {K : ab_I} {l : List Nat} (hl : l.length ≤ 100) (h19 : K 73 19 = nI l.length) (hs : sks K l) (hv : sev l) : (tc 4 l → fX12_mayNot K = some 1) ∧ ((∃ e l', l = e :: l' ∧ e ≠ 20 ∧ 4 ≤ tg e) → fX12_mayNot K = some 0) := by
  unfold fX12_mayNot fX12_mayNot_41 fX12_mayNot_46
  cases l with
  | nil =>
    rw [if_pos (show K 73 19 = 0 from h19), px_gd (Or.inr rfl)]
    exact ⟨fun _ => rfl, fun ⟨e, l', h, _⟩ => by cases h⟩
  | cons e l =>
    have hl' : l.length + 1 ≤ 100 := hl
    have h19' : K 73 19 = nI (l.length + 1) := h19
    have he := hv e (List.mem_cons_self ..)
    have ht := tg_le e
    rw [h19', if_neg (nI_ne0 (by omega) (by omega)), nI_pred, px_gd (px_ix (by omega) (by decide)), nI_clamp (by omega), hs.1]
    have c20 : nI e = 20 ↔ e = 20 := nI_eq (b := 20) (by omega) (by decide)
    have c4 : (4 : Int32) ≤ nI (tg e) ↔ 4 ≤ tg e := nI_leI (a := 4) (by decide) (by omega)
    by_cases e0 : e = 20
    · rw [if_pos (c20.mpr e0), px_gd (Or.inr rfl)]
      exact ⟨fun _ => rfl, fun ⟨e', l', h, h2, _⟩ => by cases h; exact absurd e0 h2⟩
    · rw [if_neg (fun h => e0 (c20.mp h)), px_gd (px_ix (by omega) (by decide)), tg_ok e he, px_bd]
      by_cases e4 : 4 ≤ tg e
      · rw [if_pos (c4.mpr e4), px_gd (Or.inl rfl)]
        refine ⟨fun h => ?_, fun _ => rfl⟩
        obtain ⟨_, h⟩ := h
        omega
      · rw [if_neg (fun h => e4 (c4.mp h)), px_gd (Or.inr rfl)]
        refine ⟨fun _ => rfl, fun ⟨e', l', h, _, h3⟩ => by cases h; exact absurd h3 e4⟩
/-- the sign at hand, as the reference writes it down -/
def sgn (c : Nat) : Nat := if c = 213 then 38 else if c = 212 then 124 else if c = 60 then 60 else if c = 62 then 62 else if c = 61 then 61 else if c = 43 then 43 else if c = 45 then 45 else if c = 42 then 42 else if c = 47 then 47 else if c = 37 then 37 else 0
theorem sgn_ok {I K : ab_I} {J L : ab_J} {z p0 c : Nat} (hT : tk_R I J K L z p0 c) : fX12_sign K L = some (nI (sgn c)) := by
  have hs := (tk_sort hT).2.2.2.2
  have w1 := tk_word1 hT (i := 13) (by decide)
  have w2 := tk_word1 hT (i := 12) (by decide)
  have w1' : fX12_isWord 6385252 K L = some (if c = 213 then 1 else 0) := w1
  have w2' : fX12_isWord 28530 K L = some (if c = 212 then 1 else 0) := w2
  unfold fX12_sign fX12_sign_98 fX12_sign_106 sgn
  rw [w1', px_bd, w2', px_bd]
  by_cases e1 : c = 213
  · rw [if_pos e1, if_neg (by decide), if_pos e1]; rfl
  · rw [if_neg e1, if_pos rfl, if_neg e1]
    by_cases e2 : c = 212
    · rw [if_pos e2, if_neg (by decide), if_pos e2]; rfl
    · rw [if_neg e2, if_pos rfl, if_neg e2]
      have go : ∀ t : Nat, tk_sg t = true → ∀ (X Y : Option Int32) (A B : Nat), (c = t → X = some (nI A)) → (¬ c = t → Y = some (nI B)) → (if K 73 6 = nI t then X else Y) = some (nI (if c = t then A else B)) := fun t ht X Y A B hX hY => by
        by_cases e : c = t
        · rw [if_pos ((hs t ht).mp e), if_pos e, hX e]
        · rw [if_neg (fun h => e ((hs t ht).mpr h)), if_neg e, hY e]
      have v : ∀ t : Nat, tk_sg t = true → c = t → some (K 73 6) = some (nI t) := fun t ht e => by rw [(hs t ht).mp e]
      refine go 60 (by decide) _ _ _ _ (v 60 (by decide)) (fun _ => ?_)
      refine go 62 (by decide) _ _ _ _ (v 62 (by decide)) (fun _ => ?_)
      refine go 61 (by decide) _ _ _ _ (v 61 (by decide)) (fun _ => ?_)
      refine go 43 (by decide) _ _ _ _ (v 43 (by decide)) (fun _ => ?_)
      refine go 45 (by decide) _ _ _ _ (v 45 (by decide)) (fun _ => ?_)
      refine go 42 (by decide) _ _ _ _ (v 42 (by decide)) (fun _ => ?_)
      refine go 47 (by decide) _ _ _ _ (v 47 (by decide)) (fun _ => ?_)
      refine go 37 (by decide) _ _ _ _ (v 37 (by decide)) (fun _ => rfl)
def lvl (t : Nat) : Nat := if t = 1 then 0 else if t = 2 then 1 else t - 2
theorem lv_a : ∀ c, c < 300 → sgn c = 0 → fX4_levelOf (nI c) = some (-1) := by decide +kernel
theorem lv_b : ∀ c, c < 300 → sgn c ≠ 0 → sgn c = 37 ∨ sgn c = 42 ∨ sgn c = 43 ∨ sgn c = 45 ∨ sgn c = 47 ∨ sgn c = 60 ∨ sgn c = 61 ∨ sgn c = 62 ∨ sgn c = 38 ∨ sgn c = 124 := by decide +kernel
theorem lv_c : ∀ c, c < 300 → sgn c ≠ 0 → fX4_levelOf (nI c) = some (nI (lvl (tg (sgn c)))) := by decide +kernel
theorem lv_d : ∀ c, c < 300 → sgn c ≠ 0 → -(nI c) = cst (sgn c) := by decide +kernel
theorem lv_e : ∀ c, c < 300 → sgn c ≠ 0 → c ≠ 0 ∧ c ≠ 1 ∧ c ≠ 41 ∧ tg (sgn c) ≠ 3 := by decide +kernel
theorem ad_ok {I : ab_I} {s : Nat} {x : Int32} (h : I 18 3 = nI s) (hs : s < 300) : fX2_add x I = some (ab_u (ab_u I 19 s x) 18 3 (nI (s + 1))) := by
  unfold fX2_add fX2_add_32
  rw [h, if_neg (show ¬ (300 : Int32) ≤ nI s from nI_ge (b := 300) hs (by decide)), px_gd (px_ix hs (by decide)), nI_clamp (by omega), ← nI_succ]
