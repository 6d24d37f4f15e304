/-! ===== village: what a formula comes to ===== -/
theorem jn_t : fX12_truth 0 = some 0 ∧ fX12_truth 1 = some 1 := by decide +kernel
theorem jn_37 (a b : Int32) : ∃ y, fX2_joined (-(nI 37)) a b = some y ∧ fX12_done 37 a b = some y := by
  rw [show -(nI 37) = (-37 : Int32) by decide +kernel]
  unfold fX2_joined fX12_done fX2_joined_210 fX2_joined_100 fX2_joined_120 fX2_joined_210
  rw [if_neg (show ¬ (-37 : Int32) = -213 by decide), if_neg (show ¬ (-37 : Int32) = -212 by decide), if_neg (show ¬ (-37 : Int32) = -62 by decide), if_neg (show ¬ (-37 : Int32) = -61 by decide), if_neg (show ¬ (-37 : Int32) = -60 by decide), if_neg (show ¬ (-37 : Int32) = -47 by decide), if_neg (show ¬ (-37 : Int32) = -45 by decide), if_neg (show ¬ (-37 : Int32) = -43 by decide), if_neg (show ¬ (-37 : Int32) = -42 by decide), if_pos (show (-37 : Int32) = -37 from rfl), if_pos (show (37 : Int32) = 37 from rfl)]
  by_cases h : b = 0
  · rw [if_pos h, if_pos h]; unfold fX12_done_155; exact ⟨_, rfl, rfl⟩
  · rw [if_neg h, if_neg h, px_gd h, px_gd h]; unfold fX12_done_155; exact ⟨_, rfl, rfl⟩
theorem jn_42 (a b : Int32) : ∃ y, fX2_joined (-(nI 42)) a b = some y ∧ fX12_done 42 a b = some y := by
  rw [show -(nI 42) = (-42 : Int32) by decide +kernel]
  unfold fX2_joined fX12_done fX2_joined_210 fX2_joined_100 fX2_joined_120 fX2_joined_210
  rw [if_neg (show ¬ (-42 : Int32) = -213 by decide), if_neg (show ¬ (-42 : Int32) = -212 by decide), if_neg (show ¬ (-42 : Int32) = -62 by decide), if_neg (show ¬ (-42 : Int32) = -61 by decide), if_neg (show ¬ (-42 : Int32) = -60 by decide), if_neg (show ¬ (-42 : Int32) = -47 by decide), if_neg (show ¬ (-42 : Int32) = -45 by decide), if_neg (show ¬ (-42 : Int32) = -43 by decide), if_pos (show (-42 : Int32) = -42 from rfl), if_neg (show ¬ (42 : Int32) = 37 by decide), if_neg (show ¬ (42 : Int32) = 38 by decide), if_pos (show (42 : Int32) = 42 from rfl)]
  exact ⟨_, rfl, rfl⟩
theorem jn_43 (a b : Int32) : ∃ y, fX2_joined (-(nI 43)) a b = some y ∧ fX12_done 43 a b = some y := by
  rw [show -(nI 43) = (-43 : Int32) by decide +kernel]
  unfold fX2_joined fX12_done fX2_joined_210 fX2_joined_100 fX2_joined_120 fX2_joined_210
  rw [if_neg (show ¬ (-43 : Int32) = -213 by decide), if_neg (show ¬ (-43 : Int32) = -212 by decide), if_neg (show ¬ (-43 : Int32) = -62 by decide), if_neg (show ¬ (-43 : Int32) = -61 by decide), if_neg (show ¬ (-43 : Int32) = -60 by decide), if_neg (show ¬ (-43 : Int32) = -47 by decide), if_neg (show ¬ (-43 : Int32) = -45 by decide), if_pos (show (-43 : Int32) = -43 from rfl), if_neg (show ¬ (43 : Int32) = 37 by decide), if_neg (show ¬ (43 : Int32) = 38 by decide), if_neg (show ¬ (43 : Int32) = 42 by decide), if_pos (show (43 : Int32) = 43 from rfl)]
  exact ⟨_, rfl, rfl⟩
theorem jn_45 (a b : Int32) : ∃ y, fX2_joined (-(nI 45)) a b = some y ∧ fX12_done 45 a b = some y := by
  rw [show -(nI 45) = (-45 : Int32) by decide +kernel]
  unfold fX2_joined fX12_done fX2_joined_210 fX2_joined_100 fX2_joined_120 fX2_joined_210
  rw [if_neg (show ¬ (-45 : Int32) = -213 by decide), if_neg (show ¬ (-45 : Int32) = -212 by decide), if_neg (show ¬ (-45 : Int32) = -62 by decide), if_neg (show ¬ (-45 : Int32) = -61 by decide), if_neg (show ¬ (-45 : Int32) = -60 by decide), if_neg (show ¬ (-45 : Int32) = -47 by decide), if_pos (show (-45 : Int32) = -45 from rfl), if_neg (show ¬ (45 : Int32) = 37 by decide), if_neg (show ¬ (45 : Int32) = 38 by decide), if_neg (show ¬ (45 : Int32) = 42 by decide), if_neg (show ¬ (45 : Int32) = 43 by decide), if_pos (show (45 : Int32) = 45 from rfl)]
  exact ⟨_, rfl, rfl⟩
theorem jn_47 (a b : Int32) : ∃ y, fX2_joined (-(nI 47)) a b = some y ∧ fX12_done 47 a b = some y := by
  rw [show -(nI 47) = (-47 : Int32) by decide +kernel]
  unfold fX2_joined fX12_done fX2_joined_210 fX2_joined_100 fX2_joined_120 fX2_joined_210
  rw [if_neg (show ¬ (-47 : Int32) = -213 by decide), if_neg (show ¬ (-47 : Int32) = -212 by decide), if_neg (show ¬ (-47 : Int32) = -62 by decide), if_neg (show ¬ (-47 : Int32) = -61 by decide), if_neg (show ¬ (-47 : Int32) = -60 by decide), if_pos (show (-47 : Int32) = -47 from rfl), if_neg (show ¬ (47 : Int32) = 37 by decide), if_neg (show ¬ (47 : Int32) = 38 by decide), if_neg (show ¬ (47 : Int32) = 42 by decide), if_neg (show ¬ (47 : Int32) = 43 by decide), if_neg (show ¬ (47 : Int32) = 45 by decide), if_pos (show (47 : Int32) = 47 from rfl)]
  by_cases h : b = 0
  · rw [if_pos h, if_pos h]; unfold fX12_done_143; exact ⟨_, rfl, rfl⟩
  · rw [if_neg h, if_neg h, px_gd h, px_gd h]; unfold fX12_done_143; exact ⟨_, rfl, rfl⟩
theorem jn_60 (a b : Int32) : ∃ y, fX2_joined (-(nI 60)) a b = some y ∧ fX12_done 60 a b = some y := by
  rw [show -(nI 60) = (-60 : Int32) by decide +kernel]
  unfold fX2_joined fX12_done fX2_joined_210 fX2_joined_100 fX2_joined_120 fX2_joined_210
  rw [if_neg (show ¬ (-60 : Int32) = -213 by decide), if_neg (show ¬ (-60 : Int32) = -212 by decide), if_neg (show ¬ (-60 : Int32) = -62 by decide), if_neg (show ¬ (-60 : Int32) = -61 by decide), if_pos (show (-60 : Int32) = -60 from rfl), if_neg (show ¬ (60 : Int32) = 37 by decide), if_neg (show ¬ (60 : Int32) = 38 by decide), if_neg (show ¬ (60 : Int32) = 42 by decide), if_neg (show ¬ (60 : Int32) = 43 by decide), if_neg (show ¬ (60 : Int32) = 45 by decide), if_neg (show ¬ (60 : Int32) = 47 by decide), if_pos (show (60 : Int32) = 60 from rfl)]
  by_cases h : b ≤ a
  · rw [if_pos h, if_pos h]; unfold fX12_done_166; exact ⟨_, rfl, by rw [jn_t.1, px_bd]⟩
  · rw [if_neg h, if_neg h]; unfold fX12_done_166; exact ⟨_, rfl, by rw [jn_t.2, px_bd]⟩
theorem jn_61 (a b : Int32) : ∃ y, fX2_joined (-(nI 61)) a b = some y ∧ fX12_done 61 a b = some y := by
  rw [show -(nI 61) = (-61 : Int32) by decide +kernel]
  unfold fX2_joined fX12_done fX2_joined_210 fX2_joined_100 fX2_joined_120 fX2_joined_210
  rw [if_neg (show ¬ (-61 : Int32) = -213 by decide), if_neg (show ¬ (-61 : Int32) = -212 by decide), if_neg (show ¬ (-61 : Int32) = -62 by decide), if_pos (show (-61 : Int32) = -61 from rfl), if_neg (show ¬ (61 : Int32) = 37 by decide), if_neg (show ¬ (61 : Int32) = 38 by decide), if_neg (show ¬ (61 : Int32) = 42 by decide), if_neg (show ¬ (61 : Int32) = 43 by decide), if_neg (show ¬ (61 : Int32) = 45 by decide), if_neg (show ¬ (61 : Int32) = 47 by decide), if_neg (show ¬ (61 : Int32) = 60 by decide), if_pos (show (61 : Int32) = 61 from rfl)]
  by_cases h : a = b
  · rw [if_pos h, if_pos h]; unfold fX12_done_194; exact ⟨_, rfl, by rw [jn_t.2, px_bd]⟩
  · rw [if_neg h, if_neg h]; unfold fX12_done_194; exact ⟨_, rfl, by rw [jn_t.1, px_bd]⟩
theorem jn_62 (a b : Int32) : ∃ y, fX2_joined (-(nI 62)) a b = some y ∧ fX12_done 62 a b = some y := by
  rw [show -(nI 62) = (-62 : Int32) by decide +kernel]
  unfold fX2_joined fX12_done fX2_joined_210 fX2_joined_100 fX2_joined_120 fX2_joined_210
  rw [if_neg (show ¬ (-62 : Int32) = -213 by decide), if_neg (show ¬ (-62 : Int32) = -212 by decide), if_pos (show (-62 : Int32) = -62 from rfl), if_neg (show ¬ (62 : Int32) = 37 by decide), if_neg (show ¬ (62 : Int32) = 38 by decide), if_neg (show ¬ (62 : Int32) = 42 by decide), if_neg (show ¬ (62 : Int32) = 43 by decide), if_neg (show ¬ (62 : Int32) = 45 by decide), if_neg (show ¬ (62 : Int32) = 47 by decide), if_neg (show ¬ (62 : Int32) = 60 by decide), if_neg (show ¬ (62 : Int32) = 61 by decide), if_pos (show (62 : Int32) = 62 from rfl)]
  by_cases h : a ≤ b
  · rw [if_pos h, if_pos h]; unfold fX12_done_180; exact ⟨_, rfl, by rw [jn_t.1, px_bd]⟩
  · rw [if_neg h, if_neg h]; unfold fX12_done_180; exact ⟨_, rfl, by rw [jn_t.2, px_bd]⟩
theorem jn_212 (a b : Int32) : ∃ y, fX2_joined (-(nI 212)) a b = some y ∧ fX12_done 124 a b = some y := by
  rw [show -(nI 212) = (-212 : Int32) by decide +kernel]
  unfold fX2_joined fX12_done fX2_joined_210 fX2_joined_100 fX2_joined_120 fX2_joined_210
  rw [if_neg (show ¬ (-212 : Int32) = -213 by decide), if_pos (show (-212 : Int32) = -212 from rfl), if_neg (show ¬ (124 : Int32) = 37 by decide), if_neg (show ¬ (124 : Int32) = 38 by decide), if_neg (show ¬ (124 : Int32) = 42 by decide), if_neg (show ¬ (124 : Int32) = 43 by decide), if_neg (show ¬ (124 : Int32) = 45 by decide), if_neg (show ¬ (124 : Int32) = 47 by decide), if_neg (show ¬ (124 : Int32) = 60 by decide), if_neg (show ¬ (124 : Int32) = 61 by decide), if_neg (show ¬ (124 : Int32) = 62 by decide)]
  unfold fX12_done_223 fX12_done_228
  by_cases h : a = 0
  · rw [if_pos h, if_pos h]
    by_cases h2 : b = 0
    · rw [if_pos h2, if_pos h2]; exact ⟨_, rfl, by rw [jn_t.1, px_bd]⟩
    · rw [if_neg h2, if_neg h2]; exact ⟨_, rfl, by rw [jn_t.2, px_bd]⟩
  · rw [if_neg h, if_neg h]; exact ⟨_, rfl, by rw [jn_t.2, px_bd]⟩
theorem jn_213 (a b : Int32) : ∃ y, fX2_joined (-(nI 213)) a b = some y ∧ fX12_done 38 a b = some y := by
  rw [show -(nI 213) = (-213 : Int32) by decide +kernel]
  unfold fX2_joined fX12_done fX2_joined_210 fX2_joined_100 fX2_joined_120 fX2_joined_210
  rw [if_pos (show (-213 : Int32) = -213 from rfl), if_neg (show ¬ (38 : Int32) = 37 by decide), if_pos (show (38 : Int32) = 38 from rfl)]
  unfold fX12_done_210 fX12_done_211
  by_cases h : a = 0
  · rw [if_pos h, if_pos h]; exact ⟨_, rfl, by rw [jn_t.1, px_bd]⟩
  · rw [if_neg h, if_neg h]
    by_cases h2 : b = 0
    · rw [if_pos h2, if_pos h2]; exact ⟨_, rfl, by rw [jn_t.1, px_bd]⟩
    · rw [if_neg h2, if_neg h2]; exact ⟨_, rfl, by rw [jn_t.2, px_bd]⟩
def jn_S (t : Nat) : Prop := t = 37 ∨ t = 42 ∨ t = 43 ∨ t = 45 ∨ t = 47 ∨ t = 60 ∨ t = 61 ∨ t = 62 ∨ t = 212 ∨ t = 213
theorem jn_ok {t : Nat} (ht : jn_S t) (a b : Int32) : ∃ y, fX2_joined (-(nI t)) a b = some y ∧ fX12_done (if t = 212 then 124 else if t = 213 then 38 else nI t) a b = some y := by
  rcases ht with rfl | rfl | rfl | rfl | rfl | rfl | rfl | rfl | rfl | rfl
  · exact jn_37 a b
  · exact jn_42 a b
  · exact jn_43 a b
  · exact jn_45 a b
  · exact jn_47 a b
  · exact jn_60 a b
  · exact jn_61 a b
  · exact jn_62 a b
  · exact jn_212 a b
  · exact jn_213 a b
/-- the stack behind s steps -/
def ev_u (k : Nat → Int32) (i : Nat) (y : Int32) : Nat → Int32 := fun j => if j = i then y else k j
def ev (x v : Nat → Int32) : Nat → Nat → Int32
  | 0 => fun _ => 0
  | t + 1 => if x t = -214 then ev_u (ev x v t) ((fm_h x t).getD 0 - 1) (if ev x v t ((fm_h x t).getD 0 - 1) = 0 then 1 else 0) else if 0 ≤ x t then ev_u (ev x v t) ((fm_h x t).getD 0) (x t) else if -211 ≤ x t ∧ x t ≤ -206 then ev_u (ev x v t) ((fm_h x t).getD 0) (v ((-(x t) - 206).toNatClampNeg)) else ev_u (ev x v t) ((fm_h x t).getD 0 - 2) ((fX2_joined (x t) (ev x v t ((fm_h x t).getD 0 - 2)) (ev x v t ((fm_h x t).getD 0 - 1))).getD 0)
theorem fe_B : ∀ i, i < 6 → ¬ -(nI (206 + i)) = (-214 : Int32) ∧ ¬ (0 : Int32) ≤ -(nI (206 + i)) ∧ ((-211 : Int32) ≤ -(nI (206 + i)) ∧ -(nI (206 + i)) ≤ (-206 : Int32)) ∧ fX2_isValue (-(-(nI (206 + i)))) = some 1 ∧ -(-(nI (206 + i))) - (206 : Int32) = nI i ∧ -(nI (206 + i)) < (0 : Int32) := by decide +kernel
theorem fe_D : ∀ t, t < 214 → (t = 37 ∨ t = 42 ∨ t = 43 ∨ t = 45 ∨ t = 47 ∨ t = 60 ∨ t = 61 ∨ t = 62 ∨ t = 212 ∨ t = 213) → ¬ -(nI t) = (-214 : Int32) ∧ ¬ (0 : Int32) ≤ -(nI t) ∧ ¬ ((-211 : Int32) ≤ -(nI t) ∧ -(nI t) ≤ (-206 : Int32)) ∧ fX2_isValue (-(-(nI t))) = some 0 := by decide +kernel
theorem fe_A {n : Nat} (hn : n ≤ 9999) : ¬ nI n = (-214 : Int32) ∧ (0 : Int32) ≤ nI n ∧ ¬ nI n < (0 : Int32) := ⟨fun h => absurd (show nI n < 0 by rw [h]; decide) (nI_pos (by omega)), nI_pos' (by omega), nI_pos (by omega)⟩
section EV
variable {x v : Nat → Int32} {t h h' : Nat}
theorem he_A (e : fm_h x t = some h) (h1 : ¬ x t = -214) (h2 : 0 ≤ x t) : fm_h x (t + 1) = some (h + 1) ∧ ev x v (t + 1) = ev_u (ev x v t) h (x t) := by
  rw [ev, if_neg h1, if_pos h2, e]
  refine ⟨?_, rfl⟩
  unfold fm_h
  rw [e]
  dsimp only
  rw [if_neg h1, if_pos (Or.inl h2)]
theorem he_B (e : fm_h x t = some h) (h1 : ¬ x t = -214) (h2 : ¬ 0 ≤ x t) (h3 : -211 ≤ x t ∧ x t ≤ -206) : fm_h x (t + 1) = some (h + 1) ∧ ev x v (t + 1) = ev_u (ev x v t) h (v ((-(x t) - 206).toNatClampNeg)) := by
  rw [ev, if_neg h1, if_neg h2, if_pos h3, e]
  refine ⟨?_, rfl⟩
  unfold fm_h
  rw [e]
  dsimp only
  rw [if_neg h1, if_pos (Or.inr h3)]
theorem he_C (e : fm_h x t = some h) (e' : fm_h x (t + 1) = some h') (h1 : x t = -214) : 1 ≤ h ∧ h' = h ∧ ev x v (t + 1) = ev_u (ev x v t) (h - 1) (if ev x v t (h - 1) = 0 then 1 else 0) := by
  rw [ev, if_pos h1, e]
  unfold fm_h at e'
  rw [e] at e'
  dsimp only at e'
  rw [if_pos h1] at e'
  by_cases hh : 1 ≤ h
  · rw [if_pos hh] at e'
    exact ⟨hh, (Option.some.inj e').symm, rfl⟩
  · rw [if_neg hh] at e'
    cases e'
theorem he_D (e : fm_h x t = some h) (e' : fm_h x (t + 1) = some h') (h1 : ¬ x t = -214) (h2 : ¬ 0 ≤ x t) (h3 : ¬ (-211 ≤ x t ∧ x t ≤ -206)) : 2 ≤ h ∧ h' = h - 1 ∧ ev x v (t + 1) = ev_u (ev x v t) (h - 2) ((fX2_joined (x t) (ev x v t (h - 2)) (ev x v t (h - 1))).getD 0) := by
  rw [ev, if_neg h1, if_neg h2, if_neg h3, e]
  unfold fm_h at e'
  rw [e] at e'
  dsimp only at e'
  rw [if_neg h1, if_neg (show ¬ (0 ≤ x t ∨ (-211 ≤ x t ∧ x t ≤ -206)) from fun h => h.elim h2 h3)] at e'
  by_cases hh : 2 ≤ h
  · rw [if_pos hh] at e'
    exact ⟨hh, (Option.some.inj e').symm, rfl⟩
  · rw [if_neg hh] at e'
    cases e'
theorem ev_w {I : ab_I} {r i : Nat} {y : Int32} {m : Nat} (hs : ∀ j, j < h → I r j = ev x v t j) (he : ev x v (t + 1) = ev_u (ev x v t) i y) (hm : ∀ j, j < m → j ≠ i → j < h) : ∀ j, j < m → ab_u I r i y r j = ev x v (t + 1) j := by
  intro j hj
  rw [he]
  unfold ev_u
  by_cases e : j = i
  · rw [e, ab_u_at, if_pos rfl]
  · rw [px_u (by omega), if_neg e]; exact hs j (hm j hj e)
/-- one step of the class -/
theorem cs {I : ab_I} {q s : Nat} {a2 a3 a4 st ar : Int32} (hs : t < s) (h3 : s ≤ 300) (h7 : I 7 3 = nI s) (h8 : I 8 t = x t) (h1 : fm_1 (x t) st ar) (e : fm_h x t = some h) (e' : fm_h x (t + 1) = some h') (hh : h ≤ 30) (hh' : h' ≤ 30) (hk : ∀ j, j < h → I 9 j = ev x v t j) (hv : ∀ j, j < 6 → I 10 j = v j) : ∃ i y, fX2_comesTo_98 q a2 a3 a4 (nI h) (nI t) I = some (.inl (nI h', nI (t + 1), ab_u I 9 i y)) ∧ ∀ j, j < h' → ab_u I 9 i y 9 j = ev x v (t + 1) j := by
  have hix : ab_ix (nI t) 300 = true := px_ix (by omega) (by decide)
  unfold fX2_comesTo_98
  rw [h7, if_neg (nI_ge hs (by omega)), px_gd hix, nI_clamp (by omega), h8]
  rcases h1 with ⟨n, n1, n2, _, _⟩ | ⟨i, i1, i2, _, _⟩ | ⟨n2, _⟩ | ⟨u, u1, u2, _, _⟩
  · obtain ⟨g1, g2, g3⟩ := fe_A n1
    rw [← n2] at g1 g2 g3
    obtain ⟨w1, w2⟩ := he_A (v := v) e g1 g2
    rw [w1] at e'
    have := Option.some.inj e'
    subst this
    refine ⟨h, x t, ?_, ev_w hk w2 (fun j hj hne => by omega)⟩
    rw [if_neg g1, if_pos g2]
    unfold fX2_comesTo_172 fX2_comesTo_210 fX2_comesTo_256
    rw [if_neg (show ¬ (30 : Int32) ≤ nI h from nI_ge (b := 30) (by omega) (by decide)), if_neg g3, px_gd (px_ix (by omega) (by decide)), nI_clamp (by omega), ← nI_succ, ← nI_succ]
  · obtain ⟨g1, g2, g3, g4, g5, g6⟩ := fe_B i i1
    rw [← i2] at g1 g2 g3 g4 g5 g6
    obtain ⟨w1, w2⟩ := he_B (v := v) e g1 g2 g3
    rw [w1] at e'
    have := Option.some.inj e'
    subst this
    rw [g5, nI_clamp (by omega)] at w2
    refine ⟨h, v i, ?_, ev_w hk w2 (fun j hj hne => by omega)⟩
    rw [if_neg g1, if_neg g2, g4, px_bd, if_neg (by decide)]
    unfold fX2_comesTo_172 fX2_comesTo_210 fX2_comesTo_256
    rw [if_neg (show ¬ (30 : Int32) ≤ nI h from nI_ge (b := 30) (by omega) (by decide)), if_pos g6, g5, px_gd (px_ix (by omega) (by decide)), nI_clamp (n := i) (by omega), hv i i1, px_gd (px_ix (by omega) (by decide)), nI_clamp (by omega), ← nI_succ, ← nI_succ]
  · obtain ⟨w0, w1, w2⟩ := he_C (v := v) e e' n2
    obtain ⟨m, rfl⟩ : ∃ m, h = m + 1 := ⟨h - 1, by omega⟩
    rw [show m + 1 - 1 = m by omega] at w2
    subst w1
    refine ⟨m, _, ?_, ev_w hk w2 (fun j hj hne => by omega)⟩
    rw [if_pos n2, if_neg (nI_nle (by omega) (by omega)), nI_pred, px_gd (px_ix (by omega) (by decide)), nI_clamp (by omega), hk m (by omega)]
    unfold fX2_comesTo_154 fX2_comesTo_256
    by_cases hz : ev x v t m = 0
    · rw [if_pos hz, if_pos hz, px_gd (px_ix (by omega) (by decide)), nI_clamp (by omega), ← nI_succ]
    · rw [if_neg hz, if_neg hz, px_gd (px_ix (by omega) (by decide)), nI_clamp (by omega), ← nI_succ]
  · obtain ⟨g1, g2, g3, g4⟩ := fe_D u (by omega) u1
    rw [← u2] at g1 g2 g3 g4
    obtain ⟨w0, w1, w2⟩ := he_D (v := v) e e' g1 g2 g3
    obtain ⟨m, rfl⟩ : ∃ m, h = m + 2 := ⟨h - 2, by omega⟩
    rw [show m + 2 - 2 = m by omega, show m + 2 - 1 = m + 1 by omega] at w2
    obtain ⟨y, y1, _⟩ := jn_ok u1 (ev x v t m) (ev x v t (m + 1))
    rw [← u2] at y1
    rw [y1] at w2
    have w1' : h' = m + 1 := by omega
    subst w1'
    refine ⟨m, y, ?_, ev_w hk w2 (fun j hj hne => by omega)⟩
    rw [if_neg g1, if_neg g2, g4, px_bd, if_pos rfl, if_neg (show ¬ nI (m + 2) ≤ 1 from nI_ge (a := 1) (by omega) (by omega)), show nI (m + 2) + (-1 : Int32) = nI (m + 1) by rw [px_dec, nI_pred], nI_pred, px_gd (px_ix (by omega) (by decide)), px_gd (px_ix (by omega) (by decide)), nI_clamp (by omega), nI_clamp (by omega), hk m (by omega), hk (m + 1) (by omega), y1, px_bd, px_gd (px_ix (by omega) (by decide))]
    unfold fX2_comesTo_256
    rw [← nI_succ]
/-- one step of the reference -/
theorem rs {I : ab_I} {s : Nat} {a1 a2 : Int32} {g : Nat → Int32} (hs : t < s) (h3 : s ≤ 300) (h7 : I 73 18 = nI s) (h1 : fm_1 (x t) (I 78 t) (I 79 t)) (e : fm_h x t = some h) (e' : fm_h x (t + 1) = some h') (hh : h ≤ 30) (hh' : h' ≤ 30) (hk : ∀ j, j < h → I 81 j = ev x v t j) (hv : I 82 0 = v 2 ∧ I 82 1 = v 0 ∧ I 82 2 = v 3 ∧ I 82 3 = v 1 ∧ I 82 4 = v 4 ∧ I 82 5 = v 5) : ∃ i y, fX12_weightOf_113 a1 a2 (nI h) (nI t) I = some (.inl (nI h', nI (t + 1), ab_u I 81 i y)) ∧ ∀ j, j < h' → ab_u I 81 i y 81 j = ev x v (t + 1) j := by
  have hix : ab_ix (nI t) 320 = true := px_ix (by omega) (by decide)
  unfold fX12_weightOf_113
  rw [h7, if_neg (nI_ge hs (by omega)), px_gd hix, nI_clamp (by omega)]
  rcases h1 with ⟨n, n1, n2, n3, n4⟩ | ⟨i, i1, i2, i3, i4⟩ | ⟨n2, n3⟩ | ⟨u, u1, u2, u3, u4⟩
  · obtain ⟨g1, g2, g3⟩ := fe_A n1
    rw [← n2] at g1 g2 g3
    obtain ⟨w1, w2⟩ := he_A (v := v) e g1 g2
    rw [w1] at e'
    have := Option.some.inj e'
    subst this
    refine ⟨h, x t, ?_, ev_w hk w2 (fun j hj hne => by omega)⟩
    rw [if_pos n3]
    unfold fX12_weightOf_143 fX12_weightOf_180 fX12_weightOf_263
    rw [px_gd hix, nI_clamp (by omega), if_pos n3, px_gd hix, n4, ← n2, px_gd (px_ix (by omega) (by decide)), nI_clamp (by omega), ← nI_succ, ← nI_succ]
  · obtain ⟨g1, g2, g3, g4, g5, g6⟩ := fe_B i i1
    rw [← i2] at g1 g2 g3 g4 g5 g6
    obtain ⟨w1, w2⟩ := he_B (v := v) e g1 g2 g3
    rw [w1] at e'
    have := Option.some.inj e'
    subst this
    rw [g5, nI_clamp (by omega)] at w2
    refine ⟨h, v i, ?_, ev_w hk w2 (fun j hj hne => by omega)⟩
    have n0 : ¬ I 78 t = 0 := by rw [i3]; decide
    rw [if_neg n0, px_gd hix, if_pos i3]
    unfold fX12_weightOf_143 fX12_weightOf_180 fX12_weightOf_263
    rw [px_gd hix, nI_clamp (n := t) (by omega), if_neg n0, px_gd hix, i4]
    obtain ⟨v0, v1, v2, v3, v4, v5⟩ := hv
    have ii : i = 0 ∨ i = 1 ∨ i = 2 ∨ i = 3 ∨ i = 4 ∨ i = 5 := by omega
    have fin : ∀ (m : Nat) (y : Int32), m < 6 → I 82 m = y → ab_gd (ab_ix (nI m) 6 = true) (ab_gd (ab_ix (nI h) 64 = true) (some (Sum.inl (nI h + 1, nI t + 1, ab_u I 81 (nI h).toNatClampNeg (I 82 (nI m).toNatClampNeg))))) = (some (Sum.inl (nI (h + 1), nI (t + 1), ab_u I 81 h y)) : Option ((Int32 × Int32 × ab_I) ⊕ (Int32 × ab_I))) := fun m y hm hy => by
      rw [px_gd (px_ix hm (by decide)), px_gd (px_ix (by omega) (by decide)), nI_clamp (n := m) (by omega), hy, nI_clamp (by omega), ← nI_succ, ← nI_succ]
    rcases ii with rfl | rfl | rfl | rfl | rfl | rfl
    · exact fin 1 _ (by decide) v1
    · exact fin 3 _ (by decide) v3
    · exact fin 0 _ (by decide) v0
    · exact fin 2 _ (by decide) v2
    · exact fin 4 _ (by decide) v4
    · exact fin 5 _ (by decide) v5
  · obtain ⟨w0, w1, w2⟩ := he_C (v := v) e e' n2
    obtain ⟨m, rfl⟩ : ∃ m, h = m + 1 := ⟨h - 1, by omega⟩
    rw [show m + 1 - 1 = m by omega] at w2
    subst w1
    refine ⟨m, _, ?_, ev_w hk w2 (fun j hj hne => by omega)⟩
    rw [if_neg (show ¬ I 78 t = 0 by rw [n3]; decide), px_gd hix, if_neg (show ¬ I 78 t = 1 by rw [n3]; decide), px_gd hix, if_pos n3, nI_pred, px_gd (px_ix (by omega) (by decide)), nI_clamp (by omega), hk m (by omega)]
    unfold fX12_weightOf_221 fX12_weightOf_263
    by_cases hz : ev x v t m = 0
    · rw [if_pos hz, if_pos hz, jn_t.2, px_bd, px_gd (px_ix (by omega) (by decide)), nI_clamp (by omega), ← nI_succ]
    · rw [if_neg hz, if_neg hz, jn_t.1, px_bd, px_gd (px_ix (by omega) (by decide)), nI_clamp (by omega), ← nI_succ]
  · obtain ⟨g1, g2, g3, g4⟩ := fe_D u (by omega) u1
    rw [← u2] at g1 g2 g3 g4
    obtain ⟨w0, w1, w2⟩ := he_D (v := v) e e' g1 g2 g3
    obtain ⟨m, rfl⟩ : ∃ m, h = m + 2 := ⟨h - 2, by omega⟩
    rw [show m + 2 - 2 = m by omega, show m + 2 - 1 = m + 1 by omega] at w2
    obtain ⟨y, y1, y2⟩ := jn_ok u1 (ev x v t m) (ev x v t (m + 1))
    rw [← u2] at y1
    rw [← u4] at y2
    rw [y1] at w2
    have w1' : h' = m + 1 := by omega
    subst w1'
    refine ⟨m, y, ?_, ev_w hk w2 (fun j hj hne => by omega)⟩
    rw [if_neg (show ¬ I 78 t = 0 by rw [u3]; decide), px_gd hix, if_neg (show ¬ I 78 t = 1 by rw [u3]; decide), px_gd hix, if_neg (show ¬ I 78 t = 2 by rw [u3]; decide), px_gd hix, show nI (m + 2) + (-1 : Int32) = nI (m + 1) by rw [px_dec, nI_pred], nI_pred, px_gd (px_ix (by omega) (by decide)), px_gd (px_ix (by omega) (by decide)), nI_clamp (n := m) (by omega), nI_clamp (n := m + 1) (by omega), hk m (by omega), hk (m + 1) (by omega), y2, px_bd, px_gd (px_ix (by omega) (by decide))]
    unfold fX12_weightOf_263
    rw [← nI_succ]
end EV
section EVL
variable {x v : Nat → Int32} {s : Nat}
theorem cl_loop {st ar : Nat → Int32} {q : Nat} {a2 a3 a4 : Int32} (hW : fm_W x st ar s) : ∀ d t n h (I : ab_I), t + d = s → I 7 3 = nI s → I 8 = x → fm_h x t = some h → (∀ j, j < h → I 9 j = ev x v t j) → (∀ j, j < 6 → I 10 j = v j) → ∃ I', ab_it (fun u : Int32 × Int32 × ab_I => fX2_comesTo_98 q a2 a3 a4 u.1 u.2.1 u.2.2) (n + d + 1) (nI h, nI t, I) = some (ev x v s 0, I') ∧ ∀ r, r ≠ 9 → I' r = I r := by
  obtain ⟨s0, s3, h1, hE, hH⟩ := hW
  intro d
  induction d with
  | zero =>
    intro t n h I ht h7 h8 e hk hv
    have ht' : t = s := by omega
    subst ht'
    rw [hE] at e
    have := Option.some.inj e
    subst this
    refine ⟨I, px_itR ?_, fun r _ => rfl⟩
    unfold fX2_comesTo_98 fX2_comesTo_262
    dsimp only
    rw [if_pos (show I 7 3 ≤ nI t by rw [h7]; exact nI_le (by omega) (by omega)), px_gd (by decide), ← hk 0 (by omega)]
    rfl
  | succ d ih =>
    intro t n h I ht h7 h8 e hk hv
    obtain ⟨h', e', hh'⟩ := hH (t + 1) (by omega)
    obtain ⟨h2, e2, hh⟩ := hH t (by omega)
    rw [e] at e2
    have := Option.some.inj e2
    subst this
    obtain ⟨i, y, c1, c2⟩ := cs (q := q) (a2 := a2) (a3 := a3) (a4 := a4) (s := s) (I := I) (by omega) s3 h7 (by rw [h8]) (h1 t (by omega)) e e' hh hh' hk hv
    obtain ⟨I', g1, g2⟩ := ih (t + 1) n h' (ab_u I 9 i y) (by omega) (by rw [px_u (by omega)]; exact h7) (by rw [← h8]; funext k; rw [px_u (by omega)]) e' c2 (fun j hj => by rw [px_u (by omega)]; exact hv j hj)
    refine ⟨I', ?_, fun r hr => ?_⟩
    · rw [show n + (d + 1) + 1 = (n + d + 1) + 1 by omega, px_itL (s := (nI h, nI t, I)) (s' := (nI h', nI (t + 1), ab_u I 9 i y)) c1]
      exact g1
    · rw [g2 r hr]; funext k; rw [px_u (by omega)]
theorem rl_loop {st ar : Nat → Int32} {a1 a2 : Int32} (hW : fm_W x st ar s) : ∀ d t n h (I : ab_I), t + d = s → I 73 18 = nI s → I 78 = st → I 79 = ar → fm_h x t = some h → (∀ j, j < h → I 81 j = ev x v t j) → (I 82 0 = v 2 ∧ I 82 1 = v 0 ∧ I 82 2 = v 3 ∧ I 82 3 = v 1 ∧ I 82 4 = v 4 ∧ I 82 5 = v 5) → ∃ I', ab_it (fun u : Int32 × Int32 × ab_I => fX12_weightOf_113 a1 a2 u.1 u.2.1 u.2.2) (n + d + 1) (nI h, nI t, I) = some (ev x v s 0, I') ∧ ∀ r, r ≠ 81 → I' r = I r := by
  obtain ⟨s0, s3, h1, hE, hH⟩ := hW
  intro d
  induction d with
  | zero =>
    intro t n h I ht h7 h8 h9 e hk hv
    have ht' : t = s := by omega
    subst ht'
    rw [hE] at e
    have := Option.some.inj e
    subst this
    refine ⟨I, px_itR ?_, fun r _ => rfl⟩
    unfold fX12_weightOf_113 fX12_weightOf_269
    dsimp only
    rw [if_pos (show I 73 18 ≤ nI t by rw [h7]; exact nI_le (by omega) (by omega)), px_gd (by decide), ← hk 0 (by omega)]
    rfl
  | succ d ih =>
    intro t n h I ht h7 h8 h9 e hk hv
    obtain ⟨h', e', hh'⟩ := hH (t + 1) (by omega)
    obtain ⟨h2, e2, hh⟩ := hH t (by omega)
    rw [e] at e2
    have := Option.some.inj e2
    subst this
    obtain ⟨i, y, c1, c2⟩ := rs (a1 := a1) (a2 := a2) (s := s) (I := I) (g := x) (by omega) s3 h7 (by rw [h8, h9]; exact h1 t (by omega)) e e' hh hh' hk hv
    have g0 : ∀ r k, r ≠ 81 → ab_u I 81 i y r k = I r k := fun r k hr => px_u (by omega)
    obtain ⟨I', g1, g2⟩ := ih (t + 1) n h' (ab_u I 81 i y) (by omega) (by rw [g0 73 18 (by decide)]; exact h7) (by rw [← h8]; funext k; exact g0 78 k (by decide)) (by rw [← h9]; funext k; exact g0 79 k (by decide)) e' c2 (by rw [g0 82 0 (by decide), g0 82 1 (by decide), g0 82 2 (by decide), g0 82 3 (by decide), g0 82 4 (by decide), g0 82 5 (by decide)]; exact hv)
    refine ⟨I', ?_, fun r hr => ?_⟩
    · rw [show n + (d + 1) + 1 = (n + d + 1) + 1 by omega, px_itL (s := (nI h, nI t, I)) (s' := (nI h', nI (t + 1), ab_u I 81 i y)) c1]
      exact g1
    · rw [g2 r hr]; funext k; exact g0 r k hr
end EVL
