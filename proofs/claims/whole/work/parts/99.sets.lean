/-! ===== the fewest, by number the least: chorus, hush ===== -/
theorem sp_sub : ∀ s, s < 64 → ∀ m, m < 64 → sp_wo s m = 0 → s ≤ m ∧ rx_pop s ≤ rx_pop m ∧ (rx_pop s = rx_pop m → s = m) := by decide +kernel
theorem sp_sub_r : ∀ m, m < 64 → sp_wo m m = 0 := by decide +kernel
def sp_gg (g : Nat → Bool) (may s : Nat) : Prop := s = may ∨ (sp_wo s may = 0 ∧ g s = true)
/-- m is the best of those in C -/
def sp_lm (g : Nat → Bool) (may m : Nat) (C : Nat → Prop) : Prop := sp_wo m may = 0 ∧ m ≤ may ∧ sp_gg g may m ∧ ∀ s, s ≤ may → C s → sp_gg g may s → rx_pop m < rx_pop s ∨ (rx_pop m = rx_pop s ∧ m ≤ s)
theorem sp_lm_u {g : Nat → Bool} {may m m' : Nat} {C C' : Nat → Prop} (h : sp_lm g may m C) (h' : sp_lm g may m' C') (hC : ∀ s, s ≤ may → C s) (hC' : ∀ s, s ≤ may → C' s) : m = m' := by
  obtain ⟨a1, a2, a3, a4⟩ := h
  obtain ⟨b1, b2, b3, b4⟩ := h'
  have x := a4 m' b2 (hC _ b2) b3
  have y := b4 m a2 (hC' _ a2) a3
  omega
theorem sp_lm_up {g : Nat → Bool} {may m i : Nat} (hm : may < 64) (hi : i < 64) (h : sp_lm g may m (· < i)) (h2 : m = may ∨ m < i) : (rx_pop i < rx_pop m ∧ sp_wo i may = 0 ∧ g i = true → sp_lm g may i (· < i + 1) ∧ (i = may ∨ i < i + 1)) ∧ (¬ (rx_pop i < rx_pop m ∧ sp_wo i may = 0 ∧ g i = true) → sp_lm g may m (· < i + 1) ∧ (m = may ∨ m < i + 1)) := by
  obtain ⟨a1, a2, a3, a4⟩ := h
  constructor
  · rintro ⟨b1, b2, b3⟩
    refine ⟨⟨b2, (sp_sub i hi may hm b2).1, Or.inr ⟨b2, b3⟩, fun s hs hc hg => ?_⟩, Or.inr (Nat.lt_succ_self _)⟩
    by_cases e : s = i
    · subst e; exact Or.inr ⟨rfl, Nat.le_refl _⟩
    · have := a4 s hs (by omega) hg
      left
      omega
  · intro hn
    refine ⟨⟨a1, a2, a3, fun s hs hc hg => ?_⟩, by omega⟩
    by_cases e : s = i
    · subst e
      have hsm := sp_sub m (by omega) may hm a1
      rcases hg with hg | ⟨hg1, hg2⟩
      · subst hg
        by_cases e2 : rx_pop m = rx_pop s
        · exact Or.inr ⟨e2, hsm.1⟩
        · left
          have := hsm.2.1
          omega
      · have hp : ¬ rx_pop s < rx_pop m := fun h => hn ⟨h, hg1, hg2⟩
        by_cases e2 : rx_pop m = rx_pop s
        · right
          refine ⟨e2, ?_⟩
          rcases h2 with h2 | h2
          · have := (sp_sub s hi may hm hg1).2.2 (by rw [← e2, h2])
            omega
          · omega
        · left; omega
    · exact a4 s hs (by omega) hg
theorem sp_lm_dn {g : Nat → Bool} {may m s0 : Nat} (hm : may < 64) (hs0 : s0 ≤ may) (h : sp_lm g may m (s0 < ·)) : (sp_wo s0 may = 0 ∧ rx_pop s0 ≤ rx_pop m ∧ g s0 = true → sp_lm g may s0 (s0 ≤ ·)) ∧ (¬ (sp_wo s0 may = 0 ∧ rx_pop s0 ≤ rx_pop m ∧ g s0 = true) → sp_lm g may m (s0 ≤ ·)) := by
  obtain ⟨a1, a2, a3, a4⟩ := h
  constructor
  · rintro ⟨b1, b2, b3⟩
    refine ⟨b1, hs0, Or.inr ⟨b1, b3⟩, fun s hs hc hg => ?_⟩
    by_cases e : s = s0
    · subst e; exact Or.inr ⟨rfl, Nat.le_refl _⟩
    · have := a4 s hs (by omega) hg
      omega
  · intro hn
    refine ⟨a1, a2, a3, fun s hs hc hg => ?_⟩
    by_cases e : s = s0
    · subst e
      have hsm := sp_sub m (by omega) may hm a1
      rcases hg with hg | ⟨hg1, hg2⟩
      · subst hg
        by_cases e2 : rx_pop m = rx_pop s
        · exact Or.inr ⟨e2, hsm.1⟩
        · left
          have := hsm.2.1
          omega
      · have hp : ¬ rx_pop s ≤ rx_pop m := fun h => hn ⟨hg1, h, hg2⟩
        left; omega
    · exact a4 s hs (by omega) hg
theorem px_two : ∀ n, n < 7 → (1 : Int32) <<< (nI n &&& 31) = nI (2 ^ n) := by decide +kernel
theorem sp_two64 {n : Nat} (h : n ≤ 6) : 2 ^ n ≤ 64 := Nat.pow_le_pow_right (by decide) h
section PR14
variable {S : ab_S} {I : ab_I} {J : ab_J} {P : ab_P} {l : Launch} {G : ab_G} {np nb fa q : Nat} {hrs : Nat → Int32} {F : Int32 → Int32 → Int32 → Int32 → Int32 → Int32 → Int32} {w : Nat → Nat}
/-- all that a group's people fear -/
def sp_fo (m : Nat → Int32) (h : Nat) : Nat → Int32
  | 0 => 0
  | n + 1 => if h.testBit n = true then sp_fo m h n ||| m n else sp_fo m h n
theorem px_fearedBy {h : Nat} (hn : np ≤ 6) (hnb : nb ≤ 5) (h34 : I 3 4 = nI np) (hw : rx_is np (rx_v I q) w) (ho : rx_ok np nb 999 w) (hh : h < 64) : fX3_fearedBy q (nI h) I = some (sp_fo (fun p => nI (sp_msk (fun b => decide (0 < w (13 + 5 * p + b))) nb)) h np) := by
  have key := px_for (body := fun s : Int32 × Int32 => fX3_fearedBy_5 q (nI h) I s.1 s.2) (Out := fun x : Int32 => x = sp_fo (fun p => nI (sp_msk (fun b => decide (0 < w (13 + 5 * p + b))) nb)) h np)
    (fun i s => s.1 = sp_fo (fun p => nI (sp_msk (fun b => decide (0 < w (13 + 5 * p + b))) nb)) h i ∧ s.2 = nI i) np ?_ ?_ np 0 5000 (0, 0) (by omega) (by omega) ⟨rfl, rfl⟩
  · obtain ⟨x, k1, k2⟩ := key
    unfold fX3_fearedBy
    rw [k1, k2]
  · rintro i ⟨a1, a2⟩ hi ⟨e1, e2⟩
    dsimp only at e1 e2 ⊢
    subst e1 e2
    unfold fX3_fearedBy_5 fX3_fearedBy_36
    rw [h34, if_neg (nI_ge hi (by omega))]
    by_cases e : h.testBit i = true
    · rw [if_pos ((px_bit h hh i (by omega)).mpr e), px_fears hw (by omega) ho.2.2.2.1, px_bd, sp_fear_nb ho (by omega) hnb]
      refine ⟨_, rfl, ?_, (nI_succ i).symm⟩
      show _ = sp_fo _ h (i + 1)
      rw [sp_fo, if_pos e]
    · rw [if_neg (fun x => e ((px_bit h hh i (by omega)).mp x))]
      refine ⟨_, rfl, ?_, (nI_succ i).symm⟩
      show _ = sp_fo _ h (i + 1)
      rw [sp_fo, if_neg e]
  · rintro ⟨a1, a2⟩ ⟨e1, e2⟩
    dsimp only at e1 e2 ⊢
    subst e1 e2
    unfold fX3_fearedBy_5 fX3_fearedBy_42
    rw [h34, if_pos (nI_le (Nat.le_refl _) (by omega))]
    exact ⟨_, rfl, rfl⟩
theorem px_losingOf {h : Nat} (hn : np ≤ 6) (hnb : nb ≤ 5) (h39 : I 73 39 = nI np) (h40 : I 73 40 = nI nb) (hw : rx_is np (I 90) w) (ho : rx_ok np nb 999 w) (hh : h < 64) : fX12_losingOf (nI h) I = some (sp_fo (fun p => nI (sp_msk (fun b => decide (0 < w (13 + 5 * p + b))) nb)) h np) := by
  have key := px_for (body := fun s : Int32 × Int32 => fX12_losingOf_4 (nI h) I s.1 s.2) (Out := fun x : Int32 => x = sp_fo (fun p => nI (sp_msk (fun b => decide (0 < w (13 + 5 * p + b))) nb)) h np)
    (fun i s => s.1 = sp_fo (fun p => nI (sp_msk (fun b => decide (0 < w (13 + 5 * p + b))) nb)) h i ∧ s.2 = nI i) np ?_ ?_ np 0 5000 (0, 0) (by omega) (by omega) ⟨rfl, rfl⟩
  · obtain ⟨x, k1, k2⟩ := key
    unfold fX12_losingOf
    rw [k1, k2]
  · rintro i ⟨a1, a2⟩ hi ⟨e1, e2⟩
    dsimp only at e1 e2 ⊢
    subst e1 e2
    unfold fX12_losingOf_4 fX12_losingOf_29
    rw [h39, if_neg (nI_ge hi (by omega))]
    by_cases e : h.testBit i = true
    · rw [if_pos ((px_bit h hh i (by omega)).mpr e), px_losing hnb h40 hw (by omega) ho.2.2.2.1, px_bd]
      refine ⟨_, rfl, ?_, (nI_succ i).symm⟩
      show _ = sp_fo _ h (i + 1)
      rw [sp_fo, if_pos e]
    · rw [if_neg (fun x => e ((px_bit h hh i (by omega)).mp x))]
      refine ⟨_, rfl, ?_, (nI_succ i).symm⟩
      show _ = sp_fo _ h (i + 1)
      rw [sp_fo, if_neg e]
  · rintro ⟨a1, a2⟩ ⟨e1, e2⟩
    dsimp only at e1 e2 ⊢
    subst e1 e2
    unfold fX12_losingOf_4 fX12_losingOf_35
    rw [h39, if_pos (nI_le (Nat.le_refl _) (by omega))]
    exact ⟨_, rfl, rfl⟩
theorem px_fewest (hn : np ≤ 6) (hnb : nb ≤ 5) (h34 : I 3 4 = nI np) (hw : rx_is np (rx_v I q) w) (ho : rx_ok np nb 999 w) {g : Nat → Bool} (hg : ∀ s, g s = decide (sp_fo (fun p => nI (sp_msk (fun b => decide (0 < w (13 + 5 * p + b))) nb)) s np = sp_fo (fun p => nI (sp_msk (fun b => decide (0 < w (13 + 5 * p + b))) nb)) (w 12) np)) : ∃ m, fX3_fewestForAll q I = some (nI m) ∧ sp_lm g (w 12) m (· < 2 ^ np) := by
  have hh := rx_ok_h ho hn
  have h64 := sp_two64 hn
  have key := px_for (body := fun s : Int32 × Int32 × Int32 => fX3_fewestForAll_18 q I s.1 s.2.1 s.2.2) (Out := fun x : Int32 => ∃ m, x = nI m ∧ sp_lm g (w 12) m (· < 2 ^ np))
    (fun i s => s.1 = sp_fo (fun p => nI (sp_msk (fun b => decide (0 < w (13 + 5 * p + b))) nb)) (w 12) np ∧ (∃ m, s.2.1 = nI m ∧ sp_lm g (w 12) m (· < i) ∧ (m = w 12 ∨ m < i)) ∧ s.2.2 = nI i) (2 ^ np) ?_ ?_ (2 ^ np) 0 5000 (sp_fo (fun p => nI (sp_msk (fun b => decide (0 < w (13 + 5 * p + b))) nb)) (w 12) np, nI (w 12), 0) (by omega) (by omega) ⟨rfl, ⟨w 12, rfl, ⟨sp_sub_r _ hh, Nat.le_refl _, Or.inl rfl, fun s _ hs => absurd hs (Nat.not_lt_zero s)⟩, Or.inl rfl⟩, rfl⟩
  · obtain ⟨x, k1, m, k2, k3⟩ := key
    refine ⟨m, ?_, k3⟩
    unfold fX3_fewestForAll
    rw [rx_here hw, px_fearedBy hn hnb h34 hw ho hh, px_bd, k1, k2]
  · rintro i ⟨a1, a2, a3⟩ hi ⟨e1, ⟨m, e2, e3, e4⟩, e5⟩
    dsimp only at e1 e2 e3 e4 e5 ⊢
    subst e1 e2 e5
    have hm : m < 64 := Nat.lt_of_le_of_lt e3.2.1 hh
    have hst := sp_lm_up hh (by omega) e3 e4
    unfold fX3_fewestForAll_18 fX3_fewestForAll_49 fX3_fewestForAll_82
    rw [h34, px_two np (by omega), if_neg (nI_ge hi (by omega)), px_pop i (by omega), px_bd, px_pop m hm, px_bd]
    by_cases c1 : rx_pop i < rx_pop m
    · rw [if_neg (nI_ge c1 (by have := rx_pop_le m; omega)), if_neg (by decide), rx_here hw, px_wo i (by omega) _ hh]
      by_cases c2 : sp_wo i (w 12) = 0
      · rw [if_pos (by rw [c2]; rfl), px_fearedBy hn hnb h34 hw ho (by omega), px_bd]
        by_cases c3 : sp_fo (fun p => nI (sp_msk (fun b => decide (0 < w (13 + 5 * p + b))) nb)) i np = sp_fo (fun p => nI (sp_msk (fun b => decide (0 < w (13 + 5 * p + b))) nb)) (w 12) np
        · rw [if_pos c3]
          exact ⟨_, rfl, rfl, ⟨i, rfl, hst.1 ⟨c1, c2, by rw [hg]; exact decide_eq_true c3⟩⟩, (nI_succ i).symm⟩
        · rw [if_neg c3]
          exact ⟨_, rfl, rfl, ⟨m, rfl, hst.2 (fun h => c3 (of_decide_eq_true ((hg i).symm.trans h.2.2)))⟩, (nI_succ i).symm⟩
      · have : sp_wo i (w 12) < 2 ^ 31 := Nat.lt_of_le_of_lt (sp_wo_le _ _) (by omega)
        rw [if_neg (fun h => c2 ((px_eq0 this).mp h))]
        exact ⟨_, rfl, rfl, ⟨m, rfl, hst.2 (fun h => c2 h.2.1)⟩, (nI_succ i).symm⟩
    · rw [if_pos (nI_le (by omega) (by have := rx_pop_le i; omega)), if_pos rfl]
      exact ⟨_, rfl, rfl, ⟨m, rfl, hst.2 (fun h => c1 h.1)⟩, (nI_succ i).symm⟩
  · rintro ⟨a1, a2, a3⟩ ⟨e1, ⟨m, e2, e3, e4⟩, e5⟩
    dsimp only at e1 e2 e3 e4 e5 ⊢
    subst e1 e2 e5
    unfold fX3_fewestForAll_18 fX3_fewestForAll_88
    rw [h34, px_two np (by omega), if_pos (nI_le (Nat.le_refl _) (by omega))]
    exact ⟨_, rfl, m, rfl, e3⟩
theorem px_dec (x : Int32) : x + (-1 : Int32) = x - 1 := (Int32.sub_eq_add_neg x 1).symm
/-- the counter of a loop that goes down from m to -1 -/
def px_dn (m i : Nat) : Int32 := if i ≤ m then nI (m - i) else -1
theorem px_dn_s {m i : Nat} (h : i ≤ m) : nI (m - i) + (-1 : Int32) = px_dn m (i + 1) := by
  unfold px_dn
  by_cases e : i + 1 ≤ m
  · rw [if_pos e]
    have h1 := pk_sub (a := m - i) (b := 1) (by omega)
    rw [show m - (i + 1) = m - i - 1 by omega, ← h1, px_dec]
    rfl
  · rw [if_neg e, show m - i = 0 by omega]
    rfl
theorem px_dn_n {m i : Nat} (h : i ≤ m) : px_dn m i = nI (m - i) := if_pos h
theorem px_dn_e {m : Nat} : px_dn m (m + 1) = -1 := if_neg (by omega)
theorem px_mchorus (a : Int32) (hn : np ≤ 6) (hnb : nb ≤ 5) (h39 : I 73 39 = nI np) (h40 : I 73 40 = nI nb) (hw : rx_is np (I 90) w) (ho : rx_ok np nb 999 w) {g : Nat → Bool} (hg : ∀ s, g s = decide (sp_fo (fun p => nI (sp_msk (fun b => decide (0 < w (13 + 5 * p + b))) nb)) s np = sp_fo (fun p => nI (sp_msk (fun b => decide (0 < w (13 + 5 * p + b))) nb)) (w 12) np)) :
    ∃ m, ab_it (fun s : Int32 × Int32 × Int32 × Int32 × ab_I => fX12_chorus_35 a s.1 s.2.1 s.2.2.1 s.2.2.2.1 s.2.2.2.2) 5000 (nI (w 12), sp_fo (fun p => nI (sp_msk (fun b => decide (0 < w (13 + 5 * p + b))) nb)) (w 12) np, nI (w 12), nI (w 12), I) = some (if a = 0 then nI (rx_pop m) else nI m, I) ∧ sp_lm g (w 12) m (fun _ => True) := by
  have hh := rx_ok_h ho hn
  have key := px_for (body := fun s : Int32 × Int32 × Int32 × Int32 × ab_I => fX12_chorus_35 a s.1 s.2.1 s.2.2.1 s.2.2.2.1 s.2.2.2.2) (Out := fun x : Int32 × ab_I => ∃ m, x = (if a = 0 then nI (rx_pop m) else nI m, I) ∧ sp_lm g (w 12) m (fun _ => True))
    (fun i s => s.1 = nI (w 12) ∧ s.2.1 = sp_fo (fun p => nI (sp_msk (fun b => decide (0 < w (13 + 5 * p + b))) nb)) (w 12) np ∧ (∃ m, s.2.2.1 = nI m ∧ sp_lm g (w 12) m (fun s => w 12 < s + i)) ∧ s.2.2.2.1 = px_dn (w 12) i ∧ s.2.2.2.2 = I) (w 12 + 1) ?_ ?_ (w 12 + 1) 0 5000 (nI (w 12), sp_fo (fun p => nI (sp_msk (fun b => decide (0 < w (13 + 5 * p + b))) nb)) (w 12) np, nI (w 12), nI (w 12), I) (by omega) (by omega) ⟨rfl, rfl, ⟨w 12, rfl, sp_sub_r _ hh, Nat.le_refl _, Or.inl rfl, fun s h1 h2 => by omega⟩, rfl, rfl⟩
  · obtain ⟨x, k1, m, k2, k3⟩ := key
    exact ⟨m, by rw [k1, k2], k3⟩
  · rintro i ⟨a1, a2, a3, a4, I2⟩ hi ⟨e1, e2, ⟨m, e3, e4⟩, e5, e6⟩
    dsimp only at e1 e2 e3 e4 e5 e6 ⊢
    subst e1 e2 e3 e5 e6
    have hm : m < 64 := Nat.lt_of_le_of_lt e4.2.1 hh
    have hst := sp_lm_dn (s0 := w 12 - i) hh (by omega) (by
      obtain ⟨x1, x2, x3, x4⟩ := e4
      exact ⟨x1, x2, x3, fun s hs hc => x4 s hs (by omega)⟩)
    have hst1 : ∀ m, sp_lm g (w 12) m (w 12 - i ≤ ·) → sp_lm g (w 12) m (fun s => w 12 < s + (i + 1)) := fun m ⟨x1, x2, x3, x4⟩ => ⟨x1, x2, x3, fun s hs hc => x4 s hs (by omega)⟩
    unfold fX12_chorus_35 fX12_chorus_76
    rw [px_dn_n (by omega), px_dn_s (by omega), if_neg (nI_pos (by omega)), px_wo _ (by omega) _ hh]
    by_cases c2 : sp_wo (w 12 - i) (w 12) = 0
    · rw [if_pos (by rw [c2]; rfl), px_members _ (by omega), px_bd, px_members m hm, px_bd]
      by_cases c1 : rx_pop (w 12 - i) ≤ rx_pop m
      · rw [if_neg (nI_nlt c1 (by have := rx_pop_le m; omega)), px_losingOf hn hnb h39 h40 hw ho (by omega), px_bd]
        by_cases c3 : sp_fo (fun p => nI (sp_msk (fun b => decide (0 < w (13 + 5 * p + b))) nb)) (w 12 - i) np = sp_fo (fun p => nI (sp_msk (fun b => decide (0 < w (13 + 5 * p + b))) nb)) (w 12) np
        · rw [if_pos c3]
          exact ⟨_, rfl, rfl, rfl, ⟨w 12 - i, rfl, hst1 _ (hst.1 ⟨c2, c1, by rw [hg]; exact decide_eq_true c3⟩)⟩, rfl, rfl⟩
        · rw [if_neg c3]
          exact ⟨_, rfl, rfl, rfl, ⟨m, rfl, hst1 _ (hst.2 (fun h => c3 (of_decide_eq_true ((hg _).symm.trans h.2.2))))⟩, rfl, rfl⟩
      · rw [if_pos (nI_lt (by omega) (by have := rx_pop_le (w 12 - i); omega))]
        exact ⟨_, rfl, rfl, rfl, ⟨m, rfl, hst1 _ (hst.2 (fun h => c1 h.2.1))⟩, rfl, rfl⟩
    · have : sp_wo (w 12 - i) (w 12) < 2 ^ 31 := Nat.lt_of_le_of_lt (sp_wo_le _ _) (by omega)
      rw [if_neg (fun h => c2 ((px_eq0 this).mp h))]
      exact ⟨_, rfl, rfl, rfl, ⟨m, rfl, hst1 _ (hst.2 (fun h => c2 h.1))⟩, rfl, rfl⟩
  · rintro ⟨a1, a2, a3, a4, I2⟩ ⟨e1, e2, ⟨m, e3, e4⟩, e5, e6⟩
    dsimp only at e1 e2 e3 e4 e5 e6 ⊢
    subst e1 e2 e3 e5 e6
    have hm : m < 64 := Nat.lt_of_le_of_lt e4.2.1 hh
    have hlm : sp_lm g (w 12) m (fun _ => True) := ⟨e4.1, e4.2.1, e4.2.2.1, fun s hs _ => e4.2.2.2 s hs (by omega)⟩
    unfold fX12_chorus_35 fX12_chorus_82 fX12_chorus_96
    rw [px_dn_e, if_pos (by decide)]
    by_cases ea : a = 0
    · rw [if_pos ea, px_members m hm, px_bd]
      exact ⟨_, rfl, m, by rw [if_pos ea], hlm⟩
    · rw [if_neg ea]
      exact ⟨_, rfl, m, by rw [if_neg ea], hlm⟩
theorem pr_chorus (hR : rx_R S I J P) (a1 : Int32) : lz_pr l G rx_R mX11_chorus 4 mX12_chorus 3 [.int a1] S I J P := by
  have hB := hR.1
  obtain ⟨np, nb, fa, hrs, F, q, w, hQ⟩ := rx_R_Q hR
  obtain ⟨h1, h2, h3, h4, h5, h6, h7, h8, h9, h10, h11, h12, h13, h14, h15, h16, h17, h18⟩ := id hQ
  by_cases ha : a1 < 0 ∨ (1 : Int32) < a1
  · have hx : fX11_chorus a1 I P = some (-1) := by
      unfold fX11_chorus
      rw [px_within, if_pos ha, px_bd, if_pos rfl]
    have hm : fX12_chorus a1 I = some (-1, I) := by
      unfold fX12_chorus
      rw [px_isIn, if_pos ha, px_bd, if_pos rfl]
    exact lz_q _ hR (fun Q hQ => mX11_chorus_ok hB hx hQ) (fun Q hQ => mX12_chorus_ok hB hm hQ) (fun _ _ => rfl)
  have hh := rx_ok_h h18 h1
  obtain ⟨g, hg⟩ : ∃ g : Nat → Bool, ∀ s, g s = decide (sp_fo (fun p => nI (sp_msk (fun b => decide (0 < w (13 + 5 * p + b))) nb)) s np = sp_fo (fun p => nI (sp_msk (fun b => decide (0 < w (13 + 5 * p + b))) nb)) (w 12) np) := ⟨_, fun _ => rfl⟩
  obtain ⟨m, x1, x2⟩ := px_fewest h1 h2 h4 h16 h18 hg
  obtain ⟨I1, f1, f2, f3⟩ := px_mfill hQ
  have hQ1 := rx_Q_sc hQ f3
  obtain ⟨m', y1, y2⟩ := px_mchorus a1 h1 h2 hQ1.2.2.2.2.2.2.1 hQ1.2.2.2.2.2.2.2.1 f2 h18 hg
  have em : m = m' := sp_lm_u x2 y2 (fun s hs => Nat.lt_of_le_of_lt hs h18.2.2.1) (fun _ _ => trivial)
  subst em
  have hm64 : m < 64 := Nat.lt_of_le_of_lt x2.2.1 hh
  have hx : fX11_chorus a1 I P = some (if a1 = 0 then nI (rx_pop m) else nI m) := by
    unfold fX11_chorus fX11_chorus_35
    rw [px_within, if_neg ha, px_bd, if_neg (by decide), h14, px_bd, x1, px_bd]
    by_cases ea : a1 = 0
    · rw [if_pos ea, if_pos ea, px_pop m hm64, px_bd]
    · rw [if_neg ea, if_neg ea]
  have hm : fX12_chorus a1 I = some (if a1 = 0 then nI (rx_pop m) else nI m, I1) := by
    unfold fX12_chorus
    rw [px_isIn, if_neg ha, px_bd, if_neg (by decide), f1, px_bd, px_gd (by decide), show ((12 : Int32).toNatClampNeg) = 12 from rfl, f2 12 (by decide) (fun h => absurd h (by decide)), px_losingOf h1 h2 hQ1.2.2.2.2.2.2.1 hQ1.2.2.2.2.2.2.2.1 f2 h18 hh, px_bd]
    exact y1
  exact lz_q _ hR (fun Q hQ => mX11_chorus_ok hB hx hQ) (fun Q hQ => mX12_chorus_ok hB hm hQ) f3
end PR14
