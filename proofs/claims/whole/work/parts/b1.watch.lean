/-! ===== the watch: bits up to 21, what was seen ===== -/
theorem wz_or (a b : Nat) : nI a ||| nI b = nI (a ||| b) := by
  apply Int32.toBitVec_inj.1
  show BitVec.ofNat 32 a ||| BitVec.ofNat 32 b = BitVec.ofNat 32 (a ||| b)
  apply BitVec.eq_of_getLsbD_eq
  intro i hi
  simp [hi]
theorem wz_one : ∀ n, n < 31 → (1 : Int32) <<< (nI n &&& 31) = nI (2 ^ n) := by decide +kernel
theorem wz_or1 {n m : Nat} (hn : n < 31) (hm : m < 2 ^ n) : nI m ||| ((1 : Int32) <<< (nI n &&& 31)) = nI (m + 2 ^ n) := by
  have h := Nat.two_pow_add_eq_or_of_lt hm 1
  rw [Nat.mul_one] at h
  rw [wz_one n hn, wz_or, Nat.or_comm, ← h, Nat.add_comm]
theorem wz_sl : ∀ n, n < 32 → ((nI n &&& 31).toBitVec.smod 32).toNat = n := by decide +kernel
theorem wz_bit {m v : Nat} (hm : m < 2 ^ 31) (hv : v < 31) : (nI m >>> (nI v &&& 31)) &&& (1 : Int32) = if m.testBit v = true then 1 else 0 := by
  rw [pk_shrN hm (nI v &&& 31) v (wz_sl v (by omega)), pk_andN (by have := Nat.div_le_self m (2 ^ v); omega) 1 (by decide), Nat.testBit_eq_decide_div_mod_eq]
  rcases Nat.mod_two_eq_zero_or_one (m / 2 ^ v) with h | h
  · rw [h, if_neg (by decide)]; rfl
  · rw [h, if_pos (by decide)]; rfl
theorem sp_msk_tb (g : Nat → Bool) : ∀ n i, i < n → (sp_msk g n).testBit i = g i
  | 0, i, h => absurd h (Nat.not_lt_zero i)
  | n + 1, i, h => by
    have hl := sp_msk_lt g n
    have ih := fun hi => sp_msk_tb g n i hi
    show (sp_msk g n + (if g n = true then 2 ^ n else 0)).testBit i = g i
    by_cases e : i = n
    · subst e
      by_cases hg : g i = true
      · rw [if_pos hg, Nat.add_comm, Nat.testBit_two_pow_add_eq, Nat.testBit_lt_two_pow hl, hg]; rfl
      · rw [if_neg hg, Nat.add_zero, Nat.testBit_lt_two_pow hl]
        simpa using hg
    · by_cases hg : g n = true
      · rw [if_pos hg, Nat.add_comm, Nat.testBit_two_pow_add_gt (by omega)]
        exact ih (by omega)
      · rw [if_neg hg, Nat.add_zero]
        exact ih (by omega)
/-- how many of g hold -/
def sp_cnt (g : Nat → Bool) : Nat → Nat
  | 0 => 0
  | n + 1 => sp_cnt g n + (g n).toNat
theorem sp_cnt_le (g : Nat → Bool) : ∀ n, sp_cnt g n ≤ n
  | 0 => Nat.le_refl _
  | n + 1 => by
    have ih := sp_cnt_le g n
    have : (g n).toNat ≤ 1 := Bool.toNat_le _
    rw [sp_cnt]
    omega
theorem sp_cnt_z (g : Nat → Bool) : ∀ n, sp_cnt g n = 0 → ∀ v, v < n → g v = false
  | 0, _, v, h => absurd h (Nat.not_lt_zero v)
  | n + 1, h, v, hv => by
    rw [sp_cnt] at h
    by_cases e : v = n
    · subst e
      cases hg : g v with
      | false => rfl
      | true => rw [hg] at h; simp at h
    · exact sp_cnt_z g n (by omega) v (by omega)
theorem sp_msk_0 (g : Nat → Bool) : ∀ n, sp_msk g n = 0 ↔ sp_cnt g n = 0
  | 0 => ⟨fun _ => rfl, fun _ => rfl⟩
  | n + 1 => by
    have ih := sp_msk_0 g n
    have hp : 0 < 2 ^ n := Nat.pow_pos (by decide)
    show sp_msk g n + (if g n = true then 2 ^ n else 0) = 0 ↔ sp_cnt g n + (g n).toNat = 0
    cases hg : g n with
    | true => simp
    | false => simpa using ih
/-- what was seen, and which of it counts at k -/
def rx_Wd (I : ab_I) (np nb cn : Nat) (D B Q : Nat → Nat) (is ct : Nat → Bool) (k : Int32) : Prop := cn ≤ 30 ∧ I 41 10 = nI cn ∧ I 73 64 = nI cn ∧ ∀ i, i < cn → 1 ≤ D i ∧ D i ≤ 12 ∧ B i < nb ∧ Q i < np ∧ I 46 i = nI (D i) ∧ I 98 i = nI (D i) ∧ I 47 i = nI (B i) ∧ I 99 i = nI (B i) ∧ I 48 i = nI (Q i) ∧ I 100 i = nI (Q i) ∧ I 49 i = (if is i = true then 1 else 0) ∧ I 103 i = (if is i = true then 1 else 0) ∧ (ct i = true ↔ (¬ k < I 50 i ∧ (I 51 i = 100001 ∨ ¬ I 51 i ≤ k))) ∧ (ct i = true ↔ (¬ k < I 101 i ∧ (I 102 i < 0 ∨ k < I 102 i)))
theorem rx_W_d {I : ab_I} {np nb cn tm : Nat} (h : rx_W I np nb cn tm) (k : Int32) : ∃ D B Q is ct, rx_Wd I np nb cn D B Q is ct k := by
  obtain ⟨w1, w2, w3, w4, w5, w6, w7⟩ := h
  have hch : ∀ i, ∃ y : Nat × Nat × Nat, i < cn → (1 ≤ y.1 ∧ y.1 ≤ 12 ∧ y.2.1 < nb ∧ y.2.2 < np ∧ I 46 i = nI y.1 ∧ I 98 i = nI y.1 ∧ I 47 i = nI y.2.1 ∧ I 99 i = nI y.2.1 ∧ I 48 i = nI y.2.2 ∧ I 100 i = nI y.2.2) := fun i => by
    by_cases hi : i < cn
    · obtain ⟨d, b, p, t, c1, c2, c3, c4, c5, c6, c7, c8, c9, c10, c11, _⟩ := w7 i hi
      exact ⟨(d, b, p), fun _ => ⟨c1, c2, c3, c4, c6, c7, c8, c9, c10, c11⟩⟩
    · exact ⟨(0, 0, 0), fun h => absurd h hi⟩
  refine ⟨fun i => (Classical.choose (hch i)).1, fun i => (Classical.choose (hch i)).2.1, fun i => (Classical.choose (hch i)).2.2, fun i => decide (I 49 i = 1), fun i => decide (¬ k < I 50 i ∧ (I 51 i = 100001 ∨ ¬ I 51 i ≤ k)), w1, w3, w4, fun i hi => ?_⟩
  obtain ⟨c1, c2, c3, c4, c5, c6, c7, c8, c9, c10⟩ := Classical.choose_spec (hch i) hi
  obtain ⟨d, b, p, t, _, _, _, _, d5, _, _, _, _, _, _, d12, d13, d14, d15, d16⟩ := w7 i hi
  have e49 : I 49 i = (if decide (I 49 i = 1) = true then 1 else 0) := by
    rcases d12 with h | h
    · rw [h, if_neg (by decide)]
    · rw [h, if_pos (by decide)]
  refine ⟨c1, c2, c3, c4, c5, c6, c7, c8, c9, c10, e49, by rw [d13]; exact e49, by rw [decide_eq_true_eq], ?_⟩
  rw [decide_eq_true_eq, d15, d14]
  rcases d16 with ⟨h1, h2⟩ | ⟨v, h0, h1, h2⟩
  · rw [h1, h2]
    constructor
    · exact fun h => ⟨h.1, Or.inl (by decide)⟩
    · exact fun h => ⟨h.1, Or.inl rfl⟩
  · have hm : ¬ nI v = (100001 : Int32) := fun h => by
      have h2 := congrArg Int32.toInt h
      rw [nI_toInt (by omega), show (100001 : Int32).toInt = 100001 by decide] at h2
      omega
    rw [h1, h2]
    constructor
    · rintro ⟨x1, x2⟩
      refine ⟨x1, Or.inr ?_⟩
      rcases x2 with x2 | x2
      · exact absurd x2 hm
      · exact Int32.not_le.mp x2
    · rintro ⟨x1, x2⟩
      refine ⟨x1, Or.inr ?_⟩
      rcases x2 with x2 | x2
      · exact absurd x2 (nI_pos (by omega))
      · exact Int32.not_le.mpr x2
theorem rx_Wd_sc {I I' : ab_I} {np nb cn : Nat} {D B Q : Nat → Nat} {is ct : Nat → Bool} {k : Int32} (h : rx_Wd I np nb cn D B Q is ct k) (hs : ∀ r, ¬ rx_sc r → I' r = I r) : rx_Wd I' np nb cn D B Q is ct k := by
  unfold rx_Wd
  rw [hs 41 (by unfold rx_sc; omega), hs 73 (by unfold rx_sc; omega), hs 46 (by unfold rx_sc; omega), hs 47 (by unfold rx_sc; omega), hs 48 (by unfold rx_sc; omega), hs 49 (by unfold rx_sc; omega), hs 50 (by unfold rx_sc; omega), hs 51 (by unfold rx_sc; omega), hs 98 (by unfold rx_sc; omega), hs 99 (by unfold rx_sc; omega), hs 100 (by unfold rx_sc; omega), hs 101 (by unfold rx_sc; omega), hs 102 (by unfold rx_sc; omega), hs 103 (by unfold rx_sc; omega)]
  exact h
/-- what the watch starts from -/
def rx_H (I : ab_I) (P : ab_P) (np nb nl fa lc dr : Nat) (t : Nat → Nat) (F : Int32 → Int32 → Int32 → Int32 → Int32 → Int32 → Int32) (hrs : Nat → Int32) (q : Nat) (w : Nat → Nat) : Prop := rx_Q I P np nb fa hrs F q w ∧ rx_T I np nb nl t lc dr ∧ I 3 6 = nI nl ∧ I 73 41 = nI nl ∧ nl ≤ 20
theorem rx_T_sc {I I' : ab_I} {np nb nl lc dr : Nat} {t : Nat → Nat} (h : rx_T I np nb nl t lc dr) (hs : ∀ r, ¬ rx_sc r → I' r = I r) : rx_T I' np nb nl t lc dr := by
  unfold rx_T
  rw [hs 3 (by unfold rx_sc; omega), hs 4 (by unfold rx_sc; omega), hs 6 (by unfold rx_sc; omega), hs 73 (by unfold rx_sc; omega), hs 86 (by unfold rx_sc; omega), hs 88 (by unfold rx_sc; omega)]
  exact h
theorem rx_H_sc {I I' : ab_I} {P : ab_P} {np nb nl fa lc dr q : Nat} {t w : Nat → Nat} {F : Int32 → Int32 → Int32 → Int32 → Int32 → Int32 → Int32} {hrs : Nat → Int32} (h : rx_H I P np nb nl fa lc dr t F hrs q w) (hs : ∀ r, ¬ rx_sc r → I' r = I r) : rx_H I' P np nb nl fa lc dr t F hrs q w := ⟨rx_Q_sc h.1 hs, rx_T_sc h.2.1 hs, by rw [hs 3 (by unfold rx_sc; omega)]; exact h.2.2.1, by rw [hs 73 (by unfold rx_sc; omega)]; exact h.2.2.2.1, h.2.2.2.2⟩
section WAT
variable {I : ab_I} {P : ab_P} {np nb nl fa lc dr q cn : Nat} {t w : Nat → Nat} {F : Int32 → Int32 → Int32 → Int32 → Int32 → Int32 → Int32} {hrs : Nat → Int32} {D B Q : Nat → Nat} {is ct : Nat → Bool} {k : Int32}
theorem px_counts {i : Nat} (h : rx_Wd I np nb cn D B Q is ct k) (hi : i < cn) : fX10_counts (nI i) k I = some (if ct i = true then 1 else 0) := by
  obtain ⟨h1, h2, h3, h4⟩ := h
  obtain ⟨c1, c2, c3, c4, c5, c6, c7, c8, c9, c10, c11, c12, c13, c14⟩ := h4 i hi
  have hg : ab_ix (nI i) 30 = true := px_ix (by omega) (by decide)
  unfold fX10_counts fX10_counts_35 fX10_counts_31 fX10_counts_36
  rw [px_gd hg, nI_clamp (by omega)]
  by_cases a : k < I 50 i
  · rw [if_pos a, if_neg (fun h => (c13.mp h).1 a), px_gd (Or.inl rfl)]
  · rw [if_neg a, px_gd hg]
    by_cases b : I 51 i = 100001
    · rw [if_pos b, if_pos (c13.mpr ⟨a, Or.inl b⟩), px_gd (Or.inr rfl)]
    · rw [if_neg b, px_gd hg]
      by_cases c : I 51 i ≤ k
      · rw [if_pos c, if_neg (fun h => (c13.mp h).2.elim b (fun h => h c)), px_gd (Or.inl rfl)]
      · rw [if_neg c, if_pos (c13.mpr ⟨a, Or.inr c⟩), px_gd (Or.inr rfl)]
/-- who rings b on day d + 1, if the last of loses tells v -/
def sp_r (F : Int32 → Int32 → Int32 → Int32 → Int32 → Int32 → Int32) (hrs : Nat → Int32) (np fa nb : Nat) (t : Nat → Nat) (lc dr v d b : Nat) : Int32 := sp_rgr F hrs np false fa (sp_go F hrs np false fa nb (sp_bw np t lc dr v) d).1 b
def sp_fok (r : Nat → Nat → Int32) (D B Q : Nat → Nat) (is : Nat → Bool) (i : Nat) : Bool := decide (r (D i - 1) (B i) = nI (Q i)) == is i
def sp_fit (r : Nat → Nat → Int32) (cn : Nat) (D B Q : Nat → Nat) (is ct : Nat → Bool) : Bool := decide (∀ i, i < cn → ct i = true → sp_fok r D B Q is i = true)
/-- one day's check -/
theorem px_holdsIn {v : Nat} {a2 : Int32} {d : Nat} {r : Nat → Nat → Int32} (h : rx_Wd I np nb cn D B Q is ct k) (hnb : nb ≤ 5) (hd12 : d < 12) (hr : ∀ j, j < nb → I 24 j = r d j) :
    ∃ x, ab_it (fun s : Int32 × Int32 × ab_I => fX10_holds_30 (nI v) a2 k s.1 s.2.1 s.2.2) 5000 (nI (d + 1), 0, I) = some x ∧ ((x = .inl (nI (d + 1) + 1, I) ∧ ∀ i, i < cn → ct i = true → D i = d + 1 → sp_fok r D B Q is i = true) ∨ (x = .inr (0, I) ∧ ∃ i, i < cn ∧ ct i = true ∧ sp_fok r D B Q is i = false)) := by
  obtain ⟨h1, h2, h3, h4⟩ := id h
  refine px_forE (body := fun s : Int32 × Int32 × ab_I => fX10_holds_30 (nI v) a2 k s.1 s.2.1 s.2.2) (Out := fun x : (Int32 × ab_I) ⊕ (Int32 × ab_I) => (x = .inl (nI (d + 1) + 1, I) ∧ ∀ i, i < cn → ct i = true → D i = d + 1 → sp_fok r D B Q is i = true) ∨ (x = .inr (0, I) ∧ ∃ i, i < cn ∧ ct i = true ∧ sp_fok r D B Q is i = false))
    (fun i s => s.1 = nI (d + 1) ∧ s.2.1 = nI i ∧ s.2.2 = I ∧ ∀ j, j < i → ct j = true → D j = d + 1 → sp_fok r D B Q is j = true) cn ?_ ?_ cn 0 5000 (nI (d + 1), 0, I) (by omega) (by omega) ⟨rfl, rfl, rfl, fun j hj => absurd hj (Nat.not_lt_zero j)⟩
  · rintro i ⟨s1, s2, I2⟩ hi ⟨e1, e2, e3, e4⟩
    dsimp only at e1 e2 e3 ⊢
    subst e1 e2
    have e3 := e3.symm
    subst e3
    obtain ⟨c1, c2, c3, c4, c5, c6, c7, c8, c9, c10, c11, c12, c13, c14⟩ := h4 i hi
    have hg : ab_ix (nI i) 30 = true := px_ix (by omega) (by decide)
    unfold fX10_holds_30 fX10_holds_65 fX10_holds_66 fX10_holds_103 fX10_holds_115 fX10_holds_113
    rw [h2, if_neg (nI_ge hi (by omega)), px_gd hg, nI_clamp (by omega), c5, px_counts h hi, px_bd]
    have go : ∀ y, y = some (Sum.inl (nI (d + 1), nI i + 1, I)) → (∀ j, j < i + 1 → ct j = true → D j = d + 1 → sp_fok r D B Q is j = true) → (∃ s', y = some (Sum.inl s') ∧ (s'.1 = nI (d + 1) ∧ s'.2.1 = nI (i + 1) ∧ s'.2.2 = I ∧ ∀ j, j < i + 1 → ct j = true → D j = d + 1 → sp_fok r D B Q is j = true)) ∨ ∃ x : (Int32 × ab_I) ⊕ (Int32 × ab_I), y = some (.inr x) ∧ ((x = .inl (nI (d + 1) + 1, I) ∧ ∀ i, i < cn → ct i = true → D i = d + 1 → sp_fok r D B Q is i = true) ∨ (x = .inr (0, I) ∧ ∃ i, i < cn ∧ ct i = true ∧ sp_fok r D B Q is i = false)) := fun y hy hc => Or.inl ⟨_, hy, rfl, (nI_succ i).symm, rfl, hc⟩
    have nx : (ct i = true → D i = d + 1 → sp_fok r D B Q is i = true) → ∀ j, j < i + 1 → ct j = true → D j = d + 1 → sp_fok r D B Q is j = true := fun hi0 j hj a b => by
      by_cases ej : j = i
      · subst ej; exact hi0 a b
      · exact e4 j (by omega) a b
    by_cases ed : D i = d + 1
    · rw [if_pos (by rw [ed])]
      by_cases ec : ct i = true
      · rw [if_pos ec, if_neg (by decide), if_neg (by decide), px_gd hg, c7, px_gd (px_ix (by omega) (by decide)), px_gd hg, nI_clamp (n := B i) (by omega), hr _ c3, c9, px_gd hg, px_gd hg, c11]
        have er : r d (B i) = r (D i - 1) (B i) := by rw [ed, Nat.add_sub_cancel]
        rw [er]
        by_cases e : r (D i - 1) (B i) = nI (Q i)
        · rw [if_pos e]
          by_cases e2 : is i = true
          · rw [if_pos e2, if_pos rfl]
            refine go _ rfl (nx (fun _ _ => ?_))
            unfold sp_fok
            rw [decide_eq_true e, e2]; rfl
          · rw [if_neg e2, if_neg (by decide)]
            refine Or.inr ⟨_, rfl, Or.inr ⟨rfl, i, hi, ec, ?_⟩⟩
            unfold sp_fok
            rw [decide_eq_true e, show is i = false by simpa using e2]; rfl
        · rw [if_neg e]
          by_cases e2 : is i = true
          · rw [if_pos e2, if_neg (by decide)]
            refine Or.inr ⟨_, rfl, Or.inr ⟨rfl, i, hi, ec, ?_⟩⟩
            unfold sp_fok
            rw [decide_eq_false e, e2]; rfl
          · rw [if_neg e2, if_pos rfl]
            refine go _ rfl (nx (fun _ _ => ?_))
            unfold sp_fok
            rw [decide_eq_false e, show is i = false by simpa using e2]; rfl
      · rw [if_neg ec, if_pos rfl, if_pos rfl]
        exact go _ rfl (nx (fun h => absurd h ec))
    · rw [if_neg (fun h => ed ((nI_eq (by omega) (by omega)).mp h)), if_pos rfl]
      exact go _ rfl (nx (fun _ h => absurd h ed))
  · rintro ⟨s1, s2, I2⟩ ⟨e1, e2, e3, e4⟩
    dsimp only at e1 e2 e3 ⊢
    subst e1 e2 e3
    unfold fX10_holds_30 fX10_holds_121
    rw [h2, if_pos (nI_le (Nat.le_refl _) (by omega))]
    exact ⟨_, rfl, Or.inl ⟨rfl, e4⟩⟩
end WAT
