/-! ===== village: tokens, class and reference side by side ===== -/
theorem ab_uu {α : Type} {I : Nat → Nat → α} {r k : Nat} {x y : α} : ab_u (ab_u I r k x) r k y = ab_u I r k y := by
  funext q j
  by_cases e : q = r
  · subst e
    by_cases e2 : j = k
    · subst e2; rw [ab_u_at, ab_u_at]
    · rw [ab_u_ne e2, ab_u_ne e2, ab_u_ne e2]
  · rw [ab_u_o e, ab_u_o e, ab_u_o e]
theorem ab_uuu {α : Type} {I : Nat → Nat → α} {r a b : Nat} {x y x' y' : α} (h : a ≠ b) : ab_u (ab_u (ab_u (ab_u I r a x) r b y) r a x') r b y' = ab_u (ab_u I r a x') r b y' := by
  funext q j
  by_cases e : q = r
  · subst e
    by_cases e2 : j = b
    · subst e2; rw [ab_u_at, ab_u_at]
    · rw [ab_u_ne e2, ab_u_ne e2]
      by_cases e3 : j = a
      · subst e3; rw [ab_u_at, ab_u_at]
      · rw [ab_u_ne e3, ab_u_ne e2, ab_u_ne e3, ab_u_ne e3]
  · rw [ab_u_o e, ab_u_o e, ab_u_o e, ab_u_o e, ab_u_o e, ab_u_o e]
/-- the same bytes on both tapes -/
def tk_B (I K : ab_I) (z : Nat) (B : Nat → Nat) : Prop := z ≤ 1600 ∧ I 1 1 = nI z ∧ K 73 5 = nI z ∧ ∀ i, i < z → I 2 i &&& 255 = nI (B i) ∧ K 74 i = nI (B i) ∧ B i < 256
theorem tk_B_c {I K I' K' : ab_I} {z : Nat} {B : Nat → Nat} (h : tk_B I K z B) (h1 : I' 1 1 = I 1 1) (h2 : ∀ i, I' 2 i = I 2 i) (h3 : K' 73 5 = K 73 5) (h4 : ∀ i, K' 74 i = K 74 i) : tk_B I' K' z B := by
  obtain ⟨a, b, c, d⟩ := h
  exact ⟨a, h1.trans b, h3.trans c, fun i hi => by rw [h2, h4]; exact d i hi⟩
theorem tk_L (x : Int32) : fX8_isLetter x = fX12_isLetter x := rfl
theorem tk_D (x : Int32) : fX8_isDigit x = fX12_isDigit x := rfl
theorem tk_l : ∀ b, b < 256 → fX12_isLetter (nI b) = some (if 97 ≤ b ∧ b ≤ 122 then 1 else 0) := by decide +kernel
theorem tk_d : ∀ b, b < 256 → fX12_isDigit (nI b) = some (if 48 ≤ b ∧ b ≤ 57 then 1 else 0) := by decide +kernel
theorem tk_l1 : fX12_isLetter (-1) = some 0 := by decide +kernel
theorem tk_d1 : fX12_isDigit (-1) = some 0 := by decide +kernel
def tk_sg (b : Nat) : Bool := b == 37 || b == 40 || b == 41 || b == 42 || b == 43 || b == 45 || b == 47 || b == 59 || b == 60 || b == 61 || b == 62
theorem tk_s : ∀ b, b < 256 → fX8_isSign (nI b) = some (if tk_sg b = true then 1 else 0) ∧ fX12_isSign (nI b) = some (if tk_sg b = true then 1 else 0) := by decide +kernel
section TOK
variable {I K : ab_I} {J L : ab_J} {z : Nat} {B : Nat → Nat}
theorem px_tat {p : Nat} (h : tk_B I K z B) (hp : p ≤ 1600) : fX7_at (nI p) I = some (if p < z then nI (B p) else -1) := by
  obtain ⟨h1, h2, h3, h4⟩ := h
  unfold fX7_at fX7_at_34 fX7_at_35
  rw [if_neg (nI_pos (by omega)), h2]
  by_cases e : p < z
  · rw [if_neg (nI_ge e (by omega)), if_neg (show ¬ (1600 : Int32) ≤ nI p from nI_ge (b := 1600) (by omega) (by decide)), px_gd (px_ix (by omega) (by decide)), nI_clamp (by omega), (h4 p e).1, if_pos e]
  · rw [if_pos (nI_le (by omega) (by omega)), if_neg e]
theorem px_tpk {a k : Nat} (h : tk_B I K z B) (ha : K 73 4 = nI a) (hk : a + k ≤ 3000) : fX12_peek (nI k) K = some (if a + k < z then nI (B (a + k)) else -1) := by
  obtain ⟨h1, h2, h3, h4⟩ := h
  unfold fX12_peek fX12_peek_28
  rw [h3, ha, px_add]
  by_cases e : a + k < z
  · rw [if_neg (nI_ge e (by omega)), px_gd (px_ix (by omega) (by decide)), nI_clamp (by omega), (h4 _ e).2.1, if_pos e]
  · rw [if_pos (nI_le (by omega) (by omega)), if_neg e]
theorem tk_blank : ∀ d p n (I K : ab_I), p + d = z → I 22 1 = nI p → K 73 4 = nI p → tk_B I K z B → ∃ p', p ≤ p' ∧ p' ≤ z ∧ (p' < z → B p' ≠ 32 ∧ B p' ≠ 10) ∧ ab_it (fun s : ab_I × ab_J => fX8_advance_0 s.1 s.2) (n + d + 1) (I, J) = fX8_advance_44 (ab_u I 22 1 (nI p')) J ∧ ab_it (fun s : ab_I × ab_J => fX12_token_0 s.1 s.2) (n + d + 1) (K, L) = fX12_token_33 (ab_u K 73 4 (nI p')) L
  | 0, p, n, I, K, hp, h1, h2, hB => by
    obtain rfl : p = z := by omega
    have hz := hB.1
    refine ⟨p, Nat.le_refl _, Nat.le_refl _, fun h => by omega, ?_, ?_⟩
    · refine px_itO (body := fun s : ab_I × ab_J => fX8_advance_0 s.1 s.2) ?_
      dsimp only
      unfold fX8_advance_0
      rw [hB.2.1, h1, if_pos (nI_le (Nat.le_refl _) (by omega)), bz_u0 h1]
    · refine px_itO (body := fun s : ab_I × ab_J => fX12_token_0 s.1 s.2) ?_
      dsimp only
      unfold fX12_token_0
      rw [show (0 : Int32) = nI 0 from rfl, px_tpk hB h2 (by omega), if_neg (by omega), px_bd, if_neg (by decide), px_bd, if_neg (by decide), bz_u0 h2]
  | d + 1, p, n, I, K, hp, h1, h2, hB => by
    have hz := hB.1
    have hlt : p < z := by omega
    have hb := (hB.2.2.2 p hlt).2.2
    have at1 := px_tat (p := p) hB (by omega)
    have pk1 := px_tpk (k := 0) hB h2 (by omega)
    rw [if_pos hlt] at at1
    rw [Nat.add_zero, if_pos hlt] at pk1
    have e32 : nI (B p) = (32 : Int32) ↔ B p = 32 := nI_eq (b := 32) (by omega) (by decide)
    have e10 : nI (B p) = (10 : Int32) ↔ B p = 10 := nI_eq (b := 10) (by omega) (by decide)
    by_cases hbl : B p = 32 ∨ B p = 10
    · have xb : fX8_advance_0 I J = some (.inl (ab_u I 22 1 (nI (p + 1)), J)) := by
        unfold fX8_advance_0 fX8_isBlank fX8_isBlank_12 fX8_isBlank_17
        rw [hB.2.1, h1, if_neg (nI_ge hlt (by omega)), at1, px_bd]
        rcases hbl with h | h
        · rw [if_pos (e32.mpr h), px_gd (Or.inr rfl), px_bd, if_neg (by decide), nI_succ]
        · rw [if_neg (fun h' => by rw [e32.mp h'] at h; omega), if_pos (e10.mpr h), px_gd (Or.inr rfl), px_bd, if_neg (by decide), nI_succ]
      have mb : fX12_token_0 K L = some (.inl (ab_u K 73 4 (nI (p + 1)), L)) := by
        unfold fX12_token_0 fX12_token_20
        rw [show (0 : Int32) = nI 0 from rfl, pk1, px_bd, h2]
        rcases hbl with h | h
        · rw [if_pos (e32.mpr h), nI_succ]
        · rw [if_neg (fun h' => by rw [e32.mp h'] at h; omega), px_bd, if_pos (e10.mpr h), nI_succ]
      obtain ⟨p', y1, y2, y3, y4, y5⟩ := tk_blank d (p + 1) n (ab_u I 22 1 (nI (p + 1))) (ab_u K 73 4 (nI (p + 1))) (by omega) ab_u_at ab_u_at (tk_B_c hB (px_u (by omega)) (fun i => px_u (by omega)) (px_u (by omega)) (fun i => px_u (by omega)))
      refine ⟨p', by omega, y2, y3, ?_, ?_⟩
      · rw [show n + (d + 1) + 1 = (n + d + 1) + 1 by omega]
        refine (px_itL (body := fun s : ab_I × ab_J => fX8_advance_0 s.1 s.2) (s := (I, J)) (s' := (ab_u I 22 1 (nI (p + 1)), J)) xb).trans (y4.trans ?_)
        rw [ab_uu]
      · rw [show n + (d + 1) + 1 = (n + d + 1) + 1 by omega]
        refine (px_itL (body := fun s : ab_I × ab_J => fX12_token_0 s.1 s.2) (s := (K, L)) (s' := (ab_u K 73 4 (nI (p + 1)), L)) mb).trans (y5.trans ?_)
        rw [ab_uu]
    · have n32 : ¬ B p = 32 := fun h => hbl (Or.inl h)
      have n10 : ¬ B p = 10 := fun h => hbl (Or.inr h)
      refine ⟨p, Nat.le_refl _, by omega, fun _ => ⟨n32, n10⟩, ?_, ?_⟩
      · refine px_itO (body := fun s : ab_I × ab_J => fX8_advance_0 s.1 s.2) ?_
        dsimp only
        unfold fX8_advance_0 fX8_isBlank fX8_isBlank_17
        rw [hB.2.1, h1, if_neg (nI_ge hlt (by omega)), at1, px_bd, if_neg (fun h => n32 (e32.mp h)), if_neg (fun h => n10 (e10.mp h)), px_gd (Or.inl rfl), px_bd, if_pos rfl, bz_u0 h1]
      · refine px_itO (body := fun s : ab_I × ab_J => fX12_token_0 s.1 s.2) ?_
        dsimp only
        unfold fX12_token_0
        rw [show (0 : Int32) = nI 0 from rfl, pk1, px_bd, if_neg (fun h => n32 (e32.mp h)), px_bd, if_neg (fun h => n10 (e10.mp h)), bz_u0 h2]
/-- the letters of a word -/
theorem tk_word : ∀ d p n m pl (I K : ab_I) (J L : ab_J), p + d = z → pl + m = p → I 22 1 = nI p → K 73 4 = nI pl → (m ≤ 8 → J 22 5 = L 73 9) → tk_B I K z B → ∃ m' w w', m ≤ m' ∧ pl + m' ≤ z ∧ (pl + m' < z → ¬ (97 ≤ B (pl + m') ∧ B (pl + m') ≤ 122)) ∧ (p < z → 97 ≤ B p ∧ B p ≤ 122 → m < m') ∧ (m' ≤ 8 → w = w') ∧ ab_it (fun s : ab_I × ab_J => fX8_scanWord_5 s.1 s.2) (n + d + 1) (I, J) = fX8_scanWord_73 (ab_u I 22 1 (nI (pl + m'))) (ab_u J 22 5 w) ∧ ab_it (fun s : Int32 × ab_I × ab_J => fX12_token_78 s.1 s.2.1 s.2.2) (n + d + 1) (nI m, K, L) = fX12_token_119 (nI m') K (ab_u L 73 9 w')
  | 0, p, n, m, pl, I, K, J, L, hp, hm, h1, h2, hw, hB => by
    obtain rfl : p = z := by omega
    have hz := hB.1
    refine ⟨m, J 22 5, L 73 9, Nat.le_refl _, by omega, fun h => by omega, fun h => by omega, hw, ?_, ?_⟩
    · refine px_itO (body := fun s : ab_I × ab_J => fX8_scanWord_5 s.1 s.2) ?_
      dsimp only
      unfold fX8_scanWord_5
      rw [hB.2.1, h1, if_pos (nI_le (Nat.le_refl _) (by omega)), hm, bz_u0 h1, bz_u0 rfl]
    · refine px_itO (body := fun s : Int32 × ab_I × ab_J => fX12_token_78 s.1 s.2.1 s.2.2) ?_
      dsimp only
      unfold fX12_token_78
      rw [px_tpk hB h2 (by omega), if_neg (by omega), px_bd, tk_l1, px_bd, if_pos rfl, bz_u0 rfl]
  | d + 1, p, n, m, pl, I, K, J, L, hp, hm, h1, h2, hw, hB => by
    have hz := hB.1
    have hlt : p < z := by omega
    have hb := (hB.2.2.2 p hlt).2.2
    have at1 := px_tat (p := p) hB (by omega)
    have pk1 := px_tpk (k := m) hB h2 (by omega)
    rw [if_pos hlt] at at1
    rw [hm, if_pos hlt] at pk1
    by_cases hl : 97 ≤ B p ∧ B p ≤ 122
    · have xb : fX8_scanWord_5 I J = some (.inl (ab_u I 22 1 (nI (p + 1)), ab_u J 22 5 ((J 22 5 <<< ((8 : Int32).toInt64 &&& 63)) ||| (nI (B p)).toInt64))) := by
        unfold fX8_scanWord_5
        rw [hB.2.1, h1, if_neg (nI_ge hlt (by omega)), at1, px_bd, tk_L, tk_l _ hb, if_pos hl, px_bd, if_neg (by decide), px_bd, nI_succ]
      have mb : ∃ w', fX12_token_78 (nI m) K L = some (.inl (nI (m + 1), K, ab_u L 73 9 w')) ∧ (m < 8 → w' = (L 73 9 <<< ((8 : Int32).toInt64 &&& 63)) ||| (nI (B p)).toInt64) := by
        unfold fX12_token_78 fX12_token_113
        rw [pk1, px_bd, tk_l _ hb, if_pos hl, px_bd, if_neg (by decide)]
        by_cases h8 : 8 ≤ m
        · rw [if_pos (show (8 : Int32) ≤ nI m from nI_le (a := 8) h8 (by omega)), ← nI_succ]
          exact ⟨L 73 9, by rw [bz_u0 rfl], fun h => by omega⟩
        · rw [if_neg (show ¬ (8 : Int32) ≤ nI m from nI_ge (b := 8) (by omega) (by decide)), px_bd, ← nI_succ]
          exact ⟨_, rfl, fun _ => rfl⟩
      obtain ⟨w1, mb, hw1⟩ := mb
      obtain ⟨m', w, w', y1, y2, y3, y4, y5, y6, y7⟩ := tk_word d (p + 1) n (m + 1) pl (ab_u I 22 1 (nI (p + 1))) K (ab_u J 22 5 ((J 22 5 <<< ((8 : Int32).toInt64 &&& 63)) ||| (nI (B p)).toInt64)) (ab_u L 73 9 w1) (by omega) (by omega) ab_u_at h2 (fun h => by rw [ab_u_at, ab_u_at, hw1 (by omega), hw (by omega)]) (tk_B_c hB (px_u (by omega)) (fun i => px_u (by omega)) rfl (fun i => rfl))
      refine ⟨m', w, w', by omega, y2, y3, fun _ _ => by omega, y5, ?_, ?_⟩
      · rw [show n + (d + 1) + 1 = (n + d + 1) + 1 by omega]
        refine (px_itL (body := fun s : ab_I × ab_J => fX8_scanWord_5 s.1 s.2) (s := (I, J)) xb).trans (y6.trans ?_)
        rw [ab_uu, ab_uu]
      · rw [show n + (d + 1) + 1 = (n + d + 1) + 1 by omega]
        refine (px_itL (body := fun s : Int32 × ab_I × ab_J => fX12_token_78 s.1 s.2.1 s.2.2) (s := (nI m, K, L)) mb).trans (y7.trans ?_)
        rw [ab_uu]
    · refine ⟨m, J 22 5, L 73 9, Nat.le_refl _, by omega, fun _ => by rw [hm]; exact hl, fun _ h => absurd h hl, hw, ?_, ?_⟩
      · refine px_itO (body := fun s : ab_I × ab_J => fX8_scanWord_5 s.1 s.2) ?_
        dsimp only
        unfold fX8_scanWord_5
        rw [hB.2.1, h1, if_neg (nI_ge hlt (by omega)), at1, px_bd, tk_L, tk_l _ hb, if_neg hl, px_bd, if_pos rfl, hm, bz_u0 h1, bz_u0 rfl]
      · refine px_itO (body := fun s : Int32 × ab_I × ab_J => fX12_token_78 s.1 s.2.1 s.2.2) ?_
        dsimp only
        unfold fX12_token_78
        rw [pk1, px_bd, tk_l _ hb, if_neg hl, px_bd, if_pos rfl, bz_u0 rfl]
end TOK
