/-! ===== village: numbers, a token ===== -/
theorem tk_cmp (x y : Int64) : lg_cmp x y = 0 ↔ x = y := by
  unfold lg_cmp
  constructor
  · intro h
    by_cases h1 : x > y
    · rw [if_pos h1] at h; exact absurd h (by decide)
    · rw [if_neg h1] at h
      by_cases h2 : x = y
      · exact h2
      · rw [if_neg h2] at h; exact absurd h (by decide)
  · intro h
    subst h
    rw [if_neg (Int64.lt_irrefl), if_pos rfl]
section TOK2
variable {I K : ab_I} {J L : ab_J} {z : Nat} {B : Nat → Nat}
theorem tk_num : ∀ d p n m pl (I K : ab_I), p + d = z → pl + m = p → I 22 1 = nI p → K 73 4 = nI pl → (m ≤ 4 → ∃ v, v < 10 ^ m ∧ I 22 4 = nI v ∧ K 73 8 = nI v) → tk_B I K z B → ∃ m' x y, m ≤ m' ∧ pl + m' ≤ z ∧ (pl + m' < z → ¬ (48 ≤ B (pl + m') ∧ B (pl + m') ≤ 57)) ∧ (p < z → 48 ≤ B p ∧ B p ≤ 57 → m < m') ∧ (m' ≤ 4 → ∃ v, v < 10 ^ m' ∧ x = nI v ∧ y = nI v) ∧ ab_it (fun s : ab_I => fX8_scanNumber_5 s) (n + d + 1) I = fX8_scanNumber_75 (ab_u (ab_u I 22 4 x) 22 1 (nI (pl + m'))) ∧ ab_it (fun s : Int32 × ab_I × ab_J => fX12_token_144 s.1 s.2.1 s.2.2) (n + d + 1) (nI m, K, L) = fX12_token_186 (nI m') (ab_u K 73 8 y) L
  | 0, p, n, m, pl, I, K, hp, hm, h1, h2, hv, hB => by
    obtain rfl : p = z := by omega
    have hz := hB.1
    refine ⟨m, I 22 4, K 73 8, Nat.le_refl _, by omega, fun h => by omega, fun h => by omega, hv, ?_, ?_⟩
    · refine px_itO (body := fun s : ab_I => fX8_scanNumber_5 s) ?_
      unfold fX8_scanNumber_5
      rw [hB.2.1, h1, if_pos (nI_le (Nat.le_refl _) (by omega)), hm, bz_u0 (I := I) rfl, bz_u0 h1]
    · refine px_itO (body := fun s : Int32 × ab_I × ab_J => fX12_token_144 s.1 s.2.1 s.2.2) ?_
      dsimp only
      unfold fX12_token_144
      rw [px_tpk hB h2 (by omega), if_neg (by omega), px_bd, tk_d1, px_bd, if_pos rfl, bz_u0 rfl]
  | d + 1, p, n, m, pl, I, K, hp, hm, h1, h2, hv, hB => by
    have hz := hB.1
    have hlt : p < z := by omega
    have hb := (hB.2.2.2 p hlt).2.2
    have at1 := px_tat (p := p) hB (by omega)
    have pk1 := px_tpk (k := m) hB h2 (by omega)
    rw [if_pos hlt] at at1
    rw [hm, if_pos hlt] at pk1
    by_cases hl : 48 ≤ B p ∧ B p ≤ 57
    · have xb : fX8_scanNumber_5 I = some (.inl (ab_u (ab_u I 22 4 (I 22 4 * 10 + nI (B p) - 48)) 22 1 (nI (p + 1)))) := by
        unfold fX8_scanNumber_5
        rw [hB.2.1, h1, if_neg (nI_ge hlt (by omega)), at1, px_bd, tk_D, tk_d _ hb, if_pos hl, px_bd, if_neg (by decide), px_bd, nI_succ]
      have mb : ∃ y, fX12_token_144 (nI m) K L = some (.inl (nI (m + 1), ab_u K 73 8 y, L)) ∧ (m < 4 → y = 10 * K 73 8 + nI (B p) - 48) := by
        unfold fX12_token_144 fX12_token_180
        rw [pk1, px_bd, tk_d _ hb, if_pos hl, px_bd, if_neg (by decide)]
        by_cases h4 : 4 ≤ m
        · rw [if_pos (show (4 : Int32) ≤ nI m from nI_le (a := 4) h4 (by omega)), ← nI_succ]
          exact ⟨K 73 8, by rw [bz_u0 rfl], fun h => by omega⟩
        · rw [if_neg (show ¬ (4 : Int32) ≤ nI m from nI_ge (b := 4) (by omega) (by decide)), px_bd, ← nI_succ]
          exact ⟨_, rfl, fun _ => rfl⟩
      obtain ⟨y1, mb, hy1⟩ := mb
      obtain ⟨m', x, y, k1, k2, k3, k4, k5, k6, k7⟩ := tk_num d (p + 1) n (m + 1) pl (ab_u (ab_u I 22 4 (I 22 4 * 10 + nI (B p) - 48)) 22 1 (nI (p + 1))) (ab_u K 73 8 y1) (by omega) (by omega) ab_u_at (by rw [px_u (by decide)]; exact h2) (fun h => by
        obtain ⟨v, v1, v2, v3⟩ := hv (by omega)
        refine ⟨v * 10 + B p - 48, by rw [Nat.pow_succ]; omega, ?_, ?_⟩
        · have v9 : v < 10 ^ 4 := Nat.lt_of_lt_of_le v1 (Nat.pow_le_pow_right (by decide) (by omega))
          rw [px_u (by decide), ab_u_at, v2, show (10 : Int32) = nI 10 from rfl, pk_mul, px_add, show (48 : Int32) = nI 48 from rfl, pk_sub (by omega)]
        · rw [ab_u_at, hy1 (by omega), v3, show (10 : Int32) = nI 10 from rfl, pk_mul, px_add, show (48 : Int32) = nI 48 from rfl, pk_sub (by omega), Nat.mul_comm]) (tk_B_c hB (by rw [px_u (by decide), px_u (by decide)]) (fun i => by rw [px_u (by omega), px_u (by omega)]) (px_u (by decide)) (fun i => px_u (by omega)))
      refine ⟨m', x, y, by omega, k2, k3, fun _ _ => by omega, k5, ?_, ?_⟩
      · rw [show n + (d + 1) + 1 = (n + d + 1) + 1 by omega]
        refine (px_itL (body := fun s : ab_I => fX8_scanNumber_5 s) (s := I) xb).trans (k6.trans ?_)
        rw [ab_uuu (by decide)]
      · rw [show n + (d + 1) + 1 = (n + d + 1) + 1 by omega]
        refine (px_itL (body := fun s : Int32 × ab_I × ab_J => fX12_token_144 s.1 s.2.1 s.2.2) (s := (nI m, K, L)) mb).trans (k7.trans ?_)
        rw [ab_uu]
    · refine ⟨m, I 22 4, K 73 8, Nat.le_refl _, by omega, fun _ => by rw [hm]; exact hl, fun _ h => absurd h hl, hv, ?_, ?_⟩
      · refine px_itO (body := fun s : ab_I => fX8_scanNumber_5 s) ?_
        unfold fX8_scanNumber_5
        rw [hB.2.1, h1, if_neg (nI_ge hlt (by omega)), at1, px_bd, tk_D, tk_d _ hb, if_neg hl, px_bd, if_pos rfl, hm, bz_u0 (I := I) rfl, bz_u0 h1]
      · refine px_itO (body := fun s : Int32 × ab_I × ab_J => fX12_token_144 s.1 s.2.1 s.2.2) ?_
        dsimp only
        unfold fX12_token_144
        rw [pk1, px_bd, tk_d _ hb, if_neg hl, px_bd, if_pos rfl, bz_u0 rfl]
theorem tk_kind (J : ab_J) : ∃ c, fX8_kindOfWord J = some (nI c) ∧ ((c = 2 ∧ ∀ i, i < 15 → J 22 5 ≠ bz_word i) ∨ ∃ i, i < 15 ∧ c = 200 + i ∧ J 22 5 = bz_word i) := by
  have key := px_forE (body := fun s : Int32 => fX8_kindOfWord_2 J s) (Out := fun x : Int32 => ∃ c, x = nI c ∧ ((c = 2 ∧ ∀ i, i < 15 → J 22 5 ≠ bz_word i) ∨ ∃ i, i < 15 ∧ c = 200 + i ∧ J 22 5 = bz_word i))
    (fun i s => s = nI i ∧ ∀ j, j < i → J 22 5 ≠ bz_word j) 15 ?_ ?_ 15 0 5000 0 (by omega) (by omega) ⟨rfl, fun j hj => absurd hj (Nat.not_lt_zero j)⟩
  · obtain ⟨x, k1, c, k2, k3⟩ := key
    exact ⟨c, by unfold fX8_kindOfWord; rw [k1, k2], k3⟩
  · rintro i s hi ⟨e1, e2⟩
    subst e1
    unfold fX8_kindOfWord_2 fX8_kindOfWord_23
    rw [if_neg (show ¬ (15 : Int32) ≤ nI i from nI_ge (b := 15) hi (by decide)), px_gd (px_ix hi (by decide)), nI_clamp (by omega)]
    by_cases e : bz_word i = J 22 5
    · rw [if_pos ((tk_cmp _ _).mpr e), show (200 : Int32) = nI 200 from rfl, px_add]
      exact Or.inr ⟨_, rfl, 200 + i, rfl, Or.inr ⟨i, hi, rfl, e.symm⟩⟩
    · rw [if_neg (fun h => e ((tk_cmp _ _).mp h))]
      refine Or.inl ⟨_, rfl, (nI_succ i).symm, fun j hj => ?_⟩
      by_cases ej : j = i
      · subst ej; exact fun h => e h.symm
      · exact e2 j (by omega)
  · rintro s ⟨e1, e2⟩
    subst e1
    unfold fX8_kindOfWord_2 fX8_kindOfWord_35
    rw [if_pos (by decide)]
    exact ⟨_, rfl, 2, rfl, Or.inl ⟨rfl, e2⟩⟩
/-- the same token on both sides, behind p0; c: the class's number of it -/
def tk_R (I : ab_I) (J : ab_J) (K : ab_I) (L : ab_J) (z p0 c : Nat) : Prop := ∃ pl, pl ≤ 1600 ∧ I 22 2 = nI c ∧ c < 300 ∧ I 22 3 = nI pl ∧ K 73 7 = nI pl ∧ ((c = 1 ∧ K 73 6 = 3) ∨ (c = 0 ∧ K 73 6 = 0 ∧ ∃ p, p ≤ z ∧ I 22 1 = nI p ∧ K 73 4 = nI p) ∨ (∃ p, p0 < p ∧ p ≤ z ∧ I 22 1 = nI p ∧ K 73 4 = nI p ∧ ((K 73 6 = 1 ∧ J 22 5 = L 73 9 ∧ ((c = 2 ∧ ∀ i, i < 15 → L 73 9 ≠ bz_word i) ∨ ∃ i, i < 15 ∧ c = 200 + i ∧ L 73 9 = bz_word i)) ∨ (c = 3 ∧ K 73 6 = 2 ∧ ∃ v, v ≤ 9999 ∧ I 22 4 = nI v ∧ K 73 8 = nI v) ∨ (tk_sg c = true ∧ K 73 6 = nI c))))
def tk_fx (I I' : ab_I) (J J' : ab_J) : Prop := (∀ r k, ¬ (r = 22 ∧ 1 ≤ k ∧ k ≤ 4) → I' r k = I r k) ∧ ∀ r k, ¬ (r = 22 ∧ k = 5) → J' r k = J r k
def tk_fm (K K' : ab_I) (L L' : ab_J) : Prop := (∀ r k, ¬ (r = 73 ∧ (k = 4 ∨ k = 6 ∨ k = 7 ∨ k = 8)) → K' r k = K r k) ∧ ∀ r k, ¬ (r = 73 ∧ k = 9) → L' r k = L r k
theorem tk_sg_c : ∀ b, b < 256 → tk_sg b = true → b < 100 := by decide +kernel
set_option maxHeartbeats 1000000 in
theorem tk_A {p : Nat} (hB : tk_B I K z B) (h1 : I 22 1 = nI p) (h2 : K 73 4 = nI p) (hp : p ≤ z) : ∃ I' J' K' L' c, fX8_advance I J = some (I', J') ∧ fX12_token K L = some (K', L') ∧ tk_R I' J' K' L' z p c ∧ tk_fx I I' J J' ∧ tk_fm K K' L L' := by
  have hz := hB.1
  obtain ⟨q, b1, b2, b3, b4, b5⟩ := tk_blank (J := J) (L := L) (z - p) p (4999 - (z - p)) I K (by omega) h1 h2 hB
  rw [show 4999 - (z - p) + (z - p) + 1 = 5000 by omega] at b4 b5
  have hX : fX8_advance I J = fX8_advance_44 (ab_u I 22 1 (nI q)) J := b4
  have hM : fX12_token K L = fX12_token_33 (ab_u K 73 4 (nI q)) L := b5
  rw [hX, hM]
  generalize hI1 : ab_u I 22 1 (nI q) = I1
  generalize hK1 : ab_u K 73 4 (nI q) = K1
  have i1 : I1 22 1 = nI q := by rw [← hI1, ab_u_at]
  have k1 : K1 73 4 = nI q := by rw [← hK1, ab_u_at]
  have fI : ∀ r k, ¬ (r = 22 ∧ k = 1) → I1 r k = I r k := fun r k h => by rw [← hI1, px_u h]
  have fK : ∀ r k, ¬ (r = 73 ∧ k = 4) → K1 r k = K r k := fun r k h => by rw [← hK1, px_u h]
  have hB1 : tk_B I1 K1 z B := tk_B_c hB (fI 1 1 (by decide)) (fun i => fI 2 i (by omega)) (fK 73 5 (by decide)) (fun i => fK 74 i (by omega))
  -- place
  have hB2 : tk_B (ab_u I1 22 3 (nI q)) (ab_u K1 73 7 (nI q)) z B := tk_B_c hB1 (px_u (by decide)) (fun i => px_u (by omega)) (px_u (by decide)) (fun i => px_u (by omega))
  have at1 := px_tat (p := q) hB2 (by omega)
  have pk1 := px_tpk (k := 0) (a := q) hB2 (by rw [px_u (by decide)]; exact k1) (by omega)
  rw [Nat.add_zero] at pk1
  have pk2 : fX12_peek 0 (ab_u K1 73 7 (nI q)) = some (if q < z then nI (B q) else -1) := pk1
  unfold fX8_advance_44 fX8_advance_131 fX12_token_33
  rw [i1, k1, at1, px_bd, pk2, px_bd]
  by_cases hlt : q < z
  case neg =>
    rw [if_neg hlt, if_pos rfl, if_neg (show ¬ (0 : Int32) ≤ (-1 : Int32) by decide)]
    unfold fX12_token_232 fX12_token_250
    rw [ab_u_at, if_neg (by decide)]
    refine ⟨_, _, _, _, 0, rfl, rfl, ⟨q, by omega, ?_, by omega, ?_, ?_, Or.inr (Or.inl ⟨rfl, ?_, q, b2, ?_, ?_⟩)⟩, ⟨fun r k h => ?_, fun _ _ _ => rfl⟩, ⟨fun r k h => ?_, fun r k h => px_u h⟩⟩
    · rw [ab_u_at]; rfl
    · rw [px_u (by decide), ab_u_at]
    · rw [px_u (by decide), px_u (by decide), px_u (by decide), ab_u_at]
    · rw [px_u (by decide), ab_u_at]
    · rw [px_u (by decide), px_u (by decide)]; exact i1
    · rw [ab_u_at, px_u (by decide), px_u (by decide), px_u (by decide), k1, Int32.add_zero]
    · rw [px_u (by omega), px_u (by omega), fI r k (by omega)]
    · rw [px_u (by omega), px_u (by omega), px_u (by omega), px_u (by omega), fK r k (by omega)]
  have hb := (hB.2.2.2 q hlt).2.2
  rw [if_pos hlt, if_neg (px_m1 (by omega)), if_pos (show (0 : Int32) ≤ nI (B q) from nI_pos' (by omega)), tk_L, tk_l _ hb, px_bd]
  by_cases hl : 97 ≤ B q ∧ B q ≤ 122
  · -- a word
    rw [if_pos hl, if_neg (show ¬ (1 : Int32) = 0 by decide), px_bd, if_neg (show ¬ (1 : Int32) = 0 by decide)]
    obtain ⟨m', w, w', y1, y2, y3, y4, y5, y6, y7⟩ := tk_word (z - q) q (4999 - (z - q)) 0 q (ab_u I1 22 3 (nI q)) (ab_u (ab_u K1 73 7 (nI q)) 73 8 0) (ab_u J 22 5 0) (ab_u L 73 9 0) (by omega) (by omega) (by rw [px_u (by decide)]; exact i1) (by rw [px_u (by decide), px_u (by decide)]; exact k1) (fun _ => by rw [ab_u_at, ab_u_at]) (tk_B_c hB2 rfl (fun _ => rfl) (px_u (by decide)) (fun i => px_u (by omega)))
    rw [show 4999 - (z - q) + (z - q) + 1 = 5000 by omega] at y6 y7
    have y4' := y4 hlt hl
    have ex : fX8_scanWord (ab_u I1 22 3 (nI q)) J = fX8_scanWord_73 (ab_u (ab_u I1 22 3 (nI q)) 22 1 (nI (q + m'))) (ab_u (ab_u J 22 5 0) 22 5 w) := y6
    rw [ex]
    have em : ab_it (fun s : Int32 × ab_I × ab_J => fX12_token_78 s.1 s.2.1 s.2.2) 5000 (0, ab_u (ab_u K1 73 7 (nI q)) 73 8 0, ab_u L 73 9 0) = fX12_token_119 (nI m') (ab_u (ab_u K1 73 7 (nI q)) 73 8 0) (ab_u (ab_u L 73 9 0) 73 9 w') := y7
    rw [em, ab_uu, ab_uu]
    unfold fX8_scanWord_73 fX8_scanWord_96 fX12_token_119 fX12_token_131 fX12_token_232 fX12_token_250
    have hsub : ab_u (ab_u I1 22 3 (nI q)) 22 1 (nI (q + m')) 22 1 - ab_u (ab_u I1 22 3 (nI q)) 22 1 (nI (q + m')) 22 3 = nI m' := by
      rw [ab_u_at, px_u (by decide), ab_u_at, pk_sub (by omega), Nat.add_sub_cancel_left]
    rw [hsub]
    by_cases h8 : m' ≤ 8
    · obtain ⟨c, c1, c2⟩ := tk_kind (ab_u J 22 5 w)
      have ew := y5 h8
      rw [ab_u_at] at c2
      rw [if_pos (show nI m' ≤ (8 : Int32) from nI_le (b := 8) h8 (by decide)), if_pos (show nI m' ≤ (8 : Int32) from nI_le (b := 8) h8 (by decide)), c1, px_bd, px_bd, ab_u_at, if_neg (by decide)]
      have c3 : c < 300 := by rcases c2 with ⟨h, _⟩ | ⟨i, h1, h2, _⟩ <;> omega
      refine ⟨_, _, _, _, c, rfl, rfl, ⟨q, by omega, ?_, c3, ?_, ?_, Or.inr (Or.inr ⟨q + m', by omega, y2, ?_, ?_, Or.inl ⟨?_, ?_, ?_⟩⟩)⟩, ⟨fun r k h => ?_, fun r k h => px_u h⟩, ⟨fun r k h => ?_, fun r k h => px_u h⟩⟩
      · dsimp only; rw [ab_u_at]
      · dsimp only; rw [px_u (by decide), px_u (by decide), ab_u_at]
      · rw [px_u (by decide), px_u (by decide), px_u (by decide), ab_u_at]
      · dsimp only; rw [px_u (by decide), ab_u_at]
      · rw [ab_u_at, px_u (by decide), px_u (by decide), px_u (by decide), k1, px_add]
      · rw [px_u (by decide), ab_u_at]
      · dsimp only; rw [ab_u_at, ab_u_at, ew]
      · rw [ab_u_at, ← ew]
        exact c2
      · dsimp only; rw [px_u (by omega), px_u (by omega), px_u (by omega), fI r k (by omega)]
      · rw [px_u (by omega), px_u (by omega), px_u (by omega), px_u (by omega), fK r k (by omega)]
    · rw [if_neg (show ¬ nI m' ≤ (8 : Int32) from nI_ge (a := 8) (by omega) (by omega)), if_neg (show ¬ nI m' ≤ (8 : Int32) from nI_ge (a := 8) (by omega) (by omega)), px_bd, ab_u_at, if_pos rfl]
      refine ⟨_, _, _, _, 1, rfl, rfl, ⟨q, by omega, ?_, by omega, ?_, ?_, Or.inl ⟨rfl, ?_⟩⟩, ⟨fun r k h => ?_, fun r k h => px_u h⟩, ⟨fun r k h => ?_, fun r k h => px_u h⟩⟩
      · dsimp only; rw [ab_u_at]; rfl
      · dsimp only; rw [px_u (by decide), px_u (by decide), ab_u_at]
      · rw [px_u (by decide), px_u (by decide), ab_u_at]
      · rw [ab_u_at]
      · dsimp only; rw [px_u (by omega), px_u (by omega), px_u (by omega), fI r k (by omega)]
      · rw [px_u (by omega), px_u (by omega), px_u (by omega), fK r k (by omega)]
  rw [if_neg hl, if_pos rfl, px_bd, if_pos rfl, tk_D, tk_d _ hb, px_bd]
  by_cases hdg : 48 ≤ B q ∧ B q ≤ 57
  · -- a number
    rw [if_pos hdg, if_neg (show ¬ (1 : Int32) = 0 by decide), px_bd, if_neg (show ¬ (1 : Int32) = 0 by decide)]
    obtain ⟨m', x, y, y1, y2, y3, y4, y5, y6, y7⟩ := tk_num (L := ab_u L 73 9 0) (z - q) q (4999 - (z - q)) 0 q (ab_u (ab_u I1 22 3 (nI q)) 22 4 0) (ab_u (ab_u K1 73 7 (nI q)) 73 8 0) (by omega) (by omega) (by rw [px_u (by decide), px_u (by decide)]; exact i1) (by rw [px_u (by decide), px_u (by decide)]; exact k1) (fun _ => ⟨0, by decide, by rw [ab_u_at]; rfl, by rw [ab_u_at]; rfl⟩) (tk_B_c hB2 (px_u (by decide)) (fun i => px_u (by omega)) (px_u (by decide)) (fun i => px_u (by omega)))
    rw [show 4999 - (z - q) + (z - q) + 1 = 5000 by omega] at y6 y7
    have y4' := y4 hlt hdg
    have ex : fX8_scanNumber (ab_u I1 22 3 (nI q)) = fX8_scanNumber_75 (ab_u (ab_u (ab_u (ab_u I1 22 3 (nI q)) 22 4 0) 22 4 x) 22 1 (nI (q + m'))) := y6
    rw [ex]
    have em : ab_it (fun s : Int32 × ab_I × ab_J => fX12_token_144 s.1 s.2.1 s.2.2) 5000 (0, ab_u (ab_u K1 73 7 (nI q)) 73 8 0, ab_u L 73 9 0) = fX12_token_186 (nI m') (ab_u (ab_u (ab_u K1 73 7 (nI q)) 73 8 0) 73 8 y) (ab_u L 73 9 0) := y7
    rw [em, ab_uu, ab_uu]
    generalize hI4 : ab_u (ab_u (ab_u I1 22 3 (nI q)) 22 4 x) 22 1 (nI (q + m')) = I4
    generalize hK4 : ab_u (ab_u K1 73 7 (nI q)) 73 8 y = K4
    have j1 : I4 22 1 = nI (q + m') := by rw [← hI4, ab_u_at]
    have j3 : I4 22 3 = nI q := by rw [← hI4, px_u (by decide), px_u (by decide), ab_u_at]
    have j4 : I4 22 4 = x := by rw [← hI4, px_u (by decide), ab_u_at]
    have jf : ∀ r k, ¬ (r = 22 ∧ 1 ≤ k ∧ k ≤ 4) → I4 r k = I r k := fun r k h => by rw [← hI4, px_u (by omega), px_u (by omega), px_u (by omega), fI r k (by omega)]
    have l4 : K4 73 4 = nI q := by rw [← hK4, px_u (by decide), px_u (by decide)]; exact k1
    have l7 : K4 73 7 = nI q := by rw [← hK4, px_u (by decide), ab_u_at]
    have l8 : K4 73 8 = y := by rw [← hK4, ab_u_at]
    have lf : ∀ r k, ¬ (r = 73 ∧ (k = 4 ∨ k = 6 ∨ k = 7 ∨ k = 8)) → K4 r k = K r k := fun r k h => by rw [← hK4, px_u (by omega), px_u (by omega), fK r k (by omega)]
    have hB4 : tk_B I4 K4 z B := tk_B_c hB (jf 1 1 (by decide)) (fun i => jf 2 i (by omega)) (lf 73 5 (by decide)) (fun i => lf 74 i (by omega))
    have bad : ∃ I' J' K' L' c, (fX8_scanNumber_116 I4).bind (fun u9 => some (u9, J)) = some (I', J') ∧ fX12_token_203 (nI m') K4 (ab_u L 73 9 0) = some (K', L') ∧ tk_R I' J' K' L' z p c ∧ tk_fx I I' J J' ∧ tk_fm K K' L L' := by
      unfold fX8_scanNumber_116 fX8_scanNumber_121 fX12_token_203 fX12_token_208 fX12_token_232 fX12_token_250
      rw [px_bd, ab_u_at, if_pos rfl]
      refine ⟨_, _, _, _, 1, rfl, rfl, ⟨q, by omega, ?_, by omega, ?_, ?_, Or.inl ⟨rfl, ?_⟩⟩, ⟨fun r k h => ?_, fun _ _ _ => rfl⟩, ⟨fun r k h => ?_, fun r k h => px_u h⟩⟩
      · rw [ab_u_at]; rfl
      · rw [px_u (by decide)]; exact j3
      · rw [px_u (by decide)]; exact l7
      · rw [ab_u_at]
      · rw [px_u (by omega), jf r k h]
      · rw [px_u (by omega), lf r k h]
    unfold fX8_scanNumber_75 fX8_scanNumber_93 fX12_token_186
    rw [j1, j3, pk_sub (by omega), Nat.add_sub_cancel_left]
    by_cases h4 : m' ≤ 4
    · rw [if_pos (show nI m' ≤ (4 : Int32) from nI_le (b := 4) h4 (by decide)), if_pos rfl, if_neg (show ¬ (4 : Int32) < nI m' from nI_nlt (a := 4) h4 (by decide)), px_tat hB4 (by omega), px_bd, px_tpk hB4 l4 (by omega), px_bd, tk_L]
      have hlet : ∃ b : Bool, fX12_isLetter (if q + m' < z then nI (B (q + m')) else -1) = some (if b = true then 1 else 0) := by
        by_cases h : q + m' < z
        · rw [if_pos h, tk_l _ (hB.2.2.2 _ h).2.2]
          by_cases h2 : 97 ≤ B (q + m') ∧ B (q + m') ≤ 122
          · exact ⟨true, by rw [if_pos h2, if_pos rfl]⟩
          · exact ⟨false, by rw [if_neg h2, if_neg (by decide)]⟩
        · rw [if_neg h]; exact ⟨false, by rw [tk_l1, if_neg (by decide)]⟩
      obtain ⟨b, hb2⟩ := hlet
      rw [hb2, px_bd, px_bd]
      by_cases hbt : b = true
      · rw [if_pos hbt, if_neg (by decide), if_neg (by decide)]
        exact bad
      · rw [if_neg hbt, if_pos rfl, if_pos rfl]
        obtain ⟨v, v1, v2, v3⟩ := y5 h4
        have v9 : v < 10 ^ 4 := Nat.lt_of_lt_of_le v1 (Nat.pow_le_pow_right (by decide) h4)
        unfold fX8_scanNumber_121 fX12_token_208 fX12_token_232 fX12_token_250
        rw [px_bd, ab_u_at, if_neg (by decide)]
        refine ⟨_, _, _, _, 3, rfl, rfl, ⟨q, by omega, ?_, by omega, ?_, ?_, Or.inr (Or.inr ⟨q + m', by omega, y2, ?_, ?_, Or.inr (Or.inl ⟨rfl, ?_, v, by omega, ?_, ?_⟩)⟩)⟩, ⟨fun r k h => ?_, fun _ _ _ => rfl⟩, ⟨fun r k h => ?_, fun r k h => px_u h⟩⟩
        · rw [ab_u_at]; rfl
        · rw [px_u (by decide)]; exact j3
        · rw [px_u (by decide), px_u (by decide)]; exact l7
        · rw [px_u (by decide)]; exact j1
        · rw [ab_u_at, px_u (by decide), l4, px_add]
        · rw [px_u (by decide), ab_u_at]
        · rw [px_u (by decide), j4, v2]
        · rw [px_u (by decide), px_u (by decide), l8, v3]
        · rw [px_u (by omega), jf r k h]
        · rw [px_u (by omega), px_u (by omega), lf r k h]
    · rw [if_neg (show ¬ nI m' ≤ (4 : Int32) from nI_ge (a := 4) (by omega) (by omega)), if_neg (by decide), if_pos (show (4 : Int32) < nI m' from nI_lt (a := 4) (by omega) (by omega))]
      exact bad
  · -- a sign, or no token
    rw [if_neg hdg, if_pos rfl, px_bd, if_pos rfl, (tk_s _ hb).1, (tk_s _ hb).2, px_bd, px_bd]
    unfold fX8_advance_118 fX8_advance_131 fX12_token_229 fX12_token_232 fX12_token_250
    by_cases hs : tk_sg (B q) = true
    · have hc := tk_sg_c _ hb hs
      have ne3 : ¬ nI (B q) = (3 : Int32) := fun h => by
        have h3 := (nI_eq (b := 3) (by omega) (by decide)).mp h
        rw [h3] at hs
        exact absurd hs (by decide)
      rw [if_pos hs, if_neg (by decide), if_neg (by decide), ab_u_at, if_neg ne3]
      refine ⟨_, _, _, _, B q, rfl, rfl, ⟨q, by omega, ?_, by omega, ?_, ?_, Or.inr (Or.inr ⟨q + 1, by omega, by omega, ?_, ?_, Or.inr (Or.inr ⟨hs, ?_⟩)⟩)⟩, ⟨fun r k h => ?_, fun _ _ _ => rfl⟩, ⟨fun r k h => ?_, fun r k h => px_u h⟩⟩
      · rw [px_u (by decide), ab_u_at]
      · rw [px_u (by decide), px_u (by decide), ab_u_at]
      · rw [px_u (by decide), px_u (by decide), px_u (by decide), ab_u_at]
      · rw [ab_u_at, px_u (by decide), i1, nI_succ]
      · rw [ab_u_at, px_u (by decide), px_u (by decide), px_u (by decide), k1, nI_succ]
      · rw [px_u (by decide), ab_u_at]
      · rw [px_u (by omega), px_u (by omega), px_u (by omega), fI r k (by omega)]
      · rw [px_u (by omega), px_u (by omega), px_u (by omega), px_u (by omega), fK r k (by omega)]
    · rw [if_neg hs, if_pos rfl, if_pos rfl, ab_u_at, if_pos rfl]
      refine ⟨_, _, _, _, 1, rfl, rfl, ⟨q, by omega, ?_, by omega, ?_, ?_, Or.inl ⟨rfl, ?_⟩⟩, ⟨fun r k h => ?_, fun _ _ _ => rfl⟩, ⟨fun r k h => ?_, fun r k h => px_u h⟩⟩
      · rw [px_u (by decide), ab_u_at]; rfl
      · rw [px_u (by decide), px_u (by decide), ab_u_at]
      · rw [px_u (by decide), px_u (by decide), ab_u_at]
      · rw [ab_u_at]
      · rw [px_u (by omega), px_u (by omega), px_u (by omega), fI r k (by omega)]
      · rw [px_u (by omega), px_u (by omega), px_u (by omega), fK r k (by omega)]
end TOK2
