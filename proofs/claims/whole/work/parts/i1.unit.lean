/-! ===== village: a unit, both sides ===== -/
section UN2
variable {I0 K0 : ab_I} {J0 L0 : ab_J} {z a b : Nat} {B : Nat → Nat}
/-- the reference's turn where no not may stand -/
theorem un_turn {I K : ab_I} {J L : ab_J} {p0 c s u h : Nat} {σ : List Nat} (hq : fq I0 K0 J0 L0 z a b I J K L p0 c s u h [] σ) (hl : σ.length ≤ 100) (hn : c = 214 → ∃ e l, σ = e :: l ∧ e ≠ 20 ∧ 4 ≤ tg e) : fX12_unit_2 1 K L = fX12_unit_53 1 K L := by
  obtain ⟨hT, f2, t2, t3⟩ := fq_tR hq
  have w := tk_word1 hT (i := 14) (by decide)
  have w' : fX12_isWord 7237492 K L = some (if c = 214 then 1 else 0) := w
  unfold fX12_unit_2
  rw [if_neg (show ¬ (1 : Int32) = 0 by decide), if_pos f2, w', px_bd]
  by_cases e : c = 214
  · rw [if_pos e, if_neg (show ¬ (1 : Int32) = 0 by decide), (mn_ok (l := σ) hl hq.2.2.2.2.1.1 hq.2.2.2.2.1.2.1 hq.2.2.2.2.1.2.2.2).2 (hn e), px_bd, if_pos rfl]
  · rw [if_neg e, if_pos rfl]
/-- neither side takes this unit -/
theorem un_no {I K : ab_I} {J L : ab_J} {p0 c s u h j k dep : Nat} {σ : List Nat} (hq : fq I0 K0 J0 L0 z a b I J K L p0 c s u h [] σ) (hs : s ≤ 9 * u) (hl : σ.length ≤ 100) (hn : c = 214 → ∃ e l, σ = e :: l ∧ e ≠ 20 ∧ 4 ≤ tg e) (hj : j ≤ 1601) (hk : k ≤ 1601) (h40 : c ≠ 40) (hv : (c = 3 ∨ (206 ≤ c ∧ c ≤ 211)) → u = 30) {cl : Option (Int32 × ab_I × ab_J)} (hcl : ∀ I', fX4_refuses 2 I = some (0, I') → cl = some (0, I', J)) : fP I0 K0 J0 L0 z a b 5 dep s u h σ p0 k cl (fU j k K L) := by
  right
  obtain ⟨hT, f2, t2, t3⟩ := fq_tR hq
  have u30 : u ≤ 30 := hq.2.2.2.1.2.2.2
  obtain ⟨I1, K1, v1, v2, v3, v4, v5, v6, v7⟩ := pz_ref hq.1 (k := 2) (by decide) (by decide)
  have v1' : fX4_refuses 2 I = some (0, I1) := v1
  have v2' : fX12_wrong 2 K = some K1 := v2
  have hs4 := tk_sort hT
  refine ⟨I1, J, K1, L, hcl I1 v1', ?_, v3, s, by omega, by rw [v4 18 3 (by omega)]; exact hq.2.2.1.1⟩
  have t1 : fX12_unit_2 1 K L = some (.inl (0, K, L)) := by
    rw [un_turn hq hl hn]
    unfold fX12_unit_53
    rw [if_neg (show ¬ K 73 6 = 40 from fun h => h40 ((hs4.2.2.2.2 40 (by decide)).mpr h))]
  have e133 : ∀ x : Int32, fX12_unit_133 x K L = some (K1, L) := fun x => by
    unfold fX12_unit_133 fX12_unit_138
    rw [v2', px_bd, if_neg v6]
  have e126 : ∀ x : Int32, u = 30 → fX12_unit_126 x K L = some (K1, L) := fun x e => by
    unfold fX12_unit_126
    rw [if_ok hq.2.2.2.1.2.1 hq.2.2.2.1.2.2.1 u30, px_bd, if_pos e, if_neg (show ¬ (1 : Int32) = 0 by decide)]
    exact e133 x
  have t2' : fX12_unit_101 K L = some (K1, L) := by
    unfold fX12_unit_101
    rw [if_pos (show K 73 2 ≤ 0 by rw [f2]; decide), as_ok hT, px_bd]
    by_cases e3 : c = 3
    · rw [if_pos (hs4.2.2.1.mp e3)]
      exact e126 _ (hv (Or.inl e3))
    · rw [if_neg (fun h => e3 (hs4.2.2.1.mpr h))]
      by_cases e6 : 206 ≤ c ∧ c ≤ 211
      · rw [if_pos e6, if_neg (nI_pos (by unfold as_n; split <;> omega))]
        exact e126 _ (hv (Or.inr e6))
      · rw [if_neg e6, if_pos (by decide)]
        exact e133 _
  unfold fU
  rw [show 5000 - j = (4998 - j) + 1 + 1 by omega, px_itL (s := (1, K, L)) (s' := (0, K, L)) t1, px_itO (o := some (K1, L)) ?_, px_bd]
  · exact fR_ft v3 (by omega)
  · unfold fX12_unit_2
    dsimp only
    rw [if_pos (show (0 : Int32) = 0 from rfl), t2']
theorem un_f (j : Nat) {x : Int32} (hi : j < 6) (hx : x = -(nI (206 + j))) : ∃ i, i < 6 ∧ x = -(nI (206 + i)) ∧ (1 : Int32) = 1 ∧ nI (as_n j) = nI (match i with | 0 => 1 | 1 => 3 | 2 => 0 | 3 => 2 | 4 => 4 | _ => 5) := ⟨j, hi, hx, rfl, rfl⟩
/-- a value -/
theorem un_val (hB0 : tk_B I0 K0 z B) {I K : ab_I} {J L : ab_J} {p0 c s u h j k dep : Nat} {σ : List Nat} {x : Int32} (hq : fq I0 K0 J0 L0 z a b I J K L p0 c s u h [] σ) (hs : s ≤ 9 * u) (hl : σ.length ≤ u + dl σ) (hdl : dl σ = dep) (hd7 : dep ≤ 7) (hu : u < 30) (hj : j ≤ 1601) (hk : k ≤ p0) (hk2 : k ≤ 1601) (hc : (c = 3 ∧ x = I 22 4) ∨ (206 ≤ c ∧ c ≤ 211 ∧ x = -(nI c))) {cl : Option (Int32 × ab_I × ab_J)} (hcl : ∀ I1 I2 J2, fX2_add x (ab_u I 18 4 (nI (u + 1))) = some I1 → fX8_advance I1 J = some (I2, J2) → cl = some (1, I2, J2)) : fP I0 K0 J0 L0 z a b 5 dep s u h σ p0 k cl (fU j k K L) := by
  left
  obtain ⟨hT, f2, t2, t3⟩ := fq_tR hq
  have hs4 := tk_sort hT
  have hh : h ≤ u := hq.2.2.2.2.2.2.1
  have hT2 := hT
  obtain ⟨pl, _, _, _, _, _, h6⟩ := hT2
  have key : ∃ st ar : Int32, fm_1 x st ar ∧ ¬ x = -214 ∧ (0 ≤ x ∨ (-211 ≤ x ∧ x ≤ -206)) ∧ fX12_unit_101 K L = (fX12_add st ar (ab_u (ab_u K 73 20 (nI (u + 1))) 73 22 (nI (u + 1)))).bind fun u15 => (fX12_token u15 L).bind fun u16 => some (u16.1, u16.2) := by
    have e138 : ∀ y : Int32, fX12_unit_126 y K L = if 0 ≤ y then fX12_unit_160 y 1 (ab_u (ab_u K 73 20 (nI (u + 1))) 73 22 (nI (u + 1))) L else fX12_unit_160 y 0 (ab_u (ab_u K 73 20 (nI (u + 1))) 73 22 (nI (u + 1))) L := fun y => by
      unfold fX12_unit_126 fX12_unit_138 fX12_countUnit
      rw [if_ok hq.2.2.2.1.2.1 hq.2.2.2.1.2.2.1 (by omega), px_bd, if_neg (show ¬ u = 30 by omega), if_pos (show (0 : Int32) = 0 from rfl), if_pos (show K 73 2 ≤ 0 by rw [f2]; decide), px_bd, hq.2.2.2.1.2.1, hq.2.2.2.1.2.2.1, ← nI_succ]
    have e101 : fX12_unit_101 K L = fX12_unit_126 (if 206 ≤ c ∧ c ≤ 211 then nI (as_n (c - 206)) else -1) K L := by
      unfold fX12_unit_101
      rw [if_pos (show K 73 2 ≤ 0 by rw [f2]; decide), as_ok hT, px_bd]
      rcases hc with ⟨e3, _⟩ | ⟨e1, e2, _⟩
      · rw [if_pos (hs4.2.2.1.mp e3)]
      · rw [if_neg (show ¬ K 73 6 = 2 from fun h => by have := hs4.2.2.1.mpr h; omega), if_pos (show 206 ≤ c ∧ c ≤ 211 from ⟨e1, e2⟩), if_neg (show ¬ nI (as_n (c - 206)) < 0 from nI_pos (by unfold as_n; split <;> omega))]
    rw [e101, e138]
    rcases hc with ⟨e3, ex⟩ | ⟨e1, e2, ex⟩
    · obtain ⟨v, hv, i4, k8⟩ : ∃ v, v ≤ 9999 ∧ I 22 4 = nI v ∧ K 73 8 = nI v := by
        rcases h6 with h | h | ⟨p, _, _, _, _, h | h | h⟩
        · omega
        · omega
        · obtain ⟨h1, _⟩ := h
          have := hs4.2.2.2.1.mpr h1
          omega
        · exact h.2.2
        · rw [e3] at h; exact absurd h.1 (by decide)
      obtain ⟨g1, g2, g3⟩ := fe_A hv
      rw [ex, i4]
      refine ⟨0, nI v, Or.inl ⟨v, hv, rfl, rfl, rfl⟩, g1, Or.inl g2, ?_⟩
      rw [if_neg (show ¬ (206 ≤ c ∧ c ≤ 211) by omega), if_neg (by decide)]
      unfold fX12_unit_160 fX12_unit_172
      rw [if_neg (by decide), px_u (by omega), px_u (by omega), k8]
    · obtain ⟨g1, g2, g3, _⟩ := fe_B (c - 206) (by omega)
      rw [show 206 + (c - 206) = c by omega, ← ex] at g1 g2 g3
      refine ⟨1, nI (as_n (c - 206)), Or.inr (Or.inl (un_f (c - 206) (by omega) (by rw [ex, show 206 + (c - 206) = c by omega]))), g1, Or.inr g3, ?_⟩
      have p0' : (0 : Int32) ≤ nI (as_n (c - 206)) := nI_pos' (by unfold as_n; split <;> omega)
      rw [if_pos (show 206 ≤ c ∧ c ≤ 211 from ⟨e1, e2⟩), if_pos p0']
      unfold fX12_unit_160 fX12_unit_172
      rw [if_pos p0']
  obtain ⟨st, ar, y1, y2, y3, y4⟩ := key
  have q1 := fq_cnt hq hu
  have q2 := fq_val (x := x) (st := st) (ar := ar) q1 (by omega) y1 y2 y3
  obtain ⟨I2, J2, K2, L2, c2, p2, x1, x2, x3, x4, x5⟩ := fq_A hB0 q2 (by omega) (by omega)
  have o1 : ab_u I 18 4 (nI (u + 1)) 18 3 = nI s := q1.2.2.1.1
  have o2 : ab_u (ab_u K 73 20 (nI (u + 1))) 73 22 (nI (u + 1)) 73 17 = nI s := q1.2.2.1.2.1
  have t1 : fX12_unit_2 1 K L = some (.inl (0, K, L)) := by
    rw [un_turn hq (by omega) (fun h => by omega)]
    unfold fX12_unit_53
    rw [if_neg (show ¬ K 73 6 = 40 from fun h => by have := (hs4.2.2.2.2 40 (by decide)).mpr h; omega)]
  refine ⟨I2, J2, K2, L2, p2, c2, s + 1, u + 1, [], k, hcl _ I2 J2 (ad_ok o1 (by omega)) x1, ?_, x3, fun e he => absurd he (by simp), Or.inr (Or.inl (by have := (tg_le (sgn c2)).1; show tg (sgn c2) < 7; omega)), by omega, by show s + 1 + 0 + dep + 1 + 9 * u ≤ s + 9 * (u + 1); omega, by show σ.length + 1 ≤ u + 1 + dl σ; omega, by omega, by omega, hk2, by show dl σ ≤ 7; omega⟩
  unfold fU
  rw [show 5000 - j = (4998 - j) + 1 + 1 by omega, px_itL (s := (1, K, L)) (s' := (0, K, L)) t1, px_itO (o := some (K2, L2)) ?_, px_bd]
  unfold fX12_unit_2
  dsimp only
  rw [if_pos (show (0 : Int32) = 0 from rfl), y4]
  unfold fX12_add
  rw [o2, px_gd (px_ix (by omega) (by decide)), px_gd (px_ix (by omega) (by decide)), px_bd, nI_clamp (by omega), ← nI_succ, x2, px_bd]
end UN2
