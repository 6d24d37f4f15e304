/-! ===== village: which line, and its end ===== -/
section LNS
variable {I0 K0 : ab_I} {J0 L0 : ab_J} {z : Nat} {B : Nat → Nat} {I K : ab_I} {J L : ab_J} {p0 c a b : Nat}
/-- a turn of the loop over lines, both sides -/
def ld (I0 K0 : ab_I) (J0 L0 : ab_J) (z p0 : Nat) (m : Int32) (cl : Option ((Int32 × Int32 × ab_I × ab_J) ⊕ (Int32 × ab_I × ab_J))) (rf : Option (ab_I × ab_J)) : Prop := (∃ I' J' K' L' c' p1 a' b', cl = some (.inl (1, m + 1, I', J')) ∧ rf = some (K', L') ∧ ps I0 K0 J0 L0 z I' J' K' L' p1 c' a' b' ∧ p0 + 1 < p1 ∧ p0 < z) ∨ ∃ I' J' K' L', cl = some (.inl (0, m + 1, I', J')) ∧ rf = some (K', L') ∧ ft I0 K0 J0 L0 I' J' K' L'
theorem ft_185 (h : ft I0 K0 J0 L0 I J K L) : fX12_readLine_185 K L = some (K, L) := by
  have h1 := (ft_ne h).2
  unfold fX12_readLine_185 fX12_readLine_206 fX12_readLine_217
  rw [if_neg h1, if_neg h1]
theorem ld_end {m : Int32} {cl : Option (Int32 × ab_I × ab_J)} {rf : Option (ab_I × ab_J)} (hB0 : tk_B I0 K0 z B) (h : lb I0 K0 J0 L0 z p0 cl rf) : ld I0 K0 J0 L0 z p0 m (cl.bind fun u => fX4_readsAll_123 m u.1 u.2.1 u.2.2) (rf.bind fun u => fX12_readLine_185 u.1 u.2) := by
  rcases h with ⟨I', J', K', L', c', p1, a', b', e1, e2, h, hp⟩ | ⟨I', J', K', L', e1, e2, h⟩
  · rw [e1, e2, px_bd, px_bd]
    dsimp only
    have hT := h.2.1
    have t2 : I' 22 2 = nI c' := by obtain ⟨pl, _, t2, _⟩ := hT; exact t2
    have t3 : c' < 300 := by obtain ⟨pl, _, _, t3, _⟩ := hT; exact t3
    have t4 := (tk_sort hT).2.2.2.2 59 (by decide)
    have f2 := h.2.2.2.2.1
    unfold fX4_readsAll_123 fX4_takes fX12_readLine_185 fX12_readLine_206 fX12_readLine_217
    rw [if_neg (show ¬ (1 : Int32) = 0 by decide), if_pos f2]
    by_cases e : c' = 59
    · left
      obtain ⟨I2, J2, K2, L2, c2, p2, a1, a2, a3, a4, a5, a6⟩ := ps_adv hB0 h (by omega) (by omega)
      rw [if_pos (show I' 22 2 = 59 by rw [t2, e]; rfl), a1, px_bd, px_bd]
      dsimp only
      rw [if_neg (show ¬ (1 : Int32) = 0 by decide), if_pos (show K' 73 6 = 59 from t4.mp e), if_pos f2, a2, px_bd]
      have hz : p1 < z := by
        obtain ⟨_, _, _, _, _, _, h6⟩ := hT
        rcases h6 with h | h | ⟨p, h1, h2, _⟩
        · omega
        · omega
        · omega
      exact ⟨_, _, _, _, c2, p2, a', b', rfl, rfl, a3, by omega, by omega⟩
    · right
      obtain ⟨I2, K2, a1, a2, a3, a4, a5, a6, a7⟩ := ps_ref h (k := 2) (by decide) (by decide)
      have a1' : fX4_refuses 2 I' = some (0, I2) := a1
      have a2' : fX12_wrong 2 K' = some K2 := a2
      rw [if_neg (show ¬ I' 22 2 = 59 by rw [t2]; exact fun h => e ((nI_eq (b := 59) (by omega) (by omega)).mp h)), a1', px_bd, px_gd (Or.inl rfl), px_bd]
      dsimp only
      rw [if_pos rfl, if_neg (show ¬ K' 73 6 = 59 from fun h => e (t4.mpr h)), a2', px_bd, if_neg a7]
      exact ⟨_, _, _, _, rfl, rfl, a3⟩
  · right
    rw [e1, e2, px_bd, px_bd]
    dsimp only
    rw [ft_185 h]
    exact ⟨_, _, _, _, rfl, rfl, h⟩
theorem rl_w (h : ps I0 K0 J0 L0 z I J K L p0 c a b) {i : Nat} {w : Int64} (hi : i < 15) (hw : bz_word i = w) : fX12_isWord w K L = some (if c = 200 + i then 1 else 0) := by
  rw [← hw]; exact tk_word1 h.2.1 hi
theorem rl_0 (h : ps I0 K0 J0 L0 z I J K L p0 c a b) (hc : c = 200 → 6 ≤ K 73 33) : fX12_readLine K L = fX12_readLine_26 K L := by
  unfold fX12_readLine
  rw [rl_w h (i := 0) (w := 123581014175598) (by decide) rfl, px_bd]
  by_cases e : c = 200
  · rw [if_pos e, if_neg (by decide), if_pos (hc e)]
  · rw [if_neg e, if_pos rfl]
theorem rl_26 (h : ps I0 K0 J0 L0 z I J K L p0 c a b) (hc : c = 201 → 5 ≤ K 73 34) : fX12_readLine_26 K L = fX12_readLine_51 K L := by
  unfold fX12_readLine_26
  rw [rl_w h (i := 1) (w := 1650814060) (by decide) rfl, px_bd]
  by_cases e : c = 201
  · rw [if_pos e, if_neg (by decide), if_pos (hc e)]
  · rw [if_neg e, if_pos rfl]
theorem rl_51 (h : ps I0 K0 J0 L0 z I J K L p0 c a b) (hc : c = 202 → 20 ≤ K 73 35) : fX12_readLine_51 K L = fX12_readLine_77 K L := by
  unfold fX12_readLine_51
  rw [rl_w h (i := 2) (w := 465726301555) (by decide) rfl, px_bd]
  by_cases e : c = 202
  · rw [if_pos e, if_neg (by decide), if_pos (hc e)]
  · rw [if_neg e, if_pos rfl]
theorem rl_77 (h : ps I0 K0 J0 L0 z I J K L p0 c a b) (hc : c = 203 → ¬ K 73 24 = 0) : fX12_readLine_77 K L = fX12_readLine_101 K L := by
  unfold fX12_readLine_77
  rw [rl_w h (i := 3) (w := 131277443786867) (by decide) rfl, px_bd]
  by_cases e : c = 203
  · rw [if_pos e, if_neg (by decide), if_neg (hc e)]
  · rw [if_neg e, if_pos rfl]
theorem rl_101 (h : ps I0 K0 J0 L0 z I J K L p0 c a b) (hc : c = 204 → ¬ K 73 44 = 0) : fX12_readLine_101 K L = fX12_readLine_140 K L := by
  unfold fX12_readLine_101
  rw [rl_w h (i := 4) (w := 439720568179) (by decide) rfl, px_bd]
  by_cases e : c = 204
  · rw [if_pos e, if_neg (by decide), if_neg (hc e)]
  · rw [if_neg e, if_pos rfl]
theorem rl_140 (h : ps I0 K0 J0 L0 z I J K L p0 c a b) (hc : c = 205 → ¬ K 73 45 = 0) : fX12_readLine_140 K L = fX12_readLine_180 K L := by
  unfold fX12_readLine_140
  rw [rl_w h (i := 5) (w := 1685217655) (by decide) rfl, px_bd]
  by_cases e : c = 205
  · rw [if_pos e, if_neg (by decide), if_neg (hc e)]
  · rw [if_neg e, if_pos rfl]
/-- no line may begin so -/
theorem rl_no {m : Int32} (h : ps I0 K0 J0 L0 z I J K L p0 c a b) (h0 : c = 200 → 6 ≤ K 73 33) (h1 : c = 201 → 5 ≤ K 73 34) (h2 : c = 202 → 20 ≤ K 73 35) (h3 : c = 203 → ¬ K 73 24 = 0) (h4 : c = 204 → ¬ K 73 44 = 0) (h5 : c = 205 → ¬ K 73 45 = 0) {cl : Option ((Int32 × Int32 × ab_I × ab_J) ⊕ (Int32 × ab_I × ab_J))} (hcl : ∀ I', fX4_refuses 2 I = some (0, I') → cl = fX4_readsAll_123 m 0 I' J) : ld I0 K0 J0 L0 z p0 m cl (fX12_readLine K L) := by
  right
  obtain ⟨I2, K2, a1, a2, a3, a4, a5, a6, a7⟩ := ps_ref h (k := 2) (by decide) (by decide)
  have a1' : fX4_refuses 2 I = some (0, I2) := a1
  have a2' : fX12_wrong 2 K = some K2 := a2
  rw [hcl I2 a1', rl_0 h h0, rl_26 h h1, rl_51 h h2, rl_77 h h3, rl_101 h h4, rl_140 h h5]
  unfold fX12_readLine_180
  rw [a2', px_bd, ft_185 a3]
  exact ⟨_, _, _, _, rfl, rfl, a3⟩
/-- what is left open here: the line of a formula -/
def lw_W (I0 K0 : ab_I) (J0 L0 : ab_J) (z : Nat) : Prop := ∀ I J K L p0 a b, ps I0 K0 J0 L0 z I J K L p0 203 a b → K 73 24 = 0 → lb I0 K0 J0 L0 z p0 (fX4_readsWeighs I J) (fX12_formula K L)
theorem ld_turn {m : Int32} (hW : lw_W I0 K0 J0 L0 z) (hB0 : tk_B I0 K0 z B) (h : ps I0 K0 J0 L0 z I J K L p0 c a b) (h0 : c ≠ 0) (hm : ¬ 1600 ≤ m) : ld I0 K0 J0 L0 z p0 m (fX4_readsAll_8 1 m I J) (fX12_readLine K L) := by
  have hT := h.2.1
  have t2 : I 22 2 = nI c := by obtain ⟨pl, _, t2, _⟩ := hT; exact t2
  have t3 : c < 300 := by obtain ⟨pl, _, _, t3, _⟩ := hT; exact t3
  have hd := h.2.2.2.2.2.2
  obtain ⟨n1, n2, n3, n4, n5, n6⟩ := dr_n hd
  obtain ⟨n, l1, l2, l3, _⟩ := id hd.2.2.1
  have cc : ∀ t : Nat, t < 300 → (I 22 2 = nI t ↔ c = t) := fun t ht => by rw [t2]; exact nI_eq (by omega) (by omega)
  unfold fX4_readsAll_8
  rw [if_neg hm, if_neg (show ¬ (1 : Int32) = 0 by decide), if_neg (show ¬ I 22 2 = 0 from fun e => h0 ((cc 0 (by omega)).mp e))]
  have ff := hd.2.2.2.1
  have fd := hd.2.2.2.2.1
  obtain ⟨_, _, _, _, f4, _⟩ := id ff
  obtain ⟨_, _, _, _, d4, _⟩ := id fd
  have w3 : I 11 3 = K 73 24 := by
    rcases hd.2.2.2.2.2 with ⟨x1, x2, _⟩ | ⟨x1, x2, _⟩
    · rw [x1, x2]
    · rw [x1, x2]
  by_cases e0 : c = 200
  · rw [if_pos (show I 22 2 = 200 from (cc 200 (by omega)).mpr e0)]
    by_cases ha : a < 6
    · have hl := ld_end (m := m) hB0 (ln_person hB0 h e0 ha)
      unfold fX12_readLine
      rw [rl_w h (i := 0) (w := 123581014175598) (by decide) rfl, px_bd, if_pos e0, if_neg (by decide), if_neg (show ¬ 6 ≤ K 73 33 by rw [n4]; exact nI_ge (b := 6) ha (by decide))]
      exact hl
    · refine rl_no h (fun _ => by rw [n4]; exact nI_le (a := 6) (by omega) (by omega)) (by omega) (by omega) (by omega) (by omega) (by omega) (fun I' e => ?_)
      unfold fX4_readsPerson
      rw [if_neg (show ¬ I 14 4 < 6 by rw [n3]; exact nI_nlt (b := 6) (by omega) (by omega)), e, px_bd, px_gd (Or.inl rfl), px_bd]
  rw [if_neg (show ¬ I 22 2 = 200 from fun e => e0 ((cc 200 (by omega)).mp e))]
  by_cases e1 : c = 201
  · rw [if_pos (show I 22 2 = 201 from (cc 201 (by omega)).mpr e1)]
    by_cases hb : b < 5
    · have hl := ld_end (m := m) hB0 (ln_bell hB0 h e1 hb)
      rw [rl_0 h (by omega)]
      unfold fX12_readLine_26
      rw [rl_w h (i := 1) (w := 1650814060) (by decide) rfl, px_bd, if_pos e1, if_neg (by decide), if_neg (show ¬ 5 ≤ K 73 34 by rw [n6]; exact nI_ge (b := 5) hb (by decide))]
      exact hl
    · refine rl_no h (by omega) (fun _ => by rw [n6]; exact nI_le (a := 5) (by omega) (by omega)) (by omega) (by omega) (by omega) (by omega) (fun I' e => ?_)
      unfold fX4_readsBell
      rw [if_neg (show ¬ I 14 5 < 5 by rw [n5]; exact nI_nlt (b := 5) (by omega) (by omega)), e, px_bd, px_gd (Or.inl rfl), px_bd]
  rw [if_neg (show ¬ I 22 2 = 201 from fun e => e1 ((cc 201 (by omega)).mp e))]
  by_cases e2 : c = 202
  · rw [if_pos (show I 22 2 = 202 from (cc 202 (by omega)).mpr e2)]
    by_cases hn : n < 20
    · have hl := ld_end (m := m) hB0 (ln_loses hB0 h e2 hn l2 l3)
      rw [rl_0 h (by omega), rl_26 h (by omega)]
      unfold fX12_readLine_51
      rw [rl_w h (i := 2) (w := 465726301555) (by decide) rfl, px_bd, if_pos e2, if_neg (by decide), if_neg (show ¬ 20 ≤ K 73 35 by rw [l3]; exact nI_ge (b := 20) hn (by decide))]
      exact hl
    · refine rl_no h (by omega) (by omega) (fun _ => by rw [l3]; exact nI_le (a := 20) (by omega) (by omega)) (by omega) (by omega) (by omega) (fun I' e => ?_)
      unfold fX4_readsLoses
      rw [if_neg (show ¬ I 14 6 < 20 by rw [l2]; exact nI_nlt (b := 20) (by omega) (by omega)), e, px_bd, px_gd (Or.inl rfl), px_bd]
  rw [if_neg (show ¬ I 22 2 = 202 from fun e => e2 ((cc 202 (by omega)).mp e))]
  by_cases e3 : c = 203
  · rw [if_pos (show I 22 2 = 203 from (cc 203 (by omega)).mpr e3)]
    by_cases hn : K 73 24 = 0
    · have hl := ld_end (m := m) hB0 (hW I J K L p0 a b (by rw [← e3]; exact h) hn)
      rw [rl_0 h (by omega), rl_26 h (by omega), rl_51 h (by omega)]
      unfold fX12_readLine_77
      rw [rl_w h (i := 3) (w := 131277443786867) (by decide) rfl, px_bd, if_pos e3, if_neg (by decide), if_pos hn]
      exact hl
    · refine rl_no h (by omega) (by omega) (by omega) (fun _ => hn) (by omega) (by omega) (fun I' e => ?_)
      unfold fX4_readsWeighs
      rw [if_neg (show ¬ I 11 3 = 0 by rw [w3]; exact hn), e, px_bd, px_gd (Or.inl rfl), px_bd]
  rw [if_neg (show ¬ I 22 2 = 203 from fun e => e3 ((cc 203 (by omega)).mp e))]
  by_cases e4 : c = 204
  · rw [if_pos (show I 22 2 = 204 from (cc 204 (by omega)).mpr e4)]
    by_cases hn : K 73 44 = 0
    · have hl := ld_end (m := m) hB0 (ln_faces hB0 h e4 hn)
      rw [Option.bind_assoc] at hl
      rw [rl_0 h (by omega), rl_26 h (by omega), rl_51 h (by omega), rl_77 h (by omega)]
      unfold fX12_readLine_101
      rw [rl_w h (i := 4) (w := 439720568179) (by decide) rfl, px_bd, if_pos e4, if_neg (by decide), if_pos hn]
      exact hl
    · refine rl_no h (by omega) (by omega) (by omega) (by omega) (fun _ => hn) (by omega) (fun I' e => ?_)
      unfold fX4_readsFaces
      rw [if_neg (show ¬ I 11 4 = 0 by rw [f4]; exact hn), e, px_bd, px_gd (Or.inl rfl), px_bd]
  rw [if_neg (show ¬ I 22 2 = 204 from fun e => e4 ((cc 204 (by omega)).mp e))]
  by_cases e5 : c = 205
  · rw [if_pos (show I 22 2 = 205 from (cc 205 (by omega)).mpr e5)]
    by_cases hn : K 73 45 = 0
    · have hl := ld_end (m := m) hB0 (ln_draw hB0 h e5 hn)
      rw [Option.bind_assoc] at hl
      rw [rl_0 h (by omega), rl_26 h (by omega), rl_51 h (by omega), rl_77 h (by omega), rl_101 h (by omega)]
      unfold fX12_readLine_140
      rw [rl_w h (i := 5) (w := 1685217655) (by decide) rfl, px_bd, if_pos e5, if_neg (by decide), if_pos hn]
      exact hl
    · refine rl_no h (by omega) (by omega) (by omega) (by omega) (by omega) (fun _ => hn) (fun I' e => ?_)
      unfold fX4_readsDraw
      rw [if_neg (show ¬ I 11 5 = 0 by rw [d4]; exact hn), e, px_bd, px_gd (Or.inl rfl), px_bd]
  rw [if_neg (show ¬ I 22 2 = 205 from fun e => e5 ((cc 205 (by omega)).mp e))]
  refine rl_no h (by omega) (by omega) (by omega) (by omega) (by omega) (by omega) (fun I' e => ?_)
  rw [e, px_bd]
end LNS
