/-! ===== Acts: dropOldest, keep, takenBack, doneAgain; undo, redo (by hand) ===== -/
/-- the first i - 1 of the row moved down by one -/
def ac_sh (P : ab_P) (i : Nat) : ab_P := fun r => if r = 54 then (fun j => if j + 1 < i then P 54 (j + 1) else P 54 j) else P r
def ac_rot (P : ab_P) : ab_P := fun r => if r = 54 then (fun j => if j < 39 then P 54 (j + 1) else if j = 39 then P 54 0 else P 54 j) else P r
def ac_all (P : ab_P) : Bool := (List.range 40).all (fun j => (P 54 j).isSome)
theorem ac_all_at {P : ab_P} (h : ac_all P = true) {j : Nat} (hj : j < 40) : ∃ a, P 54 j = some a := Option.isSome_iff_exists.mp (List.all_eq_true.mp h j (List.mem_range.mpr hj))
theorem ac_sh_o {P : ab_P} {i r : Nat} (h : r ≠ 54) : ac_sh P i r = P r := if_neg h
theorem ac_sh_1 (P : ab_P) : ac_sh P 1 = P := by
  funext r j
  unfold ac_sh
  split
  · rename_i e; subst e
    exact if_neg (by omega)
  · rfl
theorem ac_sh_at {P : ab_P} {i j : Nat} (h : i ≤ j + 1) : ac_sh P i 54 j = P 54 j := by
  show (if j + 1 < i then _ else _) = _
  exact if_neg (by omega)
theorem ac_sh_s {P : ab_P} {i : Nat} (h : 1 ≤ i) : ab_u (ac_sh P i) 54 (i - 1) (P 54 i) = ac_sh P (i + 1) := by
  funext r j
  by_cases e : r = 54
  · subst e
    rw [ab_u_s]
    show (if j = i - 1 then _ else (if j + 1 < i then _ else _)) = (if j + 1 < i + 1 then _ else _)
    by_cases e1 : j = i - 1
    · rw [if_pos e1, if_pos (by omega), show j + 1 = i by omega]
    · rw [if_neg e1]
      by_cases e2 : j + 1 < i
      · rw [if_pos e2, if_pos (by omega)]
      · rw [if_neg e2, if_neg (by omega)]
  · rw [ab_u_o e, ac_sh_o e, ac_sh_o e]
theorem ac_sh_e {P : ab_P} : ab_u (ac_sh P 40) 54 39 (P 54 0) = ac_rot P := by
  funext r j
  by_cases e : r = 54
  · subst e
    rw [ab_u_s]
    show (if j = 39 then _ else (if j + 1 < 40 then _ else _)) = (if j < 39 then _ else if j = 39 then _ else _)
    by_cases e1 : j = 39
    · rw [if_pos e1, if_neg (by omega), if_pos e1]
    · rw [if_neg e1]
      by_cases e2 : j < 39
      · rw [if_pos e2, if_pos (by omega)]
      · rw [if_neg e2, if_neg (by omega), if_neg e1]
  · rw [ab_u_o e, ac_sh_o e]
    unfold ac_rot
    rw [if_neg e]
/-- a State is none of the fixed cells that hold references to States -/
theorem bz_st_ne {S : ab_S} {P : ab_P} (hB : bz_B S P) {q : Nat} (h : bz_st S P q) : q ≠ 54 ∧ q ≠ 0 := by
  refine ⟨fun e => ?_, fun e => ?_⟩ <;> subst e
  · have h1 := hB.1 54 _ rfl
    rw [h.1] at h1
    cases h1
  · have h1 := hB.1 0 _ rfl
    rw [h.1] at h1
    cases h1
/-- only the row of sides has changed -/
theorem bz_st_row {S : ab_S} {P P' : ab_P} (hB : bz_B S P) (hr : ∀ r, r ≠ 54 → P' r = P r) {q : Nat} (h : bz_st S P q) : bz_st S P' q := by
  have hn := (bz_st_ne hB h).1
  obtain ⟨h1, h2, h3, h4, h5, h6, h7⟩ := h
  exact ⟨h1, h2, h3, h4, by rw [hr q hn]; exact h5, by rw [hr q hn]; exact h6, by rw [hr q hn]; exact h7⟩
theorem bz_B_row {S : ab_S} {P P' : ab_P} (hB : bz_B S P) (hr : ∀ r, r ≠ 54 → P' r = P r) (h : ∀ i a, P' 54 i = some a → bz_st S P a) : bz_B S P' := by
  refine ⟨hB.1, fun i e he => ?_, fun a ha => ?_, fun i a ha => bz_st_row hB hr (h i a ha)⟩
  · have hn : e.1 ≠ 54 := by
      have hall : ∀ e ∈ bz_P0, e.1 ≠ 54 := by decide
      exact hall e (List.mem_of_getElem? he)
    rw [hr _ hn]
    exact hB.2.1 i e he
  · rw [hr 0 (by decide)] at ha
    exact bz_st_row hB hr (hB.2.2.1 a ha)
abbrev mX0_dropOldest : ab_M := (yX0_dropOldest, cX0_dropOldest, 3, none, 0, 0)
section AC
variable {l : Launch} {G : ab_G} {S : ab_S} {I : ab_I} {J : ab_J} {P : ab_P} {Q : ab_Q}
set_option maxRecDepth 100000 in
theorem ac_drop_loop (hB : bz_B S P) (hall : ac_all P = true) {a0 : Nat} (h0 : P 54 0 = some a0) (K : Q none S (ab_u I 53 1 39) J (ac_rot P)) : ∀ m i, i + m = 40 → 1 ≤ i → ab_WP l G mX0_dropOldest 0 9 [some (.ref 53), some (.ref a0), some (.int (nI i))] [] S I J (ac_sh P i) 0 0 Q := by
  intro m
  have h53 : S[53]? = some (5, 0) := hB.1 53 _ rfl
  have h54 : S[54]? = some (4, 40) := hB.1 54 _ rfl
  have hp0 : P 53 0 = some 54 := by
    have : ∃ i : Nat, bz_P0[i]? = some (53, 0, 54) := List.getElem?_of_mem (by decide)
    obtain ⟨i, hi⟩ := this
    exact hB.2.1 i _ hi
  induction m with
  | zero =>
    intro i hi h1
    obtain rfl : i = 40 := by omega
    have hp : ac_sh P 40 53 0 = some 54 := by rw [ac_sh_o (by decide)]; exact hp0
    refine ab_iload_n (z := 2) (by decide +kernel) rfl rfl ?_
    refine ab_aload_n (z := 0) (by decide +kernel) rfl rfl ?_
    refine bz_gP0_0 (ix := 11) (by decide +kernel) tw_394 h53 hp ?_
    refine ab_alen (v := (40 : Int32)) (by decide +kernel) h54 (by decide) (by decide) ?_
    refine ab_icmp_ge (off := 23) (tgt := 38) (by decide +kernel) rfl (fun _ => ?_) (fun hc => absurd (by decide) hc)
    refine ab_aload_n (z := 0) (by decide +kernel) rfl rfl ?_
    refine bz_gP0_0 (ix := 11) (by decide +kernel) tw_394 h53 hp ?_
    refine ab_aload_n (z := 0) (by decide +kernel) rfl rfl ?_
    refine bz_gP0_0 (ix := 11) (by decide +kernel) tw_394 h53 hp ?_
    refine ab_alen (v := (40 : Int32)) (by decide +kernel) h54 (by decide) (by decide) ?_
    refine ab_iconst (z := 1) (v := (1 : Int32)) (by decide +kernel) (by decide) ?_
    refine ab_isub (by decide +kernel) ?_
    refine ab_top (y := (39 : Int32)) (by decide) ?_
    refine ab_aload_n (z := 1) (by decide +kernel) rfl rfl ?_
    refine ab_aast (ln := 40) (la := 0) (by decide +kernel) h54 (hB.2.2.2 0 a0 h0).1 (ab_ix_in (by decide)) ?_
    rw [show (39 : Int32).toNatClampNeg = 39 by decide, ← h0, ac_sh_e]
    have hp2 : ac_rot P 53 0 = some 54 := hp0
    refine ab_aload_n (z := 0) (by decide +kernel) rfl rfl ?_
    refine ab_aload_n (z := 0) (by decide +kernel) rfl rfl ?_
    refine bz_gP0_0 (ix := 11) (by decide +kernel) tw_394 h53 hp2 ?_
    refine ab_alen (v := (40 : Int32)) (by decide +kernel) h54 (by decide) (by decide) ?_
    refine ab_iconst (z := 1) (v := (1 : Int32)) (by decide +kernel) (by decide) ?_
    refine ab_isub (by decide +kernel) ?_
    refine ab_top (y := (39 : Int32)) (by decide) ?_
    refine pX0_1 (ix := 17) (by decide +kernel) tw_395 h53 ?_
    exact ab_vret (by decide +kernel) rfl (Nat.le_refl _) (Nat.le_refl _) K
  | succ m ih =>
    intro i hi h1
    have hp : ac_sh P i 53 0 = some 54 := by rw [ac_sh_o (by decide)]; exact hp0
    obtain ⟨j, rfl⟩ : ∃ j, i = j + 1 := ⟨i - 1, by omega⟩
    obtain ⟨a1, ha1⟩ := ac_all_at hall (show j + 1 < 40 by omega)
    have hj : j + 1 < 2 ^ 31 := by omega
    refine ab_iload_n (z := 2) (by decide +kernel) rfl rfl ?_
    refine ab_aload_n (z := 0) (by decide +kernel) rfl rfl ?_
    refine bz_gP0_0 (ix := 11) (by decide +kernel) tw_394 h53 hp ?_
    refine ab_alen (v := (40 : Int32)) (by decide +kernel) h54 (by decide) (by decide) ?_
    refine ab_icmp_ge (off := 23) (tgt := 38) (by decide +kernel) rfl (fun hc => absurd hc (nI_ge (b := 40) (by omega) (by decide))) (fun _ => ?_)
    refine ab_aload_n (z := 0) (by decide +kernel) rfl rfl ?_
    refine bz_gP0_0 (ix := 11) (by decide +kernel) tw_394 h53 hp ?_
    refine ab_iload_n (z := 2) (by decide +kernel) rfl rfl ?_
    refine ab_iconst (z := 1) (v := (1 : Int32)) (by decide +kernel) (by decide) ?_
    refine ab_isub (by decide +kernel) ?_
    refine ab_top (y := nI j) (nI_pred j) ?_
    refine ab_aload_n (z := 0) (by decide +kernel) rfl rfl ?_
    refine bz_gP0_0 (ix := 11) (by decide +kernel) tw_394 h53 hp ?_
    refine ab_iload_n (z := 2) (by decide +kernel) rfl rfl ?_
    refine ab_aald (ln := 40) (a := a1) (by decide +kernel) h54 (nI_in (by omega) (by decide)) (by rw [nI_clamp hj, ac_sh_at (Nat.le_succ _)]; exact ha1) ?_
    refine ab_aast (ln := 40) (la := 0) (by decide +kernel) h54 (hB.2.2.2 _ a1 ha1).1 (nI_in (by omega) (by decide)) ?_
    rw [nI_clamp (by omega), ← ha1]
    have e := ac_sh_s (P := P) (i := j + 1) (by omega)
    rw [Nat.add_sub_cancel] at e
    rw [e]
    refine ab_iinc (i := 2) (z := 1) (v := nI (j + 1 + 1)) (by decide +kernel) rfl (nI_succ (j + 1)).symm (by decide) rfl ?_
    refine ab_ls (ls' := [some (.ref 53), some (.ref a0), some (.int (nI (j + 1 + 1)))]) rfl ?_
    refine ab_goto (off := -26) (tgt := 9) (by decide +kernel) rfl ?_
    exact ih (j + 1 + 1) (by omega) (by omega)
set_option maxRecDepth 100000 in
theorem mX0_dropOldest_ok (hB : bz_B S P) (hall : ac_all P = true) (K : Q none S (ab_u I 53 1 39) J (ac_rot P)) : ab_Call l G mX0_dropOldest 0 [.ref 53] S I J P Q := by
  obtain ⟨a0, h0⟩ := ac_all_at hall (show 0 < 40 by decide)
  have hp0 : P 53 0 = some 54 := by
    have : ∃ i : Nat, bz_P0[i]? = some (53, 0, 54) := List.getElem?_of_mem (by decide)
    obtain ⟨i, hi⟩ := this
    exact hB.2.1 i _ hi
  refine ab_enter rfl (Nat.le_of_ble_eq_true rfl) (ab_wk (ls' := [some (.ref 53), none, none]) (ab_le_some (ab_le_non0 (ab_le_non0 ab_le_nil))) ?_)
  refine ab_aload_n (z := 0) (by decide +kernel) rfl rfl ?_
  refine bz_gP0_0 (ix := 11) (by decide +kernel) tw_394 (hB.1 53 _ rfl) hp0 ?_
  refine ab_iconst (z := 0) (v := (0 : Int32)) (by decide +kernel) (by decide) ?_
  refine ab_aald (ln := 40) (a := a0) (by decide +kernel) (hB.1 54 _ rfl) (ab_ix_in (by decide)) h0 ?_
  refine ab_astore_n (z := 1) (by decide +kernel) rfl (by decide) rfl ?_
  refine ab_ls (ls' := [some (.ref 53), some (.ref a0), none]) rfl ?_
  refine ab_iconst (z := 1) (v := (1 : Int32)) (by decide +kernel) (by decide) ?_
  refine ab_istore_n (z := 2) (by decide +kernel) rfl (by decide) rfl ?_
  refine ab_ls (ls' := [some (.ref 53), some (.ref a0), some (.int (nI 1))]) rfl ?_
  have W := ac_drop_loop (l := l) (G := G) (I := I) (J := J) hB hall h0 K 39 1 rfl (Nat.le_refl _)
  rw [ac_sh_1] at W
  exact W
end AC
