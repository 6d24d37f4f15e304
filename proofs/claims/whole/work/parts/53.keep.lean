/-! ===== keep ===== -/
abbrev mX0_keep : ab_M := (yX0_keep, cX0_keep, 2, none, 4, 48)
def ac_ap (S : ab_S) : ab_S := S ++ [(11, 0), (0, 6), (0, 6), (0, 30)]
/-- a new State behind all cells, and it is the n-th of sides -/
def ac_nP (S : ab_S) (P : ab_P) : ab_P := ab_u (ab_u (ab_u P S.length 0 (some (S.length + 1))) S.length 1 (some (S.length + 2))) S.length 2 (some (S.length + 3))
def ac_new (S : ab_S) (P : ab_P) (n : Nat) : ab_P := ab_u (ac_nP S P) 54 n (some S.length)
def fX0_keep2 (q a : Nat) (S : ab_S) (I : ab_I) (P : ab_P) : Option (ab_S × ab_I × ab_P) :=
  (fX6_copyFrom a q I).bind fun u => some (S, ab_u (ab_u u 53 1 (u 53 1 + 1)) 53 2 (u 53 1 + 1), P)
def fX0_keep1 (q : Nat) (S : ab_S) (I : ab_I) (P : ab_P) : Option (ab_S × ab_I × ab_P) :=
  ab_gd (ab_ix (I 53 1) 40 = true) (
    match P 54 (I 53 1).toNatClampNeg with
    | some a => fX0_keep2 q a S I P
    | none => fX0_keep2 q S.length (ac_ap S) I (ac_new S P (I 53 1).toNatClampNeg))
def fX0_keep (q : Nat) (S : ab_S) (I : ab_I) (P : ab_P) : Option (ab_S × ab_I × ab_P) :=
  if I 53 1 < 40 then fX0_keep1 q S I P
  else ab_gd (ac_all P = true) (fX0_keep1 q S (ab_u I 53 1 39) (ac_rot P))
section AK
variable {l : Launch} {G : ab_G} {S : ab_S} {I : ab_I} {J : ab_J} {P : ab_P} {Q : ab_Q}
theorem bz_lt {S : ab_S} {r : Nat} {x : Nat × Nat} (h : S[r]? = some x) : r < S.length := (List.getElem?_eq_some_iff.mp h).1
theorem bz_p53 (hB : bz_B S P) : P 53 0 = some 54 := by
  have : ∃ i : Nat, bz_P0[i]? = some (53, 0, 54) := List.getElem?_of_mem (by decide)
  obtain ⟨i, hi⟩ := this
  exact hB.2.1 i _ hi
theorem bz_u0 {α : Type} {I : Nat → Nat → α} {r k : Nat} {x : α} (h : I r k = x) : ab_u I r k x = I := by
  funext q j
  by_cases e : q = r
  · subst e
    by_cases e2 : j = k
    · subst e2
      rw [ab_u_at, h]
    · rw [ab_u_ne e2]
  · rw [ab_u_o e]
theorem ac_nP_o {r : Nat} (h : r ≠ S.length) : ac_nP S P r = P r := by
  unfold ac_nP
  rw [ab_u_o h, ab_u_o h, ab_u_o h]
theorem ac_ap_at {r : Nat} {x : Nat × Nat} (h : S[r]? = some x) : (ac_ap S)[r]? = some x := bz_app h
theorem ac_nP_st {q : Nat} (h : bz_st S P q) : bz_st (ac_ap S) (ac_nP S P) q := by
  obtain ⟨h1, h2, h3, h4, h5, h6, h7⟩ := h
  have hn : q ≠ S.length := Nat.ne_of_lt (bz_lt h1)
  exact ⟨ac_ap_at h1, ac_ap_at h2, ac_ap_at h3, ac_ap_at h4, by rw [ac_nP_o hn]; exact h5, by rw [ac_nP_o hn]; exact h6, by rw [ac_nP_o hn]; exact h7⟩
theorem ac_nP_L : bz_st (ac_ap S) (ac_nP S P) S.length := by
  refine ⟨?_, ?_, ?_, ?_, ?_, ?_, ?_⟩
  · unfold ac_ap; rw [List.getElem?_append_right (Nat.le_refl _), Nat.sub_self]; rfl
  · unfold ac_ap; rw [List.getElem?_append_right (by omega), Nat.add_sub_cancel_left]; rfl
  · unfold ac_ap; rw [List.getElem?_append_right (by omega), Nat.add_sub_cancel_left]; rfl
  · unfold ac_ap; rw [List.getElem?_append_right (by omega), Nat.add_sub_cancel_left]; rfl
  · unfold ac_nP; rw [ab_u_ne (by decide), ab_u_ne (by decide), ab_u_at]
  · unfold ac_nP; rw [ab_u_ne (by decide), ab_u_at]
  · unfold ac_nP; rw [ab_u_at]
theorem ac_nP_B (hB : bz_B S P) : bz_B (ac_ap S) (ac_nP S P) := by
  have hl : ∀ {r : Nat} {x : Nat × Nat}, bz_S0[r]? = some x → r ≠ S.length := fun h => Nat.ne_of_lt (bz_lt (hB.1 _ _ h))
  refine ⟨fun r s h => ac_ap_at (hB.1 r s h), fun i e h => ?_, fun a h => ?_, fun i a h => ?_⟩
  · have hall : ∀ e ∈ bz_P0, (bz_S0[e.1]?).isSome = true := by decide
    obtain ⟨x, hx⟩ := Option.isSome_iff_exists.mp (hall e (List.mem_of_getElem? h))
    rw [ac_nP_o (hl hx)]
    exact hB.2.1 i e h
  · rw [ac_nP_o (hl (r := 0) (x := (16, 0)) rfl)] at h
    exact ac_nP_st (hB.2.2.1 a h)
  · rw [ac_nP_o (hl (r := 54) (x := (4, 40)) rfl)] at h
    exact ac_nP_st (hB.2.2.2 i a h)
theorem ac_u_row {n : Nat} {x : Option Nat} : ∀ r, r ≠ 54 → ab_u P 54 n x r = P r := fun r h => ab_u_o h
theorem ac_new_st (hB : bz_B S P) {q n : Nat} (h : bz_st S P q) : bz_st (ac_ap S) (ac_new S P n) q := bz_st_row (ac_nP_B hB) ac_u_row (ac_nP_st h)
theorem ac_new_L (hB : bz_B S P) {n : Nat} : bz_st (ac_ap S) (ac_new S P n) S.length := bz_st_row (ac_nP_B hB) ac_u_row ac_nP_L
theorem ac_new_B (hB : bz_B S P) {n : Nat} : bz_B (ac_ap S) (ac_new S P n) := by
  refine bz_B_row (ac_nP_B hB) ac_u_row (fun i a h => ?_)
  unfold ac_new at h
  by_cases e : i = n
  · subst e
    rw [ab_u_at] at h
    cases h
    exact ac_nP_L
  · rw [ab_u_ne e] at h
    exact (ac_nP_B hB).2.2.2 i a h
theorem ac_rot_row : ∀ r, r ≠ 54 → ac_rot P r = P r := fun r h => if_neg h
theorem ac_rot_B (hB : bz_B S P) : bz_B S (ac_rot P) := by
  refine bz_B_row hB ac_rot_row (fun i a h => ?_)
  have h : (if i < 39 then P 54 (i + 1) else if i = 39 then P 54 0 else P 54 i) = some a := h
  split at h
  · exact hB.2.2.2 _ a h
  · split at h
    · exact hB.2.2.2 _ a h
    · exact hB.2.2.2 _ a h
theorem ac_rot_st (hB : bz_B S P) {q : Nat} (h : bz_st S P q) : bz_st S (ac_rot P) q := bz_st_row hB ac_rot_row h
set_option maxRecDepth 100000 in
theorem ac_keep44 {q a k n : Nat} (hk : k ≤ 4) (hn : n ≤ 48) (hB : bz_B S P) (hq : bz_st S P q) (ha : bz_st S P a) (hi : ab_ix (I 53 1) 40 = true) (hp : P 54 (I 53 1).toNatClampNeg = some a) {x : ab_S × ab_I × ab_P} (H : fX0_keep2 q a S I P = some x) (K : Q none x.1 x.2.1 J x.2.2) : ab_WP l G mX0_keep 2 44 [some (.ref 53), some (.ref q)] [] S I J P k n Q := by
  have h53 : S[53]? = some (5, 0) := hB.1 53 _ rfl
  have h54 : S[54]? = some (4, 40) := hB.1 54 _ rfl
  have hp0 := bz_p53 hB
  unfold fX0_keep2 at H
  obtain ⟨u, hu, H⟩ := ab_bd_of H
  obtain rfl := Option.some.inj H
  refine ab_aload_n (z := 0) (by decide +kernel) rfl rfl ?_
  refine bz_gP0_0 (ix := 11) (by decide +kernel) tw_394 h53 hp0 ?_
  refine ab_aload_n (z := 0) (by decide +kernel) rfl rfl ?_
  refine gX0_1 (ix := 17) (by decide +kernel) tw_395 h53 ?_
  refine ab_aald (ln := 40) (a := a) (by decide +kernel) h54 (ab_ix_in hi) hp ?_
  refine ab_aload_n (z := 1) (by decide +kernel) rfl rfl ?_
  refine ab_callV (g := mX6_copyFrom) (ix := 28) (dg := 1) (r := a) (cc := 6) (as := [.ref q]) (st := []) (by decide +kernel) tw_740 tw_654 tw_655 tw_9 tw_656 ⟨by decide +kernel, by decide +kernel, (by decide +kernel : (parseMethodDescriptor mX6_copyFrom.1.desc).map (fun d => d.parameters.length) = some 1)⟩ (by decide) rfl rfl rfl (by decide) hk hn (Nat.le_of_ble_eq_true rfl) ha.1 (mX6_copyFrom_ok hB ha hq hu ?_)
  change ab_WP l G mX0_keep 2 57 [some (.ref 53), some (.ref q)] [] S u J P k n Q
  refine ab_aload_n (z := 0) (by decide +kernel) rfl rfl ?_
  refine ab_dup (by decide +kernel) rfl ?_
  refine gX0_1 (ix := 17) (by decide +kernel) tw_395 h53 ?_
  refine ab_iconst (z := 1) (v := (1 : Int32)) (by decide +kernel) (by decide) ?_
  refine ab_iadd (by decide +kernel) ?_
  refine pX0_1 (ix := 17) (by decide +kernel) tw_395 h53 ?_
  refine ab_aload_n (z := 0) (by decide +kernel) rfl rfl ?_
  refine ab_aload_n (z := 0) (by decide +kernel) rfl rfl ?_
  refine gX0_1 (ix := 17) (by decide +kernel) tw_395 h53 ?_
  refine ab_top (y := u 53 1 + 1) ab_u_at ?_
  refine pX0_2 (ix := 21) (by decide +kernel) tw_397 h53 ?_
  exact ab_vret (by decide +kernel) rfl hk hn K
set_option maxRecDepth 100000 in
theorem ac_keep16 {q : Nat} (hB : bz_B S P) (hZ : bz_Z S.length I J P) (hq : bz_st S P q) {x : ab_S × ab_I × ab_P} (H : fX0_keep1 q S I P = some x) (K : Q none x.1 x.2.1 J x.2.2) : ab_WP l G mX0_keep 2 16 [some (.ref 53), some (.ref q)] [] S I J P 0 0 Q := by
  have h53 : S[53]? = some (5, 0) := hB.1 53 _ rfl
  have h54 : S[54]? = some (4, 40) := hB.1 54 _ rfl
  have hp0 := bz_p53 hB
  unfold fX0_keep1 at H
  obtain ⟨hi, H⟩ := ab_gd_of H
  refine ab_aload_n (z := 0) (by decide +kernel) rfl rfl ?_
  refine bz_gP0_0 (ix := 11) (by decide +kernel) tw_394 h53 hp0 ?_
  refine ab_aload_n (z := 0) (by decide +kernel) rfl rfl ?_
  refine gX0_1 (ix := 17) (by decide +kernel) tw_395 h53 ?_
  cases hp : P 54 (I 53 1).toNatClampNeg with
  | some a =>
    rw [hp] at H
    refine ab_aald (ln := 40) (a := a) (by decide +kernel) h54 (ab_ix_in hi) hp ?_
    refine ab_ifnonnull (off := 19) (tgt := 44) (by decide +kernel) rfl ?_
    exact ac_keep44 (by decide) (by decide) hB hq (hB.2.2.2 _ a hp) hi hp H K
  | none =>
    rw [hp] at H
    have H : fX0_keep2 q S.length (ac_ap S) I (ac_new S P (I 53 1).toNatClampNeg) = some x := H
    refine ab_aaldN (ln := 40) (by decide +kernel) h54 (ab_ix_in hi) hp ?_
    refine ab_ifnonnullN (off := 19) (by decide +kernel) ?_
    refine ab_aload_n (z := 0) (by decide +kernel) rfl rfl ?_
    refine bz_gP0_0 (ix := 11) (by decide +kernel) tw_394 h53 hp0 ?_
    refine ab_aload_n (z := 0) (by decide +kernel) rfl rfl ?_
    refine gX0_1 (ix := 17) (by decide +kernel) tw_395 h53 ?_
    refine bz_new6 (r := S.length) (ix := 9) (by decide +kernel) tw_392 tw_228 tw_9 rfl hZ (by decide) (by decide) ?_
    refine ab_dup (by decide +kernel) rfl ?_
    refine ab_callIN (g := iX6) (host := "BellRingers") (ix := 27) (dg := 1) (r := S.length) (as := []) (st := [.ref S.length, .int (I 53 1), .ref 54]) (by decide +kernel) tn_739 tw_230 tw_9 tw_231 rfl rfl ⟨by decide +kernel, by decide +kernel, (by decide +kernel : (parseMethodDescriptor iX6.1.desc).map (fun d => d.parameters.length) = some 0)⟩ (by decide) rfl (by decide) (by decide) (by decide) (Nat.le_of_ble_eq_true rfl) (iX6_ok (q := S.length) (bz_len rfl) (bz_last rfl) (bz_Z_m hZ (Nat.le_succ _)) ?_)
    have eS : S ++ [(11, 0)] ++ [(0, 6), (0, 6), (0, 30)] = ac_ap S := by rw [List.append_assoc]; rfl
    change ab_WP l G mX0_keep 2 43 [some (.ref 53), some (.ref q)] [.ref S.length, .int (I 53 1), .ref 54] (S ++ [(11, 0)] ++ [(0, 6), (0, 6), (0, 30)]) (ab_u (ab_u (ab_u I S.length 3 0) S.length 4 0) S.length 5 0) J (ac_nP S P) 4 48 Q
    have hz0 := (hZ S.length (Nat.le_refl _)).1
    rw [eS, bz_u0 (I := I) (r := S.length) (k := 3) (by rw [hz0]), bz_u0 (I := I) (r := S.length) (k := 4) (by rw [hz0]), bz_u0 (I := I) (r := S.length) (k := 5) (by rw [hz0])]
    refine ab_aast (ln := 40) (la := 0) (by decide +kernel) (ac_ap_at h54) (ac_nP_L (P := P)).1 (ab_ix_in hi) ?_
    exact ac_keep44 (by decide) (by decide) (ac_new_B hB) (ac_new_st hB hq) (ac_new_L hB) hi (ab_u_at (I := ac_nP S P)) H K
set_option maxRecDepth 100000 in
theorem mX0_keep_ok {q1 : Nat} (hB : bz_B S P) (hZ : bz_Z S.length I J P) (hq1 : bz_st S P q1) {x : ab_S × ab_I × ab_P} (H : fX0_keep q1 S I P = some x) (K0 : Q none x.1 x.2.1 J x.2.2) : ab_Call l G mX0_keep 2 [.ref 53, .ref q1] S I J P Q := by
  have h53 : S[53]? = some (5, 0) := hB.1 53 _ rfl
  have h54 : S[54]? = some (4, 40) := hB.1 54 _ rfl
  have hp0 := bz_p53 hB
  unfold fX0_keep at H
  refine ab_enter rfl (Nat.le_of_ble_eq_true rfl) (ab_wk (ls' := [some (.ref 53), some (.ref q1)]) (ab_le_some (ab_le_some ab_le_nil)) ?_)
  refine ab_aload_n (z := 0) (by decide +kernel) rfl rfl ?_
  refine gX0_1 (ix := 17) (by decide +kernel) tw_395 h53 ?_
  refine ab_aload_n (z := 0) (by decide +kernel) rfl rfl ?_
  refine bz_gP0_0 (ix := 11) (by decide +kernel) tw_394 h53 hp0 ?_
  refine ab_alen (v := (40 : Int32)) (by decide +kernel) h54 (by decide) (by decide) ?_
  refine ab_icmp_lt (off := 7) (tgt := 16) (by decide +kernel) rfl (fun hc => ?_) (fun hc => ?_)
  · replace H := ab_ifp H hc
    exact ac_keep16 hB hZ hq1 H K0
  · replace H := ab_ifn H hc
    obtain ⟨hall, H⟩ := ab_gd_of H
    refine ab_aload_n (z := 0) (by decide +kernel) rfl rfl ?_
    refine bz_kv (g := mX0_dropOldest) (D := 0) (ix := 24) (as := []) (cc := 0) (r := 53) (st := []) rfl (by decide +kernel) tw_735 tw_737 tw_p19 tw_12 tw_738 ⟨by decide +kernel, by decide +kernel, (by decide +kernel : (parseMethodDescriptor mX0_dropOldest.1.desc).map (fun d => d.parameters.length) = some 0)⟩ (by decide) rfl rfl rfl (by decide) (Nat.le_of_ble_eq_true rfl) h53 (mX0_dropOldest_ok hB hall ?_)
    change ab_WP l G mX0_keep 2 16 [some (.ref 53), some (.ref q1)] [] S (ab_u I 53 1 39) J (ac_rot P) 0 0 Q
    refine ac_keep16 (ac_rot_B hB) ?_ (ac_rot_st hB hq1) H K0
    intro r hr
    have hne : r ≠ 54 := fun e => by
      have := bz_lt h54
      omega
    have hn3 : r ≠ 53 := fun e => by
      have := bz_lt h53
      omega
    rw [ab_u_o hn3, ac_rot_row r hne]
    exact hZ r hr
end AK
theorem fX0_keep2_SP {q a : Nat} {S : ab_S} {I : ab_I} {P : ab_P} {x : ab_S × ab_I × ab_P} (H : fX0_keep2 q a S I P = some x) : x.1 = S ∧ x.2.2 = P := by
  unfold fX0_keep2 at H
  obtain ⟨u, hu, H⟩ := ab_bd_of H
  obtain rfl := Option.some.inj H
  exact ⟨rfl, rfl⟩
theorem fX0_keep1_SP {q : Nat} {S : ab_S} {I : ab_I} {P : ab_P} {x : ab_S × ab_I × ab_P} (H : fX0_keep1 q S I P = some x) : (x.1 = S ∧ x.2.2 = P) ∨ (∃ n, x.1 = ac_ap S ∧ x.2.2 = ac_new S P n) := by
  unfold fX0_keep1 at H
  obtain ⟨hi, H⟩ := ab_gd_of H
  split at H
  · exact Or.inl (fX0_keep2_SP H)
  · exact Or.inr ⟨_, fX0_keep2_SP H⟩
theorem fX0_keep1_B {q : Nat} {S : ab_S} {I : ab_I} {P : ab_P} {x : ab_S × ab_I × ab_P} (hB : bz_B S P) (H : fX0_keep1 q S I P = some x) : bz_B x.1 x.2.2 ∧ ∀ q2, bz_st S P q2 → bz_st x.1 x.2.2 q2 := by
  rcases fX0_keep1_SP H with ⟨h1, h2⟩ | ⟨n, h1, h2⟩
  · rw [h1, h2]
    exact ⟨hB, fun _ h => h⟩
  · rw [h1, h2]
    exact ⟨ac_new_B hB, fun _ h => ac_new_st hB h⟩
theorem fX0_keep_BS {q : Nat} {S : ab_S} {I : ab_I} {P : ab_P} {x : ab_S × ab_I × ab_P} (hB : bz_B S P) (H : fX0_keep q S I P = some x) : bz_B x.1 x.2.2 ∧ ∀ q2, bz_st S P q2 → bz_st x.1 x.2.2 q2 := by
  unfold fX0_keep at H
  split at H
  · exact fX0_keep1_B hB H
  · obtain ⟨hall, H⟩ := ab_gd_of H
    have r := fX0_keep1_B (ac_rot_B hB) H
    exact ⟨r.1, fun q2 h => r.2 q2 (ac_rot_st hB h)⟩
theorem fX0_keep_B {q : Nat} {S : ab_S} {I : ab_I} {P : ab_P} {x : ab_S × ab_I × ab_P} (hB : bz_B S P) (_ : bz_st S P q) (H : fX0_keep q S I P = some x) : bz_B x.1 x.2.2 := (fX0_keep_BS hB H).1
theorem fX0_keep_st {q q2 : Nat} {S : ab_S} {I : ab_I} {P : ab_P} {x : ab_S × ab_I × ab_P} (hB : bz_B S P) (H : fX0_keep q S I P = some x) (h : bz_st S P q2) : bz_st x.1 x.2.2 q2 := (fX0_keep_BS hB H).2 q2 h
