abbrev mX11_fault : ab_M := (yX11_fault, cX11_fault, 2, some .int, 0, 0)
def fX11_fault_43 (a1 : Int32) (I : ab_I) (s0 : Int32) : Option Int32 :=
  some s0
set_option maxRecDepth 100000 in
theorem fX11_fault_43_ok {l : Launch} {G : ab_G} {S : ab_S} {I : ab_I} {J : ab_J} {P : ab_P} {Q : ab_Q} {a1 : Int32} {s0 : Int32} (hB : bz_B S P) {x : Int32} (H : fX11_fault_43 a1 I s0 = some x) (K0 : Q (some (.int x)) S I J P) : ab_WP l G mX11_fault 0 43 [some (.ref 0), some (.int a1)] [.int s0] S I J P 0 0 Q := by
  unfold fX11_fault_43 at H
  obtain rfl := Option.some.inj H
  exact ab_iret (by decide +kernel) rfl (Nat.le_refl _) (Nat.le_refl _) K0
def fX11_fault (a1 : Int32) (I : ab_I) : Option Int32 :=
  if a1 = (0 : Int32) then
    fX11_fault_43 a1 I (I 0 13)
  else
    if a1 = (1 : Int32) then
      fX11_fault_43 a1 I (I 0 14)
    else
      fX11_fault_43 a1 I (-1 : Int32)
set_option maxRecDepth 100000 in
theorem mX11_fault_ok {l : Launch} {G : ab_G} {S : ab_S} {I : ab_I} {J : ab_J} {P : ab_P} {Q : ab_Q} {a1 : Int32} (hB : bz_B S P) {x : Int32} (H : fX11_fault a1 I = some x) (K0 : Q (some (.int x)) S I J P) : ab_Call l G mX11_fault 0 [.ref 0, .int a1] S I J P Q := by
  unfold fX11_fault at H
  refine ab_enter rfl (Nat.le_of_ble_eq_true rfl) (ab_wk (ls' := [some (.ref 0), some (.int a1)]) (ab_le_some (ab_le_some (ab_le_nil))) ?_)
  refine ab_iload_n (z := 1) (by decide +kernel) rfl rfl ?_
  by_cases hk0 : a1 = (0 : Int32)
  · replace H := ab_ifp H hk0
    refine ab_lookk (key := (0 : Int32)) (off := 27) (tgt := 28) (dflt := 41) (ps := #[(0, 27), (1, 34)]) (len := 27) hk0 (by decide +kernel) (by decide) (by decide) rfl ?_
    refine ab_aload_n (z := 0) (by decide +kernel) rfl rfl ?_
    refine gX11_13 (ix := 93) (by decide +kernel) tw_421 (hB.1 0 _ rfl) ?_
    refine ab_goto (off := 11) (tgt := 43) (by decide +kernel) rfl ?_
    exact ab_wk (ab_le_some (ab_le_some (ab_le_nil))) (fX11_fault_43_ok hB H  K0)
  replace H := ab_ifn H hk0
  by_cases hk1 : a1 = (1 : Int32)
  · replace H := ab_ifp H hk1
    refine ab_lookk (key := (1 : Int32)) (off := 34) (tgt := 35) (dflt := 41) (ps := #[(0, 27), (1, 34)]) (len := 27) hk1 (by decide +kernel) (by decide) (by decide) rfl ?_
    refine ab_aload_n (z := 0) (by decide +kernel) rfl rfl ?_
    refine gX11_14 (ix := 96) (by decide +kernel) tw_422 (hB.1 0 _ rfl) ?_
    refine ab_goto (off := 4) (tgt := 43) (by decide +kernel) rfl ?_
    exact ab_wk (ab_le_some (ab_le_some (ab_le_nil))) (fX11_fault_43_ok hB H  K0)
  replace H := ab_ifn H hk1
  have KD : ab_WP l G mX11_fault 0 42 [some (.ref 0), some (.int a1)] [] S I J P 0 0 Q := by
    refine ab_iconst (z := -1) (v := (-1 : Int32)) (by decide +kernel) (by decide) ?_
    exact ab_wk (ab_le_some (ab_le_some (ab_le_nil))) (fX11_fault_43_ok hB H  K0)
  refine ab_lookup (dflt := 41) (ps := #[(0, 27), (1, 34)]) (len := 27) (by decide +kernel) (by decide) (off := 41) (tgt := 42) ?_ rfl KD
  show Op.lookupswitch.offset [(0, 27), (1, 34)] _ _ = _
  rw [bz_lk (key := (0 : Int32)) (by decide) hk0, bz_lk (key := (1 : Int32)) (by decide) hk1, Op.lookupswitch.offset_nil]
abbrev mX9_isPerson : ab_M := (yX9_isPerson, cX9_isPerson, 2, some .boolean, 0, 0)
theorem kvX9_isPerson {l : Launch} {G : ab_G} {M : ab_M} {d pc : Nat} {ls : List (Option Value)} {st : List Value} {S : ab_S} {I : ab_I} {J : ab_J} {P : ab_P} {Q : ab_Q} {v0 : Value} {ix D r ln : Nat} (hd : decode M.2.1 pc = .ok (.invokevirtual ix, 3)) (h1 : Cond.methodLink M.1.cls ix mX9_isPerson.1 ∈ ab_good) (hs : S[r]? = some (14, ln)) (hdg : D + 1 ≤ d) (hsum : (st.map fun v => v.category).sum ≤ 8) (kk : ab_Call l G mX9_isPerson D (.ref r :: [v0]) S I J P (fun v S' I' J' P' => ab_WP l G M d (pc + 3) ls (ab_psh v st) S' I' J' P' 0 0 Q)) : ab_WP l G M d pc ls (v0 :: .ref r :: st) S I J P 0 0 Q := bz_kv (g := mX9_isPerson) (as := [v0]) (cc := 9) rfl hd h1 tw_637 tw_638 tw_3 tw_639 ⟨by decide +kernel, by decide +kernel, (by decide +kernel : (parseMethodDescriptor mX9_isPerson.1.desc).map (fun d => d.parameters.length) = some 1)⟩ (by decide) rfl rfl rfl hdg hsum hs kk
def fX9_isPerson_17 (a1 : Int32) (I : ab_I) (s0 : Int32) : Option Int32 :=
  ab_gd (s0 = 0 ∨ s0 = 1) (some s0)
set_option maxRecDepth 100000 in
theorem fX9_isPerson_17_ok {l : Launch} {G : ab_G} {S : ab_S} {I : ab_I} {J : ab_J} {P : ab_P} {Q : ab_Q} {a1 : Int32} {s0 : Int32} (hB : bz_B S P) {x : Int32} (H : fX9_isPerson_17 a1 I s0 = some x) (K0 : Q (some (.int x)) S I J P) : ab_WP l G mX9_isPerson 0 17 [some (.ref 3), some (.int a1)] [.int s0] S I J P 0 0 Q := by
  unfold fX9_isPerson_17 at H
  obtain ⟨hg, H⟩ := ab_gd_of H
  obtain rfl := Option.some.inj H
  exact ab_zret (by decide +kernel) rfl (Nat.le_refl _) (Nat.le_refl _) hg K0
def fX9_isPerson_16 (a1 : Int32) (I : ab_I) : Option Int32 :=
  fX9_isPerson_17 a1 I (0 : Int32)
set_option maxRecDepth 100000 in
theorem fX9_isPerson_16_ok {l : Launch} {G : ab_G} {S : ab_S} {I : ab_I} {J : ab_J} {P : ab_P} {Q : ab_Q} {a1 : Int32} (hB : bz_B S P) {x : Int32} (H : fX9_isPerson_16 a1 I = some x) (K0 : Q (some (.int x)) S I J P) : ab_WP l G mX9_isPerson 0 16 [some (.ref 3), some (.int a1)] [] S I J P 0 0 Q := by
  unfold fX9_isPerson_16 at H
  refine ab_iconst (z := 0) (v := (0 : Int32)) (by decide +kernel) (by decide) ?_
  exact ab_wk (ab_le_some (ab_le_some (ab_le_nil))) (fX9_isPerson_17_ok hB H  K0)
def fX9_isPerson (a1 : Int32) (I : ab_I) : Option Int32 :=
  if a1 < 0 then
    fX9_isPerson_16 a1 I
  else
    if (I 3 4) ≤ a1 then
      fX9_isPerson_16 a1 I
    else
      fX9_isPerson_17 a1 I (1 : Int32)
set_option maxRecDepth 100000 in
theorem mX9_isPerson_ok {l : Launch} {G : ab_G} {S : ab_S} {I : ab_I} {J : ab_J} {P : ab_P} {Q : ab_Q} {a1 : Int32} (hB : bz_B S P) {x : Int32} (H : fX9_isPerson a1 I = some x) (K0 : Q (some (.int x)) S I J P) : ab_Call l G mX9_isPerson 0 [.ref 3, .int a1] S I J P Q := by
  unfold fX9_isPerson at H
  refine ab_enter rfl (Nat.le_of_ble_eq_true rfl) (ab_wk (ls' := [some (.ref 3), some (.int a1)]) (ab_le_some (ab_le_some (ab_le_nil))) ?_)
  refine ab_iload_n (z := 1) (by decide +kernel) rfl rfl ?_
  refine ab_if_lt (off := 15) (tgt := 16) (by decide +kernel) rfl (fun hc => ?_) (fun hc => ?_)
  · replace H := ab_ifp H hc
    exact ab_wk (ab_le_some (ab_le_some (ab_le_nil))) (fX9_isPerson_16_ok hB H  K0)
  · replace H := ab_ifn H hc
    refine ab_iload_n (z := 1) (by decide +kernel) rfl rfl ?_
    refine ab_aload_n (z := 0) (by decide +kernel) rfl rfl ?_
    refine gX9_4 (ix := 28) (by decide +kernel) tw_85 (hB.1 3 _ rfl) ?_
    refine ab_icmp_ge (off := 7) (tgt := 16) (by decide +kernel) rfl (fun hc => ?_) (fun hc => ?_)
    · replace H := ab_ifp H hc
      exact ab_wk (ab_le_some (ab_le_some (ab_le_nil))) (fX9_isPerson_16_ok hB H  K0)
    · replace H := ab_ifn H hc
      refine ab_iconst (z := 1) (v := (1 : Int32)) (by decide +kernel) (by decide) ?_
      refine ab_goto (off := 4) (tgt := 17) (by decide +kernel) rfl ?_
      exact ab_wk (ab_le_some (ab_le_some (ab_le_nil))) (fX9_isPerson_17_ok hB H  K0)
abbrev mX6_fears : ab_M := (yX6_fears, cX6_fears, 4, some .int, 0, 0)
theorem kvX6_fears {l : Launch} {G : ab_G} {M : ab_M} {d pc : Nat} {ls : List (Option Value)} {st : List Value} {S : ab_S} {I : ab_I} {J : ab_J} {P : ab_P} {Q : ab_Q} {v0 : Value} {ix D r ln : Nat} (hd : decode M.2.1 pc = .ok (.invokevirtual ix, 3)) (h1 : Cond.methodLink M.1.cls ix mX6_fears.1 ∈ ab_good) (hs : S[r]? = some (11, ln)) (hdg : D + 1 ≤ d) (hsum : (st.map fun v => v.category).sum ≤ 8) (kk : ab_Call l G mX6_fears D (.ref r :: [v0]) S I J P (fun v S' I' J' P' => ab_WP l G M d (pc + 3) ls (ab_psh v st) S' I' J' P' 0 0 Q)) : ab_WP l G M d pc ls (v0 :: .ref r :: st) S I J P 0 0 Q := bz_kv (g := mX6_fears) (as := [v0]) (cc := 6) rfl hd h1 tw_641 tw_642 tw_9 tw_643 ⟨by decide +kernel, by decide +kernel, (by decide +kernel : (parseMethodDescriptor mX6_fears.1.desc).map (fun d => d.parameters.length) = some 1)⟩ (by decide) rfl rfl rfl hdg hsum hs kk
def fX6_fears_34 (q0 : Nat) (a1 : Int32) (I : ab_I) (a2 : Int32) : Option Int32 :=
  some a2
set_option maxRecDepth 100000 in
theorem fX6_fears_34_ok {l : Launch} {G : ab_G} {S : ab_S} {I : ab_I} {J : ab_J} {P : ab_P} {Q : ab_Q} {q0 : Nat} {a1 : Int32} {a2 : Int32} (hB : bz_B S P) (hq0 : bz_st S P q0) {x : Int32} (H : fX6_fears_34 q0 a1 I a2 = some x) (K0 : Q (some (.int x)) S I J P) : ab_WP l G mX6_fears 1 34 [some (.ref q0), some (.int a1), some (.int a2), none] [] S I J P 0 0 Q := by
  unfold fX6_fears_34 at H
  refine ab_iload_n (z := 2) (by decide +kernel) rfl rfl ?_
  obtain rfl := Option.some.inj H
  exact ab_iret (by decide +kernel) rfl (Nat.le_refl _) (Nat.le_refl _) K0
def fX6_fears_28 (q0 : Nat) (a1 : Int32) (I : ab_I) (a2 : Int32) (a3 : Int32) : Option ((Int32 × Int32) ⊕ Int32) :=
  some (.inl (a2, (a3 + (1 : Int32))))
set_option maxRecDepth 100000 in
theorem fX6_fears_28_ok {l : Launch} {G : ab_G} {S : ab_S} {I : ab_I} {J : ab_J} {P : ab_P} {Q : ab_Q} {q0 : Nat} {a1 : Int32} {a2 : Int32} {a3 : Int32} (hB : bz_B S P) (hq0 : bz_st S P q0) {x : ((Int32 × Int32) ⊕ Int32)} (H : fX6_fears_28 q0 a1 I a2 a3 = some x) (K1 : ∀ s, x = (.inl s) → ab_WP l G mX6_fears 1 4 [some (.ref q0), some (.int a1), some (.int s.1), some (.int s.2)] [] S I J P 0 0 Q) (K0 : ∀ r, x = (.inr r) → Q (some (.int r)) S I J P) : ab_WP l G mX6_fears 1 28 [some (.ref q0), some (.int a1), some (.int a2), some (.int a3)] [] S I J P 0 0 Q := by
  unfold fX6_fears_28 at H
  refine ab_iinc (i := 3) (z := 1) (v := (a3 + (1 : Int32))) (by decide +kernel) rfl rfl (by decide) rfl ?_
  refine ab_ls (ls' := [some (.ref q0), some (.int a1), some (.int a2), some (.int (a3 + (1 : Int32)))]) rfl ?_
  refine ab_goto (off := -27) (tgt := 4) (by decide +kernel) rfl ?_
  exact ab_wk (ab_le_some (ab_le_some (ab_le_some (ab_le_some (ab_le_nil))))) (K1 (a2, (a3 + (1 : Int32))) (Option.some.inj H).symm)
def fX6_fears_4 (q0 : Nat) (a1 : Int32) (I : ab_I) (a2 : Int32) (a3 : Int32) : Option ((Int32 × Int32) ⊕ Int32) :=
  if (5 : Int32) ≤ a3 then
    (fX6_fears_34 q0 a1 I a2).map .inr
  else
    (fX11_cell a1 a3).bind fun u2 =>
    ab_gd (ab_ix u2 30 = true) (
      if (I (q0 + 3) u2.toNatClampNeg) ≤ 0 then
        fX6_fears_28 q0 a1 I a2 a3
      else
        fX6_fears_28 q0 a1 I (a2 ||| ((1 : Int32) <<< (a3 &&& 31))) a3
    )
set_option maxRecDepth 100000 in
theorem fX6_fears_4_ok {l : Launch} {G : ab_G} {S : ab_S} {I : ab_I} {J : ab_J} {P : ab_P} {Q : ab_Q} {q0 : Nat} {a1 : Int32} {a2 : Int32} {a3 : Int32} (hB : bz_B S P) (hq0 : bz_st S P q0) {x : ((Int32 × Int32) ⊕ Int32)} (H : fX6_fears_4 q0 a1 I a2 a3 = some x) (K1 : ∀ s, x = (.inl s) → ab_WP l G mX6_fears 1 4 [some (.ref q0), some (.int a1), some (.int s.1), some (.int s.2)] [] S I J P 0 0 Q) (K0 : ∀ r, x = (.inr r) → Q (some (.int r)) S I J P) : ab_WP l G mX6_fears 1 4 [some (.ref q0), some (.int a1), some (.int a2), some (.int a3)] [] S I J P 0 0 Q := by
  unfold fX6_fears_4 at H
  refine ab_iload_n (z := 3) (by decide +kernel) rfl rfl ?_
  refine ab_iconst (z := 5) (v := (5 : Int32)) (by decide +kernel) (by decide) ?_
  refine ab_icmp_ge (off := 28) (tgt := 34) (by decide +kernel) rfl (fun hc => ?_) (fun hc => ?_)
  · replace H := ab_ifp H hc
    obtain ⟨y1, Hy, hx⟩ := ab_mp_of H
    subst hx
    replace H := Hy
    exact ab_wk (ab_le_some (ab_le_some (ab_le_some (ab_le_none (ab_le_nil))))) (fX6_fears_34_ok hB hq0 H  (K0 _ rfl))
  · replace H := ab_ifn H hc
    refine ab_aload_n (z := 0) (by decide +kernel) rfl rfl ?_
    refine gX6_2 (ix := 18) (by decide +kernel) tw_245 hq0.1 hq0.2.2.2.2.2.2 ?_
    refine ab_iload_n (z := 1) (by decide +kernel) rfl rfl ?_
    refine ab_iload_n (z := 3) (by decide +kernel) rfl rfl ?_
    obtain ⟨u2, hu2, H⟩ := ab_bd_of H
    refine knX11_cell (D := 0) (ix := 37) (host := "BellRingers") (by decide +kernel) tn_644 (by decide) (Nat.le_of_ble_eq_true rfl) (mX11_cell_ok hB hu2 ?_)
    change ab_WP l G mX6_fears 1 18 [some (.ref q0), some (.int a1), some (.int a2), some (.int a3)] [.int u2, .ref (q0 + 3)] S I J P 0 0 Q
    obtain ⟨hg, H⟩ := ab_gd_of H
    refine ab_iald (ln := 30) (by decide +kernel) hq0.2.2.2.1 (ab_ix_in hg) ?_
    refine ab_if_le (off := 9) (tgt := 28) (by decide +kernel) rfl (fun hc => ?_) (fun hc => ?_)
    · replace H := ab_ifp H hc
      exact ab_wk (ab_le_some (ab_le_some (ab_le_some (ab_le_some (ab_le_nil))))) (fX6_fears_28_ok hB hq0 H K1 K0)
    · replace H := ab_ifn H hc
      refine ab_iload_n (z := 2) (by decide +kernel) rfl rfl ?_
      refine ab_iconst (z := 1) (v := (1 : Int32)) (by decide +kernel) (by decide) ?_
      refine ab_iload_n (z := 3) (by decide +kernel) rfl rfl ?_
      refine ab_ishl (by decide +kernel) ?_
      refine ab_ior (by decide +kernel) ?_
      refine ab_istore_n (z := 2) (by decide +kernel) rfl (by decide) rfl ?_
      refine ab_ls (ls' := [some (.ref q0), some (.int a1), some (.int (a2 ||| ((1 : Int32) <<< (a3 &&& 31)))), some (.int a3)]) rfl ?_
      exact ab_wk (ab_le_some (ab_le_some (ab_le_some (ab_le_some (ab_le_nil))))) (fX6_fears_28_ok hB hq0 H K1 K0)
def fX6_fears (q0 : Nat) (a1 : Int32) (I : ab_I) : Option Int32 :=
  ab_it (fun s => fX6_fears_4 q0 a1 I s.1 s.2) 5000 ((0 : Int32), (0 : Int32))
set_option maxRecDepth 100000 in
theorem mX6_fears_ok {l : Launch} {G : ab_G} {S : ab_S} {I : ab_I} {J : ab_J} {P : ab_P} {Q : ab_Q} {q0 : Nat} {a1 : Int32} (hB : bz_B S P) (hq0 : bz_st S P q0) {x : Int32} (H : fX6_fears q0 a1 I = some x) (K0 : Q (some (.int x)) S I J P) : ab_Call l G mX6_fears 1 [.ref q0, .int a1] S I J P Q := by
  unfold fX6_fears at H
  refine ab_enter rfl (Nat.le_of_ble_eq_true rfl) (ab_wk (ls' := [some (.ref q0), some (.int a1), none, none]) (ab_le_some (ab_le_some (ab_le_non0 (ab_le_non0 ab_le_nil)))) ?_)
  refine ab_iconst (z := 0) (v := (0 : Int32)) (by decide +kernel) (by decide) ?_
  refine ab_istore_n (z := 2) (by decide +kernel) rfl (by decide) rfl ?_
  refine ab_ls (ls' := [some (.ref q0), some (.int a1), some (.int (0 : Int32)), none]) rfl ?_
  refine ab_iconst (z := 0) (v := (0 : Int32)) (by decide +kernel) (by decide) ?_
  refine ab_istore_n (z := 3) (by decide +kernel) rfl (by decide) rfl ?_
  refine ab_ls (ls' := [some (.ref q0), some (.int a1), some (.int (0 : Int32)), some (.int (0 : Int32))]) rfl ?_
  exact ab_wk (ab_le_some (ab_le_some (ab_le_some (ab_le_some (ab_le_nil))))) (ab_iter (W := fun s => ab_WP l G mX6_fears 1 4 [some (.ref q0), some (.int a1), some (.int s.1), some (.int s.2)] [] S I J P 0 0 Q) (fun s y hb h1 h2 => fX6_fears_4_ok hB hq0 hb h1 (fun r e => by have e2 := h2 _ e; subst e2; exact K0)) 5000 ((0 : Int32), (0 : Int32)) H)
abbrev mX6_copyFrom : ab_M := (yX6_copyFrom, cX6_copyFrom, 2, none, 0, 0)
theorem kvX6_copyFrom {l : Launch} {G : ab_G} {M : ab_M} {d pc : Nat} {ls : List (Option Value)} {st : List Value} {S : ab_S} {I : ab_I} {J : ab_J} {P : ab_P} {Q : ab_Q} {v0 : Value} {ix D r ln : Nat} (hd : decode M.2.1 pc = .ok (.invokevirtual ix, 3)) (h1 : Cond.methodLink M.1.cls ix mX6_copyFrom.1 ∈ ab_good) (hs : S[r]? = some (11, ln)) (hdg : D + 1 ≤ d) (hsum : (st.map fun v => v.category).sum ≤ 8) (kk : ab_Call l G mX6_copyFrom D (.ref r :: [v0]) S I J P (fun v S' I' J' P' => ab_WP l G M d (pc + 3) ls (ab_psh v st) S' I' J' P' 0 0 Q)) : ab_WP l G M d pc ls (v0 :: .ref r :: st) S I J P 0 0 Q := bz_kv (g := mX6_copyFrom) (as := [v0]) (cc := 6) rfl hd h1 tw_654 tw_655 tw_9 tw_656 ⟨by decide +kernel, by decide +kernel, (by decide +kernel : (parseMethodDescriptor mX6_copyFrom.1.desc).map (fun d => d.parameters.length) = some 1)⟩ (by decide) rfl rfl rfl hdg hsum hs kk
def fX6_copyFrom (q0 : Nat) (q1 : Nat) (I : ab_I) : Option ab_I :=
  some (ab_u (ab_u (ab_u (ab_r (ab_r (ab_r I (q0 + 1) (va_cpy (I (q1 + 1)) (I (q0 + 1)) (0 : Int32).toNatClampNeg (0 : Int32).toNatClampNeg (6 : Int32).toNatClampNeg)) (q0 + 2) (va_cpy ((ab_r I (q0 + 1) (va_cpy (I (q1 + 1)) (I (q0 + 1)) (0 : Int32).toNatClampNeg (0 : Int32).toNatClampNeg (6 : Int32).toNatClampNeg)) (q1 + 2)) ((ab_r I (q0 + 1) (va_cpy (I (q1 + 1)) (I (q0 + 1)) (0 : Int32).toNatClampNeg (0 : Int32).toNatClampNeg (6 : Int32).toNatClampNeg)) (q0 + 2)) (0 : Int32).toNatClampNeg (0 : Int32).toNatClampNeg (6 : Int32).toNatClampNeg)) (q0 + 3) (va_cpy ((ab_r (ab_r I (q0 + 1) (va_cpy (I (q1 + 1)) (I (q0 + 1)) (0 : Int32).toNatClampNeg (0 : Int32).toNatClampNeg (6 : Int32).toNatClampNeg)) (q0 + 2) (va_cpy ((ab_r I (q0 + 1) (va_cpy (I (q1 + 1)) (I (q0 + 1)) (0 : Int32).toNatClampNeg (0 : Int32).toNatClampNeg (6 : Int32).toNatClampNeg)) (q1 + 2)) ((ab_r I (q0 + 1) (va_cpy (I (q1 + 1)) (I (q0 + 1)) (0 : Int32).toNatClampNeg (0 : Int32).toNatClampNeg (6 : Int32).toNatClampNeg)) (q0 + 2)) (0 : Int32).toNatClampNeg (0 : Int32).toNatClampNeg (6 : Int32).toNatClampNeg)) (q1 + 3)) ((ab_r (ab_r I (q0 + 1) (va_cpy (I (q1 + 1)) (I (q0 + 1)) (0 : Int32).toNatClampNeg (0 : Int32).toNatClampNeg (6 : Int32).toNatClampNeg)) (q0 + 2) (va_cpy ((ab_r I (q0 + 1) (va_cpy (I (q1 + 1)) (I (q0 + 1)) (0 : Int32).toNatClampNeg (0 : Int32).toNatClampNeg (6 : Int32).toNatClampNeg)) (q1 + 2)) ((ab_r I (q0 + 1) (va_cpy (I (q1 + 1)) (I (q0 + 1)) (0 : Int32).toNatClampNeg (0 : Int32).toNatClampNeg (6 : Int32).toNatClampNeg)) (q0 + 2)) (0 : Int32).toNatClampNeg (0 : Int32).toNatClampNeg (6 : Int32).toNatClampNeg)) (q0 + 3)) (0 : Int32).toNatClampNeg (0 : Int32).toNatClampNeg (30 : Int32).toNatClampNeg)) q0 3 ((ab_r (ab_r (ab_r I (q0 + 1) (va_cpy (I (q1 + 1)) (I (q0 + 1)) (0 : Int32).toNatClampNeg (0 : Int32).toNatClampNeg (6 : Int32).toNatClampNeg)) (q0 + 2) (va_cpy ((ab_r I (q0 + 1) (va_cpy (I (q1 + 1)) (I (q0 + 1)) (0 : Int32).toNatClampNeg (0 : Int32).toNatClampNeg (6 : Int32).toNatClampNeg)) (q1 + 2)) ((ab_r I (q0 + 1) (va_cpy (I (q1 + 1)) (I (q0 + 1)) (0 : Int32).toNatClampNeg (0 : Int32).toNatClampNeg (6 : Int32).toNatClampNeg)) (q0 + 2)) (0 : Int32).toNatClampNeg (0 : Int32).toNatClampNeg (6 : Int32).toNatClampNeg)) (q0 + 3) (va_cpy ((ab_r (ab_r I (q0 + 1) (va_cpy (I (q1 + 1)) (I (q0 + 1)) (0 : Int32).toNatClampNeg (0 : Int32).toNatClampNeg (6 : Int32).toNatClampNeg)) (q0 + 2) (va_cpy ((ab_r I (q0 + 1) (va_cpy (I (q1 + 1)) (I (q0 + 1)) (0 : Int32).toNatClampNeg (0 : Int32).toNatClampNeg (6 : Int32).toNatClampNeg)) (q1 + 2)) ((ab_r I (q0 + 1) (va_cpy (I (q1 + 1)) (I (q0 + 1)) (0 : Int32).toNatClampNeg (0 : Int32).toNatClampNeg (6 : Int32).toNatClampNeg)) (q0 + 2)) (0 : Int32).toNatClampNeg (0 : Int32).toNatClampNeg (6 : Int32).toNatClampNeg)) (q1 + 3)) ((ab_r (ab_r I (q0 + 1) (va_cpy (I (q1 + 1)) (I (q0 + 1)) (0 : Int32).toNatClampNeg (0 : Int32).toNatClampNeg (6 : Int32).toNatClampNeg)) (q0 + 2) (va_cpy ((ab_r I (q0 + 1) (va_cpy (I (q1 + 1)) (I (q0 + 1)) (0 : Int32).toNatClampNeg (0 : Int32).toNatClampNeg (6 : Int32).toNatClampNeg)) (q1 + 2)) ((ab_r I (q0 + 1) (va_cpy (I (q1 + 1)) (I (q0 + 1)) (0 : Int32).toNatClampNeg (0 : Int32).toNatClampNeg (6 : Int32).toNatClampNeg)) (q0 + 2)) (0 : Int32).toNatClampNeg (0 : Int32).toNatClampNeg (6 : Int32).toNatClampNeg)) (q0 + 3)) (0 : Int32).toNatClampNeg (0 : Int32).toNatClampNeg (30 : Int32).toNatClampNeg)) q1 3)) q0 4 ((ab_u (ab_r (ab_r (ab_r I (q0 + 1) (va_cpy (I (q1 + 1)) (I (q0 + 1)) (0 : Int32).toNatClampNeg (0 : Int32).toNatClampNeg (6 : Int32).toNatClampNeg)) (q0 + 2) (va_cpy ((ab_r I (q0 + 1) (va_cpy (I (q1 + 1)) (I (q0 + 1)) (0 : Int32).toNatClampNeg (0 : Int32).toNatClampNeg (6 : Int32).toNatClampNeg)) (q1 + 2)) ((ab_r I (q0 + 1) (va_cpy (I (q1 + 1)) (I (q0 + 1)) (0 : Int32).toNatClampNeg (0 : Int32).toNatClampNeg (6 : Int32).toNatClampNeg)) (q0 + 2)) (0 : Int32).toNatClampNeg (0 : Int32).toNatClampNeg (6 : Int32).toNatClampNeg)) (q0 + 3) (va_cpy ((ab_r (ab_r I (q0 + 1) (va_cpy (I (q1 + 1)) (I (q0 + 1)) (0 : Int32).toNatClampNeg (0 : Int32).toNatClampNeg (6 : Int32).toNatClampNeg)) (q0 + 2) (va_cpy ((ab_r I (q0 + 1) (va_cpy (I (q1 + 1)) (I (q0 + 1)) (0 : Int32).toNatClampNeg (0 : Int32).toNatClampNeg (6 : Int32).toNatClampNeg)) (q1 + 2)) ((ab_r I (q0 + 1) (va_cpy (I (q1 + 1)) (I (q0 + 1)) (0 : Int32).toNatClampNeg (0 : Int32).toNatClampNeg (6 : Int32).toNatClampNeg)) (q0 + 2)) (0 : Int32).toNatClampNeg (0 : Int32).toNatClampNeg (6 : Int32).toNatClampNeg)) (q1 + 3)) ((ab_r (ab_r I (q0 + 1) (va_cpy (I (q1 + 1)) (I (q0 + 1)) (0 : Int32).toNatClampNeg (0 : Int32).toNatClampNeg (6 : Int32).toNatClampNeg)) (q0 + 2) (va_cpy ((ab_r I (q0 + 1) (va_cpy (I (q1 + 1)) (I (q0 + 1)) (0 : Int32).toNatClampNeg (0 : Int32).toNatClampNeg (6 : Int32).toNatClampNeg)) (q1 + 2)) ((ab_r I (q0 + 1) (va_cpy (I (q1 + 1)) (I (q0 + 1)) (0 : Int32).toNatClampNeg (0 : Int32).toNatClampNeg (6 : Int32).toNatClampNeg)) (q0 + 2)) (0 : Int32).toNatClampNeg (0 : Int32).toNatClampNeg (6 : Int32).toNatClampNeg)) (q0 + 3)) (0 : Int32).toNatClampNeg (0 : Int32).toNatClampNeg (30 : Int32).toNatClampNeg)) q0 3 ((ab_r (ab_r (ab_r I (q0 + 1) (va_cpy (I (q1 + 1)) (I (q0 + 1)) (0 : Int32).toNatClampNeg (0 : Int32).toNatClampNeg (6 : Int32).toNatClampNeg)) (q0 + 2) (va_cpy ((ab_r I (q0 + 1) (va_cpy (I (q1 + 1)) (I (q0 + 1)) (0 : Int32).toNatClampNeg (0 : Int32).toNatClampNeg (6 : Int32).toNatClampNeg)) (q1 + 2)) ((ab_r I (q0 + 1) (va_cpy (I (q1 + 1)) (I (q0 + 1)) (0 : Int32).toNatClampNeg (0 : Int32).toNatClampNeg (6 : Int32).toNatClampNeg)) (q0 + 2)) (0 : Int32).toNatClampNeg (0 : Int32).toNatClampNeg (6 : Int32).toNatClampNeg)) (q0 + 3) (va_cpy ((ab_r (ab_r I (q0 + 1) (va_cpy (I (q1 + 1)) (I (q0 + 1)) (0 : Int32).toNatClampNeg (0 : Int32).toNatClampNeg (6 : Int32).toNatClampNeg)) (q0 + 2) (va_cpy ((ab_r I (q0 + 1) (va_cpy (I (q1 + 1)) (I (q0 + 1)) (0 : Int32).toNatClampNeg (0 : Int32).toNatClampNeg (6 : Int32).toNatClampNeg)) (q1 + 2)) ((ab_r I (q0 + 1) (va_cpy (I (q1 + 1)) (I (q0 + 1)) (0 : Int32).toNatClampNeg (0 : Int32).toNatClampNeg (6 : Int32).toNatClampNeg)) (q0 + 2)) (0 : Int32).toNatClampNeg (0 : Int32).toNatClampNeg (6 : Int32).toNatClampNeg)) (q1 + 3)) ((ab_r (ab_r I (q0 + 1) (va_cpy (I (q1 + 1)) (I (q0 + 1)) (0 : Int32).toNatClampNeg (0 : Int32).toNatClampNeg (6 : Int32).toNatClampNeg)) (q0 + 2) (va_cpy ((ab_r I (q0 + 1) (va_cpy (I (q1 + 1)) (I (q0 + 1)) (0 : Int32).toNatClampNeg (0 : Int32).toNatClampNeg (6 : Int32).toNatClampNeg)) (q1 + 2)) ((ab_r I (q0 + 1) (va_cpy (I (q1 + 1)) (I (q0 + 1)) (0 : Int32).toNatClampNeg (0 : Int32).toNatClampNeg (6 : Int32).toNatClampNeg)) (q0 + 2)) (0 : Int32).toNatClampNeg (0 : Int32).toNatClampNeg (6 : Int32).toNatClampNeg)) (q0 + 3)) (0 : Int32).toNatClampNeg (0 : Int32).toNatClampNeg (30 : Int32).toNatClampNeg)) q1 3)) q1 4)) q0 5 ((ab_u (ab_u (ab_r (ab_r (ab_r I (q0 + 1) (va_cpy (I (q1 + 1)) (I (q0 + 1)) (0 : Int32).toNatClampNeg (0 : Int32).toNatClampNeg (6 : Int32).toNatClampNeg)) (q0 + 2) (va_cpy ((ab_r I (q0 + 1) (va_cpy (I (q1 + 1)) (I (q0 + 1)) (0 : Int32).toNatClampNeg (0 : Int32).toNatClampNeg (6 : Int32).toNatClampNeg)) (q1 + 2)) ((ab_r I (q0 + 1) (va_cpy (I (q1 + 1)) (I (q0 + 1)) (0 : Int32).toNatClampNeg (0 : Int32).toNatClampNeg (6 : Int32).toNatClampNeg)) (q0 + 2)) (0 : Int32).toNatClampNeg (0 : Int32).toNatClampNeg (6 : Int32).toNatClampNeg)) (q0 + 3) (va_cpy ((ab_r (ab_r I (q0 + 1) (va_cpy (I (q1 + 1)) (I (q0 + 1)) (0 : Int32).toNatClampNeg (0 : Int32).toNatClampNeg (6 : Int32).toNatClampNeg)) (q0 + 2) (va_cpy ((ab_r I (q0 + 1) (va_cpy (I (q1 + 1)) (I (q0 + 1)) (0 : Int32).toNatClampNeg (0 : Int32).toNatClampNeg (6 : Int32).toNatClampNeg)) (q1 + 2)) ((ab_r I (q0 + 1) (va_cpy (I (q1 + 1)) (I (q0 + 1)) (0 : Int32).toNatClampNeg (0 : Int32).toNatClampNeg (6 : Int32).toNatClampNeg)) (q0 + 2)) (0 : Int32).toNatClampNeg (0 : Int32).toNatClampNeg (6 : Int32).toNatClampNeg)) (q1 + 3)) ((ab_r (ab_r I (q0 + 1) (va_cpy (I (q1 + 1)) (I (q0 + 1)) (0 : Int32).toNatClampNeg (0 : Int32).toNatClampNeg (6 : Int32).toNatClampNeg)) (q0 + 2) (va_cpy ((ab_r I (q0 + 1) (va_cpy (I (q1 + 1)) (I (q0 + 1)) (0 : Int32).toNatClampNeg (0 : Int32).toNatClampNeg (6 : Int32).toNatClampNeg)) (q1 + 2)) ((ab_r I (q0 + 1) (va_cpy (I (q1 + 1)) (I (q0 + 1)) (0 : Int32).toNatClampNeg (0 : Int32).toNatClampNeg (6 : Int32).toNatClampNeg)) (q0 + 2)) (0 : Int32).toNatClampNeg (0 : Int32).toNatClampNeg (6 : Int32).toNatClampNeg)) (q0 + 3)) (0 : Int32).toNatClampNeg (0 : Int32).toNatClampNeg (30 : Int32).toNatClampNeg)) q0 3 ((ab_r (ab_r (ab_r I (q0 + 1) (va_cpy (I (q1 + 1)) (I (q0 + 1)) (0 : Int32).toNatClampNeg (0 : Int32).toNatClampNeg (6 : Int32).toNatClampNeg)) (q0 + 2) (va_cpy ((ab_r I (q0 + 1) (va_cpy (I (q1 + 1)) (I (q0 + 1)) (0 : Int32).toNatClampNeg (0 : Int32).toNatClampNeg (6 : Int32).toNatClampNeg)) (q1 + 2)) ((ab_r I (q0 + 1) (va_cpy (I (q1 + 1)) (I (q0 + 1)) (0 : Int32).toNatClampNeg (0 : Int32).toNatClampNeg (6 : Int32).toNatClampNeg)) (q0 + 2)) (0 : Int32).toNatClampNeg (0 : Int32).toNatClampNeg (6 : Int32).toNatClampNeg)) (q0 + 3) (va_cpy ((ab_r (ab_r I (q0 + 1) (va_cpy (I (q1 + 1)) (I (q0 + 1)) (0 : Int32).toNatClampNeg (0 : Int32).toNatClampNeg (6 : Int32).toNatClampNeg)) (q0 + 2) (va_cpy ((ab_r I (q0 + 1) (va_cpy (I (q1 + 1)) (I (q0 + 1)) (0 : Int32).toNatClampNeg (0 : Int32).toNatClampNeg (6 : Int32).toNatClampNeg)) (q1 + 2)) ((ab_r I (q0 + 1) (va_cpy (I (q1 + 1)) (I (q0 + 1)) (0 : Int32).toNatClampNeg (0 : Int32).toNatClampNeg (6 : Int32).toNatClampNeg)) (q0 + 2)) (0 : Int32).toNatClampNeg (0 : Int32).toNatClampNeg (6 : Int32).toNatClampNeg)) (q1 + 3)) ((ab_r (ab_r I (q0 + 1) (va_cpy (I (q1 + 1)) (I (q0 + 1)) (0 : Int32).toNatClampNeg (0 : Int32).toNatClampNeg (6 : Int32).toNatClampNeg)) (q0 + 2) (va_cpy ((ab_r I (q0 + 1) (va_cpy (I (q1 + 1)) (I (q0 + 1)) (0 : Int32).toNatClampNeg (0 : Int32).toNatClampNeg (6 : Int32).toNatClampNeg)) (q1 + 2)) ((ab_r I (q0 + 1) (va_cpy (I (q1 + 1)) (I (q0 + 1)) (0 : Int32).toNatClampNeg (0 : Int32).toNatClampNeg (6 : Int32).toNatClampNeg)) (q0 + 2)) (0 : Int32).toNatClampNeg (0 : Int32).toNatClampNeg (6 : Int32).toNatClampNeg)) (q0 + 3)) (0 : Int32).toNatClampNeg (0 : Int32).toNatClampNeg (30 : Int32).toNatClampNeg)) q1 3)) q0 4 ((ab_u (ab_r (ab_r (ab_r I (q0 + 1) (va_cpy (I (q1 + 1)) (I (q0 + 1)) (0 : Int32).toNatClampNeg (0 : Int32).toNatClampNeg (6 : Int32).toNatClampNeg)) (q0 + 2) (va_cpy ((ab_r I (q0 + 1) (va_cpy (I (q1 + 1)) (I (q0 + 1)) (0 : Int32).toNatClampNeg (0 : Int32).toNatClampNeg (6 : Int32).toNatClampNeg)) (q1 + 2)) ((ab_r I (q0 + 1) (va_cpy (I (q1 + 1)) (I (q0 + 1)) (0 : Int32).toNatClampNeg (0 : Int32).toNatClampNeg (6 : Int32).toNatClampNeg)) (q0 + 2)) (0 : Int32).toNatClampNeg (0 : Int32).toNatClampNeg (6 : Int32).toNatClampNeg)) (q0 + 3) (va_cpy ((ab_r (ab_r I (q0 + 1) (va_cpy (I (q1 + 1)) (I (q0 + 1)) (0 : Int32).toNatClampNeg (0 : Int32).toNatClampNeg (6 : Int32).toNatClampNeg)) (q0 + 2) (va_cpy ((ab_r I (q0 + 1) (va_cpy (I (q1 + 1)) (I (q0 + 1)) (0 : Int32).toNatClampNeg (0 : Int32).toNatClampNeg (6 : Int32).toNatClampNeg)) (q1 + 2)) ((ab_r I (q0 + 1) (va_cpy (I (q1 + 1)) (I (q0 + 1)) (0 : Int32).toNatClampNeg (0 : Int32).toNatClampNeg (6 : Int32).toNatClampNeg)) (q0 + 2)) (0 : Int32).toNatClampNeg (0 : Int32).toNatClampNeg (6 : Int32).toNatClampNeg)) (q1 + 3)) ((ab_r (ab_r I (q0 + 1) (va_cpy (I (q1 + 1)) (I (q0 + 1)) (0 : Int32).toNatClampNeg (0 : Int32).toNatClampNeg (6 : Int32).toNatClampNeg)) (q0 + 2) (va_cpy ((ab_r I (q0 + 1) (va_cpy (I (q1 + 1)) (I (q0 + 1)) (0 : Int32).toNatClampNeg (0 : Int32).toNatClampNeg (6 : Int32).toNatClampNeg)) (q1 + 2)) ((ab_r I (q0 + 1) (va_cpy (I (q1 + 1)) (I (q0 + 1)) (0 : Int32).toNatClampNeg (0 : Int32).toNatClampNeg (6 : Int32).toNatClampNeg)) (q0 + 2)) (0 : Int32).toNatClampNeg (0 : Int32).toNatClampNeg (6 : Int32).toNatClampNeg)) (q0 + 3)) (0 : Int32).toNatClampNeg (0 : Int32).toNatClampNeg (30 : Int32).toNatClampNeg)) q0 3 ((ab_r (ab_r (ab_r I (q0 + 1) (va_cpy (I (q1 + 1)) (I (q0 + 1)) (0 : Int32).toNatClampNeg (0 : Int32).toNatClampNeg (6 : Int32).toNatClampNeg)) (q0 + 2) (va_cpy ((ab_r I (q0 + 1) (va_cpy (I (q1 + 1)) (I (q0 + 1)) (0 : Int32).toNatClampNeg (0 : Int32).toNatClampNeg (6 : Int32).toNatClampNeg)) (q1 + 2)) ((ab_r I (q0 + 1) (va_cpy (I (q1 + 1)) (I (q0 + 1)) (0 : Int32).toNatClampNeg (0 : Int32).toNatClampNeg (6 : Int32).toNatClampNeg)) (q0 + 2)) (0 : Int32).toNatClampNeg (0 : Int32).toNatClampNeg (6 : Int32).toNatClampNeg)) (q0 + 3) (va_cpy ((ab_r (ab_r I (q0 + 1) (va_cpy (I (q1 + 1)) (I (q0 + 1)) (0 : Int32).toNatClampNeg (0 : Int32).toNatClampNeg (6 : Int32).toNatClampNeg)) (q0 + 2) (va_cpy ((ab_r I (q0 + 1) (va_cpy (I (q1 + 1)) (I (q0 + 1)) (0 : Int32).toNatClampNeg (0 : Int32).toNatClampNeg (6 : Int32).toNatClampNeg)) (q1 + 2)) ((ab_r I (q0 + 1) (va_cpy (I (q1 + 1)) (I (q0 + 1)) (0 : Int32).toNatClampNeg (0 : Int32).toNatClampNeg (6 : Int32).toNatClampNeg)) (q0 + 2)) (0 : Int32).toNatClampNeg (0 : Int32).toNatClampNeg (6 : Int32).toNatClampNeg)) (q1 + 3)) ((ab_r (ab_r I (q0 + 1) (va_cpy (I (q1 + 1)) (I (q0 + 1)) (0 : Int32).toNatClampNeg (0 : Int32).toNatClampNeg (6 : Int32).toNatClampNeg)) (q0 + 2) (va_cpy ((ab_r I (q0 + 1) (va_cpy (I (q1 + 1)) (I (q0 + 1)) (0 : Int32).toNatClampNeg (0 : Int32).toNatClampNeg (6 : Int32).toNatClampNeg)) (q1 + 2)) ((ab_r I (q0 + 1) (va_cpy (I (q1 + 1)) (I (q0 + 1)) (0 : Int32).toNatClampNeg (0 : Int32).toNatClampNeg (6 : Int32).toNatClampNeg)) (q0 + 2)) (0 : Int32).toNatClampNeg (0 : Int32).toNatClampNeg (6 : Int32).toNatClampNeg)) (q0 + 3)) (0 : Int32).toNatClampNeg (0 : Int32).toNatClampNeg (30 : Int32).toNatClampNeg)) q1 3)) q1 4)) q1 5))
set_option maxRecDepth 100000 in
theorem mX6_copyFrom_ok {l : Launch} {G : ab_G} {S : ab_S} {I : ab_I} {J : ab_J} {P : ab_P} {Q : ab_Q} {q0 : Nat} {q1 : Nat} (hB : bz_B S P) (hq0 : bz_st S P q0) (hq1 : bz_st S P q1) {x : ab_I} (H : fX6_copyFrom q0 q1 I = some x) (K0 : Q none S x J P) : ab_Call l G mX6_copyFrom 1 [.ref q0, .ref q1] S I J P Q := by
  unfold fX6_copyFrom at H
  refine ab_enter rfl (Nat.le_of_ble_eq_true rfl) (ab_wk (ls' := [some (.ref q0), some (.ref q1)]) (ab_le_some (ab_le_some (ab_le_nil))) ?_)
  refine ab_aload_n (z := 1) (by decide +kernel) rfl rfl ?_
  refine gX6_0 (ix := 9) (by decide +kernel) tw_233 hq1.1 hq1.2.2.2.2.1 ?_
  refine ab_iconst (z := 0) (v := (0 : Int32)) (by decide +kernel) (by decide) ?_
  refine ab_aload_n (z := 0) (by decide +kernel) rfl rfl ?_
  refine gX6_0 (ix := 9) (by decide +kernel) tw_233 hq0.1 hq0.2.2.2.2.1 ?_
  refine ab_iconst (z := 0) (v := (0 : Int32)) (by decide +kernel) (by decide) ?_
  refine ab_aload_n (z := 0) (by decide +kernel) rfl rfl ?_
  refine gX6_0 (ix := 9) (by decide +kernel) tw_233 hq0.1 hq0.2.2.2.2.1 ?_
  refine ab_alen (v := (6 : Int32)) (by decide +kernel) hq0.2.1 (by decide) (by decide) ?_
  refine ab_copy (ix := 31) (ln0 := 6) (ln1 := 6) (by decide +kernel) tw_657 tw_610 tw_609 tw_15 hq1.2.1 hq0.2.1 (by decide) (by decide) (by decide) (by decide) (by decide) (by decide) (Nat.le_of_ble_eq_true rfl) ?_
  refine ab_aload_n (z := 1) (by decide +kernel) rfl rfl ?_
  refine gX6_1 (ix := 15) (by decide +kernel) tw_239 hq1.1 hq1.2.2.2.2.2.1 ?_
  refine ab_iconst (z := 0) (v := (0 : Int32)) (by decide +kernel) (by decide) ?_
  refine ab_aload_n (z := 0) (by decide +kernel) rfl rfl ?_
  refine gX6_1 (ix := 15) (by decide +kernel) tw_239 hq0.1 hq0.2.2.2.2.2.1 ?_
  refine ab_iconst (z := 0) (v := (0 : Int32)) (by decide +kernel) (by decide) ?_
  refine ab_aload_n (z := 0) (by decide +kernel) rfl rfl ?_
  refine gX6_1 (ix := 15) (by decide +kernel) tw_239 hq0.1 hq0.2.2.2.2.2.1 ?_
  refine ab_alen (v := (6 : Int32)) (by decide +kernel) hq0.2.2.1 (by decide) (by decide) ?_
  refine ab_copy (ix := 31) (ln0 := 6) (ln1 := 6) (by decide +kernel) tw_657 tw_610 tw_609 tw_15 hq1.2.2.1 hq0.2.2.1 (by decide) (by decide) (by decide) (by decide) (by decide) (by decide) (Nat.le_of_ble_eq_true rfl) ?_
  refine ab_aload_n (z := 1) (by decide +kernel) rfl rfl ?_
  refine gX6_2 (ix := 18) (by decide +kernel) tw_245 hq1.1 hq1.2.2.2.2.2.2 ?_
  refine ab_iconst (z := 0) (v := (0 : Int32)) (by decide +kernel) (by decide) ?_
  refine ab_aload_n (z := 0) (by decide +kernel) rfl rfl ?_
  refine gX6_2 (ix := 18) (by decide +kernel) tw_245 hq0.1 hq0.2.2.2.2.2.2 ?_
  refine ab_iconst (z := 0) (v := (0 : Int32)) (by decide +kernel) (by decide) ?_
  refine ab_aload_n (z := 0) (by decide +kernel) rfl rfl ?_
  refine gX6_2 (ix := 18) (by decide +kernel) tw_245 hq0.1 hq0.2.2.2.2.2.2 ?_
  refine ab_alen (v := (30 : Int32)) (by decide +kernel) hq0.2.2.2.1 (by decide) (by decide) ?_
  refine ab_copy (ix := 31) (ln0 := 30) (ln1 := 30) (by decide +kernel) tw_657 tw_610 tw_609 tw_15 hq1.2.2.2.1 hq0.2.2.2.1 (by decide) (by decide) (by decide) (by decide) (by decide) (by decide) (Nat.le_of_ble_eq_true rfl) ?_
  refine ab_aload_n (z := 0) (by decide +kernel) rfl rfl ?_
  refine ab_aload_n (z := 1) (by decide +kernel) rfl rfl ?_
  refine gX6_3 (ix := 21) (by decide +kernel) tw_253 hq1.1 ?_
  refine pX6_3 (ix := 21) (by decide +kernel) tw_253 hq0.1 ?_
  refine ab_aload_n (z := 0) (by decide +kernel) rfl rfl ?_
  refine ab_aload_n (z := 1) (by decide +kernel) rfl rfl ?_
  refine gX6_4 (ix := 25) (by decide +kernel) tw_259 hq1.1 ?_
  refine pX6_4 (ix := 25) (by decide +kernel) tw_259 hq0.1 ?_
  refine ab_aload_n (z := 0) (by decide +kernel) rfl rfl ?_
  refine ab_aload_n (z := 1) (by decide +kernel) rfl rfl ?_
  refine gX6_5 (ix := 28) (by decide +kernel) tw_264 hq1.1 ?_
  refine pX6_5 (ix := 28) (by decide +kernel) tw_264 hq0.1 ?_
  obtain rfl := Option.some.inj H
  exact ab_vret (by decide +kernel) rfl (Nat.le_refl _) (Nat.le_refl _) K0
abbrev mX6_isHere : ab_M := (yX6_isHere, cX6_isHere, 2, some .boolean, 0, 0)
theorem kvX6_isHere {l : Launch} {G : ab_G} {M : ab_M} {d pc : Nat} {ls : List (Option Value)} {st : List Value} {S : ab_S} {I : ab_I} {J : ab_J} {P : ab_P} {Q : ab_Q} {v0 : Value} {ix D r ln : Nat} (hd : decode M.2.1 pc = .ok (.invokevirtual ix, 3)) (h1 : Cond.methodLink M.1.cls ix mX6_isHere.1 ∈ ab_good) (hs : S[r]? = some (11, ln)) (hdg : D + 1 ≤ d) (hsum : (st.map fun v => v.category).sum ≤ 8) (kk : ab_Call l G mX6_isHere D (.ref r :: [v0]) S I J P (fun v S' I' J' P' => ab_WP l G M d (pc + 3) ls (ab_psh v st) S' I' J' P' 0 0 Q)) : ab_WP l G M d pc ls (v0 :: .ref r :: st) S I J P 0 0 Q := bz_kv (g := mX6_isHere) (as := [v0]) (cc := 6) rfl hd h1 tw_671 tw_672 tw_9 tw_673 ⟨by decide +kernel, by decide +kernel, (by decide +kernel : (parseMethodDescriptor mX6_isHere.1.desc).map (fun d => d.parameters.length) = some 1)⟩ (by decide) rfl rfl rfl hdg hsum hs kk
def fX6_isHere_17 (q0 : Nat) (a1 : Int32) (I : ab_I) (s0 : Int32) : Option Int32 :=
  ab_gd (s0 = 0 ∨ s0 = 1) (some s0)
set_option maxRecDepth 100000 in
theorem fX6_isHere_17_ok {l : Launch} {G : ab_G} {S : ab_S} {I : ab_I} {J : ab_J} {P : ab_P} {Q : ab_Q} {q0 : Nat} {a1 : Int32} {s0 : Int32} (hB : bz_B S P) (hq0 : bz_st S P q0) {x : Int32} (H : fX6_isHere_17 q0 a1 I s0 = some x) (K0 : Q (some (.int x)) S I J P) : ab_WP l G mX6_isHere 0 17 [some (.ref q0), some (.int a1)] [.int s0] S I J P 0 0 Q := by
  unfold fX6_isHere_17 at H
  obtain ⟨hg, H⟩ := ab_gd_of H
  obtain rfl := Option.some.inj H
  exact ab_zret (by decide +kernel) rfl (Nat.le_refl _) (Nat.le_refl _) hg K0
def fX6_isHere (q0 : Nat) (a1 : Int32) (I : ab_I) : Option Int32 :=
  if (((I q0 3) >>> (a1 &&& 31)) &&& (1 : Int32)) = (1 : Int32) then
    fX6_isHere_17 q0 a1 I (1 : Int32)
  else
    fX6_isHere_17 q0 a1 I (0 : Int32)
set_option maxRecDepth 100000 in
theorem mX6_isHere_ok {l : Launch} {G : ab_G} {S : ab_S} {I : ab_I} {J : ab_J} {P : ab_P} {Q : ab_Q} {q0 : Nat} {a1 : Int32} (hB : bz_B S P) (hq0 : bz_st S P q0) {x : Int32} (H : fX6_isHere q0 a1 I = some x) (K0 : Q (some (.int x)) S I J P) : ab_Call l G mX6_isHere 0 [.ref q0, .int a1] S I J P Q := by
  unfold fX6_isHere at H
  refine ab_enter rfl (Nat.le_of_ble_eq_true rfl) (ab_wk (ls' := [some (.ref q0), some (.int a1)]) (ab_le_some (ab_le_some (ab_le_nil))) ?_)
  refine ab_aload_n (z := 0) (by decide +kernel) rfl rfl ?_
  refine gX6_3 (ix := 21) (by decide +kernel) tw_253 hq0.1 ?_
  refine ab_iload_n (z := 1) (by decide +kernel) rfl rfl ?_
  refine ab_ishr (by decide +kernel) ?_
  refine ab_iconst (z := 1) (v := (1 : Int32)) (by decide +kernel) (by decide) ?_
  refine ab_iand (by decide +kernel) ?_
  refine ab_iconst (z := 1) (v := (1 : Int32)) (by decide +kernel) (by decide) ?_
  refine ab_icmp_ne (off := 7) (tgt := 16) (by decide +kernel) rfl (fun hc => ?_) (fun hc => ?_)
  · replace H := ab_ifn H hc
    refine ab_iconst (z := 0) (v := (0 : Int32)) (by decide +kernel) (by decide) ?_
    exact ab_wk (ab_le_some (ab_le_some (ab_le_nil))) (fX6_isHere_17_ok hB hq0 H  K0)
  · replace H := ab_ifp H hc
    refine ab_iconst (z := 1) (v := (1 : Int32)) (by decide +kernel) (by decide) ?_
    refine ab_goto (off := 4) (tgt := 17) (by decide +kernel) rfl ?_
    exact ab_wk (ab_le_some (ab_le_some (ab_le_nil))) (fX6_isHere_17_ok hB hq0 H  K0)
abbrev mX2_joined : ab_M := (yX2_joined, cX2_joined, 3, some .int, 0, 0)
theorem ksX2_joined {l : Launch} {G : ab_G} {M : ab_M} {d pc : Nat} {ls : List (Option Value)} {st : List Value} {S : ab_S} {I : ab_I} {J : ab_J} {P : ab_P} {Q : ab_Q} {v0 v1 v2 : Value} {ix D : Nat} (hd : decode M.2.1 pc = .ok (.invokestatic ix, 3)) (h1 : Cond.methodLink M.1.cls ix mX2_joined.1 ∈ ab_good) (hdg : D + 1 ≤ d) (hsum : (st.map fun v => v.category).sum ≤ 8) (kk : ab_Call l G mX2_joined D [v0, v1, v2] S I J P (fun v S' I' J' P' => ab_WP l G M d (pc + 3) ls (ab_psh v st) S' I' J' P' 0 0 Q)) : ab_WP l G M d pc ls (v2 :: v1 :: v0 :: st) S I J P 0 0 Q := bz_ks (g := mX2_joined) (as := [v0, v1, v2]) rfl hd h1 tw_688 tw_4 tw_689 ⟨by decide +kernel, by decide +kernel, (by decide +kernel : (parseMethodDescriptor mX2_joined.1.desc).map (fun d => d.parameters.length) = some 3)⟩ (by decide) rfl hdg hsum kk
def fX2_joined_210 (a0 : Int32) (a1 : Int32) (a2 : Int32) (s0 : Int32) : Option Int32 :=
  some s0
set_option maxRecDepth 100000 in
theorem fX2_joined_210_ok {l : Launch} {G : ab_G} {S : ab_S} {I : ab_I} {J : ab_J} {P : ab_P} {Q : ab_Q} {a0 : Int32} {a1 : Int32} {a2 : Int32} {s0 : Int32} (hB : bz_B S P) {x : Int32} (H : fX2_joined_210 a0 a1 a2 s0 = some x) (K0 : Q (some (.int x)) S I J P) : ab_WP l G mX2_joined 0 210 [some (.int a0), some (.int a1), some (.int a2)] [.int s0] S I J P 0 0 Q := by
  unfold fX2_joined_210 at H
  obtain rfl := Option.some.inj H
  exact ab_iret (by decide +kernel) rfl (Nat.le_refl _) (Nat.le_refl _) K0
def fX2_joined_120 (a0 : Int32) (a1 : Int32) (a2 : Int32) : Option Int32 :=
  fX2_joined_210 a0 a1 a2 (0 : Int32)
set_option maxRecDepth 100000 in
theorem fX2_joined_120_ok {l : Launch} {G : ab_G} {S : ab_S} {I : ab_I} {J : ab_J} {P : ab_P} {Q : ab_Q} {a0 : Int32} {a1 : Int32} {a2 : Int32} (hB : bz_B S P) {x : Int32} (H : fX2_joined_120 a0 a1 a2 = some x) (K0 : Q (some (.int x)) S I J P) : ab_WP l G mX2_joined 0 120 [some (.int a0), some (.int a1), some (.int a2)] [] S I J P 0 0 Q := by
  unfold fX2_joined_120 at H
  refine ab_iconst (z := 0) (v := (0 : Int32)) (by decide +kernel) (by decide) ?_
  refine ab_goto (off := 89) (tgt := 210) (by decide +kernel) rfl ?_
  exact ab_wk (ab_le_some (ab_le_some (ab_le_some (ab_le_nil)))) (fX2_joined_210_ok hB H  K0)
def fX2_joined_100 (a0 : Int32) (a1 : Int32) (a2 : Int32) : Option Int32 :=
  fX2_joined_210 a0 a1 a2 (1 : Int32)
set_option maxRecDepth 100000 in
theorem fX2_joined_100_ok {l : Launch} {G : ab_G} {S : ab_S} {I : ab_I} {J : ab_J} {P : ab_P} {Q : ab_Q} {a0 : Int32} {a1 : Int32} {a2 : Int32} (hB : bz_B S P) {x : Int32} (H : fX2_joined_100 a0 a1 a2 = some x) (K0 : Q (some (.int x)) S I J P) : ab_WP l G mX2_joined 0 100 [some (.int a0), some (.int a1), some (.int a2)] [] S I J P 0 0 Q := by
  unfold fX2_joined_100 at H
  refine ab_iconst (z := 1) (v := (1 : Int32)) (by decide +kernel) (by decide) ?_
  refine ab_goto (off := 109) (tgt := 210) (by decide +kernel) rfl ?_
  exact ab_wk (ab_le_some (ab_le_some (ab_le_some (ab_le_nil)))) (fX2_joined_210_ok hB H  K0)
def fX2_joined (a0 : Int32) (a1 : Int32) (a2 : Int32) : Option Int32 :=
  if a0 = (-213 : Int32) then
    if a1 = 0 then
      fX2_joined_120 a0 a1 a2
    else
      if a2 = 0 then
        fX2_joined_120 a0 a1 a2
      else
        fX2_joined_210 a0 a1 a2 (1 : Int32)
  else
    if a0 = (-212 : Int32) then
      if a1 = 0 then
        if a2 = 0 then
          fX2_joined_210 a0 a1 a2 (0 : Int32)
        else
          fX2_joined_100 a0 a1 a2
      else
        fX2_joined_100 a0 a1 a2
    else
      if a0 = (-62 : Int32) then
        if a1 ≤ a2 then
          fX2_joined_210 a0 a1 a2 (0 : Int32)
        else
          fX2_joined_210 a0 a1 a2 (1 : Int32)
      else
        if a0 = (-61 : Int32) then
          if a1 = a2 then
            fX2_joined_210 a0 a1 a2 (1 : Int32)
          else
            fX2_joined_210 a0 a1 a2 (0 : Int32)
        else
          if a0 = (-60 : Int32) then
            if a2 ≤ a1 then
              fX2_joined_210 a0 a1 a2 (0 : Int32)
            else
              fX2_joined_210 a0 a1 a2 (1 : Int32)
          else
            if a0 = (-47 : Int32) then
              if a2 = 0 then
                fX2_joined_210 a0 a1 a2 (0 : Int32)
              else
                ab_gd (¬ a2 = 0) (
                  fX2_joined_210 a0 a1 a2 (a1 / a2)
                )
            else
              if a0 = (-45 : Int32) then
                fX2_joined_210 a0 a1 a2 (a1 - a2)
              else
                if a0 = (-43 : Int32) then
                  fX2_joined_210 a0 a1 a2 (a1 + a2)
                else
                  if a0 = (-42 : Int32) then
                    fX2_joined_210 a0 a1 a2 (a1 * a2)
                  else
                    if a0 = (-37 : Int32) then
                      if a2 = 0 then
                        fX2_joined_210 a0 a1 a2 (0 : Int32)
                      else
                        ab_gd (¬ a2 = 0) (
                          fX2_joined_210 a0 a1 a2 (a1 - a1 / a2 * a2)
                        )
                    else
                      fX2_joined_210 a0 a1 a2 (0 : Int32)
set_option maxRecDepth 100000 in
theorem mX2_joined_ok {l : Launch} {G : ab_G} {S : ab_S} {I : ab_I} {J : ab_J} {P : ab_P} {Q : ab_Q} {a0 : Int32} {a1 : Int32} {a2 : Int32} (hB : bz_B S P) {x : Int32} (H : fX2_joined a0 a1 a2 = some x) (K0 : Q (some (.int x)) S I J P) : ab_Call l G mX2_joined 0 [.int a0, .int a1, .int a2] S I J P Q := by
  unfold fX2_joined at H
  refine ab_enter rfl (Nat.le_of_ble_eq_true rfl) (ab_wk (ls' := [some (.int a0), some (.int a1), some (.int a2)]) (ab_le_some (ab_le_some (ab_le_some (ab_le_nil)))) ?_)
  refine ab_iload_n (z := 0) (by decide +kernel) rfl rfl ?_
  by_cases hkm213 : a0 = (-213 : Int32)
  · replace H := ab_ifp H hkm213
    refine ab_lookk (key := (-213 : Int32)) (off := 107) (tgt := 108) (dflt := 208) (ps := #[(-213, 107), (-212, 91), (-62, 136), (-61, 149), (-60, 123), (-47, 180), (-45, 168), (-43, 162), (-42, 174), (-37, 194)]) (len := 91) hkm213 (by decide +kernel) (by decide) (by decide) rfl ?_
    refine ab_iload_n (z := 1) (by decide +kernel) rfl rfl ?_
    refine ab_if_eq (off := 11) (tgt := 120) (by decide +kernel) rfl (fun hc => ?_) (fun hc => ?_)
    · replace H := ab_ifp H hc
      exact ab_wk (ab_le_some (ab_le_some (ab_le_some (ab_le_nil)))) (fX2_joined_120_ok hB H  K0)
    · replace H := ab_ifn H hc
      refine ab_iload_n (z := 2) (by decide +kernel) rfl rfl ?_
      refine ab_if_eq (off := 7) (tgt := 120) (by decide +kernel) rfl (fun hc => ?_) (fun hc => ?_)
      · replace H := ab_ifp H hc
        exact ab_wk (ab_le_some (ab_le_some (ab_le_some (ab_le_nil)))) (fX2_joined_120_ok hB H  K0)
      · replace H := ab_ifn H hc
        refine ab_iconst (z := 1) (v := (1 : Int32)) (by decide +kernel) (by decide) ?_
        refine ab_goto (off := 93) (tgt := 210) (by decide +kernel) rfl ?_
        exact ab_wk (ab_le_some (ab_le_some (ab_le_some (ab_le_nil)))) (fX2_joined_210_ok hB H  K0)
  replace H := ab_ifn H hkm213
  by_cases hkm212 : a0 = (-212 : Int32)
  · replace H := ab_ifp H hkm212
    refine ab_lookk (key := (-212 : Int32)) (off := 91) (tgt := 92) (dflt := 208) (ps := #[(-213, 107), (-212, 91), (-62, 136), (-61, 149), (-60, 123), (-47, 180), (-45, 168), (-43, 162), (-42, 174), (-37, 194)]) (len := 91) hkm212 (by decide +kernel) (by decide) (by decide) rfl ?_
    refine ab_iload_n (z := 1) (by decide +kernel) rfl rfl ?_
    refine ab_if_ne (off := 7) (tgt := 100) (by decide +kernel) rfl (fun hc => ?_) (fun hc => ?_)
    · replace H := ab_ifn H hc
      exact ab_wk (ab_le_some (ab_le_some (ab_le_some (ab_le_nil)))) (fX2_joined_100_ok hB H  K0)
    · replace H := ab_ifp H hc
      refine ab_iload_n (z := 2) (by decide +kernel) rfl rfl ?_
      refine ab_if_eq (off := 7) (tgt := 104) (by decide +kernel) rfl (fun hc => ?_) (fun hc => ?_)
      · replace H := ab_ifp H hc
        refine ab_iconst (z := 0) (v := (0 : Int32)) (by decide +kernel) (by decide) ?_
        refine ab_goto (off := 105) (tgt := 210) (by decide +kernel) rfl ?_
        exact ab_wk (ab_le_some (ab_le_some (ab_le_some (ab_le_nil)))) (fX2_joined_210_ok hB H  K0)
      · replace H := ab_ifn H hc
        exact ab_wk (ab_le_some (ab_le_some (ab_le_some (ab_le_nil)))) (fX2_joined_100_ok hB H  K0)
  replace H := ab_ifn H hkm212
  by_cases hkm62 : a0 = (-62 : Int32)
  · replace H := ab_ifp H hkm62
    refine ab_lookk (key := (-62 : Int32)) (off := 136) (tgt := 137) (dflt := 208) (ps := #[(-213, 107), (-212, 91), (-62, 136), (-61, 149), (-60, 123), (-47, 180), (-45, 168), (-43, 162), (-42, 174), (-37, 194)]) (len := 91) hkm62 (by decide +kernel) (by decide) (by decide) rfl ?_
    refine ab_iload_n (z := 1) (by decide +kernel) rfl rfl ?_
    refine ab_iload_n (z := 2) (by decide +kernel) rfl rfl ?_
    refine ab_icmp_le (off := 7) (tgt := 146) (by decide +kernel) rfl (fun hc => ?_) (fun hc => ?_)
    · replace H := ab_ifp H hc
      refine ab_iconst (z := 0) (v := (0 : Int32)) (by decide +kernel) (by decide) ?_
      refine ab_goto (off := 63) (tgt := 210) (by decide +kernel) rfl ?_
      exact ab_wk (ab_le_some (ab_le_some (ab_le_some (ab_le_nil)))) (fX2_joined_210_ok hB H  K0)
    · replace H := ab_ifn H hc
      refine ab_iconst (z := 1) (v := (1 : Int32)) (by decide +kernel) (by decide) ?_
      refine ab_goto (off := 67) (tgt := 210) (by decide +kernel) rfl ?_
      exact ab_wk (ab_le_some (ab_le_some (ab_le_some (ab_le_nil)))) (fX2_joined_210_ok hB H  K0)
  replace H := ab_ifn H hkm62
  by_cases hkm61 : a0 = (-61 : Int32)
  · replace H := ab_ifp H hkm61
    refine ab_lookk (key := (-61 : Int32)) (off := 149) (tgt := 150) (dflt := 208) (ps := #[(-213, 107), (-212, 91), (-62, 136), (-61, 149), (-60, 123), (-47, 180), (-45, 168), (-43, 162), (-42, 174), (-37, 194)]) (len := 91) hkm61 (by decide +kernel) (by decide) (by decide) rfl ?_
    refine ab_iload_n (z := 1) (by decide +kernel) rfl rfl ?_
    refine ab_iload_n (z := 2) (by decide +kernel) rfl rfl ?_
    refine ab_icmp_ne (off := 7) (tgt := 159) (by decide +kernel) rfl (fun hc => ?_) (fun hc => ?_)
    · replace H := ab_ifn H hc
      refine ab_iconst (z := 0) (v := (0 : Int32)) (by decide +kernel) (by decide) ?_
      refine ab_goto (off := 50) (tgt := 210) (by decide +kernel) rfl ?_
      exact ab_wk (ab_le_some (ab_le_some (ab_le_some (ab_le_nil)))) (fX2_joined_210_ok hB H  K0)
    · replace H := ab_ifp H hc
      refine ab_iconst (z := 1) (v := (1 : Int32)) (by decide +kernel) (by decide) ?_
      refine ab_goto (off := 54) (tgt := 210) (by decide +kernel) rfl ?_
      exact ab_wk (ab_le_some (ab_le_some (ab_le_some (ab_le_nil)))) (fX2_joined_210_ok hB H  K0)
  replace H := ab_ifn H hkm61
  by_cases hkm60 : a0 = (-60 : Int32)
  · replace H := ab_ifp H hkm60
    refine ab_lookk (key := (-60 : Int32)) (off := 123) (tgt := 124) (dflt := 208) (ps := #[(-213, 107), (-212, 91), (-62, 136), (-61, 149), (-60, 123), (-47, 180), (-45, 168), (-43, 162), (-42, 174), (-37, 194)]) (len := 91) hkm60 (by decide +kernel) (by decide) (by decide) rfl ?_
    refine ab_iload_n (z := 1) (by decide +kernel) rfl rfl ?_
    refine ab_iload_n (z := 2) (by decide +kernel) rfl rfl ?_
    refine ab_icmp_ge (off := 7) (tgt := 133) (by decide +kernel) rfl (fun hc => ?_) (fun hc => ?_)
    · replace H := ab_ifp H hc
      refine ab_iconst (z := 0) (v := (0 : Int32)) (by decide +kernel) (by decide) ?_
      refine ab_goto (off := 76) (tgt := 210) (by decide +kernel) rfl ?_
      exact ab_wk (ab_le_some (ab_le_some (ab_le_some (ab_le_nil)))) (fX2_joined_210_ok hB H  K0)
    · replace H := ab_ifn H hc
      refine ab_iconst (z := 1) (v := (1 : Int32)) (by decide +kernel) (by decide) ?_
      refine ab_goto (off := 80) (tgt := 210) (by decide +kernel) rfl ?_
      exact ab_wk (ab_le_some (ab_le_some (ab_le_some (ab_le_nil)))) (fX2_joined_210_ok hB H  K0)
  replace H := ab_ifn H hkm60
  by_cases hkm47 : a0 = (-47 : Int32)
  · replace H := ab_ifp H hkm47
    refine ab_lookk (key := (-47 : Int32)) (off := 180) (tgt := 181) (dflt := 208) (ps := #[(-213, 107), (-212, 91), (-62, 136), (-61, 149), (-60, 123), (-47, 180), (-45, 168), (-43, 162), (-42, 174), (-37, 194)]) (len := 91) hkm47 (by decide +kernel) (by decide) (by decide) rfl ?_
    refine ab_iload_n (z := 2) (by decide +kernel) rfl rfl ?_
    refine ab_if_ne (off := 7) (tgt := 189) (by decide +kernel) rfl (fun hc => ?_) (fun hc => ?_)
    · replace H := ab_ifn H hc
      refine ab_iload_n (z := 1) (by decide +kernel) rfl rfl ?_
      refine ab_iload_n (z := 2) (by decide +kernel) rfl rfl ?_
      obtain ⟨hg, H⟩ := ab_gd_of H
      refine ab_idiv (by decide +kernel) hg ?_
      refine ab_goto (off := 18) (tgt := 210) (by decide +kernel) rfl ?_
      exact ab_wk (ab_le_some (ab_le_some (ab_le_some (ab_le_nil)))) (fX2_joined_210_ok hB H  K0)
    · replace H := ab_ifp H hc
      refine ab_iconst (z := 0) (v := (0 : Int32)) (by decide +kernel) (by decide) ?_
      refine ab_goto (off := 24) (tgt := 210) (by decide +kernel) rfl ?_
      exact ab_wk (ab_le_some (ab_le_some (ab_le_some (ab_le_nil)))) (fX2_joined_210_ok hB H  K0)
  replace H := ab_ifn H hkm47
  by_cases hkm45 : a0 = (-45 : Int32)
  · replace H := ab_ifp H hkm45
    refine ab_lookk (key := (-45 : Int32)) (off := 168) (tgt := 169) (dflt := 208) (ps := #[(-213, 107), (-212, 91), (-62, 136), (-61, 149), (-60, 123), (-47, 180), (-45, 168), (-43, 162), (-42, 174), (-37, 194)]) (len := 91) hkm45 (by decide +kernel) (by decide) (by decide) rfl ?_
    refine ab_iload_n (z := 1) (by decide +kernel) rfl rfl ?_
    refine ab_iload_n (z := 2) (by decide +kernel) rfl rfl ?_
    refine ab_isub (by decide +kernel) ?_
    refine ab_goto (off := 38) (tgt := 210) (by decide +kernel) rfl ?_
    exact ab_wk (ab_le_some (ab_le_some (ab_le_some (ab_le_nil)))) (fX2_joined_210_ok hB H  K0)
  replace H := ab_ifn H hkm45
  by_cases hkm43 : a0 = (-43 : Int32)
  · replace H := ab_ifp H hkm43
    refine ab_lookk (key := (-43 : Int32)) (off := 162) (tgt := 163) (dflt := 208) (ps := #[(-213, 107), (-212, 91), (-62, 136), (-61, 149), (-60, 123), (-47, 180), (-45, 168), (-43, 162), (-42, 174), (-37, 194)]) (len := 91) hkm43 (by decide +kernel) (by decide) (by decide) rfl ?_
    refine ab_iload_n (z := 1) (by decide +kernel) rfl rfl ?_
    refine ab_iload_n (z := 2) (by decide +kernel) rfl rfl ?_
    refine ab_iadd (by decide +kernel) ?_
    refine ab_goto (off := 44) (tgt := 210) (by decide +kernel) rfl ?_
    exact ab_wk (ab_le_some (ab_le_some (ab_le_some (ab_le_nil)))) (fX2_joined_210_ok hB H  K0)
  replace H := ab_ifn H hkm43
  by_cases hkm42 : a0 = (-42 : Int32)
  · replace H := ab_ifp H hkm42
    refine ab_lookk (key := (-42 : Int32)) (off := 174) (tgt := 175) (dflt := 208) (ps := #[(-213, 107), (-212, 91), (-62, 136), (-61, 149), (-60, 123), (-47, 180), (-45, 168), (-43, 162), (-42, 174), (-37, 194)]) (len := 91) hkm42 (by decide +kernel) (by decide) (by decide) rfl ?_
    refine ab_iload_n (z := 1) (by decide +kernel) rfl rfl ?_
    refine ab_iload_n (z := 2) (by decide +kernel) rfl rfl ?_
    refine ab_imul (by decide +kernel) ?_
    refine ab_goto (off := 32) (tgt := 210) (by decide +kernel) rfl ?_
    exact ab_wk (ab_le_some (ab_le_some (ab_le_some (ab_le_nil)))) (fX2_joined_210_ok hB H  K0)
  replace H := ab_ifn H hkm42
  by_cases hkm37 : a0 = (-37 : Int32)
  · replace H := ab_ifp H hkm37
    refine ab_lookk (key := (-37 : Int32)) (off := 194) (tgt := 195) (dflt := 208) (ps := #[(-213, 107), (-212, 91), (-62, 136), (-61, 149), (-60, 123), (-47, 180), (-45, 168), (-43, 162), (-42, 174), (-37, 194)]) (len := 91) hkm37 (by decide +kernel) (by decide) (by decide) rfl ?_
    refine ab_iload_n (z := 2) (by decide +kernel) rfl rfl ?_
    refine ab_if_ne (off := 7) (tgt := 203) (by decide +kernel) rfl (fun hc => ?_) (fun hc => ?_)
    · replace H := ab_ifn H hc
      refine ab_iload_n (z := 1) (by decide +kernel) rfl rfl ?_
      refine ab_iload_n (z := 2) (by decide +kernel) rfl rfl ?_
      obtain ⟨hg, H⟩ := ab_gd_of H
      refine ab_irem (by decide +kernel) hg ?_
      refine ab_goto (off := 4) (tgt := 210) (by decide +kernel) rfl ?_
      exact ab_wk (ab_le_some (ab_le_some (ab_le_some (ab_le_nil)))) (fX2_joined_210_ok hB H  K0)
    · replace H := ab_ifp H hc
      refine ab_iconst (z := 0) (v := (0 : Int32)) (by decide +kernel) (by decide) ?_
      refine ab_goto (off := 10) (tgt := 210) (by decide +kernel) rfl ?_
      exact ab_wk (ab_le_some (ab_le_some (ab_le_some (ab_le_nil)))) (fX2_joined_210_ok hB H  K0)
  replace H := ab_ifn H hkm37
  have KD : ab_WP l G mX2_joined 0 209 [some (.int a0), some (.int a1), some (.int a2)] [] S I J P 0 0 Q := by
    refine ab_iconst (z := 0) (v := (0 : Int32)) (by decide +kernel) (by decide) ?_
    exact ab_wk (ab_le_some (ab_le_some (ab_le_some (ab_le_nil)))) (fX2_joined_210_ok hB H  K0)
  refine ab_lookup (dflt := 208) (ps := #[(-213, 107), (-212, 91), (-62, 136), (-61, 149), (-60, 123), (-47, 180), (-45, 168), (-43, 162), (-42, 174), (-37, 194)]) (len := 91) (by decide +kernel) (by decide) (off := 208) (tgt := 209) ?_ rfl KD
  show Op.lookupswitch.offset [(-213, 107), (-212, 91), (-62, 136), (-61, 149), (-60, 123), (-47, 180), (-45, 168), (-43, 162), (-42, 174), (-37, 194)] _ _ = _
  rw [bz_lk (key := (-213 : Int32)) (by decide) hkm213, bz_lk (key := (-212 : Int32)) (by decide) hkm212, bz_lk (key := (-62 : Int32)) (by decide) hkm62, bz_lk (key := (-61 : Int32)) (by decide) hkm61, bz_lk (key := (-60 : Int32)) (by decide) hkm60, bz_lk (key := (-47 : Int32)) (by decide) hkm47, bz_lk (key := (-45 : Int32)) (by decide) hkm45, bz_lk (key := (-43 : Int32)) (by decide) hkm43, bz_lk (key := (-42 : Int32)) (by decide) hkm42, bz_lk (key := (-37 : Int32)) (by decide) hkm37, Op.lookupswitch.offset_nil]
abbrev mX2_comesTo : ab_M := (yX2_comesTo, cX2_comesTo, 9, some .int, 0, 0)
theorem kvX2_comesTo {l : Launch} {G : ab_G} {M : ab_M} {d pc : Nat} {ls : List (Option Value)} {st : List Value} {S : ab_S} {I : ab_I} {J : ab_J} {P : ab_P} {Q : ab_Q} {v0 v1 v2 v3 : Value} {ix D r ln : Nat} (hd : decode M.2.1 pc = .ok (.invokevirtual ix, 3)) (h1 : Cond.methodLink M.1.cls ix mX2_comesTo.1 ∈ ab_good) (hs : S[r]? = some (7, ln)) (hdg : D + 1 ≤ d) (hsum : (st.map fun v => v.category).sum ≤ 8) (kk : ab_Call l G mX2_comesTo D (.ref r :: [v0, v1, v2, v3]) S I J P (fun v S' I' J' P' => ab_WP l G M d (pc + 3) ls (ab_psh v st) S' I' J' P' 0 0 Q)) : ab_WP l G M d pc ls (v3 :: v2 :: v1 :: v0 :: .ref r :: st) S I J P 0 0 Q := bz_kv (g := mX2_comesTo) (as := [v0, v1, v2, v3]) (cc := 2) rfl hd h1 tw_676 tw_677 tw_4 tw_678 ⟨by decide +kernel, by decide +kernel, (by decide +kernel : (parseMethodDescriptor mX2_comesTo.1.desc).map (fun d => d.parameters.length) = some 4)⟩ (by decide) rfl rfl rfl hdg hsum hs kk
def fX2_comesTo_262 (q1 : Nat) (a2 : Int32) (a3 : Int32) (a4 : Int32) (I : ab_I) : Option (Int32 × ab_I) :=
  ab_gd (ab_ix (0 : Int32) 30 = true) (
    some ((I 9 ((0 : Int32).toNatClampNeg)), I)
  )
set_option maxRecDepth 100000 in
theorem fX2_comesTo_262_ok {l : Launch} {G : ab_G} {S : ab_S} {I : ab_I} {J : ab_J} {P : ab_P} {Q : ab_Q} {q1 : Nat} {a2 : Int32} {a3 : Int32} {a4 : Int32} (hB : bz_B S P) (hq1 : bz_st S P q1) {x : Int32 × ab_I} (H : fX2_comesTo_262 q1 a2 a3 a4 I = some x) (K0 : Q (some (.int x.1)) S x.2 J P) : ab_WP l G mX2_comesTo 1 262 [some (.ref 7), some (.ref q1), some (.int a2), some (.int a3), some (.int a4), none, none, none, none] [] S I J P 0 0 Q := by
  unfold fX2_comesTo_262 at H
  refine ab_aload_n (z := 0) (by decide +kernel) rfl rfl ?_
  refine gX2_1 (ix := 15) (by decide +kernel) tw_55 (hB.1 7 _ rfl) (hB.2.1 16 (7, 1, 9) rfl) ?_
  refine ab_iconst (z := 0) (v := (0 : Int32)) (by decide +kernel) (by decide) ?_
  obtain ⟨hg, H⟩ := ab_gd_of H
  refine ab_iald (ln := 30) (by decide +kernel) (hB.1 9 _ rfl) (ab_ix_in hg) ?_
  obtain rfl := Option.some.inj H
  exact ab_iret (by decide +kernel) rfl (Nat.le_refl _) (Nat.le_refl _) K0
def fX2_comesTo_256 (q1 : Nat) (a2 : Int32) (a3 : Int32) (a4 : Int32) (a6 : Int32) (a7 : Int32) (I : ab_I) : Option ((Int32 × Int32 × ab_I) ⊕ (Int32 × ab_I)) :=
  some (.inl (a6, (a7 + (1 : Int32)), I))
set_option maxRecDepth 100000 in
theorem fX2_comesTo_256_ok {l : Launch} {G : ab_G} {S : ab_S} {I : ab_I} {J : ab_J} {P : ab_P} {Q : ab_Q} {q1 : Nat} {a2 : Int32} {a3 : Int32} {a4 : Int32} {a6 : Int32} {a7 : Int32} (hB : bz_B S P) (hq1 : bz_st S P q1) {x : ((Int32 × Int32 × ab_I) ⊕ (Int32 × ab_I))} (H : fX2_comesTo_256 q1 a2 a3 a4 a6 a7 I = some x) (K1 : ∀ s, x = (.inl s) → ab_WP l G mX2_comesTo 1 98 [some (.ref 7), some (.ref q1), some (.int a2), some (.int a3), some (.int a4), none, some (.int s.1), some (.int s.2.1), none] [] S s.2.2 J P 0 0 Q) (K0 : ∀ r, x = (.inr r) → Q (some (.int r.1)) S r.2 J P) : ab_WP l G mX2_comesTo 1 256 [some (.ref 7), some (.ref q1), some (.int a2), some (.int a3), some (.int a4), none, some (.int a6), some (.int a7), none] [] S I J P 0 0 Q := by
  unfold fX2_comesTo_256 at H
  refine ab_iinc (i := 7) (z := 1) (v := (a7 + (1 : Int32))) (by decide +kernel) rfl rfl (by decide) rfl ?_
  refine ab_ls (ls' := [some (.ref 7), some (.ref q1), some (.int a2), some (.int a3), some (.int a4), none, some (.int a6), some (.int (a7 + (1 : Int32))), none]) rfl ?_
  refine ab_goto (off := -161) (tgt := 98) (by decide +kernel) rfl ?_
  exact ab_wk (ab_le_some (ab_le_some (ab_le_some (ab_le_some (ab_le_some (ab_le_none (ab_le_some (ab_le_some (ab_le_none (ab_le_nil)))))))))) (K1 (a6, (a7 + (1 : Int32)), I) (Option.some.inj H).symm)
def fX2_comesTo_210 (q1 : Nat) (a2 : Int32) (a3 : Int32) (a4 : Int32) (a6 : Int32) (a7 : Int32) (s1 : Int32) (s2 : Int32) (I : ab_I) : Option ((Int32 × Int32 × ab_I) ⊕ (Int32 × ab_I)) :=
  ab_gd (ab_ix s1 30 = true) (
    fX2_comesTo_256 q1 a2 a3 a4 (a6 + (1 : Int32)) a7 (ab_u I 9 s1.toNatClampNeg s2)
  )
set_option maxRecDepth 100000 in
theorem fX2_comesTo_210_ok {l : Launch} {G : ab_G} {S : ab_S} {I : ab_I} {J : ab_J} {P : ab_P} {Q : ab_Q} {q1 : Nat} {a2 : Int32} {a3 : Int32} {a4 : Int32} {a6 : Int32} {a7 : Int32} {s1 : Int32} {s2 : Int32} (hB : bz_B S P) (hq1 : bz_st S P q1) {x : ((Int32 × Int32 × ab_I) ⊕ (Int32 × ab_I))} (H : fX2_comesTo_210 q1 a2 a3 a4 a6 a7 s1 s2 I = some x) (K1 : ∀ s, x = (.inl s) → ab_WP l G mX2_comesTo 1 98 [some (.ref 7), some (.ref q1), some (.int a2), some (.int a3), some (.int a4), none, some (.int s.1), some (.int s.2.1), none] [] S s.2.2 J P 0 0 Q) (K0 : ∀ r, x = (.inr r) → Q (some (.int r.1)) S r.2 J P) : ab_WP l G mX2_comesTo 1 210 [some (.ref 7), some (.ref q1), some (.int a2), some (.int a3), some (.int a4), none, some (.int a6), some (.int a7), none] [.int s2, .int s1, .ref 9] S I J P 0 0 Q := by
  unfold fX2_comesTo_210 at H
  obtain ⟨hg, H⟩ := ab_gd_of H
  refine ab_iast (ln := 30) (by decide +kernel) (hB.1 9 _ rfl) (ab_ix_in hg) ?_
  refine ab_iinc (i := 6) (z := 1) (v := (a6 + (1 : Int32))) (by decide +kernel) rfl rfl (by decide) rfl ?_
  refine ab_ls (ls' := [some (.ref 7), some (.ref q1), some (.int a2), some (.int a3), some (.int a4), none, some (.int (a6 + (1 : Int32))), some (.int a7), none]) rfl ?_
  refine ab_goto (off := 42) (tgt := 256) (by decide +kernel) rfl ?_
  exact ab_wk (ab_le_some (ab_le_some (ab_le_some (ab_le_some (ab_le_some (ab_le_none (ab_le_some (ab_le_some (ab_le_none (ab_le_nil)))))))))) (fX2_comesTo_256_ok hB hq1 H K1 K0)
def fX2_comesTo_154 (q1 : Nat) (a2 : Int32) (a3 : Int32) (a4 : Int32) (a6 : Int32) (a7 : Int32) (s1 : Int32) (s2 : Int32) (I : ab_I) : Option ((Int32 × Int32 × ab_I) ⊕ (Int32 × ab_I)) :=
  ab_gd (ab_ix s1 30 = true) (
    fX2_comesTo_256 q1 a2 a3 a4 a6 a7 (ab_u I 9 s1.toNatClampNeg s2)
  )
set_option maxRecDepth 100000 in
theorem fX2_comesTo_154_ok {l : Launch} {G : ab_G} {S : ab_S} {I : ab_I} {J : ab_J} {P : ab_P} {Q : ab_Q} {q1 : Nat} {a2 : Int32} {a3 : Int32} {a4 : Int32} {a6 : Int32} {a7 : Int32} {s1 : Int32} {s2 : Int32} (hB : bz_B S P) (hq1 : bz_st S P q1) {x : ((Int32 × Int32 × ab_I) ⊕ (Int32 × ab_I))} (H : fX2_comesTo_154 q1 a2 a3 a4 a6 a7 s1 s2 I = some x) (K1 : ∀ s, x = (.inl s) → ab_WP l G mX2_comesTo 1 98 [some (.ref 7), some (.ref q1), some (.int a2), some (.int a3), some (.int a4), none, some (.int s.1), some (.int s.2.1), none] [] S s.2.2 J P 0 0 Q) (K0 : ∀ r, x = (.inr r) → Q (some (.int r.1)) S r.2 J P) : ab_WP l G mX2_comesTo 1 154 [some (.ref 7), some (.ref q1), some (.int a2), some (.int a3), some (.int a4), none, some (.int a6), some (.int a7), none] [.int s2, .int s1, .ref 9] S I J P 0 0 Q := by
  unfold fX2_comesTo_154 at H
  obtain ⟨hg, H⟩ := ab_gd_of H
  refine ab_iast (ln := 30) (by decide +kernel) (hB.1 9 _ rfl) (ab_ix_in hg) ?_
  refine ab_goto (off := 101) (tgt := 256) (by decide +kernel) rfl ?_
  exact ab_wk (ab_le_some (ab_le_some (ab_le_some (ab_le_some (ab_le_some (ab_le_none (ab_le_some (ab_le_some (ab_le_none (ab_le_nil)))))))))) (fX2_comesTo_256_ok hB hq1 H K1 K0)
def fX2_comesTo_172 (q1 : Nat) (a2 : Int32) (a3 : Int32) (a4 : Int32) (a6 : Int32) (a7 : Int32) (a8 : Int32) (I : ab_I) : Option ((Int32 × Int32 × ab_I) ⊕ (Int32 × ab_I)) :=
  if (30 : Int32) ≤ a6 then
    fX2_comesTo_256 q1 a2 a3 a4 a6 a7 I
  else
    if a8 < 0 then
      ab_gd (ab_ix ((-a8) - (206 : Int32)) 6 = true) (
        fX2_comesTo_210 q1 a2 a3 a4 a6 a7 a6 (I 10 (((-a8) - (206 : Int32)).toNatClampNeg)) I
      )
    else
      fX2_comesTo_210 q1 a2 a3 a4 a6 a7 a6 a8 I
set_option maxRecDepth 100000 in
theorem fX2_comesTo_172_ok {l : Launch} {G : ab_G} {S : ab_S} {I : ab_I} {J : ab_J} {P : ab_P} {Q : ab_Q} {q1 : Nat} {a2 : Int32} {a3 : Int32} {a4 : Int32} {a6 : Int32} {a7 : Int32} {a8 : Int32} (hB : bz_B S P) (hq1 : bz_st S P q1) {x : ((Int32 × Int32 × ab_I) ⊕ (Int32 × ab_I))} (H : fX2_comesTo_172 q1 a2 a3 a4 a6 a7 a8 I = some x) (K1 : ∀ s, x = (.inl s) → ab_WP l G mX2_comesTo 1 98 [some (.ref 7), some (.ref q1), some (.int a2), some (.int a3), some (.int a4), none, some (.int s.1), some (.int s.2.1), none] [] S s.2.2 J P 0 0 Q) (K0 : ∀ r, x = (.inr r) → Q (some (.int r.1)) S r.2 J P) : ab_WP l G mX2_comesTo 1 172 [some (.ref 7), some (.ref q1), some (.int a2), some (.int a3), some (.int a4), none, some (.int a6), some (.int a7), some (.int a8)] [] S I J P 0 0 Q := by
  unfold fX2_comesTo_172 at H
  refine ab_iload (i := 6) (by decide +kernel) rfl ?_
  refine ab_aload_n (z := 0) (by decide +kernel) rfl rfl ?_
  refine gX2_1 (ix := 15) (by decide +kernel) tw_55 (hB.1 7 _ rfl) (hB.2.1 16 (7, 1, 9) rfl) ?_
  refine ab_alen (v := (30 : Int32)) (by decide +kernel) (hB.1 9 _ rfl) (by decide) (by decide) ?_
  refine ab_icmp_ge (off := 77) (tgt := 256) (by decide +kernel) rfl (fun hc => ?_) (fun hc => ?_)
  · replace H := ab_ifp H hc
    exact ab_wk (ab_le_some (ab_le_some (ab_le_some (ab_le_some (ab_le_some (ab_le_none (ab_le_some (ab_le_some (ab_le_none (ab_le_nil)))))))))) (fX2_comesTo_256_ok hB hq1 H K1 K0)
  · replace H := ab_ifn H hc
    refine ab_aload_n (z := 0) (by decide +kernel) rfl rfl ?_
    refine gX2_1 (ix := 15) (by decide +kernel) tw_55 (hB.1 7 _ rfl) (hB.2.1 16 (7, 1, 9) rfl) ?_
    refine ab_iload (i := 6) (by decide +kernel) rfl ?_
    refine ab_iload (i := 8) (by decide +kernel) rfl ?_
    refine ab_if_lt (off := 8) (tgt := 198) (by decide +kernel) rfl (fun hc => ?_) (fun hc => ?_)
    · replace H := ab_ifp H hc
      refine ab_aload_n (z := 0) (by decide +kernel) rfl rfl ?_
      refine gX2_2 (ix := 18) (by decide +kernel) tw_56 (hB.1 7 _ rfl) (hB.2.1 17 (7, 2, 10) rfl) ?_
      refine ab_iload (i := 8) (by decide +kernel) rfl ?_
      refine ab_ineg (by decide +kernel) ?_
      refine ab_sipush (z := 206) (v := (206 : Int32)) (by decide +kernel) (by decide) ?_
      refine ab_isub (by decide +kernel) ?_
      obtain ⟨hg, H⟩ := ab_gd_of H
      refine ab_iald (ln := 6) (by decide +kernel) (hB.1 10 _ rfl) (ab_ix_in hg) ?_
      exact ab_wk (ab_le_some (ab_le_some (ab_le_some (ab_le_some (ab_le_some (ab_le_none (ab_le_some (ab_le_some (ab_le_none (ab_le_nil)))))))))) (fX2_comesTo_210_ok hB hq1 H K1 K0)
    · replace H := ab_ifn H hc
      refine ab_iload (i := 8) (by decide +kernel) rfl ?_
      refine ab_goto (off := 15) (tgt := 210) (by decide +kernel) rfl ?_
      exact ab_wk (ab_le_some (ab_le_some (ab_le_some (ab_le_some (ab_le_some (ab_le_none (ab_le_some (ab_le_some (ab_le_none (ab_le_nil)))))))))) (fX2_comesTo_210_ok hB hq1 H K1 K0)
def fX2_comesTo_98 (q1 : Nat) (a2 : Int32) (a3 : Int32) (a4 : Int32) (a6 : Int32) (a7 : Int32) (I : ab_I) : Option ((Int32 × Int32 × ab_I) ⊕ (Int32 × ab_I)) :=
  if (I 7 3) ≤ a7 then
    (fX2_comesTo_262 q1 a2 a3 a4 I).map .inr
  else
    ab_gd (ab_ix a7 300 = true) (
      if (I 8 a7.toNatClampNeg) = (-214 : Int32) then
        if a6 ≤ 0 then
          fX2_comesTo_256 q1 a2 a3 a4 a6 a7 I
        else
          ab_gd (ab_ix (a6 - (1 : Int32)) 30 = true) (
            if (I 9 ((a6 - (1 : Int32)).toNatClampNeg)) = 0 then
              fX2_comesTo_154 q1 a2 a3 a4 a6 a7 (a6 - (1 : Int32)) (1 : Int32) I
            else
              fX2_comesTo_154 q1 a2 a3 a4 a6 a7 (a6 - (1 : Int32)) (0 : Int32) I
          )
      else
        if 0 ≤ (I 8 a7.toNatClampNeg) then
          fX2_comesTo_172 q1 a2 a3 a4 a6 a7 (I 8 a7.toNatClampNeg) I
        else
          (fX2_isValue (-(I 8 a7.toNatClampNeg))).bind fun u4 =>
          if u4 = 0 then
            if a6 ≤ (1 : Int32) then
              fX2_comesTo_256 q1 a2 a3 a4 a6 a7 I
            else
              ab_gd (ab_ix ((a6 + (-1 : Int32)) - (1 : Int32)) 30 = true) (
                ab_gd (ab_ix (a6 + (-1 : Int32)) 30 = true) (
                  (fX2_joined (I 8 a7.toNatClampNeg) (I 9 (((a6 + (-1 : Int32)) - (1 : Int32)).toNatClampNeg)) (I 9 ((a6 + (-1 : Int32)).toNatClampNeg))).bind fun u5 =>
                  ab_gd (ab_ix ((a6 + (-1 : Int32)) - (1 : Int32)) 30 = true) (
                    fX2_comesTo_256 q1 a2 a3 a4 (a6 + (-1 : Int32)) a7 (ab_u I 9 (((a6 + (-1 : Int32)) - (1 : Int32)).toNatClampNeg) u5)
                  )
                )
              )
          else
            fX2_comesTo_172 q1 a2 a3 a4 a6 a7 (I 8 a7.toNatClampNeg) I
    )
set_option maxRecDepth 100000 in
theorem fX2_comesTo_98_ok {l : Launch} {G : ab_G} {S : ab_S} {I : ab_I} {J : ab_J} {P : ab_P} {Q : ab_Q} {q1 : Nat} {a2 : Int32} {a3 : Int32} {a4 : Int32} {a6 : Int32} {a7 : Int32} (hB : bz_B S P) (hq1 : bz_st S P q1) {x : ((Int32 × Int32 × ab_I) ⊕ (Int32 × ab_I))} (H : fX2_comesTo_98 q1 a2 a3 a4 a6 a7 I = some x) (K1 : ∀ s, x = (.inl s) → ab_WP l G mX2_comesTo 1 98 [some (.ref 7), some (.ref q1), some (.int a2), some (.int a3), some (.int a4), none, some (.int s.1), some (.int s.2.1), none] [] S s.2.2 J P 0 0 Q) (K0 : ∀ r, x = (.inr r) → Q (some (.int r.1)) S r.2 J P) : ab_WP l G mX2_comesTo 1 98 [some (.ref 7), some (.ref q1), some (.int a2), some (.int a3), some (.int a4), none, some (.int a6), some (.int a7), none] [] S I J P 0 0 Q := by
  unfold fX2_comesTo_98 at H
  refine ab_iload (i := 7) (by decide +kernel) rfl ?_
  refine ab_aload_n (z := 0) (by decide +kernel) rfl rfl ?_
  refine gX2_3 (ix := 21) (by decide +kernel) tw_57 (hB.1 7 _ rfl) ?_
  refine ab_icmp_ge (off := 158) (tgt := 262) (by decide +kernel) rfl (fun hc => ?_) (fun hc => ?_)
  · replace H := ab_ifp H hc
    obtain ⟨y3, Hy, hx⟩ := ab_mp_of H
    subst hx
    replace H := Hy
    exact ab_wk (ab_le_some (ab_le_some (ab_le_some (ab_le_some (ab_le_some (ab_le_none (ab_le_none (ab_le_none (ab_le_none (ab_le_nil)))))))))) (fX2_comesTo_262_ok hB hq1 H  (K0 _ rfl))
  · replace H := ab_ifn H hc
    refine ab_aload_n (z := 0) (by decide +kernel) rfl rfl ?_
    refine gX2_0 (ix := 9) (by decide +kernel) tw_54 (hB.1 7 _ rfl) (hB.2.1 15 (7, 0, 8) rfl) ?_
    refine ab_iload (i := 7) (by decide +kernel) rfl ?_
    obtain ⟨hg, H⟩ := ab_gd_of H
    refine ab_iald (ln := 300) (by decide +kernel) (hB.1 8 _ rfl) (ab_ix_in hg) ?_
    refine ab_istore (i := 8) (by decide +kernel) (by decide) rfl ?_
    refine ab_ls (ls' := [some (.ref 7), some (.ref q1), some (.int a2), some (.int a3), some (.int a4), none, some (.int a6), some (.int a7), some (.int (I 8 a7.toNatClampNeg))]) rfl ?_
    refine ab_iload (i := 8) (by decide +kernel) rfl ?_
    refine ab_sipush (z := -214) (v := (-214 : Int32)) (by decide +kernel) (by decide) ?_
    refine ab_icmp_ne (off := 37) (tgt := 158) (by decide +kernel) rfl (fun hc => ?_) (fun hc => ?_)
    · replace H := ab_ifn H hc
      refine ab_iload (i := 8) (by decide +kernel) rfl ?_
      refine ab_if_ge (off := 12) (tgt := 172) (by decide +kernel) rfl (fun hc => ?_) (fun hc => ?_)
      · replace H := ab_ifp H hc
        exact ab_wk (ab_le_some (ab_le_some (ab_le_some (ab_le_some (ab_le_some (ab_le_none (ab_le_some (ab_le_some (ab_le_some (ab_le_nil)))))))))) (fX2_comesTo_172_ok hB hq1 H K1 K0)
      · replace H := ab_ifn H hc
        refine ab_iload (i := 8) (by decide +kernel) rfl ?_
        refine ab_ineg (by decide +kernel) ?_
        obtain ⟨u4, hu4, H⟩ := ab_bd_of H
        refine ksX2_isValue (D := 0) (ix := 61) (by decide +kernel) tw_686 (by decide) (Nat.le_of_ble_eq_true rfl) (mX2_isValue_ok hB hu4 ?_)
        change ab_WP l G mX2_comesTo 1 169 [some (.ref 7), some (.ref q1), some (.int a2), some (.int a3), some (.int a4), none, some (.int a6), some (.int a7), some (.int (I 8 a7.toNatClampNeg))] [.int u4] S I J P 0 0 Q
        refine ab_if_eq (off := 48) (tgt := 217) (by decide +kernel) rfl (fun hc => ?_) (fun hc => ?_)
        · replace H := ab_ifp H hc
          refine ab_iload (i := 6) (by decide +kernel) rfl ?_
          refine ab_iconst (z := 1) (v := (1 : Int32)) (by decide +kernel) (by decide) ?_
          refine ab_icmp_le (off := 36) (tgt := 256) (by decide +kernel) rfl (fun hc => ?_) (fun hc => ?_)
          · replace H := ab_ifp H hc
            exact ab_wk (ab_le_some (ab_le_some (ab_le_some (ab_le_some (ab_le_some (ab_le_none (ab_le_some (ab_le_some (ab_le_none (ab_le_nil)))))))))) (fX2_comesTo_256_ok hB hq1 H K1 K0)
          · replace H := ab_ifn H hc
            refine ab_iinc (i := 6) (z := -1) (v := (a6 + (-1 : Int32))) (by decide +kernel) rfl rfl (by decide) rfl ?_
            refine ab_ls (ls' := [some (.ref 7), some (.ref q1), some (.int a2), some (.int a3), some (.int a4), none, some (.int (a6 + (-1 : Int32))), some (.int a7), some (.int (I 8 a7.toNatClampNeg))]) rfl ?_
            refine ab_aload_n (z := 0) (by decide +kernel) rfl rfl ?_
            refine gX2_1 (ix := 15) (by decide +kernel) tw_55 (hB.1 7 _ rfl) (hB.2.1 16 (7, 1, 9) rfl) ?_
            refine ab_iload (i := 6) (by decide +kernel) rfl ?_
            refine ab_iconst (z := 1) (v := (1 : Int32)) (by decide +kernel) (by decide) ?_
            refine ab_isub (by decide +kernel) ?_
            refine ab_iload (i := 8) (by decide +kernel) rfl ?_
            refine ab_aload_n (z := 0) (by decide +kernel) rfl rfl ?_
            refine gX2_1 (ix := 15) (by decide +kernel) tw_55 (hB.1 7 _ rfl) (hB.2.1 16 (7, 1, 9) rfl) ?_
            refine ab_iload (i := 6) (by decide +kernel) rfl ?_
            refine ab_iconst (z := 1) (v := (1 : Int32)) (by decide +kernel) (by decide) ?_
            refine ab_isub (by decide +kernel) ?_
            obtain ⟨hg, H⟩ := ab_gd_of H
            refine ab_iald (ln := 30) (by decide +kernel) (hB.1 9 _ rfl) (ab_ix_in hg) ?_
            refine ab_aload_n (z := 0) (by decide +kernel) rfl rfl ?_
            refine gX2_1 (ix := 15) (by decide +kernel) tw_55 (hB.1 7 _ rfl) (hB.2.1 16 (7, 1, 9) rfl) ?_
            refine ab_iload (i := 6) (by decide +kernel) rfl ?_
            obtain ⟨hg, H⟩ := ab_gd_of H
            refine ab_iald (ln := 30) (by decide +kernel) (hB.1 9 _ rfl) (ab_ix_in hg) ?_
            obtain ⟨u5, hu5, H⟩ := ab_bd_of H
            refine ksX2_joined (D := 0) (ix := 65) (by decide +kernel) tw_687 (by decide) (Nat.le_of_ble_eq_true rfl) (mX2_joined_ok hB hu5 ?_)
            change ab_WP l G mX2_comesTo 1 255 [some (.ref 7), some (.ref q1), some (.int a2), some (.int a3), some (.int a4), none, some (.int (a6 + (-1 : Int32))), some (.int a7), some (.int (I 8 a7.toNatClampNeg))] [.int u5, .int ((a6 + (-1 : Int32)) - (1 : Int32)), .ref 9] S I J P 0 0 Q
            obtain ⟨hg, H⟩ := ab_gd_of H
            refine ab_iast (ln := 30) (by decide +kernel) (hB.1 9 _ rfl) (ab_ix_in hg) ?_
            exact ab_wk (ab_le_some (ab_le_some (ab_le_some (ab_le_some (ab_le_some (ab_le_none (ab_le_some (ab_le_some (ab_le_none (ab_le_nil)))))))))) (fX2_comesTo_256_ok hB hq1 H K1 K0)
        · replace H := ab_ifn H hc
          exact ab_wk (ab_le_some (ab_le_some (ab_le_some (ab_le_some (ab_le_some (ab_le_none (ab_le_some (ab_le_some (ab_le_some (ab_le_nil)))))))))) (fX2_comesTo_172_ok hB hq1 H K1 K0)
    · replace H := ab_ifp H hc
      refine ab_iload (i := 6) (by decide +kernel) rfl ?_
      refine ab_if_le (off := 130) (tgt := 256) (by decide +kernel) rfl (fun hc => ?_) (fun hc => ?_)
      · replace H := ab_ifp H hc
        exact ab_wk (ab_le_some (ab_le_some (ab_le_some (ab_le_some (ab_le_some (ab_le_none (ab_le_some (ab_le_some (ab_le_none (ab_le_nil)))))))))) (fX2_comesTo_256_ok hB hq1 H K1 K0)
      · replace H := ab_ifn H hc
        refine ab_aload_n (z := 0) (by decide +kernel) rfl rfl ?_
        refine gX2_1 (ix := 15) (by decide +kernel) tw_55 (hB.1 7 _ rfl) (hB.2.1 16 (7, 1, 9) rfl) ?_
        refine ab_iload (i := 6) (by decide +kernel) rfl ?_
        refine ab_iconst (z := 1) (v := (1 : Int32)) (by decide +kernel) (by decide) ?_
        refine ab_isub (by decide +kernel) ?_
        refine ab_aload_n (z := 0) (by decide +kernel) rfl rfl ?_
        refine gX2_1 (ix := 15) (by decide +kernel) tw_55 (hB.1 7 _ rfl) (hB.2.1 16 (7, 1, 9) rfl) ?_
        refine ab_iload (i := 6) (by decide +kernel) rfl ?_
        refine ab_iconst (z := 1) (v := (1 : Int32)) (by decide +kernel) (by decide) ?_
        refine ab_isub (by decide +kernel) ?_
        obtain ⟨hg, H⟩ := ab_gd_of H
        refine ab_iald (ln := 30) (by decide +kernel) (hB.1 9 _ rfl) (ab_ix_in hg) ?_
        refine ab_if_ne (off := 7) (tgt := 153) (by decide +kernel) rfl (fun hc => ?_) (fun hc => ?_)
        · replace H := ab_ifn H hc
          refine ab_iconst (z := 0) (v := (0 : Int32)) (by decide +kernel) (by decide) ?_
          exact ab_wk (ab_le_some (ab_le_some (ab_le_some (ab_le_some (ab_le_some (ab_le_none (ab_le_some (ab_le_some (ab_le_none (ab_le_nil)))))))))) (fX2_comesTo_154_ok hB hq1 H K1 K0)
        · replace H := ab_ifp H hc
          refine ab_iconst (z := 1) (v := (1 : Int32)) (by decide +kernel) (by decide) ?_
          refine ab_goto (off := 4) (tgt := 154) (by decide +kernel) rfl ?_
          exact ab_wk (ab_le_some (ab_le_some (ab_le_some (ab_le_some (ab_le_some (ab_le_none (ab_le_some (ab_le_some (ab_le_none (ab_le_nil)))))))))) (fX2_comesTo_154_ok hB hq1 H K1 K0)
def fX2_comesTo (q1 : Nat) (a2 : Int32) (a3 : Int32) (a4 : Int32) (I : ab_I) : Option (Int32 × ab_I) :=
  (fX11_cell a2 a3).bind fun u1 =>
  ab_gd (ab_ix u1 30 = true) (
    if (I 7 3) = 0 then
      ab_gd (ab_ix a2 6 = true) (
        some (((I (q1 + 3) u1.toNatClampNeg) - (I (q1 + 2) a2.toNatClampNeg)), I)
      )
    else
      ab_gd (ab_ix a2 6 = true) (
        ab_gd (ab_ix (0 : Int32) 6 = true) (
          ab_gd (ab_ix (1 : Int32) 6 = true) (
            ab_gd (ab_ix (2 : Int32) 6 = true) (
              ab_gd (ab_ix a2 6 = true) (
                ab_gd (ab_ix (3 : Int32) 6 = true) (
                  (fJ6_bitCount_0f7a4 ((ab_u (ab_u (ab_u (ab_u I 10 ((0 : Int32).toNatClampNeg) (I (q1 + 1) a2.toNatClampNeg)) 10 ((1 : Int32).toNatClampNeg) a4) 10 ((2 : Int32).toNatClampNeg) (I (q1 + 3) u1.toNatClampNeg)) 10 ((3 : Int32).toNatClampNeg) ((ab_u (ab_u (ab_u I 10 ((0 : Int32).toNatClampNeg) (I (q1 + 1) a2.toNatClampNeg)) 10 ((1 : Int32).toNatClampNeg) a4) 10 ((2 : Int32).toNatClampNeg) (I (q1 + 3) u1.toNatClampNeg)) (q1 + 2) a2.toNatClampNeg)) q1 3)).bind fun u2 =>
                  ab_gd (ab_ix (4 : Int32) 6 = true) (
                    ab_gd (ab_ix (5 : Int32) 6 = true) (
                      ab_it (fun s => fX2_comesTo_98 q1 a2 a3 a4 s.1 s.2.1 s.2.2) 5000 ((0 : Int32), (0 : Int32), (ab_u (ab_u (ab_u (ab_u (ab_u (ab_u I 10 ((0 : Int32).toNatClampNeg) (I (q1 + 1) a2.toNatClampNeg)) 10 ((1 : Int32).toNatClampNeg) a4) 10 ((2 : Int32).toNatClampNeg) (I (q1 + 3) u1.toNatClampNeg)) 10 ((3 : Int32).toNatClampNeg) ((ab_u (ab_u (ab_u I 10 ((0 : Int32).toNatClampNeg) (I (q1 + 1) a2.toNatClampNeg)) 10 ((1 : Int32).toNatClampNeg) a4) 10 ((2 : Int32).toNatClampNeg) (I (q1 + 3) u1.toNatClampNeg)) (q1 + 2) a2.toNatClampNeg)) 10 ((4 : Int32).toNatClampNeg) u2) 10 ((5 : Int32).toNatClampNeg) ((ab_u (ab_u (ab_u (ab_u (ab_u I 10 ((0 : Int32).toNatClampNeg) (I (q1 + 1) a2.toNatClampNeg)) 10 ((1 : Int32).toNatClampNeg) a4) 10 ((2 : Int32).toNatClampNeg) (I (q1 + 3) u1.toNatClampNeg)) 10 ((3 : Int32).toNatClampNeg) ((ab_u (ab_u (ab_u I 10 ((0 : Int32).toNatClampNeg) (I (q1 + 1) a2.toNatClampNeg)) 10 ((1 : Int32).toNatClampNeg) a4) 10 ((2 : Int32).toNatClampNeg) (I (q1 + 3) u1.toNatClampNeg)) (q1 + 2) a2.toNatClampNeg)) 10 ((4 : Int32).toNatClampNeg) u2) q1 4)))
                    )
                  )
                )
              )
            )
          )
        )
      )
  )
set_option maxRecDepth 100000 in
theorem mX2_comesTo_ok {l : Launch} {G : ab_G} {S : ab_S} {I : ab_I} {J : ab_J} {P : ab_P} {Q : ab_Q} {q1 : Nat} {a2 : Int32} {a3 : Int32} {a4 : Int32} (hB : bz_B S P) (hq1 : bz_st S P q1) {x : Int32 × ab_I} (H : fX2_comesTo q1 a2 a3 a4 I = some x) (K0 : Q (some (.int x.1)) S x.2 J P) : ab_Call l G mX2_comesTo 1 [.ref 7, .ref q1, .int a2, .int a3, .int a4] S I J P Q := by
  unfold fX2_comesTo at H
  refine ab_enter rfl (Nat.le_of_ble_eq_true rfl) (ab_wk (ls' := [some (.ref 7), some (.ref q1), some (.int a2), some (.int a3), some (.int a4), none, none, none, none]) (ab_le_some (ab_le_some (ab_le_some (ab_le_some (ab_le_some (ab_le_non0 (ab_le_non0 (ab_le_non0 (ab_le_non0 ab_le_nil))))))))) ?_)
  refine ab_aload_n (z := 1) (by decide +kernel) rfl rfl ?_
  refine gX6_2 (ix := 34) (by decide +kernel) tw_248 hq1.1 hq1.2.2.2.2.2.2 ?_
  refine ab_iload_n (z := 2) (by decide +kernel) rfl rfl ?_
  refine ab_iload_n (z := 3) (by decide +kernel) rfl rfl ?_
  obtain ⟨u1, hu1, H⟩ := ab_bd_of H
  refine knX11_cell (D := 0) (ix := 39) (host := "BellRingers") (by decide +kernel) tn_679 (by decide) (Nat.le_of_ble_eq_true rfl) (mX11_cell_ok hB hu1 ?_)
  change ab_WP l G mX2_comesTo 1 9 [some (.ref 7), some (.ref q1), some (.int a2), some (.int a3), some (.int a4), none, none, none, none] [.int u1, .ref (q1 + 3)] S I J P 0 0 Q
  obtain ⟨hg, H⟩ := ab_gd_of H
  refine ab_iald (ln := 30) (by decide +kernel) hq1.2.2.2.1 (ab_ix_in hg) ?_
  refine ab_istore (i := 5) (by decide +kernel) (by decide) rfl ?_
  refine ab_ls (ls' := [some (.ref 7), some (.ref q1), some (.int a2), some (.int a3), some (.int a4), some (.int (I (q1 + 3) u1.toNatClampNeg)), none, none, none]) rfl ?_
  refine ab_aload_n (z := 0) (by decide +kernel) rfl rfl ?_
  refine gX2_3 (ix := 21) (by decide +kernel) tw_57 (hB.1 7 _ rfl) ?_
  refine ab_if_ne (off := 13) (tgt := 29) (by decide +kernel) rfl (fun hc => ?_) (fun hc => ?_)
  · replace H := ab_ifn H hc
    refine ab_aload_n (z := 0) (by decide +kernel) rfl rfl ?_
    refine gX2_2 (ix := 18) (by decide +kernel) tw_56 (hB.1 7 _ rfl) (hB.2.1 17 (7, 2, 10) rfl) ?_
    refine ab_iconst (z := 0) (v := (0 : Int32)) (by decide +kernel) (by decide) ?_
    refine ab_aload_n (z := 1) (by decide +kernel) rfl rfl ?_
    refine gX6_0 (ix := 46) (by decide +kernel) tw_236 hq1.1 hq1.2.2.2.2.1 ?_
    refine ab_iload_n (z := 2) (by decide +kernel) rfl rfl ?_
    obtain ⟨hg, H⟩ := ab_gd_of H
    refine ab_iald (ln := 6) (by decide +kernel) hq1.2.1 (ab_ix_in hg) ?_
    obtain ⟨hg, H⟩ := ab_gd_of H
    refine ab_iast (ln := 6) (by decide +kernel) (hB.1 10 _ rfl) (ab_ix_in hg) ?_
    refine ab_aload_n (z := 0) (by decide +kernel) rfl rfl ?_
    refine gX2_2 (ix := 18) (by decide +kernel) tw_56 (hB.1 7 _ rfl) (hB.2.1 17 (7, 2, 10) rfl) ?_
    refine ab_iconst (z := 1) (v := (1 : Int32)) (by decide +kernel) (by decide) ?_
    refine ab_iload (i := 4) (by decide +kernel) rfl ?_
    obtain ⟨hg, H⟩ := ab_gd_of H
    refine ab_iast (ln := 6) (by decide +kernel) (hB.1 10 _ rfl) (ab_ix_in hg) ?_
    refine ab_aload_n (z := 0) (by decide +kernel) rfl rfl ?_
    refine gX2_2 (ix := 18) (by decide +kernel) tw_56 (hB.1 7 _ rfl) (hB.2.1 17 (7, 2, 10) rfl) ?_
    refine ab_iconst (z := 2) (v := (2 : Int32)) (by decide +kernel) (by decide) ?_
    refine ab_iload (i := 5) (by decide +kernel) rfl ?_
    obtain ⟨hg, H⟩ := ab_gd_of H
    refine ab_iast (ln := 6) (by decide +kernel) (hB.1 10 _ rfl) (ab_ix_in hg) ?_
    refine ab_aload_n (z := 0) (by decide +kernel) rfl rfl ?_
    refine gX2_2 (ix := 18) (by decide +kernel) tw_56 (hB.1 7 _ rfl) (hB.2.1 17 (7, 2, 10) rfl) ?_
    refine ab_iconst (z := 3) (v := (3 : Int32)) (by decide +kernel) (by decide) ?_
    refine ab_aload_n (z := 1) (by decide +kernel) rfl rfl ?_
    refine gX6_1 (ix := 43) (by decide +kernel) tw_242 hq1.1 hq1.2.2.2.2.2.1 ?_
    refine ab_iload_n (z := 2) (by decide +kernel) rfl rfl ?_
    obtain ⟨hg, H⟩ := ab_gd_of H
    refine ab_iald (ln := 6) (by decide +kernel) hq1.2.2.1 (ab_ix_in hg) ?_
    obtain ⟨hg, H⟩ := ab_gd_of H
    refine ab_iast (ln := 6) (by decide +kernel) (hB.1 10 _ rfl) (ab_ix_in hg) ?_
    refine ab_aload_n (z := 0) (by decide +kernel) rfl rfl ?_
    refine gX2_2 (ix := 18) (by decide +kernel) tw_56 (hB.1 7 _ rfl) (hB.2.1 17 (7, 2, 10) rfl) ?_
    refine ab_iconst (z := 4) (v := (4 : Int32)) (by decide +kernel) (by decide) ?_
    refine ab_aload_n (z := 1) (by decide +kernel) rfl rfl ?_
    refine gX6_3 (ix := 49) (by decide +kernel) tw_256 hq1.1 ?_
    obtain ⟨u2, hu2, H⟩ := ab_bd_of H
    refine ksJ6_bitCount_0f7a4 (D := 0) (ix := 52) (by decide +kernel) tw_680 (by decide) (Nat.le_of_ble_eq_true rfl) (mJ6_bitCount_0f7a4_ok hB hu2 ?_)
    change ab_WP l G mX2_comesTo 1 81 [some (.ref 7), some (.ref q1), some (.int a2), some (.int a3), some (.int a4), some (.int (I (q1 + 3) u1.toNatClampNeg)), none, none, none] [.int u2, .int (4 : Int32), .ref 10] S (ab_u (ab_u (ab_u (ab_u I 10 ((0 : Int32).toNatClampNeg) (I (q1 + 1) a2.toNatClampNeg)) 10 ((1 : Int32).toNatClampNeg) a4) 10 ((2 : Int32).toNatClampNeg) (I (q1 + 3) u1.toNatClampNeg)) 10 ((3 : Int32).toNatClampNeg) ((ab_u (ab_u (ab_u I 10 ((0 : Int32).toNatClampNeg) (I (q1 + 1) a2.toNatClampNeg)) 10 ((1 : Int32).toNatClampNeg) a4) 10 ((2 : Int32).toNatClampNeg) (I (q1 + 3) u1.toNatClampNeg)) (q1 + 2) a2.toNatClampNeg)) J P 0 0 Q
    obtain ⟨hg, H⟩ := ab_gd_of H
    refine ab_iast (ln := 6) (by decide +kernel) (hB.1 10 _ rfl) (ab_ix_in hg) ?_
    refine ab_aload_n (z := 0) (by decide +kernel) rfl rfl ?_
    refine gX2_2 (ix := 18) (by decide +kernel) tw_56 (hB.1 7 _ rfl) (hB.2.1 17 (7, 2, 10) rfl) ?_
    refine ab_iconst (z := 5) (v := (5 : Int32)) (by decide +kernel) (by decide) ?_
    refine ab_aload_n (z := 1) (by decide +kernel) rfl rfl ?_
    refine gX6_4 (ix := 58) (by decide +kernel) tw_262 hq1.1 ?_
    obtain ⟨hg, H⟩ := ab_gd_of H
    refine ab_iast (ln := 6) (by decide +kernel) (hB.1 10 _ rfl) (ab_ix_in hg) ?_
    refine ab_iconst (z := 0) (v := (0 : Int32)) (by decide +kernel) (by decide) ?_
    refine ab_istore (i := 6) (by decide +kernel) (by decide) rfl ?_
    refine ab_ls (ls' := [some (.ref 7), some (.ref q1), some (.int a2), some (.int a3), some (.int a4), some (.int (I (q1 + 3) u1.toNatClampNeg)), some (.int (0 : Int32)), none, none]) rfl ?_
    refine ab_iconst (z := 0) (v := (0 : Int32)) (by decide +kernel) (by decide) ?_
    refine ab_istore (i := 7) (by decide +kernel) (by decide) rfl ?_
    refine ab_ls (ls' := [some (.ref 7), some (.ref q1), some (.int a2), some (.int a3), some (.int a4), some (.int (I (q1 + 3) u1.toNatClampNeg)), some (.int (0 : Int32)), some (.int (0 : Int32)), none]) rfl ?_
    exact ab_wk (ab_le_some (ab_le_some (ab_le_some (ab_le_some (ab_le_some (ab_le_none (ab_le_some (ab_le_some (ab_le_none (ab_le_nil)))))))))) (ab_iter (W := fun s => ab_WP l G mX2_comesTo 1 98 [some (.ref 7), some (.ref q1), some (.int a2), some (.int a3), some (.int a4), none, some (.int s.1), some (.int s.2.1), none] [] S s.2.2 J P 0 0 Q) (fun s y hb h1 h2 => fX2_comesTo_98_ok hB hq1 hb h1 (fun r e => by have e2 := h2 _ e; subst e2; exact K0)) 5000 ((0 : Int32), (0 : Int32), (ab_u (ab_u (ab_u (ab_u (ab_u (ab_u I 10 ((0 : Int32).toNatClampNeg) (I (q1 + 1) a2.toNatClampNeg)) 10 ((1 : Int32).toNatClampNeg) a4) 10 ((2 : Int32).toNatClampNeg) (I (q1 + 3) u1.toNatClampNeg)) 10 ((3 : Int32).toNatClampNeg) ((ab_u (ab_u (ab_u I 10 ((0 : Int32).toNatClampNeg) (I (q1 + 1) a2.toNatClampNeg)) 10 ((1 : Int32).toNatClampNeg) a4) 10 ((2 : Int32).toNatClampNeg) (I (q1 + 3) u1.toNatClampNeg)) (q1 + 2) a2.toNatClampNeg)) 10 ((4 : Int32).toNatClampNeg) u2) 10 ((5 : Int32).toNatClampNeg) ((ab_u (ab_u (ab_u (ab_u (ab_u I 10 ((0 : Int32).toNatClampNeg) (I (q1 + 1) a2.toNatClampNeg)) 10 ((1 : Int32).toNatClampNeg) a4) 10 ((2 : Int32).toNatClampNeg) (I (q1 + 3) u1.toNatClampNeg)) 10 ((3 : Int32).toNatClampNeg) ((ab_u (ab_u (ab_u I 10 ((0 : Int32).toNatClampNeg) (I (q1 + 1) a2.toNatClampNeg)) 10 ((1 : Int32).toNatClampNeg) a4) 10 ((2 : Int32).toNatClampNeg) (I (q1 + 3) u1.toNatClampNeg)) (q1 + 2) a2.toNatClampNeg)) 10 ((4 : Int32).toNatClampNeg) u2) q1 4))) H)
  · replace H := ab_ifp H hc
    refine ab_iload (i := 5) (by decide +kernel) rfl ?_
    refine ab_aload_n (z := 1) (by decide +kernel) rfl rfl ?_
    refine gX6_1 (ix := 43) (by decide +kernel) tw_242 hq1.1 hq1.2.2.2.2.2.1 ?_
    refine ab_iload_n (z := 2) (by decide +kernel) rfl rfl ?_
    obtain ⟨hg, H⟩ := ab_gd_of H
    refine ab_iald (ln := 6) (by decide +kernel) hq1.2.2.1 (ab_ix_in hg) ?_
    refine ab_isub (by decide +kernel) ?_
    obtain rfl := Option.some.inj H
    exact ab_iret (by decide +kernel) rfl (Nat.le_refl _) (Nat.le_refl _) K0
