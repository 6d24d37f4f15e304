abbrev mX12_goDay : ab_M := (yX12_goDay, cX12_goDay, 4, some .int, 0, 0)
theorem kvX12_goDay {l : Launch} {G : ab_G} {M : ab_M} {d pc : Nat} {ls : List (Option Value)} {st : List Value} {S : ab_S} {I : ab_I} {J : ab_J} {P : ab_P} {Q : ab_Q} {v0 : Value} {ix D r ln : Nat} (hd : decode M.2.1 pc = .ok (.invokevirtual ix, 3)) (h1 : Cond.methodLink M.1.cls ix mX12_goDay.1 ∈ ab_good) (hs : S[r]? = some (17, ln)) (hdg : D + 1 ≤ d) (hsum : (st.map fun v => v.category).sum ≤ 8) (kk : ab_Call l G mX12_goDay D (.ref r :: [v0]) S I J P (fun v S' I' J' P' => ab_WP l G M d (pc + 3) ls (ab_psh v st) S' I' J' P' 0 0 Q)) : ab_WP l G M d pc ls (v0 :: .ref r :: st) S I J P 0 0 Q := bz_kv (g := mX12_goDay) (as := [v0]) (cc := 12) rfl hd h1 tw_1498 tw_p67 tw_13 tw_1499 ⟨by decide +kernel, by decide +kernel, (by decide +kernel : (parseMethodDescriptor mX12_goDay.1.desc).map (fun d => d.parameters.length) = some 1)⟩ (by decide) rfl rfl rfl hdg hsum hs kk
def fX12_goDay_27 (a1 : Int32) (a2 : Int32) (I : ab_I) : Option (Int32 × ab_I) :=
  ab_gd (ab_ix (43 : Int32) 45 = true) (
    ab_gd (ab_ix (43 : Int32) 45 = true) (
      some (a2, (ab_u I 90 ((43 : Int32).toNatClampNeg) ((I 90 ((43 : Int32).toNatClampNeg)) + (1 : Int32))))
    )
  )
set_option maxRecDepth 100000 in
theorem fX12_goDay_27_ok {l : Launch} {G : ab_G} {S : ab_S} {I : ab_I} {J : ab_J} {P : ab_P} {Q : ab_Q} {a1 : Int32} {a2 : Int32} (hB : bz_B S P) {x : Int32 × ab_I} (H : fX12_goDay_27 a1 a2 I = some x) (K0 : Q (some (.int x.1)) S x.2 J P) : ab_WP l G mX12_goDay 5 27 [some (.ref 73), some (.int a1), some (.int a2), none] [] S I J P 0 0 Q := by
  unfold fX12_goDay_27 at H
  refine ab_aload_n (z := 0) (by decide +kernel) rfl rfl ?_
  refine gX12_47 (ix := 63) (by decide +kernel) tw_1128 (hB.1 73 _ rfl) (hB.2.1 95 (73, 47, 90) rfl) ?_
  refine ab_bipush (z := 43) (v := (43 : Int32)) (by decide +kernel) (by decide) ?_
  refine ab_dup2 (by decide +kernel) rfl rfl ?_
  obtain ⟨hg, H⟩ := ab_gd_of H
  refine ab_iald (ln := 45) (by decide +kernel) (hB.1 90 _ rfl) (ab_ix_in hg) ?_
  refine ab_iconst (z := 1) (v := (1 : Int32)) (by decide +kernel) (by decide) ?_
  refine ab_iadd (by decide +kernel) ?_
  obtain ⟨hg, H⟩ := ab_gd_of H
  refine ab_iast (ln := 45) (by decide +kernel) (hB.1 90 _ rfl) (ab_ix_in hg) ?_
  refine ab_iload_n (z := 2) (by decide +kernel) rfl rfl ?_
  obtain rfl := Option.some.inj H
  exact ab_iret (by decide +kernel) rfl (Nat.le_refl _) (Nat.le_refl _) K0
def fX12_goDay_4 (a1 : Int32) (a2 : Int32) (a3 : Int32) (I : ab_I) : Option ((Int32 × Int32 × ab_I) ⊕ (Int32 × ab_I)) :=
  if (I 73 40) ≤ a3 then
    (fX12_goDay_27 a1 a2 I).map .inr
  else
    (fX12_ring a3 a1 I).bind fun u2 =>
    some (.inl ((a2 + u2.1), (a3 + (1 : Int32)), u2.2))
set_option maxRecDepth 100000 in
theorem fX12_goDay_4_ok {l : Launch} {G : ab_G} {S : ab_S} {I : ab_I} {J : ab_J} {P : ab_P} {Q : ab_Q} {a1 : Int32} {a2 : Int32} {a3 : Int32} (hB : bz_B S P) {x : ((Int32 × Int32 × ab_I) ⊕ (Int32 × ab_I))} (H : fX12_goDay_4 a1 a2 a3 I = some x) (K1 : ∀ s, x = (.inl s) → ab_WP l G mX12_goDay 5 4 [some (.ref 73), some (.int a1), some (.int s.1), some (.int s.2.1)] [] S s.2.2 J P 0 0 Q) (K0 : ∀ r, x = (.inr r) → Q (some (.int r.1)) S r.2 J P) : ab_WP l G mX12_goDay 5 4 [some (.ref 73), some (.int a1), some (.int a2), some (.int a3)] [] S I J P 0 0 Q := by
  unfold fX12_goDay_4 at H
  refine ab_iload_n (z := 3) (by decide +kernel) rfl rfl ?_
  refine ab_aload_n (z := 0) (by decide +kernel) rfl rfl ?_
  refine gX12_40 (ix := 351) (by decide +kernel) tw_1121 (hB.1 73 _ rfl) ?_
  refine ab_icmp_ge (off := 18) (tgt := 27) (by decide +kernel) rfl (fun hc => ?_) (fun hc => ?_)
  · replace H := ab_ifp H hc
    obtain ⟨y1, Hy, hx⟩ := ab_mp_of H
    subst hx
    replace H := Hy
    exact ab_wk (ab_le_some (ab_le_some (ab_le_some (ab_le_none (ab_le_nil))))) (fX12_goDay_27_ok hB H  (K0 _ rfl))
  · replace H := ab_ifn H hc
    refine ab_iload_n (z := 2) (by decide +kernel) rfl rfl ?_
    refine ab_aload_n (z := 0) (by decide +kernel) rfl rfl ?_
    refine ab_iload_n (z := 3) (by decide +kernel) rfl rfl ?_
    refine ab_iload_n (z := 1) (by decide +kernel) rfl rfl ?_
    obtain ⟨u2, hu2, H⟩ := ab_bd_of H
    refine kvX12_ring (D := 4) (ix := 404) (by decide +kernel) tw_1500 (hB.1 73 _ rfl) (by decide) (Nat.le_of_ble_eq_true rfl) (mX12_ring_ok hB hu2 ?_)
    change ab_WP l G mX12_goDay 5 19 [some (.ref 73), some (.int a1), some (.int a2), some (.int a3)] [.int u2.1, .int a2] S u2.2 J P 0 0 Q
    refine ab_iadd (by decide +kernel) ?_
    refine ab_istore_n (z := 2) (by decide +kernel) rfl (by decide) rfl ?_
    refine ab_ls (ls' := [some (.ref 73), some (.int a1), some (.int (a2 + u2.1)), some (.int a3)]) rfl ?_
    refine ab_iinc (i := 3) (z := 1) (v := (a3 + (1 : Int32))) (by decide +kernel) rfl rfl (by decide) rfl ?_
    refine ab_ls (ls' := [some (.ref 73), some (.int a1), some (.int (a2 + u2.1)), some (.int (a3 + (1 : Int32)))]) rfl ?_
    refine ab_goto (off := -20) (tgt := 4) (by decide +kernel) rfl ?_
    exact ab_wk (ab_le_some (ab_le_some (ab_le_some (ab_le_some (ab_le_nil))))) (K1 ((a2 + u2.1), (a3 + (1 : Int32)), u2.2) (Option.some.inj H).symm)
def fX12_goDay (a1 : Int32) (I : ab_I) : Option (Int32 × ab_I) :=
  ab_it (fun s => fX12_goDay_4 a1 s.1 s.2.1 s.2.2) 5000 ((0 : Int32), (0 : Int32), I)
set_option maxRecDepth 100000 in
theorem mX12_goDay_ok {l : Launch} {G : ab_G} {S : ab_S} {I : ab_I} {J : ab_J} {P : ab_P} {Q : ab_Q} {a1 : Int32} (hB : bz_B S P) {x : Int32 × ab_I} (H : fX12_goDay a1 I = some x) (K0 : Q (some (.int x.1)) S x.2 J P) : ab_Call l G mX12_goDay 5 [.ref 73, .int a1] S I J P Q := by
  unfold fX12_goDay at H
  refine ab_enter rfl (Nat.le_of_ble_eq_true rfl) (ab_wk (ls' := [some (.ref 73), some (.int a1), none, none]) (ab_le_some (ab_le_some (ab_le_non0 (ab_le_non0 ab_le_nil)))) ?_)
  refine ab_iconst (z := 0) (v := (0 : Int32)) (by decide +kernel) (by decide) ?_
  refine ab_istore_n (z := 2) (by decide +kernel) rfl (by decide) rfl ?_
  refine ab_ls (ls' := [some (.ref 73), some (.int a1), some (.int (0 : Int32)), none]) rfl ?_
  refine ab_iconst (z := 0) (v := (0 : Int32)) (by decide +kernel) (by decide) ?_
  refine ab_istore_n (z := 3) (by decide +kernel) rfl (by decide) rfl ?_
  refine ab_ls (ls' := [some (.ref 73), some (.int a1), some (.int (0 : Int32)), some (.int (0 : Int32))]) rfl ?_
  exact ab_wk (ab_le_some (ab_le_some (ab_le_some (ab_le_some (ab_le_nil))))) (ab_iter (body := (fun s => fX12_goDay_4 a1 s.1 s.2.1 s.2.2)) (W := fun s => ab_WP l G mX12_goDay 5 4 [some (.ref 73), some (.int a1), some (.int s.1), some (.int s.2.1)] [] S s.2.2 J P 0 0 Q) (fun s y hb h1 h2 => fX12_goDay_4_ok hB hb h1 (fun r e => by have e2 := h2 _ e; subst e2; exact K0)) 5000 ((0 : Int32), (0 : Int32), I) H)
abbrev mX12_rungBy : ab_M := (yX12_rungBy, cX12_rungBy, 4, some .int, 0, 0)
theorem kvX12_rungBy {l : Launch} {G : ab_G} {M : ab_M} {d pc : Nat} {ls : List (Option Value)} {st : List Value} {S : ab_S} {I : ab_I} {J : ab_J} {P : ab_P} {Q : ab_Q} {v0 : Value} {ix D r ln : Nat} (hd : decode M.2.1 pc = .ok (.invokevirtual ix, 3)) (h1 : Cond.methodLink M.1.cls ix mX12_rungBy.1 ∈ ab_good) (hs : S[r]? = some (17, ln)) (hdg : D + 1 ≤ d) (hsum : (st.map fun v => v.category).sum ≤ 8) (kk : ab_Call l G mX12_rungBy D (.ref r :: [v0]) S I J P (fun v S' I' J' P' => ab_WP l G M d (pc + 3) ls (ab_psh v st) S' I' J' P' 0 0 Q)) : ab_WP l G M d pc ls (v0 :: .ref r :: st) S I J P 0 0 Q := bz_kv (g := mX12_rungBy) (as := [v0]) (cc := 12) rfl hd h1 tw_1523 tw_p71 tw_13 tw_1524 ⟨by decide +kernel, by decide +kernel, (by decide +kernel : (parseMethodDescriptor mX12_rungBy.1.desc).map (fun d => d.parameters.length) = some 1)⟩ (by decide) rfl rfl rfl hdg hsum hs kk
def fX12_rungBy_41 (a1 : Int32) (I : ab_I) (a2 : Int32) : Option Int32 :=
  some a2
set_option maxRecDepth 100000 in
theorem fX12_rungBy_41_ok {l : Launch} {G : ab_G} {S : ab_S} {I : ab_I} {J : ab_J} {P : ab_P} {Q : ab_Q} {a1 : Int32} {a2 : Int32} (hB : bz_B S P) {x : Int32} (H : fX12_rungBy_41 a1 I a2 = some x) (K0 : Q (some (.int x)) S I J P) : ab_WP l G mX12_rungBy 1 41 [some (.ref 73), some (.int a1), some (.int a2), none] [] S I J P 0 0 Q := by
  unfold fX12_rungBy_41 at H
  refine ab_iload_n (z := 2) (by decide +kernel) rfl rfl ?_
  obtain rfl := Option.some.inj H
  exact ab_iret (by decide +kernel) rfl (Nat.le_refl _) (Nat.le_refl _) K0
def fX12_rungBy_28 (a1 : Int32) (I : ab_I) (a3 : Int32) (s0 : Int32) (s1 : Int32) : Option ((Int32 × Int32) ⊕ Int32) :=
  (fX12_truth s1).bind fun u2 =>
  some (.inl ((s0 ||| (u2 <<< (a3 &&& 31))), (a3 + (1 : Int32))))
set_option maxRecDepth 100000 in
theorem fX12_rungBy_28_ok {l : Launch} {G : ab_G} {S : ab_S} {I : ab_I} {J : ab_J} {P : ab_P} {Q : ab_Q} {a1 : Int32} {a3 : Int32} {s0 : Int32} {s1 : Int32} (hB : bz_B S P) {x : ((Int32 × Int32) ⊕ Int32)} (H : fX12_rungBy_28 a1 I a3 s0 s1 = some x) (K1 : ∀ s, x = (.inl s) → ab_WP l G mX12_rungBy 1 4 [some (.ref 73), some (.int a1), some (.int s.1), some (.int s.2)] [] S I J P 0 0 Q) (K0 : ∀ r, x = (.inr r) → Q (some (.int r)) S I J P) : ab_WP l G mX12_rungBy 1 28 [some (.ref 73), some (.int a1), none, some (.int a3)] [.int s1, .int s0] S I J P 0 0 Q := by
  unfold fX12_rungBy_28 at H
  obtain ⟨u2, hu2, H⟩ := ab_bd_of H
  refine ksX12_truth (D := 0) (ix := 279) (by decide +kernel) tw_1485 (by decide) (Nat.le_of_ble_eq_true rfl) (mX12_truth_ok hB hu2 ?_)
  change ab_WP l G mX12_rungBy 1 31 [some (.ref 73), some (.int a1), none, some (.int a3)] [.int u2, .int s0] S I J P 0 0 Q
  refine ab_iload_n (z := 3) (by decide +kernel) rfl rfl ?_
  refine ab_ishl (by decide +kernel) ?_
  refine ab_ior (by decide +kernel) ?_
  refine ab_istore_n (z := 2) (by decide +kernel) rfl (by decide) rfl ?_
  refine ab_ls (ls' := [some (.ref 73), some (.int a1), some (.int (s0 ||| (u2 <<< (a3 &&& 31)))), some (.int a3)]) rfl ?_
  refine ab_iinc (i := 3) (z := 1) (v := (a3 + (1 : Int32))) (by decide +kernel) rfl rfl (by decide) rfl ?_
  refine ab_ls (ls' := [some (.ref 73), some (.int a1), some (.int (s0 ||| (u2 <<< (a3 &&& 31)))), some (.int (a3 + (1 : Int32)))]) rfl ?_
  refine ab_goto (off := -34) (tgt := 4) (by decide +kernel) rfl ?_
  exact ab_wk (ab_le_some (ab_le_some (ab_le_some (ab_le_some (ab_le_nil))))) (K1 ((s0 ||| (u2 <<< (a3 &&& 31))), (a3 + (1 : Int32))) (Option.some.inj H).symm)
def fX12_rungBy_4 (a1 : Int32) (I : ab_I) (a2 : Int32) (a3 : Int32) : Option ((Int32 × Int32) ⊕ Int32) :=
  if (I 73 40) ≤ a3 then
    (fX12_rungBy_41 a1 I a2).map .inr
  else
    ab_gd (ab_ix a3 5 = true) (
      if (I 91 a3.toNatClampNeg) = a1 then
        fX12_rungBy_28 a1 I a3 a2 (1 : Int32)
      else
        fX12_rungBy_28 a1 I a3 a2 (0 : Int32)
    )
set_option maxRecDepth 100000 in
theorem fX12_rungBy_4_ok {l : Launch} {G : ab_G} {S : ab_S} {I : ab_I} {J : ab_J} {P : ab_P} {Q : ab_Q} {a1 : Int32} {a2 : Int32} {a3 : Int32} (hB : bz_B S P) {x : ((Int32 × Int32) ⊕ Int32)} (H : fX12_rungBy_4 a1 I a2 a3 = some x) (K1 : ∀ s, x = (.inl s) → ab_WP l G mX12_rungBy 1 4 [some (.ref 73), some (.int a1), some (.int s.1), some (.int s.2)] [] S I J P 0 0 Q) (K0 : ∀ r, x = (.inr r) → Q (some (.int r)) S I J P) : ab_WP l G mX12_rungBy 1 4 [some (.ref 73), some (.int a1), some (.int a2), some (.int a3)] [] S I J P 0 0 Q := by
  unfold fX12_rungBy_4 at H
  refine ab_iload_n (z := 3) (by decide +kernel) rfl rfl ?_
  refine ab_aload_n (z := 0) (by decide +kernel) rfl rfl ?_
  refine gX12_40 (ix := 351) (by decide +kernel) tw_1121 (hB.1 73 _ rfl) ?_
  refine ab_icmp_ge (off := 32) (tgt := 41) (by decide +kernel) rfl (fun hc => ?_) (fun hc => ?_)
  · replace H := ab_ifp H hc
    obtain ⟨y1, Hy, hx⟩ := ab_mp_of H
    subst hx
    replace H := Hy
    exact ab_wk (ab_le_some (ab_le_some (ab_le_some (ab_le_none (ab_le_nil))))) (fX12_rungBy_41_ok hB H  (K0 _ rfl))
  · replace H := ab_ifn H hc
    refine ab_iload_n (z := 2) (by decide +kernel) rfl rfl ?_
    refine ab_aload_n (z := 0) (by decide +kernel) rfl rfl ?_
    refine gX12_48 (ix := 66) (by decide +kernel) tw_1129 (hB.1 73 _ rfl) (hB.2.1 96 (73, 48, 91) rfl) ?_
    refine ab_iload_n (z := 3) (by decide +kernel) rfl rfl ?_
    obtain ⟨hg, H⟩ := ab_gd_of H
    refine ab_iald (ln := 5) (by decide +kernel) (hB.1 91 _ rfl) (ab_ix_in hg) ?_
    refine ab_iload_n (z := 1) (by decide +kernel) rfl rfl ?_
    refine ab_icmp_ne (off := 7) (tgt := 27) (by decide +kernel) rfl (fun hc => ?_) (fun hc => ?_)
    · replace H := ab_ifn H hc
      refine ab_iconst (z := 0) (v := (0 : Int32)) (by decide +kernel) (by decide) ?_
      exact ab_wk (ab_le_some (ab_le_some (ab_le_none (ab_le_some (ab_le_nil))))) (fX12_rungBy_28_ok hB H K1 K0)
    · replace H := ab_ifp H hc
      refine ab_iconst (z := 1) (v := (1 : Int32)) (by decide +kernel) (by decide) ?_
      refine ab_goto (off := 4) (tgt := 28) (by decide +kernel) rfl ?_
      exact ab_wk (ab_le_some (ab_le_some (ab_le_none (ab_le_some (ab_le_nil))))) (fX12_rungBy_28_ok hB H K1 K0)
def fX12_rungBy (a1 : Int32) (I : ab_I) : Option Int32 :=
  ab_it (fun s => fX12_rungBy_4 a1 I s.1 s.2) 5000 ((0 : Int32), (0 : Int32))
set_option maxRecDepth 100000 in
theorem mX12_rungBy_ok {l : Launch} {G : ab_G} {S : ab_S} {I : ab_I} {J : ab_J} {P : ab_P} {Q : ab_Q} {a1 : Int32} (hB : bz_B S P) {x : Int32} (H : fX12_rungBy a1 I = some x) (K0 : Q (some (.int x)) S I J P) : ab_Call l G mX12_rungBy 1 [.ref 73, .int a1] S I J P Q := by
  unfold fX12_rungBy at H
  refine ab_enter rfl (Nat.le_of_ble_eq_true rfl) (ab_wk (ls' := [some (.ref 73), some (.int a1), none, none]) (ab_le_some (ab_le_some (ab_le_non0 (ab_le_non0 ab_le_nil)))) ?_)
  refine ab_iconst (z := 0) (v := (0 : Int32)) (by decide +kernel) (by decide) ?_
  refine ab_istore_n (z := 2) (by decide +kernel) rfl (by decide) rfl ?_
  refine ab_ls (ls' := [some (.ref 73), some (.int a1), some (.int (0 : Int32)), none]) rfl ?_
  refine ab_iconst (z := 0) (v := (0 : Int32)) (by decide +kernel) (by decide) ?_
  refine ab_istore_n (z := 3) (by decide +kernel) rfl (by decide) rfl ?_
  refine ab_ls (ls' := [some (.ref 73), some (.int a1), some (.int (0 : Int32)), some (.int (0 : Int32))]) rfl ?_
  exact ab_wk (ab_le_some (ab_le_some (ab_le_some (ab_le_some (ab_le_nil))))) (ab_iter (body := (fun s => fX12_rungBy_4 a1 I s.1 s.2)) (W := fun s => ab_WP l G mX12_rungBy 1 4 [some (.ref 73), some (.int a1), some (.int s.1), some (.int s.2)] [] S I J P 0 0 Q) (fun s y hb h1 h2 => fX12_rungBy_4_ok hB hb h1 (fun r e => by have e2 := h2 _ e; subst e2; exact K0)) 5000 ((0 : Int32), (0 : Int32)) H)
abbrev mX12_losing : ab_M := (yX12_losing, cX12_losing, 4, some .int, 0, 0)
theorem kvX12_losing {l : Launch} {G : ab_G} {M : ab_M} {d pc : Nat} {ls : List (Option Value)} {st : List Value} {S : ab_S} {I : ab_I} {J : ab_J} {P : ab_P} {Q : ab_Q} {v0 : Value} {ix D r ln : Nat} (hd : decode M.2.1 pc = .ok (.invokevirtual ix, 3)) (h1 : Cond.methodLink M.1.cls ix mX12_losing.1 ∈ ab_good) (hs : S[r]? = some (17, ln)) (hdg : D + 1 ≤ d) (hsum : (st.map fun v => v.category).sum ≤ 8) (kk : ab_Call l G mX12_losing D (.ref r :: [v0]) S I J P (fun v S' I' J' P' => ab_WP l G M d (pc + 3) ls (ab_psh v st) S' I' J' P' 0 0 Q)) : ab_WP l G M d pc ls (v0 :: .ref r :: st) S I J P 0 0 Q := bz_kv (g := mX12_losing) (as := [v0]) (cc := 12) rfl hd h1 tw_1490 tw_p65 tw_13 tw_1491 ⟨by decide +kernel, by decide +kernel, (by decide +kernel : (parseMethodDescriptor mX12_losing.1.desc).map (fun d => d.parameters.length) = some 1)⟩ (by decide) rfl rfl rfl hdg hsum hs kk
def fX12_losing_32 (a1 : Int32) (I : ab_I) (a2 : Int32) : Option Int32 :=
  some a2
set_option maxRecDepth 100000 in
theorem fX12_losing_32_ok {l : Launch} {G : ab_G} {S : ab_S} {I : ab_I} {J : ab_J} {P : ab_P} {Q : ab_Q} {a1 : Int32} {a2 : Int32} (hB : bz_B S P) {x : Int32} (H : fX12_losing_32 a1 I a2 = some x) (K0 : Q (some (.int x)) S I J P) : ab_WP l G mX12_losing 1 32 [some (.ref 73), some (.int a1), some (.int a2), none] [] S I J P 0 0 Q := by
  unfold fX12_losing_32 at H
  refine ab_iload_n (z := 2) (by decide +kernel) rfl rfl ?_
  obtain rfl := Option.some.inj H
  exact ab_iret (by decide +kernel) rfl (Nat.le_refl _) (Nat.le_refl _) K0
def fX12_losing_4 (a1 : Int32) (I : ab_I) (a2 : Int32) (a3 : Int32) : Option ((Int32 × Int32) ⊕ Int32) :=
  if (I 73 40) ≤ a3 then
    (fX12_losing_32 a1 I a2).map .inr
  else
    (fX12_mayLose a1 a3 I).bind fun u2 =>
    (fX12_truth u2).bind fun u3 =>
    some (.inl ((a2 ||| (u3 <<< (a3 &&& 31))), (a3 + (1 : Int32))))
set_option maxRecDepth 100000 in
theorem fX12_losing_4_ok {l : Launch} {G : ab_G} {S : ab_S} {I : ab_I} {J : ab_J} {P : ab_P} {Q : ab_Q} {a1 : Int32} {a2 : Int32} {a3 : Int32} (hB : bz_B S P) {x : ((Int32 × Int32) ⊕ Int32)} (H : fX12_losing_4 a1 I a2 a3 = some x) (K1 : ∀ s, x = (.inl s) → ab_WP l G mX12_losing 1 4 [some (.ref 73), some (.int a1), some (.int s.1), some (.int s.2)] [] S I J P 0 0 Q) (K0 : ∀ r, x = (.inr r) → Q (some (.int r)) S I J P) : ab_WP l G mX12_losing 1 4 [some (.ref 73), some (.int a1), some (.int a2), some (.int a3)] [] S I J P 0 0 Q := by
  unfold fX12_losing_4 at H
  refine ab_iload_n (z := 3) (by decide +kernel) rfl rfl ?_
  refine ab_aload_n (z := 0) (by decide +kernel) rfl rfl ?_
  refine gX12_40 (ix := 351) (by decide +kernel) tw_1121 (hB.1 73 _ rfl) ?_
  refine ab_icmp_ge (off := 23) (tgt := 32) (by decide +kernel) rfl (fun hc => ?_) (fun hc => ?_)
  · replace H := ab_ifp H hc
    obtain ⟨y1, Hy, hx⟩ := ab_mp_of H
    subst hx
    replace H := Hy
    exact ab_wk (ab_le_some (ab_le_some (ab_le_some (ab_le_none (ab_le_nil))))) (fX12_losing_32_ok hB H  (K0 _ rfl))
  · replace H := ab_ifn H hc
    refine ab_iload_n (z := 2) (by decide +kernel) rfl rfl ?_
    refine ab_aload_n (z := 0) (by decide +kernel) rfl rfl ?_
    refine ab_iload_n (z := 1) (by decide +kernel) rfl rfl ?_
    refine ab_iload_n (z := 3) (by decide +kernel) rfl rfl ?_
    obtain ⟨u2, hu2, H⟩ := ab_bd_of H
    refine kvX12_mayLose (D := 0) (ix := 391) (by decide +kernel) tw_1492 (hB.1 73 _ rfl) (by decide) (Nat.le_of_ble_eq_true rfl) (mX12_mayLose_ok hB hu2 ?_)
    change ab_WP l G mX12_losing 1 19 [some (.ref 73), some (.int a1), some (.int a2), some (.int a3)] [.int u2, .int a2] S I J P 0 0 Q
    obtain ⟨u3, hu3, H⟩ := ab_bd_of H
    refine ksX12_truth (D := 0) (ix := 279) (by decide +kernel) tw_1485 (by decide) (Nat.le_of_ble_eq_true rfl) (mX12_truth_ok hB hu3 ?_)
    change ab_WP l G mX12_losing 1 22 [some (.ref 73), some (.int a1), some (.int a2), some (.int a3)] [.int u3, .int a2] S I J P 0 0 Q
    refine ab_iload_n (z := 3) (by decide +kernel) rfl rfl ?_
    refine ab_ishl (by decide +kernel) ?_
    refine ab_ior (by decide +kernel) ?_
    refine ab_istore_n (z := 2) (by decide +kernel) rfl (by decide) rfl ?_
    refine ab_ls (ls' := [some (.ref 73), some (.int a1), some (.int (a2 ||| (u3 <<< (a3 &&& 31)))), some (.int a3)]) rfl ?_
    refine ab_iinc (i := 3) (z := 1) (v := (a3 + (1 : Int32))) (by decide +kernel) rfl rfl (by decide) rfl ?_
    refine ab_ls (ls' := [some (.ref 73), some (.int a1), some (.int (a2 ||| (u3 <<< (a3 &&& 31)))), some (.int (a3 + (1 : Int32)))]) rfl ?_
    refine ab_goto (off := -25) (tgt := 4) (by decide +kernel) rfl ?_
    exact ab_wk (ab_le_some (ab_le_some (ab_le_some (ab_le_some (ab_le_nil))))) (K1 ((a2 ||| (u3 <<< (a3 &&& 31))), (a3 + (1 : Int32))) (Option.some.inj H).symm)
def fX12_losing (a1 : Int32) (I : ab_I) : Option Int32 :=
  ab_it (fun s => fX12_losing_4 a1 I s.1 s.2) 5000 ((0 : Int32), (0 : Int32))
set_option maxRecDepth 100000 in
theorem mX12_losing_ok {l : Launch} {G : ab_G} {S : ab_S} {I : ab_I} {J : ab_J} {P : ab_P} {Q : ab_Q} {a1 : Int32} (hB : bz_B S P) {x : Int32} (H : fX12_losing a1 I = some x) (K0 : Q (some (.int x)) S I J P) : ab_Call l G mX12_losing 1 [.ref 73, .int a1] S I J P Q := by
  unfold fX12_losing at H
  refine ab_enter rfl (Nat.le_of_ble_eq_true rfl) (ab_wk (ls' := [some (.ref 73), some (.int a1), none, none]) (ab_le_some (ab_le_some (ab_le_non0 (ab_le_non0 ab_le_nil)))) ?_)
  refine ab_iconst (z := 0) (v := (0 : Int32)) (by decide +kernel) (by decide) ?_
  refine ab_istore_n (z := 2) (by decide +kernel) rfl (by decide) rfl ?_
  refine ab_ls (ls' := [some (.ref 73), some (.int a1), some (.int (0 : Int32)), none]) rfl ?_
  refine ab_iconst (z := 0) (v := (0 : Int32)) (by decide +kernel) (by decide) ?_
  refine ab_istore_n (z := 3) (by decide +kernel) rfl (by decide) rfl ?_
  refine ab_ls (ls' := [some (.ref 73), some (.int a1), some (.int (0 : Int32)), some (.int (0 : Int32))]) rfl ?_
  exact ab_wk (ab_le_some (ab_le_some (ab_le_some (ab_le_some (ab_le_nil))))) (ab_iter (body := (fun s => fX12_losing_4 a1 I s.1 s.2)) (W := fun s => ab_WP l G mX12_losing 1 4 [some (.ref 73), some (.int a1), some (.int s.1), some (.int s.2)] [] S I J P 0 0 Q) (fun s y hb h1 h2 => fX12_losing_4_ok hB hb h1 (fun r e => by have e2 := h2 _ e; subst e2; exact K0)) 5000 ((0 : Int32), (0 : Int32)) H)
abbrev mX12_person : ab_M := (yX12_person, cX12_person, 3, some .int, 0, 0)
def fX12_person (a1 : Int32) (a2 : Int32) (I : ab_I) : Option (Int32 × ab_I) :=
  (fX12_isPerson a1 I).bind fun u1 =>
  if u1 = 0 then
    some ((-1 : Int32), I)
  else
    (fX12_fill I).bind fun u2 =>
    if a2 = (0 : Int32) then
      ab_gd (ab_ix a1 45 = true) (
        some ((u2 90 a1.toNatClampNeg), u2)
      )
    else
      if a2 = (1 : Int32) then
        ab_gd (ab_ix ((6 : Int32) + a1) 45 = true) (
          some ((u2 90 (((6 : Int32) + a1).toNatClampNeg)), u2)
        )
      else
        if a2 = (2 : Int32) then
          (fX12_isHere a1 u2).bind fun u3 =>
          (fX12_truth u3).bind fun u4 =>
          some (u4, u2)
        else
          if a2 = (3 : Int32) then
            (fX12_losing a1 u2).bind fun u5 =>
            some (u5, u2)
          else
            if a2 = (4 : Int32) then
              (fX12_goDay (0 : Int32) u2).bind fun u6 =>
              (fX12_rungBy a1 u6.2).bind fun u7 =>
              some (u7, u6.2)
            else
              some ((-1 : Int32), u2)
set_option maxRecDepth 100000 in
theorem mX12_person_ok {l : Launch} {G : ab_G} {S : ab_S} {I : ab_I} {J : ab_J} {P : ab_P} {Q : ab_Q} {a1 : Int32} {a2 : Int32} (hB : bz_B S P) {x : Int32 × ab_I} (H : fX12_person a1 a2 I = some x) (K0 : Q (some (.int x.1)) S x.2 J P) : ab_Call l G mX12_person 6 [.ref 73, .int a1, .int a2] S I J P Q := by
  unfold fX12_person at H
  refine ab_enter rfl (Nat.le_of_ble_eq_true rfl) (ab_wk (ls' := [some (.ref 73), some (.int a1), some (.int a2)]) (ab_le_some (ab_le_some (ab_le_some (ab_le_nil)))) ?_)
  refine ab_aload_n (z := 0) (by decide +kernel) rfl rfl ?_
  refine ab_iload_n (z := 1) (by decide +kernel) rfl rfl ?_
  obtain ⟨u1, hu1, H⟩ := ab_bd_of H
  refine kvX12_isPerson (D := 1) (ix := 408) (by decide +kernel) tw_1470 (hB.1 73 _ rfl) (by decide) (Nat.le_of_ble_eq_true rfl) (mX12_isPerson_ok hB hu1 ?_)
  change ab_WP l G mX12_person 6 5 [some (.ref 73), some (.int a1), some (.int a2)] [.int u1] S I J P 0 0 Q
  refine ab_if_ne (off := 5) (tgt := 10) (by decide +kernel) rfl (fun hc => ?_) (fun hc => ?_)
  · replace H := ab_ifn H hc
    refine ab_aload_n (z := 0) (by decide +kernel) rfl rfl ?_
    obtain ⟨u2, hu2, H⟩ := ab_bd_of H
    refine kvX12_fill (D := 0) (ix := 411) (by decide +kernel) tw_1477 (hB.1 73 _ rfl) (by decide) (Nat.le_of_ble_eq_true rfl) (mX12_fill_ok hB hu2 ?_)
    change ab_WP l G mX12_person 6 14 [some (.ref 73), some (.int a1), some (.int a2)] [] S u2 J P 0 0 Q
    refine ab_iload_n (z := 2) (by decide +kernel) rfl rfl ?_
    by_cases hk0 : a2 = (0 : Int32)
    · replace H := ab_ifp H hk0
      refine ab_tabk (key := (0 : Int32)) (off := 33) (tgt := 48) (dflt := 77) (lo := 0) (hi := 4) (offs := #[33, 40, 50, 59, 65]) (len := 33) hk0 (by decide +kernel) (by decide) rfl ?_
      refine ab_aload_n (z := 0) (by decide +kernel) rfl rfl ?_
      refine gX12_47 (ix := 63) (by decide +kernel) tw_1128 (hB.1 73 _ rfl) (hB.2.1 95 (73, 47, 90) rfl) ?_
      refine ab_iload_n (z := 1) (by decide +kernel) rfl rfl ?_
      obtain ⟨hg, H⟩ := ab_gd_of H
      refine ab_iald (ln := 45) (by decide +kernel) (hB.1 90 _ rfl) (ab_ix_in hg) ?_
      obtain rfl := Option.some.inj H
      exact ab_iret (by decide +kernel) rfl (Nat.le_refl _) (Nat.le_refl _) K0
    replace H := ab_ifn H hk0
    by_cases hk1 : a2 = (1 : Int32)
    · replace H := ab_ifp H hk1
      refine ab_tabk (key := (1 : Int32)) (off := 40) (tgt := 55) (dflt := 77) (lo := 0) (hi := 4) (offs := #[33, 40, 50, 59, 65]) (len := 33) hk1 (by decide +kernel) (by decide) rfl ?_
      refine ab_aload_n (z := 0) (by decide +kernel) rfl rfl ?_
      refine gX12_47 (ix := 63) (by decide +kernel) tw_1128 (hB.1 73 _ rfl) (hB.2.1 95 (73, 47, 90) rfl) ?_
      refine ab_bipush (z := 6) (v := (6 : Int32)) (by decide +kernel) (by decide) ?_
      refine ab_iload_n (z := 1) (by decide +kernel) rfl rfl ?_
      refine ab_iadd (by decide +kernel) ?_
      obtain ⟨hg, H⟩ := ab_gd_of H
      refine ab_iald (ln := 45) (by decide +kernel) (hB.1 90 _ rfl) (ab_ix_in hg) ?_
      obtain rfl := Option.some.inj H
      exact ab_iret (by decide +kernel) rfl (Nat.le_refl _) (Nat.le_refl _) K0
    replace H := ab_ifn H hk1
    by_cases hk2 : a2 = (2 : Int32)
    · replace H := ab_ifp H hk2
      refine ab_tabk (key := (2 : Int32)) (off := 50) (tgt := 65) (dflt := 77) (lo := 0) (hi := 4) (offs := #[33, 40, 50, 59, 65]) (len := 33) hk2 (by decide +kernel) (by decide) rfl ?_
      refine ab_aload_n (z := 0) (by decide +kernel) rfl rfl ?_
      refine ab_iload_n (z := 1) (by decide +kernel) rfl rfl ?_
      obtain ⟨u3, hu3, H⟩ := ab_bd_of H
      refine kvX12_isHere (D := 0) (ix := 388) (by decide +kernel) tw_1481 (hB.1 73 _ rfl) (by decide) (Nat.le_of_ble_eq_true rfl) (mX12_isHere_ok hB hu3 ?_)
      change ab_WP l G mX12_person 6 70 [some (.ref 73), some (.int a1), some (.int a2)] [.int u3] S u2 J P 0 0 Q
      obtain ⟨u4, hu4, H⟩ := ab_bd_of H
      refine ksX12_truth (D := 0) (ix := 279) (by decide +kernel) tw_1485 (by decide) (Nat.le_of_ble_eq_true rfl) (mX12_truth_ok hB hu4 ?_)
      change ab_WP l G mX12_person 6 73 [some (.ref 73), some (.int a1), some (.int a2)] [.int u4] S u2 J P 0 0 Q
      obtain rfl := Option.some.inj H
      exact ab_iret (by decide +kernel) rfl (Nat.le_refl _) (Nat.le_refl _) K0
    replace H := ab_ifn H hk2
    by_cases hk3 : a2 = (3 : Int32)
    · replace H := ab_ifp H hk3
      refine ab_tabk (key := (3 : Int32)) (off := 59) (tgt := 74) (dflt := 77) (lo := 0) (hi := 4) (offs := #[33, 40, 50, 59, 65]) (len := 33) hk3 (by decide +kernel) (by decide) rfl ?_
      refine ab_aload_n (z := 0) (by decide +kernel) rfl rfl ?_
      refine ab_iload_n (z := 1) (by decide +kernel) rfl rfl ?_
      obtain ⟨u5, hu5, H⟩ := ab_bd_of H
      refine kvX12_losing (D := 1) (ix := 414) (by decide +kernel) tw_1488 (hB.1 73 _ rfl) (by decide) (Nat.le_of_ble_eq_true rfl) (mX12_losing_ok hB hu5 ?_)
      change ab_WP l G mX12_person 6 79 [some (.ref 73), some (.int a1), some (.int a2)] [.int u5] S u2 J P 0 0 Q
      obtain rfl := Option.some.inj H
      exact ab_iret (by decide +kernel) rfl (Nat.le_refl _) (Nat.le_refl _) K0
    replace H := ab_ifn H hk3
    by_cases hk4 : a2 = (4 : Int32)
    · replace H := ab_ifp H hk4
      refine ab_tabk (key := (4 : Int32)) (off := 65) (tgt := 80) (dflt := 77) (lo := 0) (hi := 4) (offs := #[33, 40, 50, 59, 65]) (len := 33) hk4 (by decide +kernel) (by decide) rfl ?_
      refine ab_aload_n (z := 0) (by decide +kernel) rfl rfl ?_
      refine ab_iconst (z := 0) (v := (0 : Int32)) (by decide +kernel) (by decide) ?_
      obtain ⟨u6, hu6, H⟩ := ab_bd_of H
      refine kvX12_goDay (D := 5) (ix := 417) (by decide +kernel) tw_1496 (hB.1 73 _ rfl) (by decide) (Nat.le_of_ble_eq_true rfl) (mX12_goDay_ok hB hu6 ?_)
      change ab_WP l G mX12_person 6 85 [some (.ref 73), some (.int a1), some (.int a2)] [.int u6.1] S u6.2 J P 0 0 Q
      refine ab_pop (by decide +kernel) rfl ?_
      refine ab_aload_n (z := 0) (by decide +kernel) rfl rfl ?_
      refine ab_iload_n (z := 1) (by decide +kernel) rfl rfl ?_
      obtain ⟨u7, hu7, H⟩ := ab_bd_of H
      refine kvX12_rungBy (D := 1) (ix := 420) (by decide +kernel) tw_1521 (hB.1 73 _ rfl) (by decide) (Nat.le_of_ble_eq_true rfl) (mX12_rungBy_ok hB hu7 ?_)
      change ab_WP l G mX12_person 6 91 [some (.ref 73), some (.int a1), some (.int a2)] [.int u7] S u6.2 J P 0 0 Q
      obtain rfl := Option.some.inj H
      exact ab_iret (by decide +kernel) rfl (Nat.le_refl _) (Nat.le_refl _) K0
    replace H := ab_ifn H hk4
    have KD : ab_WP l G mX12_person 6 92 [some (.ref 73), some (.int a1), some (.int a2)] [] S u2 J P 0 0 Q := by
      refine ab_iconst (z := -1) (v := (-1 : Int32)) (by decide +kernel) (by decide) ?_
      obtain rfl := Option.some.inj H
      exact ab_iret (by decide +kernel) rfl (Nat.le_refl _) (Nat.le_refl _) K0
    by_cases hlo : a2.toInt < 0
    · exact ab_tableOut (dflt := 77) (lo := 0) (hi := 4) (offs := #[33, 40, 50, 59, 65]) (len := 33) (by decide +kernel) (Or.inl hlo) (tgt := 92) rfl KD
    by_cases hhi : 4 < a2.toInt
    · exact ab_tableOut (dflt := 77) (lo := 0) (hi := 4) (offs := #[33, 40, 50, 59, 65]) (len := 33) (by decide +kernel) (Or.inr hhi) (tgt := 92) rfl KD
    by_cases hr : a2.toInt = 0
    · exact absurd (Int32.toInt_inj.mp (hr.trans (by decide))) hk0
    have hlo : ¬ a2.toInt < 1 := by omega
    by_cases hr : a2.toInt = 1
    · exact absurd (Int32.toInt_inj.mp (hr.trans (by decide))) hk1
    have hlo : ¬ a2.toInt < 2 := by omega
    by_cases hr : a2.toInt = 2
    · exact absurd (Int32.toInt_inj.mp (hr.trans (by decide))) hk2
    have hlo : ¬ a2.toInt < 3 := by omega
    by_cases hr : a2.toInt = 3
    · exact absurd (Int32.toInt_inj.mp (hr.trans (by decide))) hk3
    have hlo : ¬ a2.toInt < 4 := by omega
    by_cases hr : a2.toInt = 4
    · exact absurd (Int32.toInt_inj.mp (hr.trans (by decide))) hk4
    have hlo : ¬ a2.toInt < 5 := by omega
    exact absurd (by omega : 4 < a2.toInt) hhi
  · replace H := ab_ifp H hc
    refine ab_iconst (z := -1) (v := (-1 : Int32)) (by decide +kernel) (by decide) ?_
    obtain rfl := Option.some.inj H
    exact ab_iret (by decide +kernel) rfl (Nat.le_refl _) (Nat.le_refl _) K0
abbrev mX12_loss : ab_M := (yX12_loss, cX12_loss, 3, some .int, 0, 0)
def fX12_loss_33 (a1 : Int32) (a2 : Int32) (I : ab_I) (s0 : Int32) : Option Int32 :=
  some s0
set_option maxRecDepth 100000 in
theorem fX12_loss_33_ok {l : Launch} {G : ab_G} {S : ab_S} {I : ab_I} {J : ab_J} {P : ab_P} {Q : ab_Q} {a1 : Int32} {a2 : Int32} {s0 : Int32} (hB : bz_B S P) {x : Int32} (H : fX12_loss_33 a1 a2 I s0 = some x) (K0 : Q (some (.int x)) S I J P) : ab_WP l G mX12_loss 2 33 [some (.ref 73), some (.int a1), some (.int a2)] [.int s0] S I J P 0 0 Q := by
  unfold fX12_loss_33 at H
  obtain rfl := Option.some.inj H
  exact ab_iret (by decide +kernel) rfl (Nat.le_refl _) (Nat.le_refl _) K0
def fX12_loss_32 (a1 : Int32) (a2 : Int32) (I : ab_I) : Option Int32 :=
  fX12_loss_33 a1 a2 I (-1 : Int32)
set_option maxRecDepth 100000 in
theorem fX12_loss_32_ok {l : Launch} {G : ab_G} {S : ab_S} {I : ab_I} {J : ab_J} {P : ab_P} {Q : ab_Q} {a1 : Int32} {a2 : Int32} (hB : bz_B S P) {x : Int32} (H : fX12_loss_32 a1 a2 I = some x) (K0 : Q (some (.int x)) S I J P) : ab_WP l G mX12_loss 2 32 [some (.ref 73), some (.int a1), some (.int a2)] [] S I J P 0 0 Q := by
  unfold fX12_loss_32 at H
  refine ab_iconst (z := -1) (v := (-1 : Int32)) (by decide +kernel) (by decide) ?_
  exact ab_wk (ab_le_some (ab_le_some (ab_le_some (ab_le_nil)))) (fX12_loss_33_ok hB H  K0)
def fX12_loss (a1 : Int32) (a2 : Int32) (I : ab_I) : Option Int32 :=
  (fX12_isPerson a1 I).bind fun u1 =>
  if u1 = 0 then
    fX12_loss_32 a1 a2 I
  else
    (fX12_isBell a2 I).bind fun u2 =>
    if u2 = 0 then
      fX12_loss_32 a1 a2 I
    else
      ab_gd (ab_ix (((13 : Int32) + ((5 : Int32) * a1)) + a2) 45 = true) (
        fX12_loss_33 a1 a2 I (I 89 ((((13 : Int32) + ((5 : Int32) * a1)) + a2).toNatClampNeg))
      )
set_option maxRecDepth 100000 in
theorem mX12_loss_ok {l : Launch} {G : ab_G} {S : ab_S} {I : ab_I} {J : ab_J} {P : ab_P} {Q : ab_Q} {a1 : Int32} {a2 : Int32} (hB : bz_B S P) {x : Int32} (H : fX12_loss a1 a2 I = some x) (K0 : Q (some (.int x)) S I J P) : ab_Call l G mX12_loss 2 [.ref 73, .int a1, .int a2] S I J P Q := by
  unfold fX12_loss at H
  refine ab_enter rfl (Nat.le_of_ble_eq_true rfl) (ab_wk (ls' := [some (.ref 73), some (.int a1), some (.int a2)]) (ab_le_some (ab_le_some (ab_le_some (ab_le_nil)))) ?_)
  refine ab_aload_n (z := 0) (by decide +kernel) rfl rfl ?_
  refine ab_iload_n (z := 1) (by decide +kernel) rfl rfl ?_
  obtain ⟨u1, hu1, H⟩ := ab_bd_of H
  refine kvX12_isPerson (D := 1) (ix := 408) (by decide +kernel) tw_1470 (hB.1 73 _ rfl) (by decide) (Nat.le_of_ble_eq_true rfl) (mX12_isPerson_ok hB hu1 ?_)
  change ab_WP l G mX12_loss 2 5 [some (.ref 73), some (.int a1), some (.int a2)] [.int u1] S I J P 0 0 Q
  refine ab_if_eq (off := 27) (tgt := 32) (by decide +kernel) rfl (fun hc => ?_) (fun hc => ?_)
  · replace H := ab_ifp H hc
    exact ab_wk (ab_le_some (ab_le_some (ab_le_some (ab_le_nil)))) (fX12_loss_32_ok hB H  K0)
  · replace H := ab_ifn H hc
    refine ab_aload_n (z := 0) (by decide +kernel) rfl rfl ?_
    refine ab_iload_n (z := 2) (by decide +kernel) rfl rfl ?_
    obtain ⟨u2, hu2, H⟩ := ab_bd_of H
    refine kvX12_isBell (D := 1) (ix := 423) (by decide +kernel) tw_1529 (hB.1 73 _ rfl) (by decide) (Nat.le_of_ble_eq_true rfl) (mX12_isBell_ok hB hu2 ?_)
    change ab_WP l G mX12_loss 2 13 [some (.ref 73), some (.int a1), some (.int a2)] [.int u2] S I J P 0 0 Q
    refine ab_if_eq (off := 19) (tgt := 32) (by decide +kernel) rfl (fun hc => ?_) (fun hc => ?_)
    · replace H := ab_ifp H hc
      exact ab_wk (ab_le_some (ab_le_some (ab_le_some (ab_le_nil)))) (fX12_loss_32_ok hB H  K0)
    · replace H := ab_ifn H hc
      refine ab_aload_n (z := 0) (by decide +kernel) rfl rfl ?_
      refine gX12_46 (ix := 60) (by decide +kernel) tw_1127 (hB.1 73 _ rfl) (hB.2.1 94 (73, 46, 89) rfl) ?_
      refine ab_bipush (z := 13) (v := (13 : Int32)) (by decide +kernel) (by decide) ?_
      refine ab_iconst (z := 5) (v := (5 : Int32)) (by decide +kernel) (by decide) ?_
      refine ab_iload_n (z := 1) (by decide +kernel) rfl rfl ?_
      refine ab_imul (by decide +kernel) ?_
      refine ab_iadd (by decide +kernel) ?_
      refine ab_iload_n (z := 2) (by decide +kernel) rfl rfl ?_
      refine ab_iadd (by decide +kernel) ?_
      obtain ⟨hg, H⟩ := ab_gd_of H
      refine ab_iald (ln := 45) (by decide +kernel) (hB.1 89 _ rfl) (ab_ix_in hg) ?_
      refine ab_goto (off := 4) (tgt := 33) (by decide +kernel) rfl ?_
      exact ab_wk (ab_le_some (ab_le_some (ab_le_some (ab_le_nil)))) (fX12_loss_33_ok hB H  K0)
abbrev mX12_weight : ab_M := (yX12_weight, cX12_weight, 3, some .int, 0, 0)
def fX12_weight_32 (a1 : Int32) (a2 : Int32) (s0 : Int32) (I : ab_I) : Option (Int32 × ab_I) :=
  some (s0, I)
set_option maxRecDepth 100000 in
theorem fX12_weight_32_ok {l : Launch} {G : ab_G} {S : ab_S} {I : ab_I} {J : ab_J} {P : ab_P} {Q : ab_Q} {a1 : Int32} {a2 : Int32} {s0 : Int32} (hB : bz_B S P) {x : Int32 × ab_I} (H : fX12_weight_32 a1 a2 s0 I = some x) (K0 : Q (some (.int x.1)) S x.2 J P) : ab_WP l G mX12_weight 3 32 [some (.ref 73), some (.int a1), some (.int a2)] [.int s0] S I J P 0 0 Q := by
  unfold fX12_weight_32 at H
  obtain rfl := Option.some.inj H
  exact ab_iret (by decide +kernel) rfl (Nat.le_refl _) (Nat.le_refl _) K0
def fX12_weight_29 (a1 : Int32) (a2 : Int32) (I : ab_I) : Option (Int32 × ab_I) :=
  fX12_weight_32 a1 a2 (-1000000000 : Int32) I
set_option maxRecDepth 100000 in
theorem fX12_weight_29_ok {l : Launch} {G : ab_G} {S : ab_S} {I : ab_I} {J : ab_J} {P : ab_P} {Q : ab_Q} {a1 : Int32} {a2 : Int32} (hB : bz_B S P) {x : Int32 × ab_I} (H : fX12_weight_29 a1 a2 I = some x) (K0 : Q (some (.int x.1)) S x.2 J P) : ab_WP l G mX12_weight 3 29 [some (.ref 73), some (.int a1), some (.int a2)] [] S I J P 0 0 Q := by
  unfold fX12_weight_29 at H
  refine ab_ldcw (ix := 426) (v := (-1000000000 : Int32)) (by decide +kernel) tw_1537 ?_
  exact ab_wk (ab_le_some (ab_le_some (ab_le_some (ab_le_nil)))) (fX12_weight_32_ok hB H  K0)
def fX12_weight (a1 : Int32) (a2 : Int32) (I : ab_I) : Option (Int32 × ab_I) :=
  (fX12_fill I).bind fun u1 =>
  (fX12_isPerson a1 u1).bind fun u2 =>
  if u2 = 0 then
    fX12_weight_29 a1 a2 u1
  else
    (fX12_isBell a2 u1).bind fun u3 =>
    if u3 = 0 then
      fX12_weight_29 a1 a2 u1
    else
      (fX12_weightOf a1 a2 u1).bind fun u4 =>
      fX12_weight_32 a1 a2 u4.1 u4.2
set_option maxRecDepth 100000 in
theorem mX12_weight_ok {l : Launch} {G : ab_G} {S : ab_S} {I : ab_I} {J : ab_J} {P : ab_P} {Q : ab_Q} {a1 : Int32} {a2 : Int32} (hB : bz_B S P) {x : Int32 × ab_I} (H : fX12_weight a1 a2 I = some x) (K0 : Q (some (.int x.1)) S x.2 J P) : ab_Call l G mX12_weight 3 [.ref 73, .int a1, .int a2] S I J P Q := by
  unfold fX12_weight at H
  refine ab_enter rfl (Nat.le_of_ble_eq_true rfl) (ab_wk (ls' := [some (.ref 73), some (.int a1), some (.int a2)]) (ab_le_some (ab_le_some (ab_le_some (ab_le_nil)))) ?_)
  refine ab_aload_n (z := 0) (by decide +kernel) rfl rfl ?_
  obtain ⟨u1, hu1, H⟩ := ab_bd_of H
  refine kvX12_fill (D := 0) (ix := 411) (by decide +kernel) tw_1477 (hB.1 73 _ rfl) (by decide) (Nat.le_of_ble_eq_true rfl) (mX12_fill_ok hB hu1 ?_)
  change ab_WP l G mX12_weight 3 4 [some (.ref 73), some (.int a1), some (.int a2)] [] S u1 J P 0 0 Q
  refine ab_aload_n (z := 0) (by decide +kernel) rfl rfl ?_
  refine ab_iload_n (z := 1) (by decide +kernel) rfl rfl ?_
  obtain ⟨u2, hu2, H⟩ := ab_bd_of H
  refine kvX12_isPerson (D := 1) (ix := 408) (by decide +kernel) tw_1470 (hB.1 73 _ rfl) (by decide) (Nat.le_of_ble_eq_true rfl) (mX12_isPerson_ok hB hu2 ?_)
  change ab_WP l G mX12_weight 3 9 [some (.ref 73), some (.int a1), some (.int a2)] [.int u2] S u1 J P 0 0 Q
  refine ab_if_eq (off := 20) (tgt := 29) (by decide +kernel) rfl (fun hc => ?_) (fun hc => ?_)
  · replace H := ab_ifp H hc
    exact ab_wk (ab_le_some (ab_le_some (ab_le_some (ab_le_nil)))) (fX12_weight_29_ok hB H  K0)
  · replace H := ab_ifn H hc
    refine ab_aload_n (z := 0) (by decide +kernel) rfl rfl ?_
    refine ab_iload_n (z := 2) (by decide +kernel) rfl rfl ?_
    obtain ⟨u3, hu3, H⟩ := ab_bd_of H
    refine kvX12_isBell (D := 1) (ix := 423) (by decide +kernel) tw_1529 (hB.1 73 _ rfl) (by decide) (Nat.le_of_ble_eq_true rfl) (mX12_isBell_ok hB hu3 ?_)
    change ab_WP l G mX12_weight 3 17 [some (.ref 73), some (.int a1), some (.int a2)] [.int u3] S u1 J P 0 0 Q
    refine ab_if_eq (off := 12) (tgt := 29) (by decide +kernel) rfl (fun hc => ?_) (fun hc => ?_)
    · replace H := ab_ifp H hc
      exact ab_wk (ab_le_some (ab_le_some (ab_le_some (ab_le_nil)))) (fX12_weight_29_ok hB H  K0)
    · replace H := ab_ifn H hc
      refine ab_aload_n (z := 0) (by decide +kernel) rfl rfl ?_
      refine ab_iload_n (z := 1) (by decide +kernel) rfl rfl ?_
      refine ab_iload_n (z := 2) (by decide +kernel) rfl rfl ?_
      obtain ⟨u4, hu4, H⟩ := ab_bd_of H
      refine kvX12_weightOf (D := 2) (ix := 395) (by decide +kernel) tw_1508 (hB.1 73 _ rfl) (by decide) (Nat.le_of_ble_eq_true rfl) (mX12_weightOf_ok hB hu4 ?_)
      change ab_WP l G mX12_weight 3 26 [some (.ref 73), some (.int a1), some (.int a2)] [.int u4.1] S u4.2 J P 0 0 Q
      refine ab_goto (off := 6) (tgt := 32) (by decide +kernel) rfl ?_
      exact ab_wk (ab_le_some (ab_le_some (ab_le_some (ab_le_nil)))) (fX12_weight_32_ok hB H  K0)
abbrev mX12_ringer : ab_M := (yX12_ringer, cX12_ringer, 2, some .int, 0, 0)
def fX12_ringer_22 (a1 : Int32) (s0 : Int32) (I : ab_I) : Option (Int32 × ab_I) :=
  some (s0, I)
set_option maxRecDepth 100000 in
theorem fX12_ringer_22_ok {l : Launch} {G : ab_G} {S : ab_S} {I : ab_I} {J : ab_J} {P : ab_P} {Q : ab_Q} {a1 : Int32} {s0 : Int32} (hB : bz_B S P) {x : Int32 × ab_I} (H : fX12_ringer_22 a1 s0 I = some x) (K0 : Q (some (.int x.1)) S x.2 J P) : ab_WP l G mX12_ringer 4 22 [some (.ref 73), some (.int a1)] [.int s0] S I J P 0 0 Q := by
  unfold fX12_ringer_22 at H
  obtain rfl := Option.some.inj H
  exact ab_iret (by decide +kernel) rfl (Nat.le_refl _) (Nat.le_refl _) K0
def fX12_ringer (a1 : Int32) (I : ab_I) : Option (Int32 × ab_I) :=
  (fX12_fill I).bind fun u1 =>
  (fX12_isBell a1 u1).bind fun u2 =>
  if u2 = 0 then
    fX12_ringer_22 a1 (-2 : Int32) u1
  else
    (fX12_ringerOf a1 u1).bind fun u3 =>
    fX12_ringer_22 a1 u3.1 u3.2
set_option maxRecDepth 100000 in
theorem mX12_ringer_ok {l : Launch} {G : ab_G} {S : ab_S} {I : ab_I} {J : ab_J} {P : ab_P} {Q : ab_Q} {a1 : Int32} (hB : bz_B S P) {x : Int32 × ab_I} (H : fX12_ringer a1 I = some x) (K0 : Q (some (.int x.1)) S x.2 J P) : ab_Call l G mX12_ringer 4 [.ref 73, .int a1] S I J P Q := by
  unfold fX12_ringer at H
  refine ab_enter rfl (Nat.le_of_ble_eq_true rfl) (ab_wk (ls' := [some (.ref 73), some (.int a1)]) (ab_le_some (ab_le_some (ab_le_nil))) ?_)
  refine ab_aload_n (z := 0) (by decide +kernel) rfl rfl ?_
  obtain ⟨u1, hu1, H⟩ := ab_bd_of H
  refine kvX12_fill (D := 0) (ix := 411) (by decide +kernel) tw_1477 (hB.1 73 _ rfl) (by decide) (Nat.le_of_ble_eq_true rfl) (mX12_fill_ok hB hu1 ?_)
  change ab_WP l G mX12_ringer 4 4 [some (.ref 73), some (.int a1)] [] S u1 J P 0 0 Q
  refine ab_aload_n (z := 0) (by decide +kernel) rfl rfl ?_
  refine ab_iload_n (z := 1) (by decide +kernel) rfl rfl ?_
  obtain ⟨u2, hu2, H⟩ := ab_bd_of H
  refine kvX12_isBell (D := 1) (ix := 423) (by decide +kernel) tw_1529 (hB.1 73 _ rfl) (by decide) (Nat.le_of_ble_eq_true rfl) (mX12_isBell_ok hB hu2 ?_)
  change ab_WP l G mX12_ringer 4 9 [some (.ref 73), some (.int a1)] [.int u2] S u1 J P 0 0 Q
  refine ab_if_eq (off := 11) (tgt := 20) (by decide +kernel) rfl (fun hc => ?_) (fun hc => ?_)
  · replace H := ab_ifp H hc
    refine ab_bipush (z := -2) (v := (-2 : Int32)) (by decide +kernel) (by decide) ?_
    exact ab_wk (ab_le_some (ab_le_some (ab_le_nil))) (fX12_ringer_22_ok hB H  K0)
  · replace H := ab_ifn H hc
    refine ab_aload_n (z := 0) (by decide +kernel) rfl rfl ?_
    refine ab_iload_n (z := 1) (by decide +kernel) rfl rfl ?_
    obtain ⟨u3, hu3, H⟩ := ab_bd_of H
    refine kvX12_ringerOf (D := 3) (ix := 398) (by decide +kernel) tw_1504 (hB.1 73 _ rfl) (by decide) (Nat.le_of_ble_eq_true rfl) (mX12_ringerOf_ok hB hu3 ?_)
    change ab_WP l G mX12_ringer 4 17 [some (.ref 73), some (.int a1)] [.int u3.1] S u3.2 J P 0 0 Q
    refine ab_goto (off := 5) (tgt := 22) (by decide +kernel) rfl ?_
    exact ab_wk (ab_le_some (ab_le_some (ab_le_nil))) (fX12_ringer_22_ok hB H  K0)
abbrev mX12_hour : ab_M := (yX12_hour, cX12_hour, 2, some .int, 0, 0)
def fX12_hour_18 (a1 : Int32) (I : ab_I) (s0 : Int32) : Option Int32 :=
  some s0
set_option maxRecDepth 100000 in
theorem fX12_hour_18_ok {l : Launch} {G : ab_G} {S : ab_S} {I : ab_I} {J : ab_J} {P : ab_P} {Q : ab_Q} {a1 : Int32} {s0 : Int32} (hB : bz_B S P) {x : Int32} (H : fX12_hour_18 a1 I s0 = some x) (K0 : Q (some (.int x)) S I J P) : ab_WP l G mX12_hour 2 18 [some (.ref 73), some (.int a1)] [.int s0] S I J P 0 0 Q := by
  unfold fX12_hour_18 at H
  obtain rfl := Option.some.inj H
  exact ab_iret (by decide +kernel) rfl (Nat.le_refl _) (Nat.le_refl _) K0
def fX12_hour (a1 : Int32) (I : ab_I) : Option Int32 :=
  (fX12_isBell a1 I).bind fun u1 =>
  if u1 = 0 then
    fX12_hour_18 a1 I (-1 : Int32)
  else
    ab_gd (ab_ix a1 5 = true) (
      fX12_hour_18 a1 I (I 87 a1.toNatClampNeg)
    )
set_option maxRecDepth 100000 in
theorem mX12_hour_ok {l : Launch} {G : ab_G} {S : ab_S} {I : ab_I} {J : ab_J} {P : ab_P} {Q : ab_Q} {a1 : Int32} (hB : bz_B S P) {x : Int32} (H : fX12_hour a1 I = some x) (K0 : Q (some (.int x)) S I J P) : ab_Call l G mX12_hour 2 [.ref 73, .int a1] S I J P Q := by
  unfold fX12_hour at H
  refine ab_enter rfl (Nat.le_of_ble_eq_true rfl) (ab_wk (ls' := [some (.ref 73), some (.int a1)]) (ab_le_some (ab_le_some (ab_le_nil))) ?_)
  refine ab_aload_n (z := 0) (by decide +kernel) rfl rfl ?_
  refine ab_iload_n (z := 1) (by decide +kernel) rfl rfl ?_
  obtain ⟨u1, hu1, H⟩ := ab_bd_of H
  refine kvX12_isBell (D := 1) (ix := 423) (by decide +kernel) tw_1529 (hB.1 73 _ rfl) (by decide) (Nat.le_of_ble_eq_true rfl) (mX12_isBell_ok hB hu1 ?_)
  change ab_WP l G mX12_hour 2 5 [some (.ref 73), some (.int a1)] [.int u1] S I J P 0 0 Q
  refine ab_if_eq (off := 12) (tgt := 17) (by decide +kernel) rfl (fun hc => ?_) (fun hc => ?_)
  · replace H := ab_ifp H hc
    refine ab_iconst (z := -1) (v := (-1 : Int32)) (by decide +kernel) (by decide) ?_
    exact ab_wk (ab_le_some (ab_le_some (ab_le_nil))) (fX12_hour_18_ok hB H  K0)
  · replace H := ab_ifn H hc
    refine ab_aload_n (z := 0) (by decide +kernel) rfl rfl ?_
    refine gX12_31 (ix := 54) (by decide +kernel) tw_1112 (hB.1 73 _ rfl) (hB.2.1 92 (73, 31, 87) rfl) ?_
    refine ab_iload_n (z := 1) (by decide +kernel) rfl rfl ?_
    obtain ⟨hg, H⟩ := ab_gd_of H
    refine ab_iald (ln := 5) (by decide +kernel) (hB.1 87 _ rfl) (ab_ix_in hg) ?_
    refine ab_goto (off := 4) (tgt := 18) (by decide +kernel) rfl ?_
    exact ab_wk (ab_le_some (ab_le_some (ab_le_nil))) (fX12_hour_18_ok hB H  K0)
abbrev mX12_act : ab_M := (yX12_act, cX12_act, 2, none, 0, 0)
theorem kvX12_act {l : Launch} {G : ab_G} {M : ab_M} {d pc : Nat} {ls : List (Option Value)} {st : List Value} {S : ab_S} {I : ab_I} {J : ab_J} {P : ab_P} {Q : ab_Q} {ix D r ln : Nat} (hd : decode M.2.1 pc = .ok (.invokevirtual ix, 3)) (h1 : Cond.methodLink M.1.cls ix mX12_act.1 ∈ ab_good) (hs : S[r]? = some (17, ln)) (hdg : D + 1 ≤ d) (hsum : (st.map fun v => v.category).sum ≤ 8) (kk : ab_Call l G mX12_act D (.ref r :: []) S I J P (fun v S' I' J' P' => ab_WP l G M d (pc + 3) ls (ab_psh v st) S' I' J' P' 0 0 Q)) : ab_WP l G M d pc ls (.ref r :: st) S I J P 0 0 Q := bz_kv (g := mX12_act) (as := []) (cc := 12) rfl hd h1 tw_1552 tw_p73 tw_13 tw_1553 ⟨by decide +kernel, by decide +kernel, (by decide +kernel : (parseMethodDescriptor mX12_act.1.desc).map (fun d => d.parameters.length) = some 0)⟩ (by decide) rfl rfl rfl hdg hsum hs kk
def fX12_act_83 (I : ab_I) : Option ab_I :=
  (fX12_fill (ab_u (ab_u I 73 50 ((I 73 50) + (1 : Int32))) 73 51 (0 : Int32))).bind fun u3 =>
  some u3
set_option maxRecDepth 100000 in
theorem fX12_act_83_ok {l : Launch} {G : ab_G} {S : ab_S} {I : ab_I} {J : ab_J} {P : ab_P} {Q : ab_Q} (hB : bz_B S P) {x : ab_I} (H : fX12_act_83 I = some x) (K0 : Q none S x J P) : ab_WP l G mX12_act 1 83 [some (.ref 73), none] [] S I J P 0 0 Q := by
  unfold fX12_act_83 at H
  refine ab_aload_n (z := 0) (by decide +kernel) rfl rfl ?_
  refine ab_dup (by decide +kernel) rfl ?_
  refine gX12_50 (ix := 372) (by decide +kernel) tw_1131 (hB.1 73 _ rfl) ?_
  refine ab_iconst (z := 1) (v := (1 : Int32)) (by decide +kernel) (by decide) ?_
  refine ab_iadd (by decide +kernel) ?_
  refine pX12_50 (ix := 372) (by decide +kernel) tw_1131 (hB.1 73 _ rfl) ?_
  refine ab_aload_n (z := 0) (by decide +kernel) rfl rfl ?_
  refine ab_iconst (z := 0) (v := (0 : Int32)) (by decide +kernel) (by decide) ?_
  refine pX12_51 (ix := 375) (by decide +kernel) tw_1132 (hB.1 73 _ rfl) ?_
  refine ab_aload_n (z := 0) (by decide +kernel) rfl rfl ?_
  obtain ⟨u3, hu3, H⟩ := ab_bd_of H
  refine kvX12_fill (D := 0) (ix := 411) (by decide +kernel) tw_1477 (hB.1 73 _ rfl) (by decide) (Nat.le_of_ble_eq_true rfl) (mX12_fill_ok hB hu3 ?_)
  change ab_WP l G mX12_act 1 102 [some (.ref 73), none] [] S u3 J P 0 0 Q
  obtain rfl := Option.some.inj H
  exact ab_vret (by decide +kernel) rfl (Nat.le_refl _) (Nat.le_refl _) K0
def fX12_act_51 (a1 : Int32) (I : ab_I) : Option ((Int32 × ab_I) ⊕ ab_I) :=
  if (45 : Int32) ≤ a1 then
    (fX12_act_83 I).map .inr
  else
    ab_gd (ab_ix a1 45 = true) (
      ab_gd (ab_ix (((45 : Int32) * (I 73 50)) + a1) 1800 = true) (
        some (.inl ((a1 + (1 : Int32)), (ab_u I 92 ((((45 : Int32) * (I 73 50)) + a1).toNatClampNeg) (I 89 a1.toNatClampNeg))))
      )
    )
set_option maxRecDepth 100000 in
theorem fX12_act_51_ok {l : Launch} {G : ab_G} {S : ab_S} {I : ab_I} {J : ab_J} {P : ab_P} {Q : ab_Q} {a1 : Int32} (hB : bz_B S P) {x : ((Int32 × ab_I) ⊕ ab_I)} (H : fX12_act_51 a1 I = some x) (K1 : ∀ s, x = (.inl s) → ab_WP l G mX12_act 1 51 [some (.ref 73), some (.int s.1)] [] S s.2 J P 0 0 Q) (K0 : ∀ r, x = (.inr r) → Q none S r J P) : ab_WP l G mX12_act 1 51 [some (.ref 73), some (.int a1)] [] S I J P 0 0 Q := by
  unfold fX12_act_51 at H
  refine ab_iload_n (z := 1) (by decide +kernel) rfl rfl ?_
  refine ab_bipush (z := 45) (v := (45 : Int32)) (by decide +kernel) (by decide) ?_
  refine ab_icmp_ge (off := 29) (tgt := 83) (by decide +kernel) rfl (fun hc => ?_) (fun hc => ?_)
  · replace H := ab_ifp H hc
    obtain ⟨y2, Hy, hx⟩ := ab_mp_of H
    subst hx
    replace H := Hy
    exact ab_wk (ab_le_some (ab_le_none (ab_le_nil))) (fX12_act_83_ok hB H  (K0 _ rfl))
  · replace H := ab_ifn H hc
    refine ab_aload_n (z := 0) (by decide +kernel) rfl rfl ?_
    refine gX12_49 (ix := 69) (by decide +kernel) tw_1130 (hB.1 73 _ rfl) (hB.2.1 97 (73, 49, 92) rfl) ?_
    refine ab_bipush (z := 45) (v := (45 : Int32)) (by decide +kernel) (by decide) ?_
    refine ab_aload_n (z := 0) (by decide +kernel) rfl rfl ?_
    refine gX12_50 (ix := 372) (by decide +kernel) tw_1131 (hB.1 73 _ rfl) ?_
    refine ab_imul (by decide +kernel) ?_
    refine ab_iload_n (z := 1) (by decide +kernel) rfl rfl ?_
    refine ab_iadd (by decide +kernel) ?_
    refine ab_aload_n (z := 0) (by decide +kernel) rfl rfl ?_
    refine gX12_46 (ix := 60) (by decide +kernel) tw_1127 (hB.1 73 _ rfl) (hB.2.1 94 (73, 46, 89) rfl) ?_
    refine ab_iload_n (z := 1) (by decide +kernel) rfl rfl ?_
    obtain ⟨hg, H⟩ := ab_gd_of H
    refine ab_iald (ln := 45) (by decide +kernel) (hB.1 89 _ rfl) (ab_ix_in hg) ?_
    obtain ⟨hg, H⟩ := ab_gd_of H
    refine ab_iast (ln := 1800) (by decide +kernel) (hB.1 92 _ rfl) (ab_ix_in hg) ?_
    refine ab_iinc (i := 1) (z := 1) (v := (a1 + (1 : Int32))) (by decide +kernel) rfl rfl (by decide) rfl ?_
    refine ab_ls (ls' := [some (.ref 73), some (.int (a1 + (1 : Int32)))]) rfl ?_
    refine ab_goto (off := -29) (tgt := 51) (by decide +kernel) rfl ?_
    exact ab_wk (ab_le_some (ab_le_some (ab_le_nil))) (K1 ((a1 + (1 : Int32)), (ab_u I 92 ((((45 : Int32) * (I 73 50)) + a1).toNatClampNeg) (I 89 a1.toNatClampNeg))) (Option.some.inj H).symm)
def fX12_act_49 (I : ab_I) : Option ab_I :=
  ab_it (fun s => fX12_act_51 s.1 s.2) 5000 ((0 : Int32), I)
set_option maxRecDepth 100000 in
theorem fX12_act_49_ok {l : Launch} {G : ab_G} {S : ab_S} {I : ab_I} {J : ab_J} {P : ab_P} {Q : ab_Q} (hB : bz_B S P) {x : ab_I} (H : fX12_act_49 I = some x) (K0 : Q none S x J P) : ab_WP l G mX12_act 1 49 [some (.ref 73), none] [] S I J P 0 0 Q := by
  unfold fX12_act_49 at H
  refine ab_iconst (z := 0) (v := (0 : Int32)) (by decide +kernel) (by decide) ?_
  refine ab_istore_n (z := 1) (by decide +kernel) rfl (by decide) rfl ?_
  refine ab_ls (ls' := [some (.ref 73), some (.int (0 : Int32))]) rfl ?_
  exact ab_wk (ab_le_some (ab_le_some (ab_le_nil))) (ab_iter (body := (fun s => fX12_act_51 s.1 s.2)) (W := fun s => ab_WP l G mX12_act 1 51 [some (.ref 73), some (.int s.1)] [] S s.2 J P 0 0 Q) (fun s y hb h1 h2 => fX12_act_51_ok hB hb h1 (fun r e => by have e2 := h2 _ e; subst e2; exact K0)) 5000 ((0 : Int32), I) H)
def fX12_act_39 (I : ab_I) : Option ab_I :=
  fX12_act_49 (ab_u I 73 50 ((I 73 50) - (1 : Int32)))
set_option maxRecDepth 100000 in
theorem fX12_act_39_ok {l : Launch} {G : ab_G} {S : ab_S} {I : ab_I} {J : ab_J} {P : ab_P} {Q : ab_Q} (hB : bz_B S P) {x : ab_I} (H : fX12_act_39 I = some x) (K0 : Q none S x J P) : ab_WP l G mX12_act 1 39 [some (.ref 73), none] [] S I J P 0 0 Q := by
  unfold fX12_act_39 at H
  refine ab_aload_n (z := 0) (by decide +kernel) rfl rfl ?_
  refine ab_dup (by decide +kernel) rfl ?_
  refine gX12_50 (ix := 372) (by decide +kernel) tw_1131 (hB.1 73 _ rfl) ?_
  refine ab_iconst (z := 1) (v := (1 : Int32)) (by decide +kernel) (by decide) ?_
  refine ab_isub (by decide +kernel) ?_
  refine pX12_50 (ix := 372) (by decide +kernel) tw_1131 (hB.1 73 _ rfl) ?_
  exact ab_wk (ab_le_some (ab_le_none (ab_le_nil))) (fX12_act_49_ok hB H  K0)
def fX12_act_11 (a1 : Int32) (I : ab_I) : Option ((Int32 × ab_I) ⊕ ab_I) :=
  if (1755 : Int32) ≤ a1 then
    (fX12_act_39 I).map .inr
  else
    ab_gd (ab_ix ((45 : Int32) + a1) 1800 = true) (
      ab_gd (ab_ix a1 1800 = true) (
        some (.inl ((a1 + (1 : Int32)), (ab_u I 92 a1.toNatClampNeg (I 92 (((45 : Int32) + a1).toNatClampNeg)))))
      )
    )
set_option maxRecDepth 100000 in
theorem fX12_act_11_ok {l : Launch} {G : ab_G} {S : ab_S} {I : ab_I} {J : ab_J} {P : ab_P} {Q : ab_Q} {a1 : Int32} (hB : bz_B S P) {x : ((Int32 × ab_I) ⊕ ab_I)} (H : fX12_act_11 a1 I = some x) (K1 : ∀ s, x = (.inl s) → ab_WP l G mX12_act 1 11 [some (.ref 73), some (.int s.1)] [] S s.2 J P 0 0 Q) (K0 : ∀ r, x = (.inr r) → Q none S r J P) : ab_WP l G mX12_act 1 11 [some (.ref 73), some (.int a1)] [] S I J P 0 0 Q := by
  unfold fX12_act_11 at H
  refine ab_iload_n (z := 1) (by decide +kernel) rfl rfl ?_
  refine ab_sipush (z := 1755) (v := (1755 : Int32)) (by decide +kernel) (by decide) ?_
  refine ab_icmp_ge (off := 24) (tgt := 39) (by decide +kernel) rfl (fun hc => ?_) (fun hc => ?_)
  · replace H := ab_ifp H hc
    obtain ⟨y1, Hy, hx⟩ := ab_mp_of H
    subst hx
    replace H := Hy
    exact ab_wk (ab_le_some (ab_le_none (ab_le_nil))) (fX12_act_39_ok hB H  (K0 _ rfl))
  · replace H := ab_ifn H hc
    refine ab_aload_n (z := 0) (by decide +kernel) rfl rfl ?_
    refine gX12_49 (ix := 69) (by decide +kernel) tw_1130 (hB.1 73 _ rfl) (hB.2.1 97 (73, 49, 92) rfl) ?_
    refine ab_iload_n (z := 1) (by decide +kernel) rfl rfl ?_
    refine ab_aload_n (z := 0) (by decide +kernel) rfl rfl ?_
    refine gX12_49 (ix := 69) (by decide +kernel) tw_1130 (hB.1 73 _ rfl) (hB.2.1 97 (73, 49, 92) rfl) ?_
    refine ab_bipush (z := 45) (v := (45 : Int32)) (by decide +kernel) (by decide) ?_
    refine ab_iload_n (z := 1) (by decide +kernel) rfl rfl ?_
    refine ab_iadd (by decide +kernel) ?_
    obtain ⟨hg, H⟩ := ab_gd_of H
    refine ab_iald (ln := 1800) (by decide +kernel) (hB.1 92 _ rfl) (ab_ix_in hg) ?_
    obtain ⟨hg, H⟩ := ab_gd_of H
    refine ab_iast (ln := 1800) (by decide +kernel) (hB.1 92 _ rfl) (ab_ix_in hg) ?_
    refine ab_iinc (i := 1) (z := 1) (v := (a1 + (1 : Int32))) (by decide +kernel) rfl rfl (by decide) rfl ?_
    refine ab_ls (ls' := [some (.ref 73), some (.int (a1 + (1 : Int32)))]) rfl ?_
    refine ab_goto (off := -25) (tgt := 11) (by decide +kernel) rfl ?_
    exact ab_wk (ab_le_some (ab_le_some (ab_le_nil))) (K1 ((a1 + (1 : Int32)), (ab_u I 92 a1.toNatClampNeg (I 92 (((45 : Int32) + a1).toNatClampNeg)))) (Option.some.inj H).symm)
def fX12_act (I : ab_I) : Option ab_I :=
  if (I 73 50) = (40 : Int32) then
    ab_it (fun s => fX12_act_11 s.1 s.2) 5000 ((0 : Int32), I)
  else
    fX12_act_49 I
set_option maxRecDepth 100000 in
theorem mX12_act_ok {l : Launch} {G : ab_G} {S : ab_S} {I : ab_I} {J : ab_J} {P : ab_P} {Q : ab_Q} (hB : bz_B S P) {x : ab_I} (H : fX12_act I = some x) (K0 : Q none S x J P) : ab_Call l G mX12_act 1 [.ref 73] S I J P Q := by
  unfold fX12_act at H
  refine ab_enter rfl (Nat.le_of_ble_eq_true rfl) (ab_wk (ls' := [some (.ref 73), none]) (ab_le_some (ab_le_non0 ab_le_nil)) ?_)
  refine ab_aload_n (z := 0) (by decide +kernel) rfl rfl ?_
  refine gX12_50 (ix := 372) (by decide +kernel) tw_1131 (hB.1 73 _ rfl) ?_
  refine ab_bipush (z := 40) (v := (40 : Int32)) (by decide +kernel) (by decide) ?_
  refine ab_icmp_ne (off := 43) (tgt := 49) (by decide +kernel) rfl (fun hc => ?_) (fun hc => ?_)
  · replace H := ab_ifn H hc
    exact ab_wk (ab_le_some (ab_le_none (ab_le_nil))) (fX12_act_49_ok hB H  K0)
  · replace H := ab_ifp H hc
    refine ab_iconst (z := 0) (v := (0 : Int32)) (by decide +kernel) (by decide) ?_
    refine ab_istore_n (z := 1) (by decide +kernel) rfl (by decide) rfl ?_
    refine ab_ls (ls' := [some (.ref 73), some (.int (0 : Int32))]) rfl ?_
    exact ab_wk (ab_le_some (ab_le_some (ab_le_nil))) (ab_iter (body := (fun s => fX12_act_11 s.1 s.2)) (W := fun s => ab_WP l G mX12_act 1 11 [some (.ref 73), some (.int s.1)] [] S s.2 J P 0 0 Q) (fun s y hb h1 h2 => fX12_act_11_ok hB hb h1 (fun r e => by have e2 := h2 _ e; subst e2; exact K0)) 5000 ((0 : Int32), I) H)
abbrev mX12_exchange : ab_M := (yX12_exchange, cX12_exchange, 4, none, 0, 0)
theorem kvX12_exchange {l : Launch} {G : ab_G} {M : ab_M} {d pc : Nat} {ls : List (Option Value)} {st : List Value} {S : ab_S} {I : ab_I} {J : ab_J} {P : ab_P} {Q : ab_Q} {v0 : Value} {ix D r ln : Nat} (hd : decode M.2.1 pc = .ok (.invokevirtual ix, 3)) (h1 : Cond.methodLink M.1.cls ix mX12_exchange.1 ∈ ab_good) (hs : S[r]? = some (17, ln)) (hdg : D + 1 ≤ d) (hsum : (st.map fun v => v.category).sum ≤ 8) (kk : ab_Call l G mX12_exchange D (.ref r :: [v0]) S I J P (fun v S' I' J' P' => ab_WP l G M d (pc + 3) ls (ab_psh v st) S' I' J' P' 0 0 Q)) : ab_WP l G M d pc ls (v0 :: .ref r :: st) S I J P 0 0 Q := bz_kv (g := mX12_exchange) (as := [v0]) (cc := 12) rfl hd h1 tw_1584 tw_p76 tw_13 tw_1585 ⟨by decide +kernel, by decide +kernel, (by decide +kernel : (parseMethodDescriptor mX12_exchange.1.desc).map (fun d => d.parameters.length) = some 1)⟩ (by decide) rfl rfl rfl hdg hsum hs kk
def fX12_exchange_44 (a1 : Int32) (I : ab_I) : Option ab_I :=
  some I
set_option maxRecDepth 100000 in
theorem fX12_exchange_44_ok {l : Launch} {G : ab_G} {S : ab_S} {I : ab_I} {J : ab_J} {P : ab_P} {Q : ab_Q} {a1 : Int32} (hB : bz_B S P) {x : ab_I} (H : fX12_exchange_44 a1 I = some x) (K0 : Q none S x J P) : ab_WP l G mX12_exchange 0 44 [some (.ref 73), some (.int a1), none, none] [] S I J P 0 0 Q := by
  unfold fX12_exchange_44 at H
  obtain rfl := Option.some.inj H
  exact ab_vret (by decide +kernel) rfl (Nat.le_refl _) (Nat.le_refl _) K0
def fX12_exchange_2 (a1 : Int32) (a2 : Int32) (I : ab_I) : Option ((Int32 × ab_I) ⊕ ab_I) :=
  if (45 : Int32) ≤ a2 then
    (fX12_exchange_44 a1 I).map .inr
  else
    ab_gd (ab_ix (a1 + a2) 1800 = true) (
      ab_gd (ab_ix a2 45 = true) (
        ab_gd (ab_ix (a1 + a2) 1800 = true) (
          ab_gd (ab_ix a2 45 = true) (
            some (.inl ((a2 + (1 : Int32)), (ab_u (ab_u I 92 ((a1 + a2).toNatClampNeg) (I 89 a2.toNatClampNeg)) 89 a2.toNatClampNeg (I 92 ((a1 + a2).toNatClampNeg)))))
          )
        )
      )
    )
set_option maxRecDepth 100000 in
theorem fX12_exchange_2_ok {l : Launch} {G : ab_G} {S : ab_S} {I : ab_I} {J : ab_J} {P : ab_P} {Q : ab_Q} {a1 : Int32} {a2 : Int32} (hB : bz_B S P) {x : ((Int32 × ab_I) ⊕ ab_I)} (H : fX12_exchange_2 a1 a2 I = some x) (K1 : ∀ s, x = (.inl s) → ab_WP l G mX12_exchange 0 2 [some (.ref 73), some (.int a1), some (.int s.1), none] [] S s.2 J P 0 0 Q) (K0 : ∀ r, x = (.inr r) → Q none S r J P) : ab_WP l G mX12_exchange 0 2 [some (.ref 73), some (.int a1), some (.int a2), none] [] S I J P 0 0 Q := by
  unfold fX12_exchange_2 at H
  refine ab_iload_n (z := 2) (by decide +kernel) rfl rfl ?_
  refine ab_bipush (z := 45) (v := (45 : Int32)) (by decide +kernel) (by decide) ?_
  refine ab_icmp_ge (off := 39) (tgt := 44) (by decide +kernel) rfl (fun hc => ?_) (fun hc => ?_)
  · replace H := ab_ifp H hc
    obtain ⟨y1, Hy, hx⟩ := ab_mp_of H
    subst hx
    replace H := Hy
    exact ab_wk (ab_le_some (ab_le_some (ab_le_none (ab_le_none (ab_le_nil))))) (fX12_exchange_44_ok hB H  (K0 _ rfl))
  · replace H := ab_ifn H hc
    refine ab_aload_n (z := 0) (by decide +kernel) rfl rfl ?_
    refine gX12_49 (ix := 69) (by decide +kernel) tw_1130 (hB.1 73 _ rfl) (hB.2.1 97 (73, 49, 92) rfl) ?_
    refine ab_iload_n (z := 1) (by decide +kernel) rfl rfl ?_
    refine ab_iload_n (z := 2) (by decide +kernel) rfl rfl ?_
    refine ab_iadd (by decide +kernel) ?_
    obtain ⟨hg, H⟩ := ab_gd_of H
    refine ab_iald (ln := 1800) (by decide +kernel) (hB.1 92 _ rfl) (ab_ix_in hg) ?_
    refine ab_istore_n (z := 3) (by decide +kernel) rfl (by decide) rfl ?_
    refine ab_ls (ls' := [some (.ref 73), some (.int a1), some (.int a2), some (.int (I 92 ((a1 + a2).toNatClampNeg)))]) rfl ?_
    refine ab_aload_n (z := 0) (by decide +kernel) rfl rfl ?_
    refine gX12_49 (ix := 69) (by decide +kernel) tw_1130 (hB.1 73 _ rfl) (hB.2.1 97 (73, 49, 92) rfl) ?_
    refine ab_iload_n (z := 1) (by decide +kernel) rfl rfl ?_
    refine ab_iload_n (z := 2) (by decide +kernel) rfl rfl ?_
    refine ab_iadd (by decide +kernel) ?_
    refine ab_aload_n (z := 0) (by decide +kernel) rfl rfl ?_
    refine gX12_46 (ix := 60) (by decide +kernel) tw_1127 (hB.1 73 _ rfl) (hB.2.1 94 (73, 46, 89) rfl) ?_
    refine ab_iload_n (z := 2) (by decide +kernel) rfl rfl ?_
    obtain ⟨hg, H⟩ := ab_gd_of H
    refine ab_iald (ln := 45) (by decide +kernel) (hB.1 89 _ rfl) (ab_ix_in hg) ?_
    obtain ⟨hg, H⟩ := ab_gd_of H
    refine ab_iast (ln := 1800) (by decide +kernel) (hB.1 92 _ rfl) (ab_ix_in hg) ?_
    refine ab_aload_n (z := 0) (by decide +kernel) rfl rfl ?_
    refine gX12_46 (ix := 60) (by decide +kernel) tw_1127 (hB.1 73 _ rfl) (hB.2.1 94 (73, 46, 89) rfl) ?_
    refine ab_iload_n (z := 2) (by decide +kernel) rfl rfl ?_
    refine ab_iload_n (z := 3) (by decide +kernel) rfl rfl ?_
    obtain ⟨hg, H⟩ := ab_gd_of H
    refine ab_iast (ln := 45) (by decide +kernel) (hB.1 89 _ rfl) (ab_ix_in hg) ?_
    refine ab_iinc (i := 2) (z := 1) (v := (a2 + (1 : Int32))) (by decide +kernel) rfl rfl (by decide) rfl ?_
    refine ab_ls (ls' := [some (.ref 73), some (.int a1), some (.int (a2 + (1 : Int32))), some (.int (I 92 ((a1 + a2).toNatClampNeg)))]) rfl ?_
    refine ab_goto (off := -39) (tgt := 2) (by decide +kernel) rfl ?_
    exact ab_wk (ab_le_some (ab_le_some (ab_le_some (ab_le_none (ab_le_nil))))) (K1 ((a2 + (1 : Int32)), (ab_u (ab_u I 92 ((a1 + a2).toNatClampNeg) (I 89 a2.toNatClampNeg)) 89 a2.toNatClampNeg (I 92 ((a1 + a2).toNatClampNeg)))) (Option.some.inj H).symm)
def fX12_exchange (a1 : Int32) (I : ab_I) : Option ab_I :=
  ab_it (fun s => fX12_exchange_2 a1 s.1 s.2) 5000 ((0 : Int32), I)
set_option maxRecDepth 100000 in
theorem mX12_exchange_ok {l : Launch} {G : ab_G} {S : ab_S} {I : ab_I} {J : ab_J} {P : ab_P} {Q : ab_Q} {a1 : Int32} (hB : bz_B S P) {x : ab_I} (H : fX12_exchange a1 I = some x) (K0 : Q none S x J P) : ab_Call l G mX12_exchange 0 [.ref 73, .int a1] S I J P Q := by
  unfold fX12_exchange at H
  refine ab_enter rfl (Nat.le_of_ble_eq_true rfl) (ab_wk (ls' := [some (.ref 73), some (.int a1), none, none]) (ab_le_some (ab_le_some (ab_le_non0 (ab_le_non0 ab_le_nil)))) ?_)
  refine ab_iconst (z := 0) (v := (0 : Int32)) (by decide +kernel) (by decide) ?_
  refine ab_istore_n (z := 2) (by decide +kernel) rfl (by decide) rfl ?_
  refine ab_ls (ls' := [some (.ref 73), some (.int a1), some (.int (0 : Int32)), none]) rfl ?_
  exact ab_wk (ab_le_some (ab_le_some (ab_le_some (ab_le_none (ab_le_nil))))) (ab_iter (body := (fun s => fX12_exchange_2 a1 s.1 s.2)) (W := fun s => ab_WP l G mX12_exchange 0 2 [some (.ref 73), some (.int a1), some (.int s.1), none] [] S s.2 J P 0 0 Q) (fun s y hb h1 h2 => fX12_exchange_2_ok hB hb h1 (fun r e => by have e2 := h2 _ e; subst e2; exact K0)) 5000 ((0 : Int32), I) H)
abbrev mX12_day : ab_M := (yX12_day, cX12_day, 2, some .int, 0, 0)
def fX12_day (I : ab_I) : Option (Int32 × ab_I) :=
  ab_gd (ab_ix (43 : Int32) 45 = true) (
    if (I 89 ((43 : Int32).toNatClampNeg)) = (999 : Int32) then
      some ((-1 : Int32), I)
    else
      (fX12_act I).bind fun u1 =>
      (fX12_goDay (1 : Int32) u1).bind fun u2 =>
      (fX12_keepAir u2.2).bind fun u3 =>
      some (u2.1, u3)
  )
set_option maxRecDepth 100000 in
theorem mX12_day_ok {l : Launch} {G : ab_G} {S : ab_S} {I : ab_I} {J : ab_J} {P : ab_P} {Q : ab_Q} (hB : bz_B S P) {x : Int32 × ab_I} (H : fX12_day I = some x) (K0 : Q (some (.int x.1)) S x.2 J P) : ab_Call l G mX12_day 6 [.ref 73] S I J P Q := by
  unfold fX12_day at H
  refine ab_enter rfl (Nat.le_of_ble_eq_true rfl) (ab_wk (ls' := [some (.ref 73), none]) (ab_le_some (ab_le_non0 ab_le_nil)) ?_)
  refine ab_aload_n (z := 0) (by decide +kernel) rfl rfl ?_
  refine gX12_46 (ix := 60) (by decide +kernel) tw_1127 (hB.1 73 _ rfl) (hB.2.1 94 (73, 46, 89) rfl) ?_
  refine ab_bipush (z := 43) (v := (43 : Int32)) (by decide +kernel) (by decide) ?_
  obtain ⟨hg, H⟩ := ab_gd_of H
  refine ab_iald (ln := 45) (by decide +kernel) (hB.1 89 _ rfl) (ab_ix_in hg) ?_
  refine ab_sipush (z := 999) (v := (999 : Int32)) (by decide +kernel) (by decide) ?_
  refine ab_icmp_ne (off := 5) (tgt := 15) (by decide +kernel) rfl (fun hc => ?_) (fun hc => ?_)
  · replace H := ab_ifn H hc
    refine ab_aload_n (z := 0) (by decide +kernel) rfl rfl ?_
    obtain ⟨u1, hu1, H⟩ := ab_bd_of H
    refine kvX12_act (D := 1) (ix := 427) (by decide +kernel) tw_1550 (hB.1 73 _ rfl) (by decide) (Nat.le_of_ble_eq_true rfl) (mX12_act_ok hB hu1 ?_)
    change ab_WP l G mX12_day 6 19 [some (.ref 73), none] [] S u1 J P 0 0 Q
    refine ab_aload_n (z := 0) (by decide +kernel) rfl rfl ?_
    refine ab_iconst (z := 1) (v := (1 : Int32)) (by decide +kernel) (by decide) ?_
    obtain ⟨u2, hu2, H⟩ := ab_bd_of H
    refine kvX12_goDay (D := 5) (ix := 417) (by decide +kernel) tw_1496 (hB.1 73 _ rfl) (by decide) (Nat.le_of_ble_eq_true rfl) (mX12_goDay_ok hB hu2 ?_)
    change ab_WP l G mX12_day 6 24 [some (.ref 73), none] [.int u2.1] S u2.2 J P 0 0 Q
    refine ab_istore_n (z := 1) (by decide +kernel) rfl (by decide) rfl ?_
    refine ab_ls (ls' := [some (.ref 73), some (.int u2.1)]) rfl ?_
    refine ab_aload_n (z := 0) (by decide +kernel) rfl rfl ?_
    obtain ⟨u3, hu3, H⟩ := ab_bd_of H
    refine kvX12_keepAir (D := 0) (ix := 369) (by decide +kernel) tw_1458 (hB.1 73 _ rfl) (by decide) (Nat.le_of_ble_eq_true rfl) (mX12_keepAir_ok hB hu3 ?_)
    change ab_WP l G mX12_day 6 29 [some (.ref 73), some (.int u2.1)] [] S u3 J P 0 0 Q
    refine ab_iload_n (z := 1) (by decide +kernel) rfl rfl ?_
    obtain rfl := Option.some.inj H
    exact ab_iret (by decide +kernel) rfl (Nat.le_refl _) (Nat.le_refl _) K0
  · replace H := ab_ifp H hc
    refine ab_iconst (z := -1) (v := (-1 : Int32)) (by decide +kernel) (by decide) ?_
    obtain rfl := Option.some.inj H
    exact ab_iret (by decide +kernel) rfl (Nat.le_refl _) (Nat.le_refl _) K0
