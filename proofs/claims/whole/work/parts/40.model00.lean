abbrev mX12_four : ab_M := (yX12_four, cX12_four, 3, none, 0, 0)
theorem kvX12_four {l : Launch} {G : ab_G} {M : ab_M} {d pc : Nat} {ls : List (Option Value)} {st : List Value} {S : ab_S} {I : ab_I} {J : ab_J} {P : ab_P} {Q : ab_Q} {v0 : Value} {ix D r ln : Nat} (hd : decode M.2.1 pc = .ok (.invokevirtual ix, 3)) (h1 : Cond.methodLink M.1.cls ix mX12_four.1 ∈ ab_good) (hs : S[r]? = some (17, ln)) (hdg : D + 1 ≤ d) (hsum : (st.map fun v => v.category).sum ≤ 8) (kk : ab_Call l G mX12_four D (.ref r :: [v0]) S I J P (fun v S' I' J' P' => ab_WP l G M d (pc + 3) ls (ab_psh v st) S' I' J' P' 0 0 Q)) : ab_WP l G M d pc ls (v0 :: .ref r :: st) S I J P 0 0 Q := bz_kv (g := mX12_four) (as := [v0]) (cc := 12) rfl hd h1 tw_1301 tw_p30 tw_13 tw_1302 ⟨by decide +kernel, by decide +kernel, (by decide +kernel : (parseMethodDescriptor mX12_four.1.desc).map (fun d => d.parameters.length) = some 1)⟩ (by decide) rfl rfl rfl hdg hsum hs kk
def fX12_four_39 (a1 : Int32) (I : ab_I) : Option ab_I :=
  some I
set_option maxRecDepth 100000 in
theorem fX12_four_39_ok {l : Launch} {G : ab_G} {S : ab_S} {I : ab_I} {J : ab_J} {P : ab_P} {Q : ab_Q} {a1 : Int32} (hB : bz_B S P) {x : ab_I} (H : fX12_four_39 a1 I = some x) (K0 : Q none S x J P) : ab_WP l G mX12_four 0 39 [some (.ref 73), some (.int a1), none] [] S I J P 0 0 Q := by
  unfold fX12_four_39 at H
  obtain rfl := Option.some.inj H
  exact ab_vret (by decide +kernel) rfl (Nat.le_refl _) (Nat.le_refl _) K0
def fX12_four_3 (a1 : Int32) (a2 : Int32) (I : ab_I) : Option ((Int32 × ab_I) ⊕ ab_I) :=
  if a2 < 0 then
    (fX12_four_39 a1 I).map .inr
  else
    ab_gd (ab_ix (I 73 1) 1600 = true) (
      some (.inl ((a2 + (-8 : Int32)), (ab_u (ab_u I 74 ((I 73 1).toNatClampNeg) ((a1 >>> (a2 &&& 31)) &&& (255 : Int32))) 73 1 ((I 73 1) + (1 : Int32)))))
    )
set_option maxRecDepth 100000 in
theorem fX12_four_3_ok {l : Launch} {G : ab_G} {S : ab_S} {I : ab_I} {J : ab_J} {P : ab_P} {Q : ab_Q} {a1 : Int32} {a2 : Int32} (hB : bz_B S P) {x : ((Int32 × ab_I) ⊕ ab_I)} (H : fX12_four_3 a1 a2 I = some x) (K1 : ∀ s, x = (.inl s) → ab_WP l G mX12_four 0 3 [some (.ref 73), some (.int a1), some (.int s.1)] [] S s.2 J P 0 0 Q) (K0 : ∀ r, x = (.inr r) → Q none S r J P) : ab_WP l G mX12_four 0 3 [some (.ref 73), some (.int a1), some (.int a2)] [] S I J P 0 0 Q := by
  unfold fX12_four_3 at H
  refine ab_iload_n (z := 2) (by decide +kernel) rfl rfl ?_
  refine ab_if_lt (off := 35) (tgt := 39) (by decide +kernel) rfl (fun hc => ?_) (fun hc => ?_)
  · replace H := ab_ifp H hc
    obtain ⟨y1, Hy, hx⟩ := ab_mp_of H
    subst hx
    replace H := Hy
    exact ab_wk (ab_le_some (ab_le_some (ab_le_none (ab_le_nil)))) (fX12_four_39_ok hB H  (K0 _ rfl))
  · replace H := ab_ifn H hc
    refine ab_aload_n (z := 0) (by decide +kernel) rfl rfl ?_
    refine gX12_0 (ix := 7) (by decide +kernel) tw_1081 (hB.1 73 _ rfl) (hB.2.1 79 (73, 0, 74) rfl) ?_
    refine ab_aload_n (z := 0) (by decide +kernel) rfl rfl ?_
    refine gX12_1 (ix := 121) (by decide +kernel) tw_1082 (hB.1 73 _ rfl) ?_
    refine ab_iload_n (z := 1) (by decide +kernel) rfl rfl ?_
    refine ab_iload_n (z := 2) (by decide +kernel) rfl rfl ?_
    refine ab_ishr (by decide +kernel) ?_
    refine ab_sipush (z := 255) (v := (255 : Int32)) (by decide +kernel) (by decide) ?_
    refine ab_iand (by decide +kernel) ?_
    obtain ⟨hg, H⟩ := ab_gd_of H
    refine ab_iast (ln := 1600) (by decide +kernel) (hB.1 74 _ rfl) (ab_ix_in hg) ?_
    refine ab_aload_n (z := 0) (by decide +kernel) rfl rfl ?_
    refine ab_dup (by decide +kernel) rfl ?_
    refine gX12_1 (ix := 121) (by decide +kernel) tw_1082 (hB.1 73 _ rfl) ?_
    refine ab_top (y := (I 73 1)) rfl ?_
    refine ab_iconst (z := 1) (v := (1 : Int32)) (by decide +kernel) (by decide) ?_
    refine ab_iadd (by decide +kernel) ?_
    refine pX12_1 (ix := 121) (by decide +kernel) tw_1082 (hB.1 73 _ rfl) ?_
    refine ab_iinc (i := 2) (z := -8) (v := (a2 + (-8 : Int32))) (by decide +kernel) rfl rfl (by decide) rfl ?_
    refine ab_ls (ls' := [some (.ref 73), some (.int a1), some (.int (a2 + (-8 : Int32)))]) rfl ?_
    refine ab_goto (off := -33) (tgt := 3) (by decide +kernel) rfl ?_
    exact ab_wk (ab_le_some (ab_le_some (ab_le_some (ab_le_nil)))) (K1 ((a2 + (-8 : Int32)), (ab_u (ab_u I 74 ((I 73 1).toNatClampNeg) ((a1 >>> (a2 &&& 31)) &&& (255 : Int32))) 73 1 ((I 73 1) + (1 : Int32)))) (Option.some.inj H).symm)
def fX12_four (a1 : Int32) (I : ab_I) : Option ab_I :=
  ab_it (fun s => fX12_four_3 a1 s.1 s.2) 5000 ((24 : Int32), I)
set_option maxRecDepth 100000 in
theorem mX12_four_ok {l : Launch} {G : ab_G} {S : ab_S} {I : ab_I} {J : ab_J} {P : ab_P} {Q : ab_Q} {a1 : Int32} (hB : bz_B S P) {x : ab_I} (H : fX12_four a1 I = some x) (K0 : Q none S x J P) : ab_Call l G mX12_four 0 [.ref 73, .int a1] S I J P Q := by
  unfold fX12_four at H
  refine ab_enter rfl (Nat.le_of_ble_eq_true rfl) (ab_wk (ls' := [some (.ref 73), some (.int a1), none]) (ab_le_some (ab_le_some (ab_le_non0 ab_le_nil))) ?_)
  refine ab_bipush (z := 24) (v := (24 : Int32)) (by decide +kernel) (by decide) ?_
  refine ab_istore_n (z := 2) (by decide +kernel) rfl (by decide) rfl ?_
  refine ab_ls (ls' := [some (.ref 73), some (.int a1), some (.int (24 : Int32))]) rfl ?_
  exact ab_wk (ab_le_some (ab_le_some (ab_le_some (ab_le_nil)))) (ab_iter (body := (fun s => fX12_four_3 a1 s.1 s.2)) (W := fun s => ab_WP l G mX12_four 0 3 [some (.ref 73), some (.int a1), some (.int s.1)] [] S s.2 J P 0 0 Q) (fun s y hb h1 h2 => fX12_four_3_ok hB hb h1 (fun r e => by have e2 := h2 _ e; subst e2; exact K0)) 5000 ((24 : Int32), I) H)
abbrev mX12_feed : ab_M := (yX12_feed, cX12_feed, 6, some .int, 0, 0)
def fX12_feed (a1 : Int32) (a2 : Int32) (a3 : Int32) (a4 : Int32) (a5 : Int32) (I : ab_I) : Option (Int32 × ab_I) :=
  if ((I 73 1) + (20 : Int32)) ≤ (1600 : Int32) then
    (fX12_four a1 I).bind fun u1 =>
    (fX12_four a2 u1).bind fun u2 =>
    (fX12_four a3 u2).bind fun u3 =>
    (fX12_four a4 u3).bind fun u4 =>
    (fX12_four a5 u4).bind fun u5 =>
    some ((u5 73 1), u5)
  else
    some ((-1 : Int32), I)
set_option maxRecDepth 100000 in
theorem mX12_feed_ok {l : Launch} {G : ab_G} {S : ab_S} {I : ab_I} {J : ab_J} {P : ab_P} {Q : ab_Q} {a1 : Int32} {a2 : Int32} {a3 : Int32} {a4 : Int32} {a5 : Int32} (hB : bz_B S P) {x : Int32 × ab_I} (H : fX12_feed a1 a2 a3 a4 a5 I = some x) (K0 : Q (some (.int x.1)) S x.2 J P) : ab_Call l G mX12_feed 1 [.ref 73, .int a1, .int a2, .int a3, .int a4, .int a5] S I J P Q := by
  unfold fX12_feed at H
  refine ab_enter rfl (Nat.le_of_ble_eq_true rfl) (ab_wk (ls' := [some (.ref 73), some (.int a1), some (.int a2), some (.int a3), some (.int a4), some (.int a5)]) (ab_le_some (ab_le_some (ab_le_some (ab_le_some (ab_le_some (ab_le_some (ab_le_nil))))))) ?_)
  refine ab_aload_n (z := 0) (by decide +kernel) rfl rfl ?_
  refine gX12_1 (ix := 121) (by decide +kernel) tw_1082 (hB.1 73 _ rfl) ?_
  refine ab_bipush (z := 20) (v := (20 : Int32)) (by decide +kernel) (by decide) ?_
  refine ab_iadd (by decide +kernel) ?_
  refine ab_sipush (z := 1600) (v := (1600 : Int32)) (by decide +kernel) (by decide) ?_
  refine ab_icmp_le (off := 5) (tgt := 15) (by decide +kernel) rfl (fun hc => ?_) (fun hc => ?_)
  · replace H := ab_ifp H hc
    refine ab_aload_n (z := 0) (by decide +kernel) rfl rfl ?_
    refine ab_iload_n (z := 1) (by decide +kernel) rfl rfl ?_
    obtain ⟨u1, hu1, H⟩ := ab_bd_of H
    refine kvX12_four (D := 0) (ix := 124) (by decide +kernel) tw_1299 (hB.1 73 _ rfl) (by decide) (Nat.le_of_ble_eq_true rfl) (mX12_four_ok hB hu1 ?_)
    change ab_WP l G mX12_feed 1 20 [some (.ref 73), some (.int a1), some (.int a2), some (.int a3), some (.int a4), some (.int a5)] [] S u1 J P 0 0 Q
    refine ab_aload_n (z := 0) (by decide +kernel) rfl rfl ?_
    refine ab_iload_n (z := 2) (by decide +kernel) rfl rfl ?_
    obtain ⟨u2, hu2, H⟩ := ab_bd_of H
    refine kvX12_four (D := 0) (ix := 124) (by decide +kernel) tw_1299 (hB.1 73 _ rfl) (by decide) (Nat.le_of_ble_eq_true rfl) (mX12_four_ok hB hu2 ?_)
    change ab_WP l G mX12_feed 1 25 [some (.ref 73), some (.int a1), some (.int a2), some (.int a3), some (.int a4), some (.int a5)] [] S u2 J P 0 0 Q
    refine ab_aload_n (z := 0) (by decide +kernel) rfl rfl ?_
    refine ab_iload_n (z := 3) (by decide +kernel) rfl rfl ?_
    obtain ⟨u3, hu3, H⟩ := ab_bd_of H
    refine kvX12_four (D := 0) (ix := 124) (by decide +kernel) tw_1299 (hB.1 73 _ rfl) (by decide) (Nat.le_of_ble_eq_true rfl) (mX12_four_ok hB hu3 ?_)
    change ab_WP l G mX12_feed 1 30 [some (.ref 73), some (.int a1), some (.int a2), some (.int a3), some (.int a4), some (.int a5)] [] S u3 J P 0 0 Q
    refine ab_aload_n (z := 0) (by decide +kernel) rfl rfl ?_
    refine ab_iload (i := 4) (by decide +kernel) rfl ?_
    obtain ⟨u4, hu4, H⟩ := ab_bd_of H
    refine kvX12_four (D := 0) (ix := 124) (by decide +kernel) tw_1299 (hB.1 73 _ rfl) (by decide) (Nat.le_of_ble_eq_true rfl) (mX12_four_ok hB hu4 ?_)
    change ab_WP l G mX12_feed 1 36 [some (.ref 73), some (.int a1), some (.int a2), some (.int a3), some (.int a4), some (.int a5)] [] S u4 J P 0 0 Q
    refine ab_aload_n (z := 0) (by decide +kernel) rfl rfl ?_
    refine ab_iload (i := 5) (by decide +kernel) rfl ?_
    obtain ⟨u5, hu5, H⟩ := ab_bd_of H
    refine kvX12_four (D := 0) (ix := 124) (by decide +kernel) tw_1299 (hB.1 73 _ rfl) (by decide) (Nat.le_of_ble_eq_true rfl) (mX12_four_ok hB hu5 ?_)
    change ab_WP l G mX12_feed 1 42 [some (.ref 73), some (.int a1), some (.int a2), some (.int a3), some (.int a4), some (.int a5)] [] S u5 J P 0 0 Q
    refine ab_aload_n (z := 0) (by decide +kernel) rfl rfl ?_
    refine gX12_1 (ix := 121) (by decide +kernel) tw_1082 (hB.1 73 _ rfl) ?_
    obtain rfl := Option.some.inj H
    exact ab_iret (by decide +kernel) rfl (Nat.le_refl _) (Nat.le_refl _) K0
  · replace H := ab_ifn H hc
    refine ab_iconst (z := -1) (v := (-1 : Int32)) (by decide +kernel) (by decide) ?_
    obtain rfl := Option.some.inj H
    exact ab_iret (by decide +kernel) rfl (Nat.le_refl _) (Nat.le_refl _) K0
abbrev mX12_end : ab_M := (yX12_end, cX12_end, 2, some .int, 0, 0)
def fX12_end_12 (a1 : Int32) (I : ab_I) : Option (Int32 × ab_I) :=
  some ((-1 : Int32), I)
set_option maxRecDepth 100000 in
theorem fX12_end_12_ok {l : Launch} {G : ab_G} {S : ab_S} {I : ab_I} {J : ab_J} {P : ab_P} {Q : ab_Q} {a1 : Int32} (hB : bz_B S P) {x : Int32 × ab_I} (H : fX12_end_12 a1 I = some x) (K0 : Q (some (.int x.1)) S x.2 J P) : ab_WP l G mX12_end 0 12 [some (.ref 73), some (.int a1)] [] S I J P 0 0 Q := by
  unfold fX12_end_12 at H
  refine ab_iconst (z := -1) (v := (-1 : Int32)) (by decide +kernel) (by decide) ?_
  obtain rfl := Option.some.inj H
  exact ab_iret (by decide +kernel) rfl (Nat.le_refl _) (Nat.le_refl _) K0
def fX12_end (a1 : Int32) (I : ab_I) : Option (Int32 × ab_I) :=
  if a1 < 0 then
    fX12_end_12 a1 I
  else
    if a1 ≤ (I 73 1) then
      some (a1, (ab_u I 73 1 a1))
    else
      fX12_end_12 a1 I
set_option maxRecDepth 100000 in
theorem mX12_end_ok {l : Launch} {G : ab_G} {S : ab_S} {I : ab_I} {J : ab_J} {P : ab_P} {Q : ab_Q} {a1 : Int32} (hB : bz_B S P) {x : Int32 × ab_I} (H : fX12_end a1 I = some x) (K0 : Q (some (.int x.1)) S x.2 J P) : ab_Call l G mX12_end 0 [.ref 73, .int a1] S I J P Q := by
  unfold fX12_end at H
  refine ab_enter rfl (Nat.le_of_ble_eq_true rfl) (ab_wk (ls' := [some (.ref 73), some (.int a1)]) (ab_le_some (ab_le_some (ab_le_nil))) ?_)
  refine ab_iload_n (z := 1) (by decide +kernel) rfl rfl ?_
  refine ab_if_lt (off := 11) (tgt := 12) (by decide +kernel) rfl (fun hc => ?_) (fun hc => ?_)
  · replace H := ab_ifp H hc
    exact ab_wk (ab_le_some (ab_le_some (ab_le_nil))) (fX12_end_12_ok hB H  K0)
  · replace H := ab_ifn H hc
    refine ab_iload_n (z := 1) (by decide +kernel) rfl rfl ?_
    refine ab_aload_n (z := 0) (by decide +kernel) rfl rfl ?_
    refine gX12_1 (ix := 121) (by decide +kernel) tw_1082 (hB.1 73 _ rfl) ?_
    refine ab_icmp_le (off := 5) (tgt := 14) (by decide +kernel) rfl (fun hc => ?_) (fun hc => ?_)
    · replace H := ab_ifp H hc
      refine ab_aload_n (z := 0) (by decide +kernel) rfl rfl ?_
      refine ab_iload_n (z := 1) (by decide +kernel) rfl rfl ?_
      refine pX12_1 (ix := 121) (by decide +kernel) tw_1082 (hB.1 73 _ rfl) ?_
      refine ab_iload_n (z := 1) (by decide +kernel) rfl rfl ?_
      obtain rfl := Option.some.inj H
      exact ab_iret (by decide +kernel) rfl (Nat.le_refl _) (Nat.le_refl _) K0
    · replace H := ab_ifn H hc
      exact ab_wk (ab_le_some (ab_le_some (ab_le_nil))) (fX12_end_12_ok hB H  K0)
abbrev mX12_peek : ab_M := (yX12_peek, cX12_peek, 2, some .int, 0, 0)
theorem kvX12_peek {l : Launch} {G : ab_G} {M : ab_M} {d pc : Nat} {ls : List (Option Value)} {st : List Value} {S : ab_S} {I : ab_I} {J : ab_J} {P : ab_P} {Q : ab_Q} {v0 : Value} {ix D r ln : Nat} (hd : decode M.2.1 pc = .ok (.invokevirtual ix, 3)) (h1 : Cond.methodLink M.1.cls ix mX12_peek.1 ∈ ab_good) (hs : S[r]? = some (17, ln)) (hdg : D + 1 ≤ d) (hsum : (st.map fun v => v.category).sum ≤ 8) (kk : ab_Call l G mX12_peek D (.ref r :: [v0]) S I J P (fun v S' I' J' P' => ab_WP l G M d (pc + 3) ls (ab_psh v st) S' I' J' P' 0 0 Q)) : ab_WP l G M d pc ls (v0 :: .ref r :: st) S I J P 0 0 Q := bz_kv (g := mX12_peek) (as := [v0]) (cc := 12) rfl hd h1 tw_1321 tw_p33 tw_13 tw_1322 ⟨by decide +kernel, by decide +kernel, (by decide +kernel : (parseMethodDescriptor mX12_peek.1.desc).map (fun d => d.parameters.length) = some 1)⟩ (by decide) rfl rfl rfl hdg hsum hs kk
def fX12_peek_28 (a1 : Int32) (I : ab_I) (s0 : Int32) : Option Int32 :=
  some s0
set_option maxRecDepth 100000 in
theorem fX12_peek_28_ok {l : Launch} {G : ab_G} {S : ab_S} {I : ab_I} {J : ab_J} {P : ab_P} {Q : ab_Q} {a1 : Int32} {s0 : Int32} (hB : bz_B S P) {x : Int32} (H : fX12_peek_28 a1 I s0 = some x) (K0 : Q (some (.int x)) S I J P) : ab_WP l G mX12_peek 0 28 [some (.ref 73), some (.int a1)] [.int s0] S I J P 0 0 Q := by
  unfold fX12_peek_28 at H
  obtain rfl := Option.some.inj H
  exact ab_iret (by decide +kernel) rfl (Nat.le_refl _) (Nat.le_refl _) K0
def fX12_peek (a1 : Int32) (I : ab_I) : Option Int32 :=
  if (I 73 5) ≤ ((I 73 4) + a1) then
    fX12_peek_28 a1 I (-1 : Int32)
  else
    ab_gd (ab_ix ((I 73 4) + a1) 1600 = true) (
      fX12_peek_28 a1 I (I 74 (((I 73 4) + a1).toNatClampNeg))
    )
set_option maxRecDepth 100000 in
theorem mX12_peek_ok {l : Launch} {G : ab_G} {S : ab_S} {I : ab_I} {J : ab_J} {P : ab_P} {Q : ab_Q} {a1 : Int32} (hB : bz_B S P) {x : Int32} (H : fX12_peek a1 I = some x) (K0 : Q (some (.int x)) S I J P) : ab_Call l G mX12_peek 0 [.ref 73, .int a1] S I J P Q := by
  unfold fX12_peek at H
  refine ab_enter rfl (Nat.le_of_ble_eq_true rfl) (ab_wk (ls' := [some (.ref 73), some (.int a1)]) (ab_le_some (ab_le_some (ab_le_nil))) ?_)
  refine ab_aload_n (z := 0) (by decide +kernel) rfl rfl ?_
  refine gX12_4 (ix := 128) (by decide +kernel) tw_1085 (hB.1 73 _ rfl) ?_
  refine ab_iload_n (z := 1) (by decide +kernel) rfl rfl ?_
  refine ab_iadd (by decide +kernel) ?_
  refine ab_aload_n (z := 0) (by decide +kernel) rfl rfl ?_
  refine gX12_5 (ix := 131) (by decide +kernel) tw_1086 (hB.1 73 _ rfl) ?_
  refine ab_icmp_ge (off := 17) (tgt := 27) (by decide +kernel) rfl (fun hc => ?_) (fun hc => ?_)
  · replace H := ab_ifp H hc
    refine ab_iconst (z := -1) (v := (-1 : Int32)) (by decide +kernel) (by decide) ?_
    exact ab_wk (ab_le_some (ab_le_some (ab_le_nil))) (fX12_peek_28_ok hB H  K0)
  · replace H := ab_ifn H hc
    refine ab_aload_n (z := 0) (by decide +kernel) rfl rfl ?_
    refine gX12_0 (ix := 7) (by decide +kernel) tw_1081 (hB.1 73 _ rfl) (hB.2.1 79 (73, 0, 74) rfl) ?_
    refine ab_aload_n (z := 0) (by decide +kernel) rfl rfl ?_
    refine gX12_4 (ix := 128) (by decide +kernel) tw_1085 (hB.1 73 _ rfl) ?_
    refine ab_iload_n (z := 1) (by decide +kernel) rfl rfl ?_
    refine ab_iadd (by decide +kernel) ?_
    obtain ⟨hg, H⟩ := ab_gd_of H
    refine ab_iald (ln := 1600) (by decide +kernel) (hB.1 74 _ rfl) (ab_ix_in hg) ?_
    refine ab_goto (off := 4) (tgt := 28) (by decide +kernel) rfl ?_
    exact ab_wk (ab_le_some (ab_le_some (ab_le_nil))) (fX12_peek_28_ok hB H  K0)
abbrev mX12_isLetter : ab_M := (yX12_isLetter, cX12_isLetter, 1, some .boolean, 0, 0)
theorem ksX12_isLetter {l : Launch} {G : ab_G} {M : ab_M} {d pc : Nat} {ls : List (Option Value)} {st : List Value} {S : ab_S} {I : ab_I} {J : ab_J} {P : ab_P} {Q : ab_Q} {v0 : Value} {ix D : Nat} (hd : decode M.2.1 pc = .ok (.invokestatic ix, 3)) (h1 : Cond.methodLink M.1.cls ix mX12_isLetter.1 ∈ ab_good) (hdg : D + 1 ≤ d) (hsum : (st.map fun v => v.category).sum ≤ 8) (kk : ab_Call l G mX12_isLetter D [v0] S I J P (fun v S' I' J' P' => ab_WP l G M d (pc + 3) ls (ab_psh v st) S' I' J' P' 0 0 Q)) : ab_WP l G M d pc ls (v0 :: st) S I J P 0 0 Q := bz_ks (g := mX12_isLetter) (as := [v0]) rfl hd h1 tw_1324 tw_13 tw_1325 ⟨by decide +kernel, by decide +kernel, (by decide +kernel : (parseMethodDescriptor mX12_isLetter.1.desc).map (fun d => d.parameters.length) = some 1)⟩ (by decide) rfl hdg hsum kk
def fX12_isLetter_17 (a0 : Int32) (s0 : Int32) : Option Int32 :=
  ab_gd (s0 = 0 ∨ s0 = 1) (some s0)
set_option maxRecDepth 100000 in
theorem fX12_isLetter_17_ok {l : Launch} {G : ab_G} {S : ab_S} {I : ab_I} {J : ab_J} {P : ab_P} {Q : ab_Q} {a0 : Int32} {s0 : Int32} (hB : bz_B S P) {x : Int32} (H : fX12_isLetter_17 a0 s0 = some x) (K0 : Q (some (.int x)) S I J P) : ab_WP l G mX12_isLetter 0 17 [some (.int a0)] [.int s0] S I J P 0 0 Q := by
  unfold fX12_isLetter_17 at H
  obtain ⟨hg, H⟩ := ab_gd_of H
  obtain rfl := Option.some.inj H
  exact ab_zret (by decide +kernel) rfl (Nat.le_refl _) (Nat.le_refl _) hg K0
def fX12_isLetter_16 (a0 : Int32) : Option Int32 :=
  fX12_isLetter_17 a0 (0 : Int32)
set_option maxRecDepth 100000 in
theorem fX12_isLetter_16_ok {l : Launch} {G : ab_G} {S : ab_S} {I : ab_I} {J : ab_J} {P : ab_P} {Q : ab_Q} {a0 : Int32} (hB : bz_B S P) {x : Int32} (H : fX12_isLetter_16 a0 = some x) (K0 : Q (some (.int x)) S I J P) : ab_WP l G mX12_isLetter 0 16 [some (.int a0)] [] S I J P 0 0 Q := by
  unfold fX12_isLetter_16 at H
  refine ab_iconst (z := 0) (v := (0 : Int32)) (by decide +kernel) (by decide) ?_
  exact ab_wk (ab_le_some (ab_le_nil)) (fX12_isLetter_17_ok hB H  K0)
def fX12_isLetter (a0 : Int32) : Option Int32 :=
  if a0 < (97 : Int32) then
    fX12_isLetter_16 a0
  else
    if (122 : Int32) < a0 then
      fX12_isLetter_16 a0
    else
      fX12_isLetter_17 a0 (1 : Int32)
set_option maxRecDepth 100000 in
theorem mX12_isLetter_ok {l : Launch} {G : ab_G} {S : ab_S} {I : ab_I} {J : ab_J} {P : ab_P} {Q : ab_Q} {a0 : Int32} (hB : bz_B S P) {x : Int32} (H : fX12_isLetter a0 = some x) (K0 : Q (some (.int x)) S I J P) : ab_Call l G mX12_isLetter 0 [.int a0] S I J P Q := by
  unfold fX12_isLetter at H
  refine ab_enter rfl (Nat.le_of_ble_eq_true rfl) (ab_wk (ls' := [some (.int a0)]) (ab_le_some (ab_le_nil)) ?_)
  refine ab_iload_n (z := 0) (by decide +kernel) rfl rfl ?_
  refine ab_bipush (z := 97) (v := (97 : Int32)) (by decide +kernel) (by decide) ?_
  refine ab_icmp_lt (off := 13) (tgt := 16) (by decide +kernel) rfl (fun hc => ?_) (fun hc => ?_)
  · replace H := ab_ifp H hc
    exact ab_wk (ab_le_some (ab_le_nil)) (fX12_isLetter_16_ok hB H  K0)
  · replace H := ab_ifn H hc
    refine ab_iload_n (z := 0) (by decide +kernel) rfl rfl ?_
    refine ab_bipush (z := 122) (v := (122 : Int32)) (by decide +kernel) (by decide) ?_
    refine ab_icmp_gt (off := 7) (tgt := 16) (by decide +kernel) rfl (fun hc => ?_) (fun hc => ?_)
    · replace H := ab_ifp H hc
      exact ab_wk (ab_le_some (ab_le_nil)) (fX12_isLetter_16_ok hB H  K0)
    · replace H := ab_ifn H hc
      refine ab_iconst (z := 1) (v := (1 : Int32)) (by decide +kernel) (by decide) ?_
      refine ab_goto (off := 4) (tgt := 17) (by decide +kernel) rfl ?_
      exact ab_wk (ab_le_some (ab_le_nil)) (fX12_isLetter_17_ok hB H  K0)
abbrev mX12_isDigit : ab_M := (yX12_isDigit, cX12_isDigit, 1, some .boolean, 0, 0)
theorem ksX12_isDigit {l : Launch} {G : ab_G} {M : ab_M} {d pc : Nat} {ls : List (Option Value)} {st : List Value} {S : ab_S} {I : ab_I} {J : ab_J} {P : ab_P} {Q : ab_Q} {v0 : Value} {ix D : Nat} (hd : decode M.2.1 pc = .ok (.invokestatic ix, 3)) (h1 : Cond.methodLink M.1.cls ix mX12_isDigit.1 ∈ ab_good) (hdg : D + 1 ≤ d) (hsum : (st.map fun v => v.category).sum ≤ 8) (kk : ab_Call l G mX12_isDigit D [v0] S I J P (fun v S' I' J' P' => ab_WP l G M d (pc + 3) ls (ab_psh v st) S' I' J' P' 0 0 Q)) : ab_WP l G M d pc ls (v0 :: st) S I J P 0 0 Q := bz_ks (g := mX12_isDigit) (as := [v0]) rfl hd h1 tw_1327 tw_13 tw_1328 ⟨by decide +kernel, by decide +kernel, (by decide +kernel : (parseMethodDescriptor mX12_isDigit.1.desc).map (fun d => d.parameters.length) = some 1)⟩ (by decide) rfl hdg hsum kk
def fX12_isDigit_17 (a0 : Int32) (s0 : Int32) : Option Int32 :=
  ab_gd (s0 = 0 ∨ s0 = 1) (some s0)
set_option maxRecDepth 100000 in
theorem fX12_isDigit_17_ok {l : Launch} {G : ab_G} {S : ab_S} {I : ab_I} {J : ab_J} {P : ab_P} {Q : ab_Q} {a0 : Int32} {s0 : Int32} (hB : bz_B S P) {x : Int32} (H : fX12_isDigit_17 a0 s0 = some x) (K0 : Q (some (.int x)) S I J P) : ab_WP l G mX12_isDigit 0 17 [some (.int a0)] [.int s0] S I J P 0 0 Q := by
  unfold fX12_isDigit_17 at H
  obtain ⟨hg, H⟩ := ab_gd_of H
  obtain rfl := Option.some.inj H
  exact ab_zret (by decide +kernel) rfl (Nat.le_refl _) (Nat.le_refl _) hg K0
def fX12_isDigit_16 (a0 : Int32) : Option Int32 :=
  fX12_isDigit_17 a0 (0 : Int32)
set_option maxRecDepth 100000 in
theorem fX12_isDigit_16_ok {l : Launch} {G : ab_G} {S : ab_S} {I : ab_I} {J : ab_J} {P : ab_P} {Q : ab_Q} {a0 : Int32} (hB : bz_B S P) {x : Int32} (H : fX12_isDigit_16 a0 = some x) (K0 : Q (some (.int x)) S I J P) : ab_WP l G mX12_isDigit 0 16 [some (.int a0)] [] S I J P 0 0 Q := by
  unfold fX12_isDigit_16 at H
  refine ab_iconst (z := 0) (v := (0 : Int32)) (by decide +kernel) (by decide) ?_
  exact ab_wk (ab_le_some (ab_le_nil)) (fX12_isDigit_17_ok hB H  K0)
def fX12_isDigit (a0 : Int32) : Option Int32 :=
  if a0 < (48 : Int32) then
    fX12_isDigit_16 a0
  else
    if (57 : Int32) < a0 then
      fX12_isDigit_16 a0
    else
      fX12_isDigit_17 a0 (1 : Int32)
set_option maxRecDepth 100000 in
theorem mX12_isDigit_ok {l : Launch} {G : ab_G} {S : ab_S} {I : ab_I} {J : ab_J} {P : ab_P} {Q : ab_Q} {a0 : Int32} (hB : bz_B S P) {x : Int32} (H : fX12_isDigit a0 = some x) (K0 : Q (some (.int x)) S I J P) : ab_Call l G mX12_isDigit 0 [.int a0] S I J P Q := by
  unfold fX12_isDigit at H
  refine ab_enter rfl (Nat.le_of_ble_eq_true rfl) (ab_wk (ls' := [some (.int a0)]) (ab_le_some (ab_le_nil)) ?_)
  refine ab_iload_n (z := 0) (by decide +kernel) rfl rfl ?_
  refine ab_bipush (z := 48) (v := (48 : Int32)) (by decide +kernel) (by decide) ?_
  refine ab_icmp_lt (off := 13) (tgt := 16) (by decide +kernel) rfl (fun hc => ?_) (fun hc => ?_)
  · replace H := ab_ifp H hc
    exact ab_wk (ab_le_some (ab_le_nil)) (fX12_isDigit_16_ok hB H  K0)
  · replace H := ab_ifn H hc
    refine ab_iload_n (z := 0) (by decide +kernel) rfl rfl ?_
    refine ab_bipush (z := 57) (v := (57 : Int32)) (by decide +kernel) (by decide) ?_
    refine ab_icmp_gt (off := 7) (tgt := 16) (by decide +kernel) rfl (fun hc => ?_) (fun hc => ?_)
    · replace H := ab_ifp H hc
      exact ab_wk (ab_le_some (ab_le_nil)) (fX12_isDigit_16_ok hB H  K0)
    · replace H := ab_ifn H hc
      refine ab_iconst (z := 1) (v := (1 : Int32)) (by decide +kernel) (by decide) ?_
      refine ab_goto (off := 4) (tgt := 17) (by decide +kernel) rfl ?_
      exact ab_wk (ab_le_some (ab_le_nil)) (fX12_isDigit_17_ok hB H  K0)
abbrev mX12_isSign : ab_M := (yX12_isSign, cX12_isSign, 1, some .boolean, 0, 0)
theorem ksX12_isSign {l : Launch} {G : ab_G} {M : ab_M} {d pc : Nat} {ls : List (Option Value)} {st : List Value} {S : ab_S} {I : ab_I} {J : ab_J} {P : ab_P} {Q : ab_Q} {v0 : Value} {ix D : Nat} (hd : decode M.2.1 pc = .ok (.invokestatic ix, 3)) (h1 : Cond.methodLink M.1.cls ix mX12_isSign.1 ∈ ab_good) (hdg : D + 1 ≤ d) (hsum : (st.map fun v => v.category).sum ≤ 8) (kk : ab_Call l G mX12_isSign D [v0] S I J P (fun v S' I' J' P' => ab_WP l G M d (pc + 3) ls (ab_psh v st) S' I' J' P' 0 0 Q)) : ab_WP l G M d pc ls (v0 :: st) S I J P 0 0 Q := bz_ks (g := mX12_isSign) (as := [v0]) rfl hd h1 tw_1330 tw_13 tw_1331 ⟨by decide +kernel, by decide +kernel, (by decide +kernel : (parseMethodDescriptor mX12_isSign.1.desc).map (fun d => d.parameters.length) = some 1)⟩ (by decide) rfl hdg hsum kk
def fX12_isSign_71 (a0 : Int32) (s0 : Int32) : Option Int32 :=
  ab_gd (s0 = 0 ∨ s0 = 1) (some s0)
set_option maxRecDepth 100000 in
theorem fX12_isSign_71_ok {l : Launch} {G : ab_G} {S : ab_S} {I : ab_I} {J : ab_J} {P : ab_P} {Q : ab_Q} {a0 : Int32} {s0 : Int32} (hB : bz_B S P) {x : Int32} (H : fX12_isSign_71 a0 s0 = some x) (K0 : Q (some (.int x)) S I J P) : ab_WP l G mX12_isSign 0 71 [some (.int a0)] [.int s0] S I J P 0 0 Q := by
  unfold fX12_isSign_71 at H
  obtain ⟨hg, H⟩ := ab_gd_of H
  obtain rfl := Option.some.inj H
  exact ab_zret (by decide +kernel) rfl (Nat.le_refl _) (Nat.le_refl _) hg K0
def fX12_isSign_66 (a0 : Int32) : Option Int32 :=
  fX12_isSign_71 a0 (1 : Int32)
set_option maxRecDepth 100000 in
theorem fX12_isSign_66_ok {l : Launch} {G : ab_G} {S : ab_S} {I : ab_I} {J : ab_J} {P : ab_P} {Q : ab_Q} {a0 : Int32} (hB : bz_B S P) {x : Int32} (H : fX12_isSign_66 a0 = some x) (K0 : Q (some (.int x)) S I J P) : ab_WP l G mX12_isSign 0 66 [some (.int a0)] [] S I J P 0 0 Q := by
  unfold fX12_isSign_66 at H
  refine ab_iconst (z := 1) (v := (1 : Int32)) (by decide +kernel) (by decide) ?_
  refine ab_goto (off := 4) (tgt := 71) (by decide +kernel) rfl ?_
  exact ab_wk (ab_le_some (ab_le_nil)) (fX12_isSign_71_ok hB H  K0)
def fX12_isSign (a0 : Int32) : Option Int32 :=
  if a0 = (59 : Int32) then
    fX12_isSign_66 a0
  else
    if a0 = (40 : Int32) then
      fX12_isSign_66 a0
    else
      if a0 = (41 : Int32) then
        fX12_isSign_66 a0
      else
        if a0 = (60 : Int32) then
          fX12_isSign_66 a0
        else
          if a0 = (62 : Int32) then
            fX12_isSign_66 a0
          else
            if a0 = (61 : Int32) then
              fX12_isSign_66 a0
            else
              if a0 = (43 : Int32) then
                fX12_isSign_66 a0
              else
                if a0 = (45 : Int32) then
                  fX12_isSign_66 a0
                else
                  if a0 = (42 : Int32) then
                    fX12_isSign_66 a0
                  else
                    if a0 = (47 : Int32) then
                      fX12_isSign_66 a0
                    else
                      if a0 = (37 : Int32) then
                        fX12_isSign_66 a0
                      else
                        fX12_isSign_71 a0 (0 : Int32)
set_option maxRecDepth 100000 in
theorem mX12_isSign_ok {l : Launch} {G : ab_G} {S : ab_S} {I : ab_I} {J : ab_J} {P : ab_P} {Q : ab_Q} {a0 : Int32} (hB : bz_B S P) {x : Int32} (H : fX12_isSign a0 = some x) (K0 : Q (some (.int x)) S I J P) : ab_Call l G mX12_isSign 0 [.int a0] S I J P Q := by
  unfold fX12_isSign at H
  refine ab_enter rfl (Nat.le_of_ble_eq_true rfl) (ab_wk (ls' := [some (.int a0)]) (ab_le_some (ab_le_nil)) ?_)
  refine ab_iload_n (z := 0) (by decide +kernel) rfl rfl ?_
  refine ab_bipush (z := 59) (v := (59 : Int32)) (by decide +kernel) (by decide) ?_
  refine ab_icmp_eq (off := 63) (tgt := 66) (by decide +kernel) rfl (fun hc => ?_) (fun hc => ?_)
  · replace H := ab_ifp H hc
    exact ab_wk (ab_le_some (ab_le_nil)) (fX12_isSign_66_ok hB H  K0)
  · replace H := ab_ifn H hc
    refine ab_iload_n (z := 0) (by decide +kernel) rfl rfl ?_
    refine ab_bipush (z := 40) (v := (40 : Int32)) (by decide +kernel) (by decide) ?_
    refine ab_icmp_eq (off := 57) (tgt := 66) (by decide +kernel) rfl (fun hc => ?_) (fun hc => ?_)
    · replace H := ab_ifp H hc
      exact ab_wk (ab_le_some (ab_le_nil)) (fX12_isSign_66_ok hB H  K0)
    · replace H := ab_ifn H hc
      refine ab_iload_n (z := 0) (by decide +kernel) rfl rfl ?_
      refine ab_bipush (z := 41) (v := (41 : Int32)) (by decide +kernel) (by decide) ?_
      refine ab_icmp_eq (off := 51) (tgt := 66) (by decide +kernel) rfl (fun hc => ?_) (fun hc => ?_)
      · replace H := ab_ifp H hc
        exact ab_wk (ab_le_some (ab_le_nil)) (fX12_isSign_66_ok hB H  K0)
      · replace H := ab_ifn H hc
        refine ab_iload_n (z := 0) (by decide +kernel) rfl rfl ?_
        refine ab_bipush (z := 60) (v := (60 : Int32)) (by decide +kernel) (by decide) ?_
        refine ab_icmp_eq (off := 45) (tgt := 66) (by decide +kernel) rfl (fun hc => ?_) (fun hc => ?_)
        · replace H := ab_ifp H hc
          exact ab_wk (ab_le_some (ab_le_nil)) (fX12_isSign_66_ok hB H  K0)
        · replace H := ab_ifn H hc
          refine ab_iload_n (z := 0) (by decide +kernel) rfl rfl ?_
          refine ab_bipush (z := 62) (v := (62 : Int32)) (by decide +kernel) (by decide) ?_
          refine ab_icmp_eq (off := 39) (tgt := 66) (by decide +kernel) rfl (fun hc => ?_) (fun hc => ?_)
          · replace H := ab_ifp H hc
            exact ab_wk (ab_le_some (ab_le_nil)) (fX12_isSign_66_ok hB H  K0)
          · replace H := ab_ifn H hc
            refine ab_iload_n (z := 0) (by decide +kernel) rfl rfl ?_
            refine ab_bipush (z := 61) (v := (61 : Int32)) (by decide +kernel) (by decide) ?_
            refine ab_icmp_eq (off := 33) (tgt := 66) (by decide +kernel) rfl (fun hc => ?_) (fun hc => ?_)
            · replace H := ab_ifp H hc
              exact ab_wk (ab_le_some (ab_le_nil)) (fX12_isSign_66_ok hB H  K0)
            · replace H := ab_ifn H hc
              refine ab_iload_n (z := 0) (by decide +kernel) rfl rfl ?_
              refine ab_bipush (z := 43) (v := (43 : Int32)) (by decide +kernel) (by decide) ?_
              refine ab_icmp_eq (off := 27) (tgt := 66) (by decide +kernel) rfl (fun hc => ?_) (fun hc => ?_)
              · replace H := ab_ifp H hc
                exact ab_wk (ab_le_some (ab_le_nil)) (fX12_isSign_66_ok hB H  K0)
              · replace H := ab_ifn H hc
                refine ab_iload_n (z := 0) (by decide +kernel) rfl rfl ?_
                refine ab_bipush (z := 45) (v := (45 : Int32)) (by decide +kernel) (by decide) ?_
                refine ab_icmp_eq (off := 21) (tgt := 66) (by decide +kernel) rfl (fun hc => ?_) (fun hc => ?_)
                · replace H := ab_ifp H hc
                  exact ab_wk (ab_le_some (ab_le_nil)) (fX12_isSign_66_ok hB H  K0)
                · replace H := ab_ifn H hc
                  refine ab_iload_n (z := 0) (by decide +kernel) rfl rfl ?_
                  refine ab_bipush (z := 42) (v := (42 : Int32)) (by decide +kernel) (by decide) ?_
                  refine ab_icmp_eq (off := 15) (tgt := 66) (by decide +kernel) rfl (fun hc => ?_) (fun hc => ?_)
                  · replace H := ab_ifp H hc
                    exact ab_wk (ab_le_some (ab_le_nil)) (fX12_isSign_66_ok hB H  K0)
                  · replace H := ab_ifn H hc
                    refine ab_iload_n (z := 0) (by decide +kernel) rfl rfl ?_
                    refine ab_bipush (z := 47) (v := (47 : Int32)) (by decide +kernel) (by decide) ?_
                    refine ab_icmp_eq (off := 9) (tgt := 66) (by decide +kernel) rfl (fun hc => ?_) (fun hc => ?_)
                    · replace H := ab_ifp H hc
                      exact ab_wk (ab_le_some (ab_le_nil)) (fX12_isSign_66_ok hB H  K0)
                    · replace H := ab_ifn H hc
                      refine ab_iload_n (z := 0) (by decide +kernel) rfl rfl ?_
                      refine ab_bipush (z := 37) (v := (37 : Int32)) (by decide +kernel) (by decide) ?_
                      refine ab_icmp_ne (off := 7) (tgt := 70) (by decide +kernel) rfl (fun hc => ?_) (fun hc => ?_)
                      · replace H := ab_ifn H hc
                        refine ab_iconst (z := 0) (v := (0 : Int32)) (by decide +kernel) (by decide) ?_
                        exact ab_wk (ab_le_some (ab_le_nil)) (fX12_isSign_71_ok hB H  K0)
                      · replace H := ab_ifp H hc
                        exact ab_wk (ab_le_some (ab_le_nil)) (fX12_isSign_66_ok hB H  K0)
abbrev mX12_token : ab_M := (yX12_token, cX12_token, 3, none, 0, 0)
theorem kvX12_token {l : Launch} {G : ab_G} {M : ab_M} {d pc : Nat} {ls : List (Option Value)} {st : List Value} {S : ab_S} {I : ab_I} {J : ab_J} {P : ab_P} {Q : ab_Q} {ix D r ln : Nat} (hd : decode M.2.1 pc = .ok (.invokevirtual ix, 3)) (h1 : Cond.methodLink M.1.cls ix mX12_token.1 ∈ ab_good) (hs : S[r]? = some (17, ln)) (hdg : D + 1 ≤ d) (hsum : (st.map fun v => v.category).sum ≤ 8) (kk : ab_Call l G mX12_token D (.ref r :: []) S I J P (fun v S' I' J' P' => ab_WP l G M d (pc + 3) ls (ab_psh v st) S' I' J' P' 0 0 Q)) : ab_WP l G M d pc ls (.ref r :: st) S I J P 0 0 Q := bz_kv (g := mX12_token) (as := []) (cc := 12) rfl hd h1 tw_1317 tw_p32 tw_13 tw_1318 ⟨by decide +kernel, by decide +kernel, (by decide +kernel : (parseMethodDescriptor mX12_token.1.desc).map (fun d => d.parameters.length) = some 0)⟩ (by decide) rfl rfl rfl hdg hsum hs kk
def fX12_token_250 (I : ab_I) (J : ab_J) : Option (ab_I × ab_J) :=
  some (I, J)
set_option maxRecDepth 100000 in
theorem fX12_token_250_ok {l : Launch} {G : ab_G} {S : ab_S} {I : ab_I} {J : ab_J} {P : ab_P} {Q : ab_Q} (hB : bz_B S P) {x : ab_I × ab_J} (H : fX12_token_250 I J = some x) (K0 : Q none S x.1 x.2 P) : ab_WP l G mX12_token 1 250 [some (.ref 73), none, none] [] S I J P 0 0 Q := by
  unfold fX12_token_250 at H
  obtain rfl := Option.some.inj H
  exact ab_vret (by decide +kernel) rfl (Nat.le_refl _) (Nat.le_refl _) K0
def fX12_token_180 (a2 : Int32) (I : ab_I) (J : ab_J) : Option ((Int32 × ab_I × ab_J) ⊕ (ab_I × ab_J)) :=
  some (.inl ((a2 + (1 : Int32)), I, J))
set_option maxRecDepth 100000 in
theorem fX12_token_180_ok {l : Launch} {G : ab_G} {S : ab_S} {I : ab_I} {J : ab_J} {P : ab_P} {Q : ab_Q} {a2 : Int32} (hB : bz_B S P) {x : ((Int32 × ab_I × ab_J) ⊕ (ab_I × ab_J))} (H : fX12_token_180 a2 I J = some x) (K1 : ∀ s, x = (.inl s) → ab_WP l G mX12_token 1 144 [some (.ref 73), none, some (.int s.1)] [] S s.2.1 s.2.2 P 0 0 Q) (K0 : ∀ r, x = (.inr r) → Q none S r.1 r.2 P) : ab_WP l G mX12_token 1 180 [some (.ref 73), none, some (.int a2)] [] S I J P 0 0 Q := by
  unfold fX12_token_180 at H
  refine ab_iinc (i := 2) (z := 1) (v := (a2 + (1 : Int32))) (by decide +kernel) rfl rfl (by decide) rfl ?_
  refine ab_ls (ls' := [some (.ref 73), none, some (.int (a2 + (1 : Int32)))]) rfl ?_
  refine ab_goto (off := -39) (tgt := 144) (by decide +kernel) rfl ?_
  exact ab_wk (ab_le_some (ab_le_none (ab_le_some (ab_le_nil)))) (K1 ((a2 + (1 : Int32)), I, J) (Option.some.inj H).symm)
def fX12_token_113 (a2 : Int32) (I : ab_I) (J : ab_J) : Option ((Int32 × ab_I × ab_J) ⊕ (ab_I × ab_J)) :=
  some (.inl ((a2 + (1 : Int32)), I, J))
set_option maxRecDepth 100000 in
theorem fX12_token_113_ok {l : Launch} {G : ab_G} {S : ab_S} {I : ab_I} {J : ab_J} {P : ab_P} {Q : ab_Q} {a2 : Int32} (hB : bz_B S P) {x : ((Int32 × ab_I × ab_J) ⊕ (ab_I × ab_J))} (H : fX12_token_113 a2 I J = some x) (K1 : ∀ s, x = (.inl s) → ab_WP l G mX12_token 1 78 [some (.ref 73), none, some (.int s.1)] [] S s.2.1 s.2.2 P 0 0 Q) (K0 : ∀ r, x = (.inr r) → Q none S r.1 r.2 P) : ab_WP l G mX12_token 1 113 [some (.ref 73), none, some (.int a2)] [] S I J P 0 0 Q := by
  unfold fX12_token_113 at H
  refine ab_iinc (i := 2) (z := 1) (v := (a2 + (1 : Int32))) (by decide +kernel) rfl rfl (by decide) rfl ?_
  refine ab_ls (ls' := [some (.ref 73), none, some (.int (a2 + (1 : Int32)))]) rfl ?_
  refine ab_goto (off := -38) (tgt := 78) (by decide +kernel) rfl ?_
  exact ab_wk (ab_le_some (ab_le_none (ab_le_some (ab_le_nil)))) (K1 ((a2 + (1 : Int32)), I, J) (Option.some.inj H).symm)
def fX12_token_20 (I : ab_I) (J : ab_J) : Option ((ab_I × ab_J) ⊕ (ab_I × ab_J)) :=
  some (.inl ((ab_u I 73 4 ((I 73 4) + (1 : Int32))), J))
set_option maxRecDepth 100000 in
theorem fX12_token_20_ok {l : Launch} {G : ab_G} {S : ab_S} {I : ab_I} {J : ab_J} {P : ab_P} {Q : ab_Q} (hB : bz_B S P) {x : ((ab_I × ab_J) ⊕ (ab_I × ab_J))} (H : fX12_token_20 I J = some x) (K1 : ∀ s, x = (.inl s) → ab_WP l G mX12_token 1 0 [some (.ref 73), none, none] [] S s.1 s.2 P 0 0 Q) (K0 : ∀ r, x = (.inr r) → Q none S r.1 r.2 P) : ab_WP l G mX12_token 1 20 [some (.ref 73), none, none] [] S I J P 0 0 Q := by
  unfold fX12_token_20 at H
  refine ab_aload_n (z := 0) (by decide +kernel) rfl rfl ?_
  refine ab_dup (by decide +kernel) rfl ?_
  refine gX12_4 (ix := 128) (by decide +kernel) tw_1085 (hB.1 73 _ rfl) ?_
  refine ab_iconst (z := 1) (v := (1 : Int32)) (by decide +kernel) (by decide) ?_
  refine ab_iadd (by decide +kernel) ?_
  refine pX12_4 (ix := 128) (by decide +kernel) tw_1085 (hB.1 73 _ rfl) ?_
  refine ab_goto (off := -30) (tgt := 0) (by decide +kernel) rfl ?_
  exact ab_wk (ab_le_some (ab_le_none (ab_le_none (ab_le_nil)))) (K1 ((ab_u I 73 4 ((I 73 4) + (1 : Int32))), J) (Option.some.inj H).symm)
def fX12_token_232 (a2 : Int32) (I : ab_I) (J : ab_J) : Option (ab_I × ab_J) :=
  if (I 73 6) = (3 : Int32) then
    fX12_token_250 I J
  else
    fX12_token_250 (ab_u I 73 4 ((I 73 4) + a2)) J
set_option maxRecDepth 100000 in
theorem fX12_token_232_ok {l : Launch} {G : ab_G} {S : ab_S} {I : ab_I} {J : ab_J} {P : ab_P} {Q : ab_Q} {a2 : Int32} (hB : bz_B S P) {x : ab_I × ab_J} (H : fX12_token_232 a2 I J = some x) (K0 : Q none S x.1 x.2 P) : ab_WP l G mX12_token 1 232 [some (.ref 73), none, some (.int a2)] [] S I J P 0 0 Q := by
  unfold fX12_token_232 at H
  refine ab_aload_n (z := 0) (by decide +kernel) rfl rfl ?_
  refine gX12_6 (ix := 148) (by decide +kernel) tw_1087 (hB.1 73 _ rfl) ?_
  refine ab_iconst (z := 3) (v := (3 : Int32)) (by decide +kernel) (by decide) ?_
  refine ab_icmp_eq (off := 13) (tgt := 250) (by decide +kernel) rfl (fun hc => ?_) (fun hc => ?_)
  · replace H := ab_ifp H hc
    exact ab_wk (ab_le_some (ab_le_none (ab_le_none (ab_le_nil)))) (fX12_token_250_ok hB H  K0)
  · replace H := ab_ifn H hc
    refine ab_aload_n (z := 0) (by decide +kernel) rfl rfl ?_
    refine ab_dup (by decide +kernel) rfl ?_
    refine gX12_4 (ix := 128) (by decide +kernel) tw_1085 (hB.1 73 _ rfl) ?_
    refine ab_iload_n (z := 2) (by decide +kernel) rfl rfl ?_
    refine ab_iadd (by decide +kernel) ?_
    refine pX12_4 (ix := 128) (by decide +kernel) tw_1085 (hB.1 73 _ rfl) ?_
    exact ab_wk (ab_le_some (ab_le_none (ab_le_none (ab_le_nil)))) (fX12_token_250_ok hB H  K0)
def fX12_token_229 (a2 : Int32) (s1 : Int32) (I : ab_I) (J : ab_J) : Option (ab_I × ab_J) :=
  fX12_token_232 a2 (ab_u I 73 6 s1) J
set_option maxRecDepth 100000 in
theorem fX12_token_229_ok {l : Launch} {G : ab_G} {S : ab_S} {I : ab_I} {J : ab_J} {P : ab_P} {Q : ab_Q} {a2 : Int32} {s1 : Int32} (hB : bz_B S P) {x : ab_I × ab_J} (H : fX12_token_229 a2 s1 I J = some x) (K0 : Q none S x.1 x.2 P) : ab_WP l G mX12_token 1 229 [some (.ref 73), none, some (.int a2)] [.int s1, .ref 73] S I J P 0 0 Q := by
  unfold fX12_token_229 at H
  refine pX12_6 (ix := 148) (by decide +kernel) tw_1087 (hB.1 73 _ rfl) ?_
  exact ab_wk (ab_le_some (ab_le_none (ab_le_some (ab_le_nil)))) (fX12_token_232_ok hB H  K0)
def fX12_token_208 (a2 : Int32) (s1 : Int32) (I : ab_I) (J : ab_J) : Option (ab_I × ab_J) :=
  fX12_token_232 a2 (ab_u I 73 6 s1) J
set_option maxRecDepth 100000 in
theorem fX12_token_208_ok {l : Launch} {G : ab_G} {S : ab_S} {I : ab_I} {J : ab_J} {P : ab_P} {Q : ab_Q} {a2 : Int32} {s1 : Int32} (hB : bz_B S P) {x : ab_I × ab_J} (H : fX12_token_208 a2 s1 I J = some x) (K0 : Q none S x.1 x.2 P) : ab_WP l G mX12_token 1 208 [some (.ref 73), none, some (.int a2)] [.int s1, .ref 73] S I J P 0 0 Q := by
  unfold fX12_token_208 at H
  refine pX12_6 (ix := 148) (by decide +kernel) tw_1087 (hB.1 73 _ rfl) ?_
  refine ab_goto (off := 21) (tgt := 232) (by decide +kernel) rfl ?_
  exact ab_wk (ab_le_some (ab_le_none (ab_le_some (ab_le_nil)))) (fX12_token_232_ok hB H  K0)
def fX12_token_131 (a2 : Int32) (s1 : Int32) (I : ab_I) (J : ab_J) : Option (ab_I × ab_J) :=
  fX12_token_232 a2 (ab_u I 73 6 s1) J
set_option maxRecDepth 100000 in
theorem fX12_token_131_ok {l : Launch} {G : ab_G} {S : ab_S} {I : ab_I} {J : ab_J} {P : ab_P} {Q : ab_Q} {a2 : Int32} {s1 : Int32} (hB : bz_B S P) {x : ab_I × ab_J} (H : fX12_token_131 a2 s1 I J = some x) (K0 : Q none S x.1 x.2 P) : ab_WP l G mX12_token 1 131 [some (.ref 73), none, some (.int a2)] [.int s1, .ref 73] S I J P 0 0 Q := by
  unfold fX12_token_131 at H
  refine pX12_6 (ix := 148) (by decide +kernel) tw_1087 (hB.1 73 _ rfl) ?_
  refine ab_goto (off := 98) (tgt := 232) (by decide +kernel) rfl ?_
  exact ab_wk (ab_le_some (ab_le_none (ab_le_some (ab_le_nil)))) (fX12_token_232_ok hB H  K0)
def fX12_token_203 (a2 : Int32) (I : ab_I) (J : ab_J) : Option (ab_I × ab_J) :=
  fX12_token_208 a2 (3 : Int32) I J
set_option maxRecDepth 100000 in
theorem fX12_token_203_ok {l : Launch} {G : ab_G} {S : ab_S} {I : ab_I} {J : ab_J} {P : ab_P} {Q : ab_Q} {a2 : Int32} (hB : bz_B S P) {x : ab_I × ab_J} (H : fX12_token_203 a2 I J = some x) (K0 : Q none S x.1 x.2 P) : ab_WP l G mX12_token 1 203 [some (.ref 73), none, some (.int a2)] [.ref 73] S I J P 0 0 Q := by
  unfold fX12_token_203 at H
  refine ab_iconst (z := 3) (v := (3 : Int32)) (by decide +kernel) (by decide) ?_
  refine ab_goto (off := 4) (tgt := 208) (by decide +kernel) rfl ?_
  exact ab_wk (ab_le_some (ab_le_none (ab_le_some (ab_le_nil)))) (fX12_token_208_ok hB H  K0)
def fX12_token_119 (a2 : Int32) (I : ab_I) (J : ab_J) : Option (ab_I × ab_J) :=
  if a2 ≤ (8 : Int32) then
    fX12_token_131 a2 (1 : Int32) I J
  else
    fX12_token_131 a2 (3 : Int32) I J
set_option maxRecDepth 100000 in
theorem fX12_token_119_ok {l : Launch} {G : ab_G} {S : ab_S} {I : ab_I} {J : ab_J} {P : ab_P} {Q : ab_Q} {a2 : Int32} (hB : bz_B S P) {x : ab_I × ab_J} (H : fX12_token_119 a2 I J = some x) (K0 : Q none S x.1 x.2 P) : ab_WP l G mX12_token 1 119 [some (.ref 73), none, some (.int a2)] [] S I J P 0 0 Q := by
  unfold fX12_token_119 at H
  refine ab_aload_n (z := 0) (by decide +kernel) rfl rfl ?_
  refine ab_iload_n (z := 2) (by decide +kernel) rfl rfl ?_
  refine ab_bipush (z := 8) (v := (8 : Int32)) (by decide +kernel) (by decide) ?_
  refine ab_icmp_le (off := 7) (tgt := 130) (by decide +kernel) rfl (fun hc => ?_) (fun hc => ?_)
  · replace H := ab_ifp H hc
    refine ab_iconst (z := 1) (v := (1 : Int32)) (by decide +kernel) (by decide) ?_
    exact ab_wk (ab_le_some (ab_le_none (ab_le_some (ab_le_nil)))) (fX12_token_131_ok hB H  K0)
  · replace H := ab_ifn H hc
    refine ab_iconst (z := 3) (v := (3 : Int32)) (by decide +kernel) (by decide) ?_
    refine ab_goto (off := 4) (tgt := 131) (by decide +kernel) rfl ?_
    exact ab_wk (ab_le_some (ab_le_none (ab_le_some (ab_le_nil)))) (fX12_token_131_ok hB H  K0)
def fX12_token_186 (a2 : Int32) (I : ab_I) (J : ab_J) : Option (ab_I × ab_J) :=
  if (4 : Int32) < a2 then
    fX12_token_203 a2 I J
  else
    (fX12_peek a2 I).bind fun u16 =>
    (fX12_isLetter u16).bind fun u17 =>
    if u17 = 0 then
      fX12_token_208 a2 (2 : Int32) I J
    else
      fX12_token_203 a2 I J
set_option maxRecDepth 100000 in
theorem fX12_token_186_ok {l : Launch} {G : ab_G} {S : ab_S} {I : ab_I} {J : ab_J} {P : ab_P} {Q : ab_Q} {a2 : Int32} (hB : bz_B S P) {x : ab_I × ab_J} (H : fX12_token_186 a2 I J = some x) (K0 : Q none S x.1 x.2 P) : ab_WP l G mX12_token 1 186 [some (.ref 73), none, some (.int a2)] [] S I J P 0 0 Q := by
  unfold fX12_token_186 at H
  refine ab_aload_n (z := 0) (by decide +kernel) rfl rfl ?_
  refine ab_iload_n (z := 2) (by decide +kernel) rfl rfl ?_
  refine ab_iconst (z := 4) (v := (4 : Int32)) (by decide +kernel) (by decide) ?_
  refine ab_icmp_gt (off := 14) (tgt := 203) (by decide +kernel) rfl (fun hc => ?_) (fun hc => ?_)
  · replace H := ab_ifp H hc
    exact ab_wk (ab_le_some (ab_le_none (ab_le_some (ab_le_nil)))) (fX12_token_203_ok hB H  K0)
  · replace H := ab_ifn H hc
    refine ab_aload_n (z := 0) (by decide +kernel) rfl rfl ?_
    refine ab_iload_n (z := 2) (by decide +kernel) rfl rfl ?_
    obtain ⟨u16, hu16, H⟩ := ab_bd_of H
    refine kvX12_peek (D := 0) (ix := 134) (by decide +kernel) tw_1319 (hB.1 73 _ rfl) (by decide) (Nat.le_of_ble_eq_true rfl) (mX12_peek_ok hB hu16 ?_)
    change ab_WP l G mX12_token 1 197 [some (.ref 73), none, some (.int a2)] [.int u16, .ref 73] S I J P 0 0 Q
    obtain ⟨u17, hu17, H⟩ := ab_bd_of H
    refine ksX12_isLetter (D := 0) (ix := 151) (by decide +kernel) tw_1323 (by decide) (Nat.le_of_ble_eq_true rfl) (mX12_isLetter_ok hB hu17 ?_)
    change ab_WP l G mX12_token 1 200 [some (.ref 73), none, some (.int a2)] [.int u17, .ref 73] S I J P 0 0 Q
    refine ab_if_eq (off := 7) (tgt := 207) (by decide +kernel) rfl (fun hc => ?_) (fun hc => ?_)
    · replace H := ab_ifp H hc
      refine ab_iconst (z := 2) (v := (2 : Int32)) (by decide +kernel) (by decide) ?_
      exact ab_wk (ab_le_some (ab_le_none (ab_le_some (ab_le_nil)))) (fX12_token_208_ok hB H  K0)
    · replace H := ab_ifn H hc
      exact ab_wk (ab_le_some (ab_le_none (ab_le_some (ab_le_nil)))) (fX12_token_203_ok hB H  K0)
def fX12_token_78 (a2 : Int32) (I : ab_I) (J : ab_J) : Option ((Int32 × ab_I × ab_J) ⊕ (ab_I × ab_J)) :=
  (fX12_peek a2 I).bind fun u12 =>
  (fX12_isLetter u12).bind fun u13 =>
  if u13 = 0 then
    (fX12_token_119 a2 I J).map .inr
  else
    if (8 : Int32) ≤ a2 then
      fX12_token_113 a2 I J
    else
      (fX12_peek a2 I).bind fun u15 =>
      fX12_token_113 a2 I (ab_u J 73 9 (((J 73 9) <<< ((8 : Int32).toInt64 &&& 63)) ||| u15.toInt64))
set_option maxRecDepth 100000 in
theorem fX12_token_78_ok {l : Launch} {G : ab_G} {S : ab_S} {I : ab_I} {J : ab_J} {P : ab_P} {Q : ab_Q} {a2 : Int32} (hB : bz_B S P) {x : ((Int32 × ab_I × ab_J) ⊕ (ab_I × ab_J))} (H : fX12_token_78 a2 I J = some x) (K1 : ∀ s, x = (.inl s) → ab_WP l G mX12_token 1 78 [some (.ref 73), none, some (.int s.1)] [] S s.2.1 s.2.2 P 0 0 Q) (K0 : ∀ r, x = (.inr r) → Q none S r.1 r.2 P) : ab_WP l G mX12_token 1 78 [some (.ref 73), none, some (.int a2)] [] S I J P 0 0 Q := by
  unfold fX12_token_78 at H
  refine ab_aload_n (z := 0) (by decide +kernel) rfl rfl ?_
  refine ab_iload_n (z := 2) (by decide +kernel) rfl rfl ?_
  obtain ⟨u12, hu12, H⟩ := ab_bd_of H
  refine kvX12_peek (D := 0) (ix := 134) (by decide +kernel) tw_1319 (hB.1 73 _ rfl) (by decide) (Nat.le_of_ble_eq_true rfl) (mX12_peek_ok hB hu12 ?_)
  change ab_WP l G mX12_token 1 83 [some (.ref 73), none, some (.int a2)] [.int u12] S I J P 0 0 Q
  obtain ⟨u13, hu13, H⟩ := ab_bd_of H
  refine ksX12_isLetter (D := 0) (ix := 151) (by decide +kernel) tw_1323 (by decide) (Nat.le_of_ble_eq_true rfl) (mX12_isLetter_ok hB hu13 ?_)
  change ab_WP l G mX12_token 1 86 [some (.ref 73), none, some (.int a2)] [.int u13] S I J P 0 0 Q
  refine ab_if_eq (off := 33) (tgt := 119) (by decide +kernel) rfl (fun hc => ?_) (fun hc => ?_)
  · replace H := ab_ifp H hc
    obtain ⟨y14, Hy, hx⟩ := ab_mp_of H
    subst hx
    replace H := Hy
    exact ab_wk (ab_le_some (ab_le_none (ab_le_some (ab_le_nil)))) (fX12_token_119_ok hB H  (K0 _ rfl))
  · replace H := ab_ifn H hc
    refine ab_iload_n (z := 2) (by decide +kernel) rfl rfl ?_
    refine ab_bipush (z := 8) (v := (8 : Int32)) (by decide +kernel) (by decide) ?_
    refine ab_icmp_ge (off := 21) (tgt := 113) (by decide +kernel) rfl (fun hc => ?_) (fun hc => ?_)
    · replace H := ab_ifp H hc
      exact ab_wk (ab_le_some (ab_le_none (ab_le_some (ab_le_nil)))) (fX12_token_113_ok hB H K1 K0)
    · replace H := ab_ifn H hc
      refine ab_aload_n (z := 0) (by decide +kernel) rfl rfl ?_
      refine ab_aload_n (z := 0) (by decide +kernel) rfl rfl ?_
      refine gX12_9 (ix := 141) (by decide +kernel) tw_1090 (hB.1 73 _ rfl) ?_
      refine ab_bipush (z := 8) (v := (8 : Int32)) (by decide +kernel) (by decide) ?_
      refine ab_lshl (by decide +kernel) ?_
      refine ab_aload_n (z := 0) (by decide +kernel) rfl rfl ?_
      refine ab_iload_n (z := 2) (by decide +kernel) rfl rfl ?_
      obtain ⟨u15, hu15, H⟩ := ab_bd_of H
      refine kvX12_peek (D := 0) (ix := 134) (by decide +kernel) tw_1319 (hB.1 73 _ rfl) (by decide) (Nat.le_of_ble_eq_true rfl) (mX12_peek_ok hB hu15 ?_)
      change ab_WP l G mX12_token 1 108 [some (.ref 73), none, some (.int a2)] [.int u15, .long ((J 73 9) <<< ((8 : Int32).toInt64 &&& 63)), .ref 73] S I J P 0 0 Q
      refine ab_i2l (by decide +kernel) ?_
      refine ab_lor (by decide +kernel) ?_
      refine pX12_9 (ix := 141) (by decide +kernel) tw_1090 (hB.1 73 _ rfl) ?_
      exact ab_wk (ab_le_some (ab_le_none (ab_le_some (ab_le_nil)))) (fX12_token_113_ok hB H K1 K0)
def fX12_token_144 (a2 : Int32) (I : ab_I) (J : ab_J) : Option ((Int32 × ab_I × ab_J) ⊕ (ab_I × ab_J)) :=
  (fX12_peek a2 I).bind fun u8 =>
  (fX12_isDigit u8).bind fun u9 =>
  if u9 = 0 then
    (fX12_token_186 a2 I J).map .inr
  else
    if (4 : Int32) ≤ a2 then
      fX12_token_180 a2 I J
    else
      (fX12_peek a2 I).bind fun u11 =>
      fX12_token_180 a2 (ab_u I 73 8 ((((10 : Int32) * (I 73 8)) + u11) - (48 : Int32))) J
set_option maxRecDepth 100000 in
theorem fX12_token_144_ok {l : Launch} {G : ab_G} {S : ab_S} {I : ab_I} {J : ab_J} {P : ab_P} {Q : ab_Q} {a2 : Int32} (hB : bz_B S P) {x : ((Int32 × ab_I × ab_J) ⊕ (ab_I × ab_J))} (H : fX12_token_144 a2 I J = some x) (K1 : ∀ s, x = (.inl s) → ab_WP l G mX12_token 1 144 [some (.ref 73), none, some (.int s.1)] [] S s.2.1 s.2.2 P 0 0 Q) (K0 : ∀ r, x = (.inr r) → Q none S r.1 r.2 P) : ab_WP l G mX12_token 1 144 [some (.ref 73), none, some (.int a2)] [] S I J P 0 0 Q := by
  unfold fX12_token_144 at H
  refine ab_aload_n (z := 0) (by decide +kernel) rfl rfl ?_
  refine ab_iload_n (z := 2) (by decide +kernel) rfl rfl ?_
  obtain ⟨u8, hu8, H⟩ := ab_bd_of H
  refine kvX12_peek (D := 0) (ix := 134) (by decide +kernel) tw_1319 (hB.1 73 _ rfl) (by decide) (Nat.le_of_ble_eq_true rfl) (mX12_peek_ok hB hu8 ?_)
  change ab_WP l G mX12_token 1 149 [some (.ref 73), none, some (.int a2)] [.int u8] S I J P 0 0 Q
  obtain ⟨u9, hu9, H⟩ := ab_bd_of H
  refine ksX12_isDigit (D := 0) (ix := 155) (by decide +kernel) tw_1326 (by decide) (Nat.le_of_ble_eq_true rfl) (mX12_isDigit_ok hB hu9 ?_)
  change ab_WP l G mX12_token 1 152 [some (.ref 73), none, some (.int a2)] [.int u9] S I J P 0 0 Q
  refine ab_if_eq (off := 34) (tgt := 186) (by decide +kernel) rfl (fun hc => ?_) (fun hc => ?_)
  · replace H := ab_ifp H hc
    obtain ⟨y10, Hy, hx⟩ := ab_mp_of H
    subst hx
    replace H := Hy
    exact ab_wk (ab_le_some (ab_le_none (ab_le_some (ab_le_nil)))) (fX12_token_186_ok hB H  (K0 _ rfl))
  · replace H := ab_ifn H hc
    refine ab_iload_n (z := 2) (by decide +kernel) rfl rfl ?_
    refine ab_iconst (z := 4) (v := (4 : Int32)) (by decide +kernel) (by decide) ?_
    refine ab_icmp_ge (off := 23) (tgt := 180) (by decide +kernel) rfl (fun hc => ?_) (fun hc => ?_)
    · replace H := ab_ifp H hc
      exact ab_wk (ab_le_some (ab_le_none (ab_le_some (ab_le_nil)))) (fX12_token_180_ok hB H K1 K0)
    · replace H := ab_ifn H hc
      refine ab_aload_n (z := 0) (by decide +kernel) rfl rfl ?_
      refine ab_bipush (z := 10) (v := (10 : Int32)) (by decide +kernel) (by decide) ?_
      refine ab_aload_n (z := 0) (by decide +kernel) rfl rfl ?_
      refine gX12_8 (ix := 145) (by decide +kernel) tw_1089 (hB.1 73 _ rfl) ?_
      refine ab_imul (by decide +kernel) ?_
      refine ab_aload_n (z := 0) (by decide +kernel) rfl rfl ?_
      refine ab_iload_n (z := 2) (by decide +kernel) rfl rfl ?_
      obtain ⟨u11, hu11, H⟩ := ab_bd_of H
      refine kvX12_peek (D := 0) (ix := 134) (by decide +kernel) tw_1319 (hB.1 73 _ rfl) (by decide) (Nat.le_of_ble_eq_true rfl) (mX12_peek_ok hB hu11 ?_)
      change ab_WP l G mX12_token 1 173 [some (.ref 73), none, some (.int a2)] [.int u11, .int ((10 : Int32) * (I 73 8)), .ref 73] S I J P 0 0 Q
      refine ab_iadd (by decide +kernel) ?_
      refine ab_bipush (z := 48) (v := (48 : Int32)) (by decide +kernel) (by decide) ?_
      refine ab_isub (by decide +kernel) ?_
      refine pX12_8 (ix := 145) (by decide +kernel) tw_1089 (hB.1 73 _ rfl) ?_
      exact ab_wk (ab_le_some (ab_le_none (ab_le_some (ab_le_nil)))) (fX12_token_180_ok hB H K1 K0)
def fX12_token_33 (I : ab_I) (J : ab_J) : Option (ab_I × ab_J) :=
  (fX12_peek (0 : Int32) (ab_u I 73 7 (I 73 4))).bind fun u4 =>
  if 0 ≤ u4 then
    (fX12_isLetter u4).bind fun u5 =>
    if u5 = 0 then
      (fX12_isDigit u4).bind fun u6 =>
      if u6 = 0 then
        (fX12_isSign u4).bind fun u7 =>
        if u7 = 0 then
          fX12_token_229 (1 : Int32) (3 : Int32) (ab_u (ab_u I 73 7 (I 73 4)) 73 8 (0 : Int32)) (ab_u J 73 9 (0 : Int64))
        else
          fX12_token_229 (1 : Int32) u4 (ab_u (ab_u I 73 7 (I 73 4)) 73 8 (0 : Int32)) (ab_u J 73 9 (0 : Int64))
      else
        ab_it (fun s => fX12_token_144 s.1 s.2.1 s.2.2) 5000 ((0 : Int32), (ab_u (ab_u I 73 7 (I 73 4)) 73 8 (0 : Int32)), (ab_u J 73 9 (0 : Int64)))
    else
      ab_it (fun s => fX12_token_78 s.1 s.2.1 s.2.2) 5000 ((0 : Int32), (ab_u (ab_u I 73 7 (I 73 4)) 73 8 (0 : Int32)), (ab_u J 73 9 (0 : Int64)))
  else
    fX12_token_232 (0 : Int32) (ab_u (ab_u (ab_u I 73 7 (I 73 4)) 73 8 (0 : Int32)) 73 6 (0 : Int32)) (ab_u J 73 9 (0 : Int64))
set_option maxRecDepth 100000 in
theorem fX12_token_33_ok {l : Launch} {G : ab_G} {S : ab_S} {I : ab_I} {J : ab_J} {P : ab_P} {Q : ab_Q} (hB : bz_B S P) {x : ab_I × ab_J} (H : fX12_token_33 I J = some x) (K0 : Q none S x.1 x.2 P) : ab_WP l G mX12_token 1 33 [some (.ref 73), none, none] [] S I J P 0 0 Q := by
  unfold fX12_token_33 at H
  refine ab_aload_n (z := 0) (by decide +kernel) rfl rfl ?_
  refine ab_aload_n (z := 0) (by decide +kernel) rfl rfl ?_
  refine gX12_4 (ix := 128) (by decide +kernel) tw_1085 (hB.1 73 _ rfl) ?_
  refine pX12_7 (ix := 138) (by decide +kernel) tw_1088 (hB.1 73 _ rfl) ?_
  refine ab_aload_n (z := 0) (by decide +kernel) rfl rfl ?_
  refine ab_iconst (z := 0) (v := (0 : Int32)) (by decide +kernel) (by decide) ?_
  obtain ⟨u4, hu4, H⟩ := ab_bd_of H
  refine kvX12_peek (D := 0) (ix := 134) (by decide +kernel) tw_1319 (hB.1 73 _ rfl) (by decide) (Nat.le_of_ble_eq_true rfl) (mX12_peek_ok hB hu4 ?_)
  change ab_WP l G mX12_token 1 46 [some (.ref 73), none, none] [.int u4] S (ab_u I 73 7 (I 73 4)) J P 0 0 Q
  refine ab_istore_n (z := 1) (by decide +kernel) rfl (by decide) rfl ?_
  refine ab_ls (ls' := [some (.ref 73), some (.int u4), none]) rfl ?_
  refine ab_iconst (z := 0) (v := (0 : Int32)) (by decide +kernel) (by decide) ?_
  refine ab_istore_n (z := 2) (by decide +kernel) rfl (by decide) rfl ?_
  refine ab_ls (ls' := [some (.ref 73), some (.int u4), some (.int (0 : Int32))]) rfl ?_
  refine ab_aload_n (z := 0) (by decide +kernel) rfl rfl ?_
  refine ab_lconst (z := 0) (v := (0 : Int64)) (by decide +kernel) (by decide) ?_
  refine pX12_9 (ix := 141) (by decide +kernel) tw_1090 (hB.1 73 _ rfl) ?_
  refine ab_aload_n (z := 0) (by decide +kernel) rfl rfl ?_
  refine ab_iconst (z := 0) (v := (0 : Int32)) (by decide +kernel) (by decide) ?_
  refine pX12_8 (ix := 145) (by decide +kernel) tw_1089 (hB.1 73 _ rfl) ?_
  refine ab_iload_n (z := 1) (by decide +kernel) rfl rfl ?_
  refine ab_if_ge (off := 11) (tgt := 71) (by decide +kernel) rfl (fun hc => ?_) (fun hc => ?_)
  · replace H := ab_ifp H hc
    refine ab_iload_n (z := 1) (by decide +kernel) rfl rfl ?_
    obtain ⟨u5, hu5, H⟩ := ab_bd_of H
    refine ksX12_isLetter (D := 0) (ix := 151) (by decide +kernel) tw_1323 (by decide) (Nat.le_of_ble_eq_true rfl) (mX12_isLetter_ok hB hu5 ?_)
    change ab_WP l G mX12_token 1 75 [some (.ref 73), some (.int u4), some (.int (0 : Int32))] [.int u5] S (ab_u (ab_u I 73 7 (I 73 4)) 73 8 (0 : Int32)) (ab_u J 73 9 (0 : Int64)) P 0 0 Q
    refine ab_if_eq (off := 62) (tgt := 137) (by decide +kernel) rfl (fun hc => ?_) (fun hc => ?_)
    · replace H := ab_ifp H hc
      refine ab_iload_n (z := 1) (by decide +kernel) rfl rfl ?_
      obtain ⟨u6, hu6, H⟩ := ab_bd_of H
      refine ksX12_isDigit (D := 0) (ix := 155) (by decide +kernel) tw_1326 (by decide) (Nat.le_of_ble_eq_true rfl) (mX12_isDigit_ok hB hu6 ?_)
      change ab_WP l G mX12_token 1 141 [some (.ref 73), some (.int u4), some (.int (0 : Int32))] [.int u6] S (ab_u (ab_u I 73 7 (I 73 4)) 73 8 (0 : Int32)) (ab_u J 73 9 (0 : Int64)) P 0 0 Q
      refine ab_if_eq (off := 73) (tgt := 214) (by decide +kernel) rfl (fun hc => ?_) (fun hc => ?_)
      · replace H := ab_ifp H hc
        refine ab_iconst (z := 1) (v := (1 : Int32)) (by decide +kernel) (by decide) ?_
        refine ab_istore_n (z := 2) (by decide +kernel) rfl (by decide) rfl ?_
        refine ab_ls (ls' := [some (.ref 73), some (.int u4), some (.int (1 : Int32))]) rfl ?_
        refine ab_aload_n (z := 0) (by decide +kernel) rfl rfl ?_
        refine ab_iload_n (z := 1) (by decide +kernel) rfl rfl ?_
        obtain ⟨u7, hu7, H⟩ := ab_bd_of H
        refine ksX12_isSign (D := 0) (ix := 158) (by decide +kernel) tw_1329 (by decide) (Nat.le_of_ble_eq_true rfl) (mX12_isSign_ok hB hu7 ?_)
        change ab_WP l G mX12_token 1 221 [some (.ref 73), some (.int u4), some (.int (1 : Int32))] [.int u7, .ref 73] S (ab_u (ab_u I 73 7 (I 73 4)) 73 8 (0 : Int32)) (ab_u J 73 9 (0 : Int64)) P 0 0 Q
        refine ab_if_eq (off := 7) (tgt := 228) (by decide +kernel) rfl (fun hc => ?_) (fun hc => ?_)
        · replace H := ab_ifp H hc
          refine ab_iconst (z := 3) (v := (3 : Int32)) (by decide +kernel) (by decide) ?_
          exact ab_wk (ab_le_some (ab_le_none (ab_le_some (ab_le_nil)))) (fX12_token_229_ok hB H  K0)
        · replace H := ab_ifn H hc
          refine ab_iload_n (z := 1) (by decide +kernel) rfl rfl ?_
          refine ab_goto (off := 4) (tgt := 229) (by decide +kernel) rfl ?_
          exact ab_wk (ab_le_some (ab_le_none (ab_le_some (ab_le_nil)))) (fX12_token_229_ok hB H  K0)
      · replace H := ab_ifn H hc
        exact ab_wk (ab_le_some (ab_le_none (ab_le_some (ab_le_nil)))) (ab_iter (body := (fun s => fX12_token_144 s.1 s.2.1 s.2.2)) (W := fun s => ab_WP l G mX12_token 1 144 [some (.ref 73), none, some (.int s.1)] [] S s.2.1 s.2.2 P 0 0 Q) (fun s y hb h1 h2 => fX12_token_144_ok hB hb h1 (fun r e => by have e2 := h2 _ e; subst e2; exact K0)) 5000 ((0 : Int32), (ab_u (ab_u I 73 7 (I 73 4)) 73 8 (0 : Int32)), (ab_u J 73 9 (0 : Int64))) H)
    · replace H := ab_ifn H hc
      exact ab_wk (ab_le_some (ab_le_none (ab_le_some (ab_le_nil)))) (ab_iter (body := (fun s => fX12_token_78 s.1 s.2.1 s.2.2)) (W := fun s => ab_WP l G mX12_token 1 78 [some (.ref 73), none, some (.int s.1)] [] S s.2.1 s.2.2 P 0 0 Q) (fun s y hb h1 h2 => fX12_token_78_ok hB hb h1 (fun r e => by have e2 := h2 _ e; subst e2; exact K0)) 5000 ((0 : Int32), (ab_u (ab_u I 73 7 (I 73 4)) 73 8 (0 : Int32)), (ab_u J 73 9 (0 : Int64))) H)
  · replace H := ab_ifn H hc
    refine ab_aload_n (z := 0) (by decide +kernel) rfl rfl ?_
    refine ab_iconst (z := 0) (v := (0 : Int32)) (by decide +kernel) (by decide) ?_
    refine pX12_6 (ix := 148) (by decide +kernel) tw_1087 (hB.1 73 _ rfl) ?_
    refine ab_goto (off := 164) (tgt := 232) (by decide +kernel) rfl ?_
    exact ab_wk (ab_le_some (ab_le_none (ab_le_some (ab_le_nil)))) (fX12_token_232_ok hB H  K0)
def fX12_token_0 (I : ab_I) (J : ab_J) : Option ((ab_I × ab_J) ⊕ (ab_I × ab_J)) :=
  (fX12_peek (0 : Int32) I).bind fun u1 =>
  if u1 = (32 : Int32) then
    fX12_token_20 I J
  else
    (fX12_peek (0 : Int32) I).bind fun u2 =>
    if u2 = (10 : Int32) then
      fX12_token_20 I J
    else
      (fX12_token_33 I J).map .inr
set_option maxRecDepth 100000 in
theorem fX12_token_0_ok {l : Launch} {G : ab_G} {S : ab_S} {I : ab_I} {J : ab_J} {P : ab_P} {Q : ab_Q} (hB : bz_B S P) {x : ((ab_I × ab_J) ⊕ (ab_I × ab_J))} (H : fX12_token_0 I J = some x) (K1 : ∀ s, x = (.inl s) → ab_WP l G mX12_token 1 0 [some (.ref 73), none, none] [] S s.1 s.2 P 0 0 Q) (K0 : ∀ r, x = (.inr r) → Q none S r.1 r.2 P) : ab_WP l G mX12_token 1 0 [some (.ref 73), none, none] [] S I J P 0 0 Q := by
  unfold fX12_token_0 at H
  refine ab_aload_n (z := 0) (by decide +kernel) rfl rfl ?_
  refine ab_iconst (z := 0) (v := (0 : Int32)) (by decide +kernel) (by decide) ?_
  obtain ⟨u1, hu1, H⟩ := ab_bd_of H
  refine kvX12_peek (D := 0) (ix := 134) (by decide +kernel) tw_1319 (hB.1 73 _ rfl) (by decide) (Nat.le_of_ble_eq_true rfl) (mX12_peek_ok hB hu1 ?_)
  change ab_WP l G mX12_token 1 5 [some (.ref 73), none, none] [.int u1] S I J P 0 0 Q
  refine ab_bipush (z := 32) (v := (32 : Int32)) (by decide +kernel) (by decide) ?_
  refine ab_icmp_eq (off := 13) (tgt := 20) (by decide +kernel) rfl (fun hc => ?_) (fun hc => ?_)
  · replace H := ab_ifp H hc
    exact ab_wk (ab_le_some (ab_le_none (ab_le_none (ab_le_nil)))) (fX12_token_20_ok hB H K1 K0)
  · replace H := ab_ifn H hc
    refine ab_aload_n (z := 0) (by decide +kernel) rfl rfl ?_
    refine ab_iconst (z := 0) (v := (0 : Int32)) (by decide +kernel) (by decide) ?_
    obtain ⟨u2, hu2, H⟩ := ab_bd_of H
    refine kvX12_peek (D := 0) (ix := 134) (by decide +kernel) tw_1319 (hB.1 73 _ rfl) (by decide) (Nat.le_of_ble_eq_true rfl) (mX12_peek_ok hB hu2 ?_)
    change ab_WP l G mX12_token 1 15 [some (.ref 73), none, none] [.int u2] S I J P 0 0 Q
    refine ab_bipush (z := 10) (v := (10 : Int32)) (by decide +kernel) (by decide) ?_
    refine ab_icmp_ne (off := 16) (tgt := 33) (by decide +kernel) rfl (fun hc => ?_) (fun hc => ?_)
    · replace H := ab_ifn H hc
      obtain ⟨y3, Hy, hx⟩ := ab_mp_of H
      subst hx
      replace H := Hy
      exact ab_wk (ab_le_some (ab_le_none (ab_le_none (ab_le_nil)))) (fX12_token_33_ok hB H  (K0 _ rfl))
    · replace H := ab_ifp H hc
      exact ab_wk (ab_le_some (ab_le_none (ab_le_none (ab_le_nil)))) (fX12_token_20_ok hB H K1 K0)
def fX12_token (I : ab_I) (J : ab_J) : Option (ab_I × ab_J) :=
  ab_it (fun s => fX12_token_0 s.1 s.2) 5000 (I, J)
set_option maxRecDepth 100000 in
theorem mX12_token_ok {l : Launch} {G : ab_G} {S : ab_S} {I : ab_I} {J : ab_J} {P : ab_P} {Q : ab_Q} (hB : bz_B S P) {x : ab_I × ab_J} (H : fX12_token I J = some x) (K0 : Q none S x.1 x.2 P) : ab_Call l G mX12_token 1 [.ref 73] S I J P Q := by
  unfold fX12_token at H
  refine ab_enter rfl (Nat.le_of_ble_eq_true rfl) (ab_wk (ls' := [some (.ref 73), none, none]) (ab_le_some (ab_le_non0 (ab_le_non0 ab_le_nil))) ?_)
  exact ab_wk (ab_le_some (ab_le_none (ab_le_none (ab_le_nil)))) (ab_iter (body := (fun s => fX12_token_0 s.1 s.2)) (W := fun s => ab_WP l G mX12_token 1 0 [some (.ref 73), none, none] [] S s.1 s.2 P 0 0 Q) (fun s y hb h1 h2 => fX12_token_0_ok hB hb h1 (fun r e => by have e2 := h2 _ e; subst e2; exact K0)) 5000 (I, J) H)
abbrev mX12_wrong : ab_M := (yX12_wrong, cX12_wrong, 2, none, 0, 0)
theorem kvX12_wrong {l : Launch} {G : ab_G} {M : ab_M} {d pc : Nat} {ls : List (Option Value)} {st : List Value} {S : ab_S} {I : ab_I} {J : ab_J} {P : ab_P} {Q : ab_Q} {v0 : Value} {ix D r ln : Nat} (hd : decode M.2.1 pc = .ok (.invokevirtual ix, 3)) (h1 : Cond.methodLink M.1.cls ix mX12_wrong.1 ∈ ab_good) (hs : S[r]? = some (17, ln)) (hdg : D + 1 ≤ d) (hsum : (st.map fun v => v.category).sum ≤ 8) (kk : ab_Call l G mX12_wrong D (.ref r :: [v0]) S I J P (fun v S' I' J' P' => ab_WP l G M d (pc + 3) ls (ab_psh v st) S' I' J' P' 0 0 Q)) : ab_WP l G M d pc ls (v0 :: .ref r :: st) S I J P 0 0 Q := bz_kv (g := mX12_wrong) (as := [v0]) (cc := 12) rfl hd h1 tw_1373 tw_p40 tw_13 tw_1374 ⟨by decide +kernel, by decide +kernel, (by decide +kernel : (parseMethodDescriptor mX12_wrong.1.desc).map (fun d => d.parameters.length) = some 1)⟩ (by decide) rfl rfl rfl hdg hsum hs kk
def fX12_wrong_22 (a1 : Int32) (s1 : Int32) (I : ab_I) : Option ab_I :=
  some (ab_u (ab_u I 73 2 s1) 73 3 (I 73 7))
set_option maxRecDepth 100000 in
theorem fX12_wrong_22_ok {l : Launch} {G : ab_G} {S : ab_S} {I : ab_I} {J : ab_J} {P : ab_P} {Q : ab_Q} {a1 : Int32} {s1 : Int32} (hB : bz_B S P) {x : ab_I} (H : fX12_wrong_22 a1 s1 I = some x) (K0 : Q none S x J P) : ab_WP l G mX12_wrong 0 22 [some (.ref 73), some (.int a1)] [.int s1, .ref 73] S I J P 0 0 Q := by
  unfold fX12_wrong_22 at H
  refine pX12_2 (ix := 161) (by decide +kernel) tw_1083 (hB.1 73 _ rfl) ?_
  refine ab_aload_n (z := 0) (by decide +kernel) rfl rfl ?_
  refine ab_aload_n (z := 0) (by decide +kernel) rfl rfl ?_
  refine gX12_7 (ix := 138) (by decide +kernel) tw_1088 (hB.1 73 _ rfl) ?_
  refine ab_top (y := (I 73 7)) rfl ?_
  refine pX12_3 (ix := 13) (by decide +kernel) tw_1084 (hB.1 73 _ rfl) ?_
  obtain rfl := Option.some.inj H
  exact ab_vret (by decide +kernel) rfl (Nat.le_refl _) (Nat.le_refl _) K0
def fX12_wrong (a1 : Int32) (I : ab_I) : Option ab_I :=
  if (I 73 2) ≤ 0 then
    if (I 73 6) = (3 : Int32) then
      fX12_wrong_22 a1 (1 : Int32) I
    else
      fX12_wrong_22 a1 a1 I
  else
    some I
set_option maxRecDepth 100000 in
theorem mX12_wrong_ok {l : Launch} {G : ab_G} {S : ab_S} {I : ab_I} {J : ab_J} {P : ab_P} {Q : ab_Q} {a1 : Int32} (hB : bz_B S P) {x : ab_I} (H : fX12_wrong a1 I = some x) (K0 : Q none S x J P) : ab_Call l G mX12_wrong 0 [.ref 73, .int a1] S I J P Q := by
  unfold fX12_wrong at H
  refine ab_enter rfl (Nat.le_of_ble_eq_true rfl) (ab_wk (ls' := [some (.ref 73), some (.int a1)]) (ab_le_some (ab_le_some (ab_le_nil))) ?_)
  refine ab_aload_n (z := 0) (by decide +kernel) rfl rfl ?_
  refine gX12_2 (ix := 161) (by decide +kernel) tw_1083 (hB.1 73 _ rfl) ?_
  refine ab_if_le (off := 4) (tgt := 8) (by decide +kernel) rfl (fun hc => ?_) (fun hc => ?_)
  · replace H := ab_ifp H hc
    refine ab_aload_n (z := 0) (by decide +kernel) rfl rfl ?_
    refine ab_aload_n (z := 0) (by decide +kernel) rfl rfl ?_
    refine gX12_6 (ix := 148) (by decide +kernel) tw_1087 (hB.1 73 _ rfl) ?_
    refine ab_iconst (z := 3) (v := (3 : Int32)) (by decide +kernel) (by decide) ?_
    refine ab_icmp_ne (off := 7) (tgt := 21) (by decide +kernel) rfl (fun hc => ?_) (fun hc => ?_)
    · replace H := ab_ifn H hc
      refine ab_iload_n (z := 1) (by decide +kernel) rfl rfl ?_
      exact ab_wk (ab_le_some (ab_le_some (ab_le_nil))) (fX12_wrong_22_ok hB H  K0)
    · replace H := ab_ifp H hc
      refine ab_iconst (z := 1) (v := (1 : Int32)) (by decide +kernel) (by decide) ?_
      refine ab_goto (off := 4) (tgt := 22) (by decide +kernel) rfl ?_
      exact ab_wk (ab_le_some (ab_le_some (ab_le_nil))) (fX12_wrong_22_ok hB H  K0)
  · replace H := ab_ifn H hc
    obtain rfl := Option.some.inj H
    exact ab_vret (by decide +kernel) rfl (Nat.le_refl _) (Nat.le_refl _) K0
abbrev mX12_isWord : ab_M := (yX12_isWord, cX12_isWord, 3, some .boolean, 0, 0)
theorem kvX12_isWord {l : Launch} {G : ab_G} {M : ab_M} {d pc : Nat} {ls : List (Option Value)} {st : List Value} {S : ab_S} {I : ab_I} {J : ab_J} {P : ab_P} {Q : ab_Q} {v0 : Value} {ix D r ln : Nat} (hd : decode M.2.1 pc = .ok (.invokevirtual ix, 3)) (h1 : Cond.methodLink M.1.cls ix mX12_isWord.1 ∈ ab_good) (hs : S[r]? = some (17, ln)) (hdg : D + 1 ≤ d) (hsum : (st.map fun v => v.category).sum ≤ 8) (kk : ab_Call l G mX12_isWord D (.ref r :: [v0]) S I J P (fun v S' I' J' P' => ab_WP l G M d (pc + 3) ls (ab_psh v st) S' I' J' P' 0 0 Q)) : ab_WP l G M d pc ls (v0 :: .ref r :: st) S I J P 0 0 Q := bz_kv (g := mX12_isWord) (as := [v0]) (cc := 12) rfl hd h1 tw_1339 tw_p35 tw_13 tw_1340 ⟨by decide +kernel, by decide +kernel, (by decide +kernel : (parseMethodDescriptor mX12_isWord.1.desc).map (fun d => d.parameters.length) = some 1)⟩ (by decide) rfl rfl rfl hdg hsum hs kk
def fX12_isWord_22 (a1 : Int64) (I : ab_I) (J : ab_J) (s0 : Int32) : Option Int32 :=
  ab_gd (s0 = 0 ∨ s0 = 1) (some s0)
set_option maxRecDepth 100000 in
theorem fX12_isWord_22_ok {l : Launch} {G : ab_G} {S : ab_S} {I : ab_I} {J : ab_J} {P : ab_P} {Q : ab_Q} {a1 : Int64} {s0 : Int32} (hB : bz_B S P) {x : Int32} (H : fX12_isWord_22 a1 I J s0 = some x) (K0 : Q (some (.int x)) S I J P) : ab_WP l G mX12_isWord 0 22 [some (.ref 73), some (.long a1), none] [.int s0] S I J P 0 0 Q := by
  unfold fX12_isWord_22 at H
  obtain ⟨hg, H⟩ := ab_gd_of H
  obtain rfl := Option.some.inj H
  exact ab_zret (by decide +kernel) rfl (Nat.le_refl _) (Nat.le_refl _) hg K0
def fX12_isWord_21 (a1 : Int64) (I : ab_I) (J : ab_J) : Option Int32 :=
  fX12_isWord_22 a1 I J (0 : Int32)
set_option maxRecDepth 100000 in
theorem fX12_isWord_21_ok {l : Launch} {G : ab_G} {S : ab_S} {I : ab_I} {J : ab_J} {P : ab_P} {Q : ab_Q} {a1 : Int64} (hB : bz_B S P) {x : Int32} (H : fX12_isWord_21 a1 I J = some x) (K0 : Q (some (.int x)) S I J P) : ab_WP l G mX12_isWord 0 21 [some (.ref 73), some (.long a1), none] [] S I J P 0 0 Q := by
  unfold fX12_isWord_21 at H
  refine ab_iconst (z := 0) (v := (0 : Int32)) (by decide +kernel) (by decide) ?_
  exact ab_wk (ab_le_some (ab_le_some (ab_le_none (ab_le_nil)))) (fX12_isWord_22_ok hB H  K0)
def fX12_isWord (a1 : Int64) (I : ab_I) (J : ab_J) : Option Int32 :=
  if (I 73 6) = (1 : Int32) then
    if (lg_cmp (J 73 9) a1) = 0 then
      fX12_isWord_22 a1 I J (1 : Int32)
    else
      fX12_isWord_21 a1 I J
  else
    fX12_isWord_21 a1 I J
set_option maxRecDepth 100000 in
theorem mX12_isWord_ok {l : Launch} {G : ab_G} {S : ab_S} {I : ab_I} {J : ab_J} {P : ab_P} {Q : ab_Q} {a1 : Int64} (hB : bz_B S P) {x : Int32} (H : fX12_isWord a1 I J = some x) (K0 : Q (some (.int x)) S I J P) : ab_Call l G mX12_isWord 0 [.ref 73, .long a1] S I J P Q := by
  unfold fX12_isWord at H
  refine ab_enter rfl (Nat.le_of_ble_eq_true rfl) (ab_wk (ls' := [some (.ref 73), some (.long a1), none]) (ab_le_some (ab_le_some (ab_le_none (ab_le_nil)))) ?_)
  refine ab_aload_n (z := 0) (by decide +kernel) rfl rfl ?_
  refine gX12_6 (ix := 148) (by decide +kernel) tw_1087 (hB.1 73 _ rfl) ?_
  refine ab_iconst (z := 1) (v := (1 : Int32)) (by decide +kernel) (by decide) ?_
  refine ab_icmp_ne (off := 16) (tgt := 21) (by decide +kernel) rfl (fun hc => ?_) (fun hc => ?_)
  · replace H := ab_ifn H hc
    exact ab_wk (ab_le_some (ab_le_some (ab_le_none (ab_le_nil)))) (fX12_isWord_21_ok hB H  K0)
  · replace H := ab_ifp H hc
    refine ab_aload_n (z := 0) (by decide +kernel) rfl rfl ?_
    refine gX12_9 (ix := 141) (by decide +kernel) tw_1090 (hB.1 73 _ rfl) ?_
    refine ab_lload_n (z := 1) (by decide +kernel) rfl rfl ?_
    refine ab_lcmp (by decide +kernel) ?_
    refine ab_if_ne (off := 7) (tgt := 21) (by decide +kernel) rfl (fun hc => ?_) (fun hc => ?_)
    · replace H := ab_ifn H hc
      exact ab_wk (ab_le_some (ab_le_some (ab_le_none (ab_le_nil)))) (fX12_isWord_21_ok hB H  K0)
    · replace H := ab_ifp H hc
      refine ab_iconst (z := 1) (v := (1 : Int32)) (by decide +kernel) (by decide) ?_
      refine ab_goto (off := 4) (tgt := 22) (by decide +kernel) rfl ?_
      exact ab_wk (ab_le_some (ab_le_some (ab_le_none (ab_le_nil)))) (fX12_isWord_22_ok hB H  K0)
