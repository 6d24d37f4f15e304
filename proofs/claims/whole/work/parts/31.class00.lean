abbrev mX7_put : ab_M := (yX7_put, cX7_put, 3, none, 0, 0)
theorem kvX7_put {l : Launch} {G : ab_G} {M : ab_M} {d pc : Nat} {ls : List (Option Value)} {st : List Value} {S : ab_S} {I : ab_I} {J : ab_J} {P : ab_P} {Q : ab_Q} {v0 : Value} {ix D r ln : Nat} (hd : decode M.2.1 pc = .ok (.invokevirtual ix, 3)) (h1 : Cond.methodLink M.1.cls ix mX7_put.1 ∈ ab_good) (hs : S[r]? = some (12, ln)) (hdg : D + 1 ≤ d) (hsum : (st.map fun v => v.category).sum ≤ 8) (kk : ab_Call l G mX7_put D (.ref r :: [v0]) S I J P (fun v S' I' J' P' => ab_WP l G M d (pc + 3) ls (ab_psh v st) S' I' J' P' 0 0 Q)) : ab_WP l G M d pc ls (v0 :: .ref r :: st) S I J P 0 0 Q := bz_kv (g := mX7_put) (as := [v0]) (cc := 7) rfl hd h1 tw_459 tw_460 tw_2 tw_461 ⟨by decide +kernel, by decide +kernel, (by decide +kernel : (parseMethodDescriptor mX7_put.1.desc).map (fun d => d.parameters.length) = some 1)⟩ (by decide) rfl rfl rfl hdg hsum hs kk
def fX7_put_48 (a1 : Int32) (I : ab_I) : Option ab_I :=
  some I
set_option maxRecDepth 100000 in
theorem fX7_put_48_ok {l : Launch} {G : ab_G} {S : ab_S} {I : ab_I} {J : ab_J} {P : ab_P} {Q : ab_Q} {a1 : Int32} (hB : bz_B S P) {x : ab_I} (H : fX7_put_48 a1 I = some x) (K0 : Q none S x J P) : ab_WP l G mX7_put 0 48 [some (.ref 1), some (.int a1), none] [] S I J P 0 0 Q := by
  unfold fX7_put_48 at H
  obtain rfl := Option.some.inj H
  exact ab_vret (by decide +kernel) rfl (Nat.le_refl _) (Nat.le_refl _) K0
def fX7_put_42 (a1 : Int32) (a2 : Int32) (I : ab_I) : Option ((Int32 × ab_I) ⊕ ab_I) :=
  some (.inl ((a2 + (-8 : Int32)), I))
set_option maxRecDepth 100000 in
theorem fX7_put_42_ok {l : Launch} {G : ab_G} {S : ab_S} {I : ab_I} {J : ab_J} {P : ab_P} {Q : ab_Q} {a1 : Int32} {a2 : Int32} (hB : bz_B S P) {x : ((Int32 × ab_I) ⊕ ab_I)} (H : fX7_put_42 a1 a2 I = some x) (K1 : ∀ s, x = (.inl s) → ab_WP l G mX7_put 0 3 [some (.ref 1), some (.int a1), some (.int s.1)] [] S s.2 J P 0 0 Q) (K0 : ∀ r, x = (.inr r) → Q none S r J P) : ab_WP l G mX7_put 0 42 [some (.ref 1), some (.int a1), some (.int a2)] [] S I J P 0 0 Q := by
  unfold fX7_put_42 at H
  refine ab_iinc (i := 2) (z := -8) (v := (a2 + (-8 : Int32))) (by decide +kernel) rfl rfl (by decide) rfl ?_
  refine ab_ls (ls' := [some (.ref 1), some (.int a1), some (.int (a2 + (-8 : Int32)))]) rfl ?_
  refine ab_goto (off := -42) (tgt := 3) (by decide +kernel) rfl ?_
  exact ab_wk (ab_le_some (ab_le_some (ab_le_some (ab_le_nil)))) (K1 ((a2 + (-8 : Int32)), I) (Option.some.inj H).symm)
def fX7_put_3 (a1 : Int32) (a2 : Int32) (I : ab_I) : Option ((Int32 × ab_I) ⊕ ab_I) :=
  if a2 < 0 then
    (fX7_put_48 a1 I).map .inr
  else
    if (1600 : Int32) ≤ (I 1 1) then
      fX7_put_42 a1 a2 I
    else
      ab_gd (ab_ix (I 1 1) 1600 = true) (
        fX7_put_42 a1 a2 (ab_u (ab_u I 2 ((I 1 1).toNatClampNeg) (((a1 >>> (a2 &&& 31)).toInt8.toInt32).toInt8.toInt32)) 1 1 ((I 1 1) + (1 : Int32)))
      )
set_option maxRecDepth 100000 in
theorem fX7_put_3_ok {l : Launch} {G : ab_G} {S : ab_S} {I : ab_I} {J : ab_J} {P : ab_P} {Q : ab_Q} {a1 : Int32} {a2 : Int32} (hB : bz_B S P) {x : ((Int32 × ab_I) ⊕ ab_I)} (H : fX7_put_3 a1 a2 I = some x) (K1 : ∀ s, x = (.inl s) → ab_WP l G mX7_put 0 3 [some (.ref 1), some (.int a1), some (.int s.1)] [] S s.2 J P 0 0 Q) (K0 : ∀ r, x = (.inr r) → Q none S r J P) : ab_WP l G mX7_put 0 3 [some (.ref 1), some (.int a1), some (.int a2)] [] S I J P 0 0 Q := by
  unfold fX7_put_3 at H
  refine ab_iload_n (z := 2) (by decide +kernel) rfl rfl ?_
  refine ab_if_lt (off := 44) (tgt := 48) (by decide +kernel) rfl (fun hc => ?_) (fun hc => ?_)
  · replace H := ab_ifp H hc
    obtain ⟨y1, Hy, hx⟩ := ab_mp_of H
    subst hx
    replace H := Hy
    exact ab_wk (ab_le_some (ab_le_some (ab_le_none (ab_le_nil)))) (fX7_put_48_ok hB H  (K0 _ rfl))
  · replace H := ab_ifn H hc
    refine ab_aload_n (z := 0) (by decide +kernel) rfl rfl ?_
    refine gX7_1 (ix := 15) (by decide +kernel) tw_33 (hB.1 1 _ rfl) ?_
    refine ab_aload_n (z := 0) (by decide +kernel) rfl rfl ?_
    refine gX7_0 (ix := 9) (by decide +kernel) tw_32 (hB.1 1 _ rfl) (hB.2.1 10 (1, 0, 2) rfl) ?_
    refine ab_alen (v := (1600 : Int32)) (by decide +kernel) (hB.1 2 _ rfl) (by decide) (by decide) ?_
    refine ab_icmp_ge (off := 26) (tgt := 42) (by decide +kernel) rfl (fun hc => ?_) (fun hc => ?_)
    · replace H := ab_ifp H hc
      exact ab_wk (ab_le_some (ab_le_some (ab_le_some (ab_le_nil)))) (fX7_put_42_ok hB H K1 K0)
    · replace H := ab_ifn H hc
      refine ab_aload_n (z := 0) (by decide +kernel) rfl rfl ?_
      refine gX7_0 (ix := 9) (by decide +kernel) tw_32 (hB.1 1 _ rfl) (hB.2.1 10 (1, 0, 2) rfl) ?_
      refine ab_aload_n (z := 0) (by decide +kernel) rfl rfl ?_
      refine gX7_1 (ix := 15) (by decide +kernel) tw_33 (hB.1 1 _ rfl) ?_
      refine ab_iload_n (z := 1) (by decide +kernel) rfl rfl ?_
      refine ab_iload_n (z := 2) (by decide +kernel) rfl rfl ?_
      refine ab_ishr (by decide +kernel) ?_
      refine ab_i2b (by decide +kernel) ?_
      obtain ⟨hg, H⟩ := ab_gd_of H
      refine ab_bast (ln := 1600) (by decide +kernel) (hB.1 2 _ rfl) (ab_ix_in hg) ?_
      refine ab_aload_n (z := 0) (by decide +kernel) rfl rfl ?_
      refine ab_dup (by decide +kernel) rfl ?_
      refine gX7_1 (ix := 15) (by decide +kernel) tw_33 (hB.1 1 _ rfl) ?_
      refine ab_top (y := (I 1 1)) rfl ?_
      refine ab_iconst (z := 1) (v := (1 : Int32)) (by decide +kernel) (by decide) ?_
      refine ab_iadd (by decide +kernel) ?_
      refine pX7_1 (ix := 15) (by decide +kernel) tw_33 (hB.1 1 _ rfl) ?_
      exact ab_wk (ab_le_some (ab_le_some (ab_le_some (ab_le_nil)))) (fX7_put_42_ok hB H K1 K0)
def fX7_put (a1 : Int32) (I : ab_I) : Option ab_I :=
  ab_it (fun s => fX7_put_3 a1 s.1 s.2) 5000 ((24 : Int32), I)
set_option maxRecDepth 100000 in
theorem mX7_put_ok {l : Launch} {G : ab_G} {S : ab_S} {I : ab_I} {J : ab_J} {P : ab_P} {Q : ab_Q} {a1 : Int32} (hB : bz_B S P) {x : ab_I} (H : fX7_put a1 I = some x) (K0 : Q none S x J P) : ab_Call l G mX7_put 0 [.ref 1, .int a1] S I J P Q := by
  unfold fX7_put at H
  refine ab_enter rfl (Nat.le_of_ble_eq_true rfl) (ab_wk (ls' := [some (.ref 1), some (.int a1), none]) (ab_le_some (ab_le_some (ab_le_non0 ab_le_nil))) ?_)
  refine ab_bipush (z := 24) (v := (24 : Int32)) (by decide +kernel) (by decide) ?_
  refine ab_istore_n (z := 2) (by decide +kernel) rfl (by decide) rfl ?_
  refine ab_ls (ls' := [some (.ref 1), some (.int a1), some (.int (24 : Int32))]) rfl ?_
  exact ab_wk (ab_le_some (ab_le_some (ab_le_some (ab_le_nil)))) (ab_iter (W := fun s => ab_WP l G mX7_put 0 3 [some (.ref 1), some (.int a1), some (.int s.1)] [] S s.2 J P 0 0 Q) (fun s y hb h1 h2 => fX7_put_3_ok hB hb h1 (fun r e => by have e2 := h2 _ e; subst e2; exact K0)) 5000 ((24 : Int32), I) H)
abbrev mX11_feed : ab_M := (yX11_feed, cX11_feed, 6, some .int, 0, 0)
def fX11_feed (a1 : Int32) (a2 : Int32) (a3 : Int32) (a4 : Int32) (a5 : Int32) (I : ab_I) : Option (Int32 × ab_I) :=
  if ((I 1 1) + (20 : Int32)) ≤ (1600 : Int32) then
    (fX7_put a1 I).bind fun u1 =>
    (fX7_put a2 u1).bind fun u2 =>
    (fX7_put a3 u2).bind fun u3 =>
    (fX7_put a4 u3).bind fun u4 =>
    (fX7_put a5 u4).bind fun u5 =>
    some ((u5 1 1), u5)
  else
    some ((-1 : Int32), I)
set_option maxRecDepth 100000 in
theorem mX11_feed_ok {l : Launch} {G : ab_G} {S : ab_S} {I : ab_I} {J : ab_J} {P : ab_P} {Q : ab_Q} {a1 : Int32} {a2 : Int32} {a3 : Int32} {a4 : Int32} {a5 : Int32} (hB : bz_B S P) {x : Int32 × ab_I} (H : fX11_feed a1 a2 a3 a4 a5 I = some x) (K0 : Q (some (.int x.1)) S x.2 J P) : ab_Call l G mX11_feed 1 [.ref 0, .int a1, .int a2, .int a3, .int a4, .int a5] S I J P Q := by
  unfold fX11_feed at H
  refine ab_enter rfl (Nat.le_of_ble_eq_true rfl) (ab_wk (ls' := [some (.ref 0), some (.int a1), some (.int a2), some (.int a3), some (.int a4), some (.int a5)]) (ab_le_some (ab_le_some (ab_le_some (ab_le_some (ab_le_some (ab_le_some (ab_le_nil))))))) ?_)
  refine ab_aload_n (z := 0) (by decide +kernel) rfl rfl ?_
  refine gX11_0 (ix := 12) (by decide +kernel) tw_408 (hB.1 0 _ rfl) (hB.2.1 0 (0, 0, 1) rfl) ?_
  refine gX7_1 (ix := 99) (by decide +kernel) tw_34 (hB.1 1 _ rfl) ?_
  refine ab_bipush (z := 20) (v := (20 : Int32)) (by decide +kernel) (by decide) ?_
  refine ab_iadd (by decide +kernel) ?_
  refine ab_sipush (z := 1600) (v := (1600 : Int32)) (by decide +kernel) (by decide) ?_
  refine ab_icmp_le (off := 5) (tgt := 18) (by decide +kernel) rfl (fun hc => ?_) (fun hc => ?_)
  · replace H := ab_ifp H hc
    refine ab_aload_n (z := 0) (by decide +kernel) rfl rfl ?_
    refine gX11_0 (ix := 12) (by decide +kernel) tw_408 (hB.1 0 _ rfl) (hB.2.1 0 (0, 0, 1) rfl) ?_
    refine ab_iload_n (z := 1) (by decide +kernel) rfl rfl ?_
    obtain ⟨u1, hu1, H⟩ := ab_bd_of H
    refine kvX7_put (D := 0) (ix := 102) (by decide +kernel) tw_458 (hB.1 1 _ rfl) (by decide) (Nat.le_of_ble_eq_true rfl) (mX7_put_ok hB hu1 ?_)
    change ab_WP l G mX11_feed 1 26 [some (.ref 0), some (.int a1), some (.int a2), some (.int a3), some (.int a4), some (.int a5)] [] S u1 J P 0 0 Q
    refine ab_aload_n (z := 0) (by decide +kernel) rfl rfl ?_
    refine gX11_0 (ix := 12) (by decide +kernel) tw_408 (hB.1 0 _ rfl) (hB.2.1 0 (0, 0, 1) rfl) ?_
    refine ab_iload_n (z := 2) (by decide +kernel) rfl rfl ?_
    obtain ⟨u2, hu2, H⟩ := ab_bd_of H
    refine kvX7_put (D := 0) (ix := 102) (by decide +kernel) tw_458 (hB.1 1 _ rfl) (by decide) (Nat.le_of_ble_eq_true rfl) (mX7_put_ok hB hu2 ?_)
    change ab_WP l G mX11_feed 1 34 [some (.ref 0), some (.int a1), some (.int a2), some (.int a3), some (.int a4), some (.int a5)] [] S u2 J P 0 0 Q
    refine ab_aload_n (z := 0) (by decide +kernel) rfl rfl ?_
    refine gX11_0 (ix := 12) (by decide +kernel) tw_408 (hB.1 0 _ rfl) (hB.2.1 0 (0, 0, 1) rfl) ?_
    refine ab_iload_n (z := 3) (by decide +kernel) rfl rfl ?_
    obtain ⟨u3, hu3, H⟩ := ab_bd_of H
    refine kvX7_put (D := 0) (ix := 102) (by decide +kernel) tw_458 (hB.1 1 _ rfl) (by decide) (Nat.le_of_ble_eq_true rfl) (mX7_put_ok hB hu3 ?_)
    change ab_WP l G mX11_feed 1 42 [some (.ref 0), some (.int a1), some (.int a2), some (.int a3), some (.int a4), some (.int a5)] [] S u3 J P 0 0 Q
    refine ab_aload_n (z := 0) (by decide +kernel) rfl rfl ?_
    refine gX11_0 (ix := 12) (by decide +kernel) tw_408 (hB.1 0 _ rfl) (hB.2.1 0 (0, 0, 1) rfl) ?_
    refine ab_iload (i := 4) (by decide +kernel) rfl ?_
    obtain ⟨u4, hu4, H⟩ := ab_bd_of H
    refine kvX7_put (D := 0) (ix := 102) (by decide +kernel) tw_458 (hB.1 1 _ rfl) (by decide) (Nat.le_of_ble_eq_true rfl) (mX7_put_ok hB hu4 ?_)
    change ab_WP l G mX11_feed 1 51 [some (.ref 0), some (.int a1), some (.int a2), some (.int a3), some (.int a4), some (.int a5)] [] S u4 J P 0 0 Q
    refine ab_aload_n (z := 0) (by decide +kernel) rfl rfl ?_
    refine gX11_0 (ix := 12) (by decide +kernel) tw_408 (hB.1 0 _ rfl) (hB.2.1 0 (0, 0, 1) rfl) ?_
    refine ab_iload (i := 5) (by decide +kernel) rfl ?_
    obtain ⟨u5, hu5, H⟩ := ab_bd_of H
    refine kvX7_put (D := 0) (ix := 102) (by decide +kernel) tw_458 (hB.1 1 _ rfl) (by decide) (Nat.le_of_ble_eq_true rfl) (mX7_put_ok hB hu5 ?_)
    change ab_WP l G mX11_feed 1 60 [some (.ref 0), some (.int a1), some (.int a2), some (.int a3), some (.int a4), some (.int a5)] [] S u5 J P 0 0 Q
    refine ab_aload_n (z := 0) (by decide +kernel) rfl rfl ?_
    refine gX11_0 (ix := 12) (by decide +kernel) tw_408 (hB.1 0 _ rfl) (hB.2.1 0 (0, 0, 1) rfl) ?_
    refine gX7_1 (ix := 99) (by decide +kernel) tw_34 (hB.1 1 _ rfl) ?_
    obtain rfl := Option.some.inj H
    exact ab_iret (by decide +kernel) rfl (Nat.le_refl _) (Nat.le_refl _) K0
  · replace H := ab_ifn H hc
    refine ab_iconst (z := -1) (v := (-1 : Int32)) (by decide +kernel) (by decide) ?_
    obtain rfl := Option.some.inj H
    exact ab_iret (by decide +kernel) rfl (Nat.le_refl _) (Nat.le_refl _) K0
abbrev mX11_end : ab_M := (yX11_end, cX11_end, 2, some .int, 0, 0)
def fX11_end_15 (a1 : Int32) (I : ab_I) : Option (Int32 × ab_I) :=
  some ((-1 : Int32), I)
set_option maxRecDepth 100000 in
theorem fX11_end_15_ok {l : Launch} {G : ab_G} {S : ab_S} {I : ab_I} {J : ab_J} {P : ab_P} {Q : ab_Q} {a1 : Int32} (hB : bz_B S P) {x : Int32 × ab_I} (H : fX11_end_15 a1 I = some x) (K0 : Q (some (.int x.1)) S x.2 J P) : ab_WP l G mX11_end 0 15 [some (.ref 0), some (.int a1)] [] S I J P 0 0 Q := by
  unfold fX11_end_15 at H
  refine ab_iconst (z := -1) (v := (-1 : Int32)) (by decide +kernel) (by decide) ?_
  obtain rfl := Option.some.inj H
  exact ab_iret (by decide +kernel) rfl (Nat.le_refl _) (Nat.le_refl _) K0
def fX11_end (a1 : Int32) (I : ab_I) : Option (Int32 × ab_I) :=
  if a1 < 0 then
    fX11_end_15 a1 I
  else
    if a1 ≤ (I 1 1) then
      some (a1, (ab_u I 1 1 a1))
    else
      fX11_end_15 a1 I
set_option maxRecDepth 100000 in
theorem mX11_end_ok {l : Launch} {G : ab_G} {S : ab_S} {I : ab_I} {J : ab_J} {P : ab_P} {Q : ab_Q} {a1 : Int32} (hB : bz_B S P) {x : Int32 × ab_I} (H : fX11_end a1 I = some x) (K0 : Q (some (.int x.1)) S x.2 J P) : ab_Call l G mX11_end 0 [.ref 0, .int a1] S I J P Q := by
  unfold fX11_end at H
  refine ab_enter rfl (Nat.le_of_ble_eq_true rfl) (ab_wk (ls' := [some (.ref 0), some (.int a1)]) (ab_le_some (ab_le_some (ab_le_nil))) ?_)
  refine ab_iload_n (z := 1) (by decide +kernel) rfl rfl ?_
  refine ab_if_lt (off := 14) (tgt := 15) (by decide +kernel) rfl (fun hc => ?_) (fun hc => ?_)
  · replace H := ab_ifp H hc
    exact ab_wk (ab_le_some (ab_le_some (ab_le_nil))) (fX11_end_15_ok hB H  K0)
  · replace H := ab_ifn H hc
    refine ab_iload_n (z := 1) (by decide +kernel) rfl rfl ?_
    refine ab_aload_n (z := 0) (by decide +kernel) rfl rfl ?_
    refine gX11_0 (ix := 12) (by decide +kernel) tw_408 (hB.1 0 _ rfl) (hB.2.1 0 (0, 0, 1) rfl) ?_
    refine gX7_1 (ix := 99) (by decide +kernel) tw_34 (hB.1 1 _ rfl) ?_
    refine ab_icmp_le (off := 5) (tgt := 17) (by decide +kernel) rfl (fun hc => ?_) (fun hc => ?_)
    · replace H := ab_ifp H hc
      refine ab_aload_n (z := 0) (by decide +kernel) rfl rfl ?_
      refine gX11_0 (ix := 12) (by decide +kernel) tw_408 (hB.1 0 _ rfl) (hB.2.1 0 (0, 0, 1) rfl) ?_
      refine ab_iload_n (z := 1) (by decide +kernel) rfl rfl ?_
      refine pX7_1 (ix := 99) (by decide +kernel) tw_34 (hB.1 1 _ rfl) ?_
      refine ab_iload_n (z := 1) (by decide +kernel) rfl rfl ?_
      obtain rfl := Option.some.inj H
      exact ab_iret (by decide +kernel) rfl (Nat.le_refl _) (Nat.le_refl _) K0
    · replace H := ab_ifn H hc
      exact ab_wk (ab_le_some (ab_le_some (ab_le_nil))) (fX11_end_15_ok hB H  K0)
abbrev mX2_clear : ab_M := (yX2_clear, cX2_clear, 1, none, 0, 0)
theorem kvX2_clear {l : Launch} {G : ab_G} {M : ab_M} {d pc : Nat} {ls : List (Option Value)} {st : List Value} {S : ab_S} {I : ab_I} {J : ab_J} {P : ab_P} {Q : ab_Q} {ix D r ln : Nat} (hd : decode M.2.1 pc = .ok (.invokevirtual ix, 3)) (h1 : Cond.methodLink M.1.cls ix mX2_clear.1 ∈ ab_good) (hs : S[r]? = some (7, ln)) (hdg : D + 1 ≤ d) (hsum : (st.map fun v => v.category).sum ≤ 8) (kk : ab_Call l G mX2_clear D (.ref r :: []) S I J P (fun v S' I' J' P' => ab_WP l G M d (pc + 3) ls (ab_psh v st) S' I' J' P' 0 0 Q)) : ab_WP l G M d pc ls (.ref r :: st) S I J P 0 0 Q := bz_kv (g := mX2_clear) (as := []) (cc := 2) rfl hd h1 tw_486 tw_487 tw_4 tw_488 ⟨by decide +kernel, by decide +kernel, (by decide +kernel : (parseMethodDescriptor mX2_clear.1.desc).map (fun d => d.parameters.length) = some 0)⟩ (by decide) rfl rfl rfl hdg hsum hs kk
def fX2_clear (I : ab_I) : Option ab_I :=
  some (ab_u (ab_u I 18 3 (0 : Int32)) 18 4 (0 : Int32))
set_option maxRecDepth 100000 in
theorem mX2_clear_ok {l : Launch} {G : ab_G} {S : ab_S} {I : ab_I} {J : ab_J} {P : ab_P} {Q : ab_Q} (hB : bz_B S P) {x : ab_I} (H : fX2_clear I = some x) (K0 : Q none S x J P) : ab_Call l G mX2_clear 0 [.ref 18] S I J P Q := by
  unfold fX2_clear at H
  refine ab_enter rfl (Nat.le_of_ble_eq_true rfl) (ab_wk (ls' := [some (.ref 18)]) (ab_le_some (ab_le_nil)) ?_)
  refine ab_aload_n (z := 0) (by decide +kernel) rfl rfl ?_
  refine ab_iconst (z := 0) (v := (0 : Int32)) (by decide +kernel) (by decide) ?_
  refine pX2_3 (ix := 21) (by decide +kernel) tw_57 (hB.1 18 _ rfl) ?_
  refine ab_aload_n (z := 0) (by decide +kernel) rfl rfl ?_
  refine ab_iconst (z := 0) (v := (0 : Int32)) (by decide +kernel) (by decide) ?_
  refine pX2_4 (ix := 25) (by decide +kernel) tw_58 (hB.1 18 _ rfl) ?_
  obtain rfl := Option.some.inj H
  exact ab_vret (by decide +kernel) rfl (Nat.le_refl _) (Nat.le_refl _) K0
abbrev mX9_clear : ab_M := (yX9_clear, cX9_clear, 1, none, 0, 0)
theorem kvX9_clear {l : Launch} {G : ab_G} {M : ab_M} {d pc : Nat} {ls : List (Option Value)} {st : List Value} {S : ab_S} {I : ab_I} {J : ab_J} {P : ab_P} {Q : ab_Q} {ix D r ln : Nat} (hd : decode M.2.1 pc = .ok (.invokevirtual ix, 3)) (h1 : Cond.methodLink M.1.cls ix mX9_clear.1 ∈ ab_good) (hs : S[r]? = some (14, ln)) (hdg : D + 1 ≤ d) (hsum : (st.map fun v => v.category).sum ≤ 8) (kk : ab_Call l G mX9_clear D (.ref r :: []) S I J P (fun v S' I' J' P' => ab_WP l G M d (pc + 3) ls (ab_psh v st) S' I' J' P' 0 0 Q)) : ab_WP l G M d pc ls (.ref r :: st) S I J P 0 0 Q := bz_kv (g := mX9_clear) (as := []) (cc := 9) rfl hd h1 tw_479 tw_480 tw_3 tw_481 ⟨by decide +kernel, by decide +kernel, (by decide +kernel : (parseMethodDescriptor mX9_clear.1.desc).map (fun d => d.parameters.length) = some 0)⟩ (by decide) rfl rfl rfl hdg hsum hs kk
def fX9_clear (I : ab_I) : Option ab_I :=
  (fJ7_fill_53178 17 30 (0 : Int32) I).bind fun u1 =>
  (fX2_clear u1).bind fun u2 =>
  some (ab_u (ab_u (ab_u (ab_u (ab_u (ab_u u2 14 4 (0 : Int32)) 14 5 (0 : Int32)) 14 6 (0 : Int32)) 14 7 (-1 : Int32)) 14 8 (0 : Int32)) 14 9 (0 : Int32))
set_option maxRecDepth 100000 in
theorem mX9_clear_ok {l : Launch} {G : ab_G} {S : ab_S} {I : ab_I} {J : ab_J} {P : ab_P} {Q : ab_Q} (hB : bz_B S P) {x : ab_I} (H : fX9_clear I = some x) (K0 : Q none S x J P) : ab_Call l G mX9_clear 1 [.ref 14] S I J P Q := by
  unfold fX9_clear at H
  refine ab_enter rfl (Nat.le_of_ble_eq_true rfl) (ab_wk (ls' := [some (.ref 14)]) (ab_le_some (ab_le_nil)) ?_)
  refine ab_aload_n (z := 0) (by decide +kernel) rfl rfl ?_
  refine gX9_2 (ix := 18) (by decide +kernel) tw_79 (hB.1 14 _ rfl) (hB.2.1 24 (14, 2, 17) rfl) ?_
  refine ab_iconst (z := 0) (v := (0 : Int32)) (by decide +kernel) (by decide) ?_
  obtain ⟨u1, hu1, H⟩ := ab_bd_of H
  refine ksJ7_fill_53178 (D := 0) (ix := 47) (by decide +kernel) tw_482 (by decide) (Nat.le_of_ble_eq_true rfl) (mJ7_fill_53178_ok hB (hB.1 17 _ rfl) hu1 ?_)
  change ab_WP l G mX9_clear 1 8 [some (.ref 14)] [] S u1 J P 0 0 Q
  refine ab_aload_n (z := 0) (by decide +kernel) rfl rfl ?_
  refine gX9_3 (ix := 24) (by decide +kernel) tw_81 (hB.1 14 _ rfl) (hB.2.1 25 (14, 3, 18) rfl) ?_
  obtain ⟨u2, hu2, H⟩ := ab_bd_of H
  refine kvX2_clear (D := 0) (ix := 53) (by decide +kernel) tw_485 (hB.1 18 _ rfl) (by decide) (Nat.le_of_ble_eq_true rfl) (mX2_clear_ok hB hu2 ?_)
  change ab_WP l G mX9_clear 1 15 [some (.ref 14)] [] S u2 J P 0 0 Q
  refine ab_aload_n (z := 0) (by decide +kernel) rfl rfl ?_
  refine ab_iconst (z := 0) (v := (0 : Int32)) (by decide +kernel) (by decide) ?_
  refine pX9_4 (ix := 28) (by decide +kernel) tw_85 (hB.1 14 _ rfl) ?_
  refine ab_aload_n (z := 0) (by decide +kernel) rfl rfl ?_
  refine ab_iconst (z := 0) (v := (0 : Int32)) (by decide +kernel) (by decide) ?_
  refine pX9_5 (ix := 32) (by decide +kernel) tw_92 (hB.1 14 _ rfl) ?_
  refine ab_aload_n (z := 0) (by decide +kernel) rfl rfl ?_
  refine ab_iconst (z := 0) (v := (0 : Int32)) (by decide +kernel) (by decide) ?_
  refine pX9_6 (ix := 35) (by decide +kernel) tw_99 (hB.1 14 _ rfl) ?_
  refine ab_aload_n (z := 0) (by decide +kernel) rfl rfl ?_
  refine ab_iconst (z := -1) (v := (-1 : Int32)) (by decide +kernel) (by decide) ?_
  refine pX9_7 (ix := 38) (by decide +kernel) tw_103 (hB.1 14 _ rfl) ?_
  refine ab_aload_n (z := 0) (by decide +kernel) rfl rfl ?_
  refine ab_iconst (z := 0) (v := (0 : Int32)) (by decide +kernel) (by decide) ?_
  refine pX9_8 (ix := 41) (by decide +kernel) tw_106 (hB.1 14 _ rfl) ?_
  refine ab_aload_n (z := 0) (by decide +kernel) rfl rfl ?_
  refine ab_iconst (z := 0) (v := (0 : Int32)) (by decide +kernel) (by decide) ?_
  refine pX9_9 (ix := 44) (by decide +kernel) tw_110 (hB.1 14 _ rfl) ?_
  obtain rfl := Option.some.inj H
  exact ab_vret (by decide +kernel) rfl (Nat.le_refl _) (Nat.le_refl _) K0
abbrev mX7_at : ab_M := (yX7_at, cX7_at, 2, some .int, 0, 0)
theorem kvX7_at {l : Launch} {G : ab_G} {M : ab_M} {d pc : Nat} {ls : List (Option Value)} {st : List Value} {S : ab_S} {I : ab_I} {J : ab_J} {P : ab_P} {Q : ab_Q} {v0 : Value} {ix D r ln : Nat} (hd : decode M.2.1 pc = .ok (.invokevirtual ix, 3)) (h1 : Cond.methodLink M.1.cls ix mX7_at.1 ∈ ab_good) (hs : S[r]? = some (12, ln)) (hdg : D + 1 ≤ d) (hsum : (st.map fun v => v.category).sum ≤ 8) (kk : ab_Call l G mX7_at D (.ref r :: [v0]) S I J P (fun v S' I' J' P' => ab_WP l G M d (pc + 3) ls (ab_psh v st) S' I' J' P' 0 0 Q)) : ab_WP l G M d pc ls (v0 :: .ref r :: st) S I J P 0 0 Q := bz_kv (g := mX7_at) (as := [v0]) (cc := 7) rfl hd h1 tw_498 tw_499 tw_2 tw_500 ⟨by decide +kernel, by decide +kernel, (by decide +kernel : (parseMethodDescriptor mX7_at.1.desc).map (fun d => d.parameters.length) = some 1)⟩ (by decide) rfl rfl rfl hdg hsum hs kk
def fX7_at_35 (a1 : Int32) (I : ab_I) (s0 : Int32) : Option Int32 :=
  some s0
set_option maxRecDepth 100000 in
theorem fX7_at_35_ok {l : Launch} {G : ab_G} {S : ab_S} {I : ab_I} {J : ab_J} {P : ab_P} {Q : ab_Q} {a1 : Int32} {s0 : Int32} (hB : bz_B S P) {x : Int32} (H : fX7_at_35 a1 I s0 = some x) (K0 : Q (some (.int x)) S I J P) : ab_WP l G mX7_at 0 35 [some (.ref 1), some (.int a1)] [.int s0] S I J P 0 0 Q := by
  unfold fX7_at_35 at H
  obtain rfl := Option.some.inj H
  exact ab_iret (by decide +kernel) rfl (Nat.le_refl _) (Nat.le_refl _) K0
def fX7_at_34 (a1 : Int32) (I : ab_I) : Option Int32 :=
  fX7_at_35 a1 I (-1 : Int32)
set_option maxRecDepth 100000 in
theorem fX7_at_34_ok {l : Launch} {G : ab_G} {S : ab_S} {I : ab_I} {J : ab_J} {P : ab_P} {Q : ab_Q} {a1 : Int32} (hB : bz_B S P) {x : Int32} (H : fX7_at_34 a1 I = some x) (K0 : Q (some (.int x)) S I J P) : ab_WP l G mX7_at 0 34 [some (.ref 1), some (.int a1)] [] S I J P 0 0 Q := by
  unfold fX7_at_34 at H
  refine ab_iconst (z := -1) (v := (-1 : Int32)) (by decide +kernel) (by decide) ?_
  exact ab_wk (ab_le_some (ab_le_some (ab_le_nil))) (fX7_at_35_ok hB H  K0)
def fX7_at (a1 : Int32) (I : ab_I) : Option Int32 :=
  if a1 < 0 then
    fX7_at_34 a1 I
  else
    if (I 1 1) ≤ a1 then
      fX7_at_34 a1 I
    else
      if (1600 : Int32) ≤ a1 then
        fX7_at_34 a1 I
      else
        ab_gd (ab_ix a1 1600 = true) (
          fX7_at_35 a1 I ((I 2 a1.toNatClampNeg) &&& (255 : Int32))
        )
set_option maxRecDepth 100000 in
theorem mX7_at_ok {l : Launch} {G : ab_G} {S : ab_S} {I : ab_I} {J : ab_J} {P : ab_P} {Q : ab_Q} {a1 : Int32} (hB : bz_B S P) {x : Int32} (H : fX7_at a1 I = some x) (K0 : Q (some (.int x)) S I J P) : ab_Call l G mX7_at 0 [.ref 1, .int a1] S I J P Q := by
  unfold fX7_at at H
  refine ab_enter rfl (Nat.le_of_ble_eq_true rfl) (ab_wk (ls' := [some (.ref 1), some (.int a1)]) (ab_le_some (ab_le_some (ab_le_nil))) ?_)
  refine ab_iload_n (z := 1) (by decide +kernel) rfl rfl ?_
  refine ab_if_lt (off := 33) (tgt := 34) (by decide +kernel) rfl (fun hc => ?_) (fun hc => ?_)
  · replace H := ab_ifp H hc
    exact ab_wk (ab_le_some (ab_le_some (ab_le_nil))) (fX7_at_34_ok hB H  K0)
  · replace H := ab_ifn H hc
    refine ab_iload_n (z := 1) (by decide +kernel) rfl rfl ?_
    refine ab_aload_n (z := 0) (by decide +kernel) rfl rfl ?_
    refine gX7_1 (ix := 15) (by decide +kernel) tw_33 (hB.1 1 _ rfl) ?_
    refine ab_icmp_ge (off := 25) (tgt := 34) (by decide +kernel) rfl (fun hc => ?_) (fun hc => ?_)
    · replace H := ab_ifp H hc
      exact ab_wk (ab_le_some (ab_le_some (ab_le_nil))) (fX7_at_34_ok hB H  K0)
    · replace H := ab_ifn H hc
      refine ab_iload_n (z := 1) (by decide +kernel) rfl rfl ?_
      refine ab_aload_n (z := 0) (by decide +kernel) rfl rfl ?_
      refine gX7_0 (ix := 9) (by decide +kernel) tw_32 (hB.1 1 _ rfl) (hB.2.1 10 (1, 0, 2) rfl) ?_
      refine ab_alen (v := (1600 : Int32)) (by decide +kernel) (hB.1 2 _ rfl) (by decide) (by decide) ?_
      refine ab_icmp_ge (off := 16) (tgt := 34) (by decide +kernel) rfl (fun hc => ?_) (fun hc => ?_)
      · replace H := ab_ifp H hc
        exact ab_wk (ab_le_some (ab_le_some (ab_le_nil))) (fX7_at_34_ok hB H  K0)
      · replace H := ab_ifn H hc
        refine ab_aload_n (z := 0) (by decide +kernel) rfl rfl ?_
        refine gX7_0 (ix := 9) (by decide +kernel) tw_32 (hB.1 1 _ rfl) (hB.2.1 10 (1, 0, 2) rfl) ?_
        refine ab_iload_n (z := 1) (by decide +kernel) rfl rfl ?_
        obtain ⟨hg, H⟩ := ab_gd_of H
        refine ab_bald (ln := 1600) (by decide +kernel) (hB.1 2 _ rfl) (ab_ix_in hg) ?_
        refine ab_sipush (z := 255) (v := (255 : Int32)) (by decide +kernel) (by decide) ?_
        refine ab_iand (by decide +kernel) ?_
        refine ab_goto (off := 4) (tgt := 35) (by decide +kernel) rfl ?_
        exact ab_wk (ab_le_some (ab_le_some (ab_le_nil))) (fX7_at_35_ok hB H  K0)
abbrev mX8_isBlank : ab_M := (yX8_isBlank, cX8_isBlank, 1, some .boolean, 0, 0)
theorem ksX8_isBlank {l : Launch} {G : ab_G} {M : ab_M} {d pc : Nat} {ls : List (Option Value)} {st : List Value} {S : ab_S} {I : ab_I} {J : ab_J} {P : ab_P} {Q : ab_Q} {v0 : Value} {ix D : Nat} (hd : decode M.2.1 pc = .ok (.invokestatic ix, 3)) (h1 : Cond.methodLink M.1.cls ix mX8_isBlank.1 ∈ ab_good) (hdg : D + 1 ≤ d) (hsum : (st.map fun v => v.category).sum ≤ 8) (kk : ab_Call l G mX8_isBlank D [v0] S I J P (fun v S' I' J' P' => ab_WP l G M d (pc + 3) ls (ab_psh v st) S' I' J' P' 0 0 Q)) : ab_WP l G M d pc ls (v0 :: st) S I J P 0 0 Q := bz_ks (g := mX8_isBlank) (as := [v0]) rfl hd h1 tw_502 tw_6 tw_503 ⟨by decide +kernel, by decide +kernel, (by decide +kernel : (parseMethodDescriptor mX8_isBlank.1.desc).map (fun d => d.parameters.length) = some 1)⟩ (by decide) rfl hdg hsum kk
def fX8_isBlank_17 (a0 : Int32) (s0 : Int32) : Option Int32 :=
  ab_gd (s0 = 0 ∨ s0 = 1) (some s0)
set_option maxRecDepth 100000 in
theorem fX8_isBlank_17_ok {l : Launch} {G : ab_G} {S : ab_S} {I : ab_I} {J : ab_J} {P : ab_P} {Q : ab_Q} {a0 : Int32} {s0 : Int32} (hB : bz_B S P) {x : Int32} (H : fX8_isBlank_17 a0 s0 = some x) (K0 : Q (some (.int x)) S I J P) : ab_WP l G mX8_isBlank 0 17 [some (.int a0)] [.int s0] S I J P 0 0 Q := by
  unfold fX8_isBlank_17 at H
  obtain ⟨hg, H⟩ := ab_gd_of H
  obtain rfl := Option.some.inj H
  exact ab_zret (by decide +kernel) rfl (Nat.le_refl _) (Nat.le_refl _) hg K0
def fX8_isBlank_12 (a0 : Int32) : Option Int32 :=
  fX8_isBlank_17 a0 (1 : Int32)
set_option maxRecDepth 100000 in
theorem fX8_isBlank_12_ok {l : Launch} {G : ab_G} {S : ab_S} {I : ab_I} {J : ab_J} {P : ab_P} {Q : ab_Q} {a0 : Int32} (hB : bz_B S P) {x : Int32} (H : fX8_isBlank_12 a0 = some x) (K0 : Q (some (.int x)) S I J P) : ab_WP l G mX8_isBlank 0 12 [some (.int a0)] [] S I J P 0 0 Q := by
  unfold fX8_isBlank_12 at H
  refine ab_iconst (z := 1) (v := (1 : Int32)) (by decide +kernel) (by decide) ?_
  refine ab_goto (off := 4) (tgt := 17) (by decide +kernel) rfl ?_
  exact ab_wk (ab_le_some (ab_le_nil)) (fX8_isBlank_17_ok hB H  K0)
def fX8_isBlank (a0 : Int32) : Option Int32 :=
  if a0 = (32 : Int32) then
    fX8_isBlank_12 a0
  else
    if a0 = (10 : Int32) then
      fX8_isBlank_12 a0
    else
      fX8_isBlank_17 a0 (0 : Int32)
set_option maxRecDepth 100000 in
theorem mX8_isBlank_ok {l : Launch} {G : ab_G} {S : ab_S} {I : ab_I} {J : ab_J} {P : ab_P} {Q : ab_Q} {a0 : Int32} (hB : bz_B S P) {x : Int32} (H : fX8_isBlank a0 = some x) (K0 : Q (some (.int x)) S I J P) : ab_Call l G mX8_isBlank 0 [.int a0] S I J P Q := by
  unfold fX8_isBlank at H
  refine ab_enter rfl (Nat.le_of_ble_eq_true rfl) (ab_wk (ls' := [some (.int a0)]) (ab_le_some (ab_le_nil)) ?_)
  refine ab_iload_n (z := 0) (by decide +kernel) rfl rfl ?_
  refine ab_bipush (z := 32) (v := (32 : Int32)) (by decide +kernel) (by decide) ?_
  refine ab_icmp_eq (off := 9) (tgt := 12) (by decide +kernel) rfl (fun hc => ?_) (fun hc => ?_)
  · replace H := ab_ifp H hc
    exact ab_wk (ab_le_some (ab_le_nil)) (fX8_isBlank_12_ok hB H  K0)
  · replace H := ab_ifn H hc
    refine ab_iload_n (z := 0) (by decide +kernel) rfl rfl ?_
    refine ab_bipush (z := 10) (v := (10 : Int32)) (by decide +kernel) (by decide) ?_
    refine ab_icmp_ne (off := 7) (tgt := 16) (by decide +kernel) rfl (fun hc => ?_) (fun hc => ?_)
    · replace H := ab_ifn H hc
      refine ab_iconst (z := 0) (v := (0 : Int32)) (by decide +kernel) (by decide) ?_
      exact ab_wk (ab_le_some (ab_le_nil)) (fX8_isBlank_17_ok hB H  K0)
    · replace H := ab_ifp H hc
      exact ab_wk (ab_le_some (ab_le_nil)) (fX8_isBlank_12_ok hB H  K0)
abbrev mX8_isLetter : ab_M := (yX8_isLetter, cX8_isLetter, 1, some .boolean, 0, 0)
theorem ksX8_isLetter {l : Launch} {G : ab_G} {M : ab_M} {d pc : Nat} {ls : List (Option Value)} {st : List Value} {S : ab_S} {I : ab_I} {J : ab_J} {P : ab_P} {Q : ab_Q} {v0 : Value} {ix D : Nat} (hd : decode M.2.1 pc = .ok (.invokestatic ix, 3)) (h1 : Cond.methodLink M.1.cls ix mX8_isLetter.1 ∈ ab_good) (hdg : D + 1 ≤ d) (hsum : (st.map fun v => v.category).sum ≤ 8) (kk : ab_Call l G mX8_isLetter D [v0] S I J P (fun v S' I' J' P' => ab_WP l G M d (pc + 3) ls (ab_psh v st) S' I' J' P' 0 0 Q)) : ab_WP l G M d pc ls (v0 :: st) S I J P 0 0 Q := bz_ks (g := mX8_isLetter) (as := [v0]) rfl hd h1 tw_505 tw_6 tw_506 ⟨by decide +kernel, by decide +kernel, (by decide +kernel : (parseMethodDescriptor mX8_isLetter.1.desc).map (fun d => d.parameters.length) = some 1)⟩ (by decide) rfl hdg hsum kk
def fX8_isLetter_17 (a0 : Int32) (s0 : Int32) : Option Int32 :=
  ab_gd (s0 = 0 ∨ s0 = 1) (some s0)
set_option maxRecDepth 100000 in
theorem fX8_isLetter_17_ok {l : Launch} {G : ab_G} {S : ab_S} {I : ab_I} {J : ab_J} {P : ab_P} {Q : ab_Q} {a0 : Int32} {s0 : Int32} (hB : bz_B S P) {x : Int32} (H : fX8_isLetter_17 a0 s0 = some x) (K0 : Q (some (.int x)) S I J P) : ab_WP l G mX8_isLetter 0 17 [some (.int a0)] [.int s0] S I J P 0 0 Q := by
  unfold fX8_isLetter_17 at H
  obtain ⟨hg, H⟩ := ab_gd_of H
  obtain rfl := Option.some.inj H
  exact ab_zret (by decide +kernel) rfl (Nat.le_refl _) (Nat.le_refl _) hg K0
def fX8_isLetter_16 (a0 : Int32) : Option Int32 :=
  fX8_isLetter_17 a0 (0 : Int32)
set_option maxRecDepth 100000 in
theorem fX8_isLetter_16_ok {l : Launch} {G : ab_G} {S : ab_S} {I : ab_I} {J : ab_J} {P : ab_P} {Q : ab_Q} {a0 : Int32} (hB : bz_B S P) {x : Int32} (H : fX8_isLetter_16 a0 = some x) (K0 : Q (some (.int x)) S I J P) : ab_WP l G mX8_isLetter 0 16 [some (.int a0)] [] S I J P 0 0 Q := by
  unfold fX8_isLetter_16 at H
  refine ab_iconst (z := 0) (v := (0 : Int32)) (by decide +kernel) (by decide) ?_
  exact ab_wk (ab_le_some (ab_le_nil)) (fX8_isLetter_17_ok hB H  K0)
def fX8_isLetter (a0 : Int32) : Option Int32 :=
  if a0 < (97 : Int32) then
    fX8_isLetter_16 a0
  else
    if (122 : Int32) < a0 then
      fX8_isLetter_16 a0
    else
      fX8_isLetter_17 a0 (1 : Int32)
set_option maxRecDepth 100000 in
theorem mX8_isLetter_ok {l : Launch} {G : ab_G} {S : ab_S} {I : ab_I} {J : ab_J} {P : ab_P} {Q : ab_Q} {a0 : Int32} (hB : bz_B S P) {x : Int32} (H : fX8_isLetter a0 = some x) (K0 : Q (some (.int x)) S I J P) : ab_Call l G mX8_isLetter 0 [.int a0] S I J P Q := by
  unfold fX8_isLetter at H
  refine ab_enter rfl (Nat.le_of_ble_eq_true rfl) (ab_wk (ls' := [some (.int a0)]) (ab_le_some (ab_le_nil)) ?_)
  refine ab_iload_n (z := 0) (by decide +kernel) rfl rfl ?_
  refine ab_bipush (z := 97) (v := (97 : Int32)) (by decide +kernel) (by decide) ?_
  refine ab_icmp_lt (off := 13) (tgt := 16) (by decide +kernel) rfl (fun hc => ?_) (fun hc => ?_)
  · replace H := ab_ifp H hc
    exact ab_wk (ab_le_some (ab_le_nil)) (fX8_isLetter_16_ok hB H  K0)
  · replace H := ab_ifn H hc
    refine ab_iload_n (z := 0) (by decide +kernel) rfl rfl ?_
    refine ab_bipush (z := 122) (v := (122 : Int32)) (by decide +kernel) (by decide) ?_
    refine ab_icmp_gt (off := 7) (tgt := 16) (by decide +kernel) rfl (fun hc => ?_) (fun hc => ?_)
    · replace H := ab_ifp H hc
      exact ab_wk (ab_le_some (ab_le_nil)) (fX8_isLetter_16_ok hB H  K0)
    · replace H := ab_ifn H hc
      refine ab_iconst (z := 1) (v := (1 : Int32)) (by decide +kernel) (by decide) ?_
      refine ab_goto (off := 4) (tgt := 17) (by decide +kernel) rfl ?_
      exact ab_wk (ab_le_some (ab_le_nil)) (fX8_isLetter_17_ok hB H  K0)
abbrev mX8_kindOfWord : ab_M := (yX8_kindOfWord, cX8_kindOfWord, 2, some .int, 0, 0)
theorem kvX8_kindOfWord {l : Launch} {G : ab_G} {M : ab_M} {d pc : Nat} {ls : List (Option Value)} {st : List Value} {S : ab_S} {I : ab_I} {J : ab_J} {P : ab_P} {Q : ab_Q} {ix D r ln : Nat} (hd : decode M.2.1 pc = .ok (.invokevirtual ix, 3)) (h1 : Cond.methodLink M.1.cls ix mX8_kindOfWord.1 ∈ ab_good) (hs : S[r]? = some (13, ln)) (hdg : D + 1 ≤ d) (hsum : (st.map fun v => v.category).sum ≤ 8) (kk : ab_Call l G mX8_kindOfWord D (.ref r :: []) S I J P (fun v S' I' J' P' => ab_WP l G M d (pc + 3) ls (ab_psh v st) S' I' J' P' 0 0 Q)) : ab_WP l G M d pc ls (.ref r :: st) S I J P 0 0 Q := bz_kv (g := mX8_kindOfWord) (as := []) (cc := 8) rfl hd h1 tw_513 tw_p2 tw_6 tw_514 ⟨by decide +kernel, by decide +kernel, (by decide +kernel : (parseMethodDescriptor mX8_kindOfWord.1.desc).map (fun d => d.parameters.length) = some 0)⟩ (by decide) rfl rfl rfl hdg hsum hs kk
def fX8_kindOfWord_35 (J : ab_J) : Option Int32 :=
  some (2 : Int32)
set_option maxRecDepth 100000 in
theorem fX8_kindOfWord_35_ok {l : Launch} {G : ab_G} {S : ab_S} {I : ab_I} {J : ab_J} {P : ab_P} {Q : ab_Q} (hB : bz_B S P) {x : Int32} (H : fX8_kindOfWord_35 J = some x) (K0 : Q (some (.int x)) S I J P) : ab_WP l G mX8_kindOfWord 0 35 [some (.ref 22), none] [] S I J P 0 0 Q := by
  unfold fX8_kindOfWord_35 at H
  refine ab_iconst (z := 2) (v := (2 : Int32)) (by decide +kernel) (by decide) ?_
  obtain rfl := Option.some.inj H
  exact ab_iret (by decide +kernel) rfl (Nat.le_refl _) (Nat.le_refl _) K0
def fX8_kindOfWord_23 (J : ab_J) (a1 : Int32) : Option Int32 :=
  some ((200 : Int32) + a1)
set_option maxRecDepth 100000 in
theorem fX8_kindOfWord_23_ok {l : Launch} {G : ab_G} {S : ab_S} {I : ab_I} {J : ab_J} {P : ab_P} {Q : ab_Q} {a1 : Int32} (hB : bz_B S P) {x : Int32} (H : fX8_kindOfWord_23 J a1 = some x) (K0 : Q (some (.int x)) S I J P) : ab_WP l G mX8_kindOfWord 0 23 [some (.ref 22), some (.int a1)] [] S I J P 0 0 Q := by
  unfold fX8_kindOfWord_23 at H
  refine ab_sipush (z := 200) (v := (200 : Int32)) (by decide +kernel) (by decide) ?_
  refine ab_iload_n (z := 1) (by decide +kernel) rfl rfl ?_
  refine ab_iadd (by decide +kernel) ?_
  obtain rfl := Option.some.inj H
  exact ab_iret (by decide +kernel) rfl (Nat.le_refl _) (Nat.le_refl _) K0
def fX8_kindOfWord_2 (J : ab_J) (a1 : Int32) : Option ((Int32) ⊕ Int32) :=
  if (15 : Int32) ≤ a1 then
    (fX8_kindOfWord_35 J).map .inr
  else
    ab_gd (ab_ix a1 15 = true) (
      if (lg_cmp (bz_word a1.toNatClampNeg) (J 22 5)) = 0 then
        (fX8_kindOfWord_23 J a1).map .inr
      else
        some (.inl (a1 + (1 : Int32)))
    )
set_option maxRecDepth 100000 in
theorem fX8_kindOfWord_2_ok {l : Launch} {G : ab_G} {S : ab_S} {I : ab_I} {J : ab_J} {P : ab_P} {Q : ab_Q} {a1 : Int32} (hB : bz_B S P) {x : ((Int32) ⊕ Int32)} (H : fX8_kindOfWord_2 J a1 = some x) (K1 : ∀ s, x = (.inl s) → ab_WP l G mX8_kindOfWord 0 2 [some (.ref 22), some (.int s)] [] S I J P 0 0 Q) (K0 : ∀ r, x = (.inr r) → Q (some (.int r)) S I J P) : ab_WP l G mX8_kindOfWord 0 2 [some (.ref 22), some (.int a1)] [] S I J P 0 0 Q := by
  unfold fX8_kindOfWord_2 at H
  refine ab_iload_n (z := 1) (by decide +kernel) rfl rfl ?_
  refine ab_wlen (ix := 67) (host := "BellRingers") (by decide +kernel) (by decide +kernel) (tn_515) ?_
  refine ab_icmp_ge (off := 28) (tgt := 35) (by decide +kernel) rfl (fun hc => ?_) (fun hc => ?_)
  · replace H := ab_ifp H hc
    obtain ⟨y1, Hy, hx⟩ := ab_mp_of H
    subst hx
    replace H := Hy
    exact ab_wk (ab_le_some (ab_le_none (ab_le_nil))) (fX8_kindOfWord_35_ok hB H  (K0 _ rfl))
  · replace H := ab_ifn H hc
    obtain ⟨hg, H⟩ := ab_gd_of H
    refine ab_wat (ix := 67) (z := 1) (host := "BellRingers") (by decide +kernel) (by decide +kernel) (by decide +kernel) (tn_515) rfl rfl (ab_ix_in hg) (bz_wl _) ?_
    refine ab_aload_n (z := 0) (by decide +kernel) rfl rfl ?_
    refine gX8_5 (ix := 24) (by decide +kernel) tw_155 (hB.1 22 _ rfl) ?_
    refine ab_lcmp (by decide +kernel) ?_
    refine ab_if_ne (off := 9) (tgt := 29) (by decide +kernel) rfl (fun hc => ?_) (fun hc => ?_)
    · replace H := ab_ifn H hc
      refine ab_iinc (i := 1) (z := 1) (v := (a1 + (1 : Int32))) (by decide +kernel) rfl rfl (by decide) rfl ?_
      refine ab_ls (ls' := [some (.ref 22), some (.int (a1 + (1 : Int32)))]) rfl ?_
      refine ab_goto (off := -30) (tgt := 2) (by decide +kernel) rfl ?_
      exact ab_wk (ab_le_some (ab_le_some (ab_le_nil))) (K1 (a1 + (1 : Int32)) (Option.some.inj H).symm)
    · replace H := ab_ifp H hc
      obtain ⟨y2, Hy, hx⟩ := ab_mp_of H
      subst hx
      replace H := Hy
      exact ab_wk (ab_le_some (ab_le_some (ab_le_nil))) (fX8_kindOfWord_23_ok hB H  (K0 _ rfl))
def fX8_kindOfWord (J : ab_J) : Option Int32 :=
  ab_it (fun s => fX8_kindOfWord_2 J s) 5000 (0 : Int32)
set_option maxRecDepth 100000 in
theorem mX8_kindOfWord_ok {l : Launch} {G : ab_G} {S : ab_S} {I : ab_I} {J : ab_J} {P : ab_P} {Q : ab_Q} (hB : bz_B S P) {x : Int32} (H : fX8_kindOfWord J = some x) (K0 : Q (some (.int x)) S I J P) : ab_Call l G mX8_kindOfWord 0 [.ref 22] S I J P Q := by
  unfold fX8_kindOfWord at H
  refine ab_enter rfl (Nat.le_of_ble_eq_true rfl) (ab_wk (ls' := [some (.ref 22), none]) (ab_le_some (ab_le_non0 ab_le_nil)) ?_)
  refine ab_iconst (z := 0) (v := (0 : Int32)) (by decide +kernel) (by decide) ?_
  refine ab_istore_n (z := 1) (by decide +kernel) rfl (by decide) rfl ?_
  refine ab_ls (ls' := [some (.ref 22), some (.int (0 : Int32))]) rfl ?_
  exact ab_wk (ab_le_some (ab_le_some (ab_le_nil))) (ab_iter (W := fun s => ab_WP l G mX8_kindOfWord 0 2 [some (.ref 22), some (.int s)] [] S I J P 0 0 Q) (fun s y hb h1 h2 => fX8_kindOfWord_2_ok hB hb h1 (fun r e => by have e2 := h2 _ e; subst e2; exact K0)) 5000 (0 : Int32) H)
abbrev mX8_scanWord : ab_M := (yX8_scanWord, cX8_scanWord, 1, none, 0, 0)
theorem kvX8_scanWord {l : Launch} {G : ab_G} {M : ab_M} {d pc : Nat} {ls : List (Option Value)} {st : List Value} {S : ab_S} {I : ab_I} {J : ab_J} {P : ab_P} {Q : ab_Q} {ix D r ln : Nat} (hd : decode M.2.1 pc = .ok (.invokevirtual ix, 3)) (h1 : Cond.methodLink M.1.cls ix mX8_scanWord.1 ∈ ab_good) (hs : S[r]? = some (13, ln)) (hdg : D + 1 ≤ d) (hsum : (st.map fun v => v.category).sum ≤ 8) (kk : ab_Call l G mX8_scanWord D (.ref r :: []) S I J P (fun v S' I' J' P' => ab_WP l G M d (pc + 3) ls (ab_psh v st) S' I' J' P' 0 0 Q)) : ab_WP l G M d pc ls (.ref r :: st) S I J P 0 0 Q := bz_kv (g := mX8_scanWord) (as := []) (cc := 8) rfl hd h1 tw_509 tw_p1 tw_6 tw_510 ⟨by decide +kernel, by decide +kernel, (by decide +kernel : (parseMethodDescriptor mX8_scanWord.1.desc).map (fun d => d.parameters.length) = some 0)⟩ (by decide) rfl rfl rfl hdg hsum hs kk
def fX8_scanWord_96 (s1 : Int32) (I : ab_I) (J : ab_J) : Option (ab_I × ab_J) :=
  some ((ab_u I 22 2 s1), J)
set_option maxRecDepth 100000 in
theorem fX8_scanWord_96_ok {l : Launch} {G : ab_G} {S : ab_S} {I : ab_I} {J : ab_J} {P : ab_P} {Q : ab_Q} {s1 : Int32} (hB : bz_B S P) {x : ab_I × ab_J} (H : fX8_scanWord_96 s1 I J = some x) (K0 : Q none S x.1 x.2 P) : ab_WP l G mX8_scanWord 1 96 [some (.ref 22)] [.int s1, .ref 22] S I J P 0 0 Q := by
  unfold fX8_scanWord_96 at H
  refine pX8_2 (ix := 15) (by decide +kernel) tw_149 (hB.1 22 _ rfl) ?_
  obtain rfl := Option.some.inj H
  exact ab_vret (by decide +kernel) rfl (Nat.le_refl _) (Nat.le_refl _) K0
def fX8_scanWord_73 (I : ab_I) (J : ab_J) : Option (ab_I × ab_J) :=
  if ((I 22 1) - (I 22 3)) ≤ (8 : Int32) then
    (fX8_kindOfWord J).bind fun u6 =>
    fX8_scanWord_96 u6 I J
  else
    fX8_scanWord_96 (1 : Int32) I J
set_option maxRecDepth 100000 in
theorem fX8_scanWord_73_ok {l : Launch} {G : ab_G} {S : ab_S} {I : ab_I} {J : ab_J} {P : ab_P} {Q : ab_Q} (hB : bz_B S P) {x : ab_I × ab_J} (H : fX8_scanWord_73 I J = some x) (K0 : Q none S x.1 x.2 P) : ab_WP l G mX8_scanWord 1 73 [some (.ref 22)] [] S I J P 0 0 Q := by
  unfold fX8_scanWord_73 at H
  refine ab_aload_n (z := 0) (by decide +kernel) rfl rfl ?_
  refine ab_aload_n (z := 0) (by decide +kernel) rfl rfl ?_
  refine gX8_1 (ix := 9) (by decide +kernel) tw_148 (hB.1 22 _ rfl) ?_
  refine ab_aload_n (z := 0) (by decide +kernel) rfl rfl ?_
  refine gX8_3 (ix := 18) (by decide +kernel) tw_151 (hB.1 22 _ rfl) ?_
  refine ab_isub (by decide +kernel) ?_
  refine ab_bipush (z := 8) (v := (8 : Int32)) (by decide +kernel) (by decide) ?_
  refine ab_icmp_le (off := 7) (tgt := 92) (by decide +kernel) rfl (fun hc => ?_) (fun hc => ?_)
  · replace H := ab_ifp H hc
    refine ab_aload_n (z := 0) (by decide +kernel) rfl rfl ?_
    obtain ⟨u6, hu6, H⟩ := ab_bd_of H
    refine kvX8_kindOfWord (D := 0) (ix := 63) (by decide +kernel) tw_511 (hB.1 22 _ rfl) (by decide) (Nat.le_of_ble_eq_true rfl) (mX8_kindOfWord_ok hB hu6 ?_)
    change ab_WP l G mX8_scanWord 1 96 [some (.ref 22)] [.int u6, .ref 22] S I J P 0 0 Q
    exact ab_wk (ab_le_some (ab_le_nil)) (fX8_scanWord_96_ok hB H  K0)
  · replace H := ab_ifn H hc
    refine ab_iconst (z := 1) (v := (1 : Int32)) (by decide +kernel) (by decide) ?_
    refine ab_goto (off := 7) (tgt := 96) (by decide +kernel) rfl ?_
    exact ab_wk (ab_le_some (ab_le_nil)) (fX8_scanWord_96_ok hB H  K0)
def fX8_scanWord_5 (I : ab_I) (J : ab_J) : Option ((ab_I × ab_J) ⊕ (ab_I × ab_J)) :=
  if (I 1 1) ≤ (I 22 1) then
    (fX8_scanWord_73 I J).map .inr
  else
    (fX7_at (I 22 1) I).bind fun u2 =>
    (fX8_isLetter u2).bind fun u3 =>
    if u3 = 0 then
      (fX8_scanWord_73 I J).map .inr
    else
      (fX7_at (I 22 1) I).bind fun u5 =>
      some (.inl ((ab_u I 22 1 ((I 22 1) + (1 : Int32))), (ab_u J 22 5 (((J 22 5) <<< ((8 : Int32).toInt64 &&& 63)) ||| u5.toInt64))))
set_option maxRecDepth 100000 in
theorem fX8_scanWord_5_ok {l : Launch} {G : ab_G} {S : ab_S} {I : ab_I} {J : ab_J} {P : ab_P} {Q : ab_Q} (hB : bz_B S P) {x : ((ab_I × ab_J) ⊕ (ab_I × ab_J))} (H : fX8_scanWord_5 I J = some x) (K1 : ∀ s, x = (.inl s) → ab_WP l G mX8_scanWord 1 5 [some (.ref 22)] [] S s.1 s.2 P 0 0 Q) (K0 : ∀ r, x = (.inr r) → Q none S r.1 r.2 P) : ab_WP l G mX8_scanWord 1 5 [some (.ref 22)] [] S I J P 0 0 Q := by
  unfold fX8_scanWord_5 at H
  refine ab_aload_n (z := 0) (by decide +kernel) rfl rfl ?_
  refine gX8_1 (ix := 9) (by decide +kernel) tw_148 (hB.1 22 _ rfl) ?_
  refine ab_aload_n (z := 0) (by decide +kernel) rfl rfl ?_
  refine gX8_0 (ix := 28) (by decide +kernel) tw_147 (hB.1 22 _ rfl) (hB.2.1 29 (22, 0, 1) rfl) ?_
  refine gX7_1 (ix := 35) (by decide +kernel) tw_35 (hB.1 1 _ rfl) ?_
  refine ab_icmp_ge (off := 57) (tgt := 73) (by decide +kernel) rfl (fun hc => ?_) (fun hc => ?_)
  · replace H := ab_ifp H hc
    obtain ⟨y1, Hy, hx⟩ := ab_mp_of H
    subst hx
    replace H := Hy
    exact ab_wk (ab_le_some (ab_le_nil)) (fX8_scanWord_73_ok hB H  (K0 _ rfl))
  · replace H := ab_ifn H hc
    refine ab_aload_n (z := 0) (by decide +kernel) rfl rfl ?_
    refine gX8_0 (ix := 28) (by decide +kernel) tw_147 (hB.1 22 _ rfl) (hB.2.1 29 (22, 0, 1) rfl) ?_
    refine ab_aload_n (z := 0) (by decide +kernel) rfl rfl ?_
    refine gX8_1 (ix := 9) (by decide +kernel) tw_148 (hB.1 22 _ rfl) ?_
    obtain ⟨u2, hu2, H⟩ := ab_bd_of H
    refine kvX7_at (D := 0) (ix := 40) (by decide +kernel) tw_497 (hB.1 1 _ rfl) (by decide) (Nat.le_of_ble_eq_true rfl) (mX7_at_ok hB hu2 ?_)
    change ab_WP l G mX8_scanWord 1 30 [some (.ref 22)] [.int u2] S I J P 0 0 Q
    obtain ⟨u3, hu3, H⟩ := ab_bd_of H
    refine ksX8_isLetter (D := 0) (ix := 48) (by decide +kernel) tw_504 (by decide) (Nat.le_of_ble_eq_true rfl) (mX8_isLetter_ok hB hu3 ?_)
    change ab_WP l G mX8_scanWord 1 33 [some (.ref 22)] [.int u3] S I J P 0 0 Q
    refine ab_if_eq (off := 40) (tgt := 73) (by decide +kernel) rfl (fun hc => ?_) (fun hc => ?_)
    · replace H := ab_ifp H hc
      obtain ⟨y4, Hy, hx⟩ := ab_mp_of H
      subst hx
      replace H := Hy
      exact ab_wk (ab_le_some (ab_le_nil)) (fX8_scanWord_73_ok hB H  (K0 _ rfl))
    · replace H := ab_ifn H hc
      refine ab_aload_n (z := 0) (by decide +kernel) rfl rfl ?_
      refine ab_aload_n (z := 0) (by decide +kernel) rfl rfl ?_
      refine gX8_5 (ix := 24) (by decide +kernel) tw_155 (hB.1 22 _ rfl) ?_
      refine ab_bipush (z := 8) (v := (8 : Int32)) (by decide +kernel) (by decide) ?_
      refine ab_lshl (by decide +kernel) ?_
      refine ab_aload_n (z := 0) (by decide +kernel) rfl rfl ?_
      refine gX8_0 (ix := 28) (by decide +kernel) tw_147 (hB.1 22 _ rfl) (hB.2.1 29 (22, 0, 1) rfl) ?_
      refine ab_aload_n (z := 0) (by decide +kernel) rfl rfl ?_
      refine gX8_1 (ix := 9) (by decide +kernel) tw_148 (hB.1 22 _ rfl) ?_
      obtain ⟨u5, hu5, H⟩ := ab_bd_of H
      refine kvX7_at (D := 0) (ix := 40) (by decide +kernel) tw_497 (hB.1 1 _ rfl) (by decide) (Nat.le_of_ble_eq_true rfl) (mX7_at_ok hB hu5 ?_)
      change ab_WP l G mX8_scanWord 1 55 [some (.ref 22)] [.int u5, .long ((J 22 5) <<< ((8 : Int32).toInt64 &&& 63)), .ref 22] S I J P 0 0 Q
      refine ab_i2l (by decide +kernel) ?_
      refine ab_lor (by decide +kernel) ?_
      refine pX8_5 (ix := 24) (by decide +kernel) tw_155 (hB.1 22 _ rfl) ?_
      refine ab_aload_n (z := 0) (by decide +kernel) rfl rfl ?_
      refine ab_dup (by decide +kernel) rfl ?_
      refine gX8_1 (ix := 9) (by decide +kernel) tw_148 (hB.1 22 _ rfl) ?_
      refine ab_iconst (z := 1) (v := (1 : Int32)) (by decide +kernel) (by decide) ?_
      refine ab_iadd (by decide +kernel) ?_
      refine pX8_1 (ix := 9) (by decide +kernel) tw_148 (hB.1 22 _ rfl) ?_
      refine ab_goto (off := -65) (tgt := 5) (by decide +kernel) rfl ?_
      exact ab_wk (ab_le_some (ab_le_nil)) (K1 ((ab_u I 22 1 ((I 22 1) + (1 : Int32))), (ab_u J 22 5 (((J 22 5) <<< ((8 : Int32).toInt64 &&& 63)) ||| u5.toInt64))) (Option.some.inj H).symm)
def fX8_scanWord (I : ab_I) (J : ab_J) : Option (ab_I × ab_J) :=
  ab_it (fun s => fX8_scanWord_5 s.1 s.2) 5000 (I, (ab_u J 22 5 (0 : Int64)))
set_option maxRecDepth 100000 in
theorem mX8_scanWord_ok {l : Launch} {G : ab_G} {S : ab_S} {I : ab_I} {J : ab_J} {P : ab_P} {Q : ab_Q} (hB : bz_B S P) {x : ab_I × ab_J} (H : fX8_scanWord I J = some x) (K0 : Q none S x.1 x.2 P) : ab_Call l G mX8_scanWord 1 [.ref 22] S I J P Q := by
  unfold fX8_scanWord at H
  refine ab_enter rfl (Nat.le_of_ble_eq_true rfl) (ab_wk (ls' := [some (.ref 22)]) (ab_le_some (ab_le_nil)) ?_)
  refine ab_aload_n (z := 0) (by decide +kernel) rfl rfl ?_
  refine ab_lconst (z := 0) (v := (0 : Int64)) (by decide +kernel) (by decide) ?_
  refine pX8_5 (ix := 24) (by decide +kernel) tw_155 (hB.1 22 _ rfl) ?_
  exact ab_wk (ab_le_some (ab_le_nil)) (ab_iter (W := fun s => ab_WP l G mX8_scanWord 1 5 [some (.ref 22)] [] S s.1 s.2 P 0 0 Q) (fun s y hb h1 h2 => fX8_scanWord_5_ok hB hb h1 (fun r e => by have e2 := h2 _ e; subst e2; exact K0)) 5000 (I, (ab_u J 22 5 (0 : Int64))) H)
abbrev mX8_isDigit : ab_M := (yX8_isDigit, cX8_isDigit, 1, some .boolean, 0, 0)
theorem ksX8_isDigit {l : Launch} {G : ab_G} {M : ab_M} {d pc : Nat} {ls : List (Option Value)} {st : List Value} {S : ab_S} {I : ab_I} {J : ab_J} {P : ab_P} {Q : ab_Q} {v0 : Value} {ix D : Nat} (hd : decode M.2.1 pc = .ok (.invokestatic ix, 3)) (h1 : Cond.methodLink M.1.cls ix mX8_isDigit.1 ∈ ab_good) (hdg : D + 1 ≤ d) (hsum : (st.map fun v => v.category).sum ≤ 8) (kk : ab_Call l G mX8_isDigit D [v0] S I J P (fun v S' I' J' P' => ab_WP l G M d (pc + 3) ls (ab_psh v st) S' I' J' P' 0 0 Q)) : ab_WP l G M d pc ls (v0 :: st) S I J P 0 0 Q := bz_ks (g := mX8_isDigit) (as := [v0]) rfl hd h1 tw_518 tw_6 tw_519 ⟨by decide +kernel, by decide +kernel, (by decide +kernel : (parseMethodDescriptor mX8_isDigit.1.desc).map (fun d => d.parameters.length) = some 1)⟩ (by decide) rfl hdg hsum kk
def fX8_isDigit_17 (a0 : Int32) (s0 : Int32) : Option Int32 :=
  ab_gd (s0 = 0 ∨ s0 = 1) (some s0)
set_option maxRecDepth 100000 in
theorem fX8_isDigit_17_ok {l : Launch} {G : ab_G} {S : ab_S} {I : ab_I} {J : ab_J} {P : ab_P} {Q : ab_Q} {a0 : Int32} {s0 : Int32} (hB : bz_B S P) {x : Int32} (H : fX8_isDigit_17 a0 s0 = some x) (K0 : Q (some (.int x)) S I J P) : ab_WP l G mX8_isDigit 0 17 [some (.int a0)] [.int s0] S I J P 0 0 Q := by
  unfold fX8_isDigit_17 at H
  obtain ⟨hg, H⟩ := ab_gd_of H
  obtain rfl := Option.some.inj H
  exact ab_zret (by decide +kernel) rfl (Nat.le_refl _) (Nat.le_refl _) hg K0
def fX8_isDigit_16 (a0 : Int32) : Option Int32 :=
  fX8_isDigit_17 a0 (0 : Int32)
set_option maxRecDepth 100000 in
theorem fX8_isDigit_16_ok {l : Launch} {G : ab_G} {S : ab_S} {I : ab_I} {J : ab_J} {P : ab_P} {Q : ab_Q} {a0 : Int32} (hB : bz_B S P) {x : Int32} (H : fX8_isDigit_16 a0 = some x) (K0 : Q (some (.int x)) S I J P) : ab_WP l G mX8_isDigit 0 16 [some (.int a0)] [] S I J P 0 0 Q := by
  unfold fX8_isDigit_16 at H
  refine ab_iconst (z := 0) (v := (0 : Int32)) (by decide +kernel) (by decide) ?_
  exact ab_wk (ab_le_some (ab_le_nil)) (fX8_isDigit_17_ok hB H  K0)
def fX8_isDigit (a0 : Int32) : Option Int32 :=
  if a0 < (48 : Int32) then
    fX8_isDigit_16 a0
  else
    if (57 : Int32) < a0 then
      fX8_isDigit_16 a0
    else
      fX8_isDigit_17 a0 (1 : Int32)
set_option maxRecDepth 100000 in
theorem mX8_isDigit_ok {l : Launch} {G : ab_G} {S : ab_S} {I : ab_I} {J : ab_J} {P : ab_P} {Q : ab_Q} {a0 : Int32} (hB : bz_B S P) {x : Int32} (H : fX8_isDigit a0 = some x) (K0 : Q (some (.int x)) S I J P) : ab_Call l G mX8_isDigit 0 [.int a0] S I J P Q := by
  unfold fX8_isDigit at H
  refine ab_enter rfl (Nat.le_of_ble_eq_true rfl) (ab_wk (ls' := [some (.int a0)]) (ab_le_some (ab_le_nil)) ?_)
  refine ab_iload_n (z := 0) (by decide +kernel) rfl rfl ?_
  refine ab_bipush (z := 48) (v := (48 : Int32)) (by decide +kernel) (by decide) ?_
  refine ab_icmp_lt (off := 13) (tgt := 16) (by decide +kernel) rfl (fun hc => ?_) (fun hc => ?_)
  · replace H := ab_ifp H hc
    exact ab_wk (ab_le_some (ab_le_nil)) (fX8_isDigit_16_ok hB H  K0)
  · replace H := ab_ifn H hc
    refine ab_iload_n (z := 0) (by decide +kernel) rfl rfl ?_
    refine ab_bipush (z := 57) (v := (57 : Int32)) (by decide +kernel) (by decide) ?_
    refine ab_icmp_gt (off := 7) (tgt := 16) (by decide +kernel) rfl (fun hc => ?_) (fun hc => ?_)
    · replace H := ab_ifp H hc
      exact ab_wk (ab_le_some (ab_le_nil)) (fX8_isDigit_16_ok hB H  K0)
    · replace H := ab_ifn H hc
      refine ab_iconst (z := 1) (v := (1 : Int32)) (by decide +kernel) (by decide) ?_
      refine ab_goto (off := 4) (tgt := 17) (by decide +kernel) rfl ?_
      exact ab_wk (ab_le_some (ab_le_nil)) (fX8_isDigit_17_ok hB H  K0)
abbrev mX8_scanNumber : ab_M := (yX8_scanNumber, cX8_scanNumber, 2, none, 0, 0)
theorem kvX8_scanNumber {l : Launch} {G : ab_G} {M : ab_M} {d pc : Nat} {ls : List (Option Value)} {st : List Value} {S : ab_S} {I : ab_I} {J : ab_J} {P : ab_P} {Q : ab_Q} {ix D r ln : Nat} (hd : decode M.2.1 pc = .ok (.invokevirtual ix, 3)) (h1 : Cond.methodLink M.1.cls ix mX8_scanNumber.1 ∈ ab_good) (hs : S[r]? = some (13, ln)) (hdg : D + 1 ≤ d) (hsum : (st.map fun v => v.category).sum ≤ 8) (kk : ab_Call l G mX8_scanNumber D (.ref r :: []) S I J P (fun v S' I' J' P' => ab_WP l G M d (pc + 3) ls (ab_psh v st) S' I' J' P' 0 0 Q)) : ab_WP l G M d pc ls (.ref r :: st) S I J P 0 0 Q := bz_kv (g := mX8_scanNumber) (as := []) (cc := 8) rfl hd h1 tw_522 tw_p3 tw_6 tw_523 ⟨by decide +kernel, by decide +kernel, (by decide +kernel : (parseMethodDescriptor mX8_scanNumber.1.desc).map (fun d => d.parameters.length) = some 0)⟩ (by decide) rfl rfl rfl hdg hsum hs kk
def fX8_scanNumber_121 (s1 : Int32) (I : ab_I) : Option ab_I :=
  some (ab_u I 22 2 s1)
set_option maxRecDepth 100000 in
theorem fX8_scanNumber_121_ok {l : Launch} {G : ab_G} {S : ab_S} {I : ab_I} {J : ab_J} {P : ab_P} {Q : ab_Q} {s1 : Int32} (hB : bz_B S P) {x : ab_I} (H : fX8_scanNumber_121 s1 I = some x) (K0 : Q none S x J P) : ab_WP l G mX8_scanNumber 1 121 [some (.ref 22), none] [.int s1, .ref 22] S I J P 0 0 Q := by
  unfold fX8_scanNumber_121 at H
  refine pX8_2 (ix := 15) (by decide +kernel) tw_149 (hB.1 22 _ rfl) ?_
  obtain rfl := Option.some.inj H
  exact ab_vret (by decide +kernel) rfl (Nat.le_refl _) (Nat.le_refl _) K0
def fX8_scanNumber_116 (I : ab_I) : Option ab_I :=
  fX8_scanNumber_121 (1 : Int32) I
set_option maxRecDepth 100000 in
theorem fX8_scanNumber_116_ok {l : Launch} {G : ab_G} {S : ab_S} {I : ab_I} {J : ab_J} {P : ab_P} {Q : ab_Q} (hB : bz_B S P) {x : ab_I} (H : fX8_scanNumber_116 I = some x) (K0 : Q none S x J P) : ab_WP l G mX8_scanNumber 1 116 [some (.ref 22), none] [.ref 22] S I J P 0 0 Q := by
  unfold fX8_scanNumber_116 at H
  refine ab_iconst (z := 1) (v := (1 : Int32)) (by decide +kernel) (by decide) ?_
  refine ab_goto (off := 4) (tgt := 121) (by decide +kernel) rfl ?_
  exact ab_wk (ab_le_some (ab_le_none (ab_le_nil))) (fX8_scanNumber_121_ok hB H  K0)
def fX8_scanNumber_93 (s0 : Int32) (I : ab_I) : Option ab_I :=
  if s0 = 0 then
    (fX7_at (I 22 1) I).bind fun u6 =>
    (fX8_isLetter u6).bind fun u7 =>
    if u7 = 0 then
      fX8_scanNumber_121 (3 : Int32) I
    else
      fX8_scanNumber_116 I
  else
    fX8_scanNumber_116 I
set_option maxRecDepth 100000 in
theorem fX8_scanNumber_93_ok {l : Launch} {G : ab_G} {S : ab_S} {I : ab_I} {J : ab_J} {P : ab_P} {Q : ab_Q} {s0 : Int32} (hB : bz_B S P) {x : ab_I} (H : fX8_scanNumber_93 s0 I = some x) (K0 : Q none S x J P) : ab_WP l G mX8_scanNumber 1 93 [some (.ref 22), none] [.int s0] S I J P 0 0 Q := by
  unfold fX8_scanNumber_93 at H
  refine ab_istore_n (z := 1) (by decide +kernel) rfl (by decide) rfl ?_
  refine ab_ls (ls' := [some (.ref 22), some (.int s0)]) rfl ?_
  refine ab_aload_n (z := 0) (by decide +kernel) rfl rfl ?_
  refine ab_iload_n (z := 1) (by decide +kernel) rfl rfl ?_
  refine ab_if_ne (off := 20) (tgt := 116) (by decide +kernel) rfl (fun hc => ?_) (fun hc => ?_)
  · replace H := ab_ifn H hc
    exact ab_wk (ab_le_some (ab_le_none (ab_le_nil))) (fX8_scanNumber_116_ok hB H  K0)
  · replace H := ab_ifp H hc
    refine ab_aload_n (z := 0) (by decide +kernel) rfl rfl ?_
    refine gX8_0 (ix := 28) (by decide +kernel) tw_147 (hB.1 22 _ rfl) (hB.2.1 29 (22, 0, 1) rfl) ?_
    refine ab_aload_n (z := 0) (by decide +kernel) rfl rfl ?_
    refine gX8_1 (ix := 9) (by decide +kernel) tw_148 (hB.1 22 _ rfl) ?_
    obtain ⟨u6, hu6, H⟩ := ab_bd_of H
    refine kvX7_at (D := 0) (ix := 40) (by decide +kernel) tw_497 (hB.1 1 _ rfl) (by decide) (Nat.le_of_ble_eq_true rfl) (mX7_at_ok hB hu6 ?_)
    change ab_WP l G mX8_scanNumber 1 110 [some (.ref 22), some (.int s0)] [.int u6, .ref 22] S I J P 0 0 Q
    obtain ⟨u7, hu7, H⟩ := ab_bd_of H
    refine ksX8_isLetter (D := 0) (ix := 48) (by decide +kernel) tw_504 (by decide) (Nat.le_of_ble_eq_true rfl) (mX8_isLetter_ok hB hu7 ?_)
    change ab_WP l G mX8_scanNumber 1 113 [some (.ref 22), some (.int s0)] [.int u7, .ref 22] S I J P 0 0 Q
    refine ab_if_eq (off := 7) (tgt := 120) (by decide +kernel) rfl (fun hc => ?_) (fun hc => ?_)
    · replace H := ab_ifp H hc
      refine ab_iconst (z := 3) (v := (3 : Int32)) (by decide +kernel) (by decide) ?_
      exact ab_wk (ab_le_some (ab_le_none (ab_le_nil))) (fX8_scanNumber_121_ok hB H  K0)
    · replace H := ab_ifn H hc
      exact ab_wk (ab_le_some (ab_le_none (ab_le_nil))) (fX8_scanNumber_116_ok hB H  K0)
def fX8_scanNumber_75 (I : ab_I) : Option ab_I :=
  if ((I 22 1) - (I 22 3)) ≤ (4 : Int32) then
    fX8_scanNumber_93 (0 : Int32) I
  else
    fX8_scanNumber_93 (1 : Int32) I
set_option maxRecDepth 100000 in
theorem fX8_scanNumber_75_ok {l : Launch} {G : ab_G} {S : ab_S} {I : ab_I} {J : ab_J} {P : ab_P} {Q : ab_Q} (hB : bz_B S P) {x : ab_I} (H : fX8_scanNumber_75 I = some x) (K0 : Q none S x J P) : ab_WP l G mX8_scanNumber 1 75 [some (.ref 22), none] [] S I J P 0 0 Q := by
  unfold fX8_scanNumber_75 at H
  refine ab_aload_n (z := 0) (by decide +kernel) rfl rfl ?_
  refine gX8_1 (ix := 9) (by decide +kernel) tw_148 (hB.1 22 _ rfl) ?_
  refine ab_aload_n (z := 0) (by decide +kernel) rfl rfl ?_
  refine gX8_3 (ix := 18) (by decide +kernel) tw_151 (hB.1 22 _ rfl) ?_
  refine ab_isub (by decide +kernel) ?_
  refine ab_iconst (z := 4) (v := (4 : Int32)) (by decide +kernel) (by decide) ?_
  refine ab_icmp_le (off := 7) (tgt := 92) (by decide +kernel) rfl (fun hc => ?_) (fun hc => ?_)
  · replace H := ab_ifp H hc
    refine ab_iconst (z := 0) (v := (0 : Int32)) (by decide +kernel) (by decide) ?_
    exact ab_wk (ab_le_some (ab_le_none (ab_le_nil))) (fX8_scanNumber_93_ok hB H  K0)
  · replace H := ab_ifn H hc
    refine ab_iconst (z := 1) (v := (1 : Int32)) (by decide +kernel) (by decide) ?_
    refine ab_goto (off := 4) (tgt := 93) (by decide +kernel) rfl ?_
    exact ab_wk (ab_le_some (ab_le_none (ab_le_nil))) (fX8_scanNumber_93_ok hB H  K0)
def fX8_scanNumber_5 (I : ab_I) : Option ((ab_I) ⊕ ab_I) :=
  if (I 1 1) ≤ (I 22 1) then
    (fX8_scanNumber_75 I).map .inr
  else
    (fX7_at (I 22 1) I).bind fun u2 =>
    (fX8_isDigit u2).bind fun u3 =>
    if u3 = 0 then
      (fX8_scanNumber_75 I).map .inr
    else
      (fX7_at (I 22 1) I).bind fun u5 =>
      some (.inl (ab_u (ab_u I 22 4 ((((I 22 4) * (10 : Int32)) + u5) - (48 : Int32))) 22 1 ((I 22 1) + (1 : Int32))))
set_option maxRecDepth 100000 in
theorem fX8_scanNumber_5_ok {l : Launch} {G : ab_G} {S : ab_S} {I : ab_I} {J : ab_J} {P : ab_P} {Q : ab_Q} (hB : bz_B S P) {x : ((ab_I) ⊕ ab_I)} (H : fX8_scanNumber_5 I = some x) (K1 : ∀ s, x = (.inl s) → ab_WP l G mX8_scanNumber 1 5 [some (.ref 22), none] [] S s J P 0 0 Q) (K0 : ∀ r, x = (.inr r) → Q none S r J P) : ab_WP l G mX8_scanNumber 1 5 [some (.ref 22), none] [] S I J P 0 0 Q := by
  unfold fX8_scanNumber_5 at H
  refine ab_aload_n (z := 0) (by decide +kernel) rfl rfl ?_
  refine gX8_1 (ix := 9) (by decide +kernel) tw_148 (hB.1 22 _ rfl) ?_
  refine ab_aload_n (z := 0) (by decide +kernel) rfl rfl ?_
  refine gX8_0 (ix := 28) (by decide +kernel) tw_147 (hB.1 22 _ rfl) (hB.2.1 29 (22, 0, 1) rfl) ?_
  refine gX7_1 (ix := 35) (by decide +kernel) tw_35 (hB.1 1 _ rfl) ?_
  refine ab_icmp_ge (off := 59) (tgt := 75) (by decide +kernel) rfl (fun hc => ?_) (fun hc => ?_)
  · replace H := ab_ifp H hc
    obtain ⟨y1, Hy, hx⟩ := ab_mp_of H
    subst hx
    replace H := Hy
    exact ab_wk (ab_le_some (ab_le_none (ab_le_nil))) (fX8_scanNumber_75_ok hB H  (K0 _ rfl))
  · replace H := ab_ifn H hc
    refine ab_aload_n (z := 0) (by decide +kernel) rfl rfl ?_
    refine gX8_0 (ix := 28) (by decide +kernel) tw_147 (hB.1 22 _ rfl) (hB.2.1 29 (22, 0, 1) rfl) ?_
    refine ab_aload_n (z := 0) (by decide +kernel) rfl rfl ?_
    refine gX8_1 (ix := 9) (by decide +kernel) tw_148 (hB.1 22 _ rfl) ?_
    obtain ⟨u2, hu2, H⟩ := ab_bd_of H
    refine kvX7_at (D := 0) (ix := 40) (by decide +kernel) tw_497 (hB.1 1 _ rfl) (by decide) (Nat.le_of_ble_eq_true rfl) (mX7_at_ok hB hu2 ?_)
    change ab_WP l G mX8_scanNumber 1 30 [some (.ref 22), none] [.int u2] S I J P 0 0 Q
    obtain ⟨u3, hu3, H⟩ := ab_bd_of H
    refine ksX8_isDigit (D := 0) (ix := 54) (by decide +kernel) tw_517 (by decide) (Nat.le_of_ble_eq_true rfl) (mX8_isDigit_ok hB hu3 ?_)
    change ab_WP l G mX8_scanNumber 1 33 [some (.ref 22), none] [.int u3] S I J P 0 0 Q
    refine ab_if_eq (off := 42) (tgt := 75) (by decide +kernel) rfl (fun hc => ?_) (fun hc => ?_)
    · replace H := ab_ifp H hc
      obtain ⟨y4, Hy, hx⟩ := ab_mp_of H
      subst hx
      replace H := Hy
      exact ab_wk (ab_le_some (ab_le_none (ab_le_nil))) (fX8_scanNumber_75_ok hB H  (K0 _ rfl))
    · replace H := ab_ifn H hc
      refine ab_aload_n (z := 0) (by decide +kernel) rfl rfl ?_
      refine ab_aload_n (z := 0) (by decide +kernel) rfl rfl ?_
      refine gX8_4 (ix := 21) (by decide +kernel) tw_153 (hB.1 22 _ rfl) ?_
      refine ab_bipush (z := 10) (v := (10 : Int32)) (by decide +kernel) (by decide) ?_
      refine ab_imul (by decide +kernel) ?_
      refine ab_aload_n (z := 0) (by decide +kernel) rfl rfl ?_
      refine gX8_0 (ix := 28) (by decide +kernel) tw_147 (hB.1 22 _ rfl) (hB.2.1 29 (22, 0, 1) rfl) ?_
      refine ab_aload_n (z := 0) (by decide +kernel) rfl rfl ?_
      refine gX8_1 (ix := 9) (by decide +kernel) tw_148 (hB.1 22 _ rfl) ?_
      obtain ⟨u5, hu5, H⟩ := ab_bd_of H
      refine kvX7_at (D := 0) (ix := 40) (by decide +kernel) tw_497 (hB.1 1 _ rfl) (by decide) (Nat.le_of_ble_eq_true rfl) (mX7_at_ok hB hu5 ?_)
      change ab_WP l G mX8_scanNumber 1 55 [some (.ref 22), none] [.int u5, .int ((I 22 4) * (10 : Int32)), .ref 22] S I J P 0 0 Q
      refine ab_iadd (by decide +kernel) ?_
      refine ab_bipush (z := 48) (v := (48 : Int32)) (by decide +kernel) (by decide) ?_
      refine ab_isub (by decide +kernel) ?_
      refine pX8_4 (ix := 21) (by decide +kernel) tw_153 (hB.1 22 _ rfl) ?_
      refine ab_aload_n (z := 0) (by decide +kernel) rfl rfl ?_
      refine ab_dup (by decide +kernel) rfl ?_
      refine gX8_1 (ix := 9) (by decide +kernel) tw_148 (hB.1 22 _ rfl) ?_
      refine ab_top (y := (I 22 1)) rfl ?_
      refine ab_iconst (z := 1) (v := (1 : Int32)) (by decide +kernel) (by decide) ?_
      refine ab_iadd (by decide +kernel) ?_
      refine pX8_1 (ix := 9) (by decide +kernel) tw_148 (hB.1 22 _ rfl) ?_
      refine ab_goto (off := -67) (tgt := 5) (by decide +kernel) rfl ?_
      exact ab_wk (ab_le_some (ab_le_none (ab_le_nil))) (K1 (ab_u (ab_u I 22 4 ((((I 22 4) * (10 : Int32)) + u5) - (48 : Int32))) 22 1 ((I 22 1) + (1 : Int32))) (Option.some.inj H).symm)
def fX8_scanNumber (I : ab_I) : Option ab_I :=
  ab_it (fun s => fX8_scanNumber_5 s) 5000 (ab_u I 22 4 (0 : Int32))
set_option maxRecDepth 100000 in
theorem mX8_scanNumber_ok {l : Launch} {G : ab_G} {S : ab_S} {I : ab_I} {J : ab_J} {P : ab_P} {Q : ab_Q} (hB : bz_B S P) {x : ab_I} (H : fX8_scanNumber I = some x) (K0 : Q none S x J P) : ab_Call l G mX8_scanNumber 1 [.ref 22] S I J P Q := by
  unfold fX8_scanNumber at H
  refine ab_enter rfl (Nat.le_of_ble_eq_true rfl) (ab_wk (ls' := [some (.ref 22), none]) (ab_le_some (ab_le_non0 ab_le_nil)) ?_)
  refine ab_aload_n (z := 0) (by decide +kernel) rfl rfl ?_
  refine ab_iconst (z := 0) (v := (0 : Int32)) (by decide +kernel) (by decide) ?_
  refine pX8_4 (ix := 21) (by decide +kernel) tw_153 (hB.1 22 _ rfl) ?_
  exact ab_wk (ab_le_some (ab_le_none (ab_le_nil))) (ab_iter (W := fun s => ab_WP l G mX8_scanNumber 1 5 [some (.ref 22), none] [] S s J P 0 0 Q) (fun s y hb h1 h2 => fX8_scanNumber_5_ok hB hb h1 (fun r e => by have e2 := h2 _ e; subst e2; exact K0)) 5000 (ab_u I 22 4 (0 : Int32)) H)
