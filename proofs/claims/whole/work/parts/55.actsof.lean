abbrev mX11_day : ab_M := (yX11_day, cX11_day, 1, some .int, 4, 48)
def fX11_day (S : ab_S) (I : ab_I) (P : ab_P) : Option (Int32 × ab_S × ab_I × ab_P) :=
  (P 0 12).bind fun z1 =>
  if (I z1 4) < (999 : Int32) then
    (P 0 12).bind fun z2 =>
    (fX0_keep z2 S I P).bind fun u3 =>
    (u3.2.2 0 12).bind fun z4 =>
    (fX5_passDay z4 (1 : Int32) u3.2.1).bind fun u5 =>
    some (u5.1, u3.1, u5.2, u3.2.2)
  else
    some ((-1 : Int32), S, I, P)
set_option maxRecDepth 100000 in
theorem mX11_day_ok {l : Launch} {G : ab_G} {S : ab_S} {I : ab_I} {J : ab_J} {P : ab_P} {Q : ab_Q} (hB : bz_B S P) (hZ : bz_Z S.length I J P) {x : Int32 × ab_S × ab_I × ab_P} (H : fX11_day S I P = some x) (K0 : Q (some (.int x.1)) x.2.1 x.2.2.1 J x.2.2.2) : ab_Call l G mX11_day 5 [.ref 0] S I J P Q := by
  unfold fX11_day at H
  refine ab_enter rfl (Nat.le_of_ble_eq_true rfl) (ab_wk (ls' := [some (.ref 0)]) (ab_le_some (ab_le_nil)) ?_)
  refine ab_aload_n (z := 0) (by decide +kernel) rfl rfl ?_
  obtain ⟨z1, hz1, H⟩ := ab_bd_of H
  refine gX11_12 (ix := 89) (by decide +kernel) tw_420 (hB.1 0 _ rfl) hz1 ?_
  have sz1 := hB.2.2.1 _ hz1
  refine gX6_4 (ix := 181) (by decide +kernel) tw_263 sz1.1 ?_
  refine ab_sipush (z := 999) (v := (999 : Int32)) (by decide +kernel) (by decide) ?_
  refine ab_icmp_lt (off := 5) (tgt := 15) (by decide +kernel) rfl (fun hc => ?_) (fun hc => ?_)
  · replace H := ab_ifp H hc
    refine ab_aload_n (z := 0) (by decide +kernel) rfl rfl ?_
    refine gX11_7 (ix := 67) (by decide +kernel) tw_415 (hB.1 0 _ rfl) (hB.2.1 7 (0, 7, 53) rfl) ?_
    refine ab_aload_n (z := 0) (by decide +kernel) rfl rfl ?_
    obtain ⟨z2, hz2, H⟩ := ab_bd_of H
    refine gX11_12 (ix := 89) (by decide +kernel) tw_420 (hB.1 0 _ rfl) hz2 ?_
    have sz2 := hB.2.2.1 _ hz2
    obtain ⟨u3, hu3, H⟩ := ab_bd_of H
    have hB2 := fX0_keep_B hB sz2 hu3
    have hS2 := fun q => fX0_keep_st (q2 := q) hB hu3
    refine ab_callV (g := mX0_keep) (ix := 184) (dg := 2) (r := 53) (cc := 0) (as := [.ref z2]) (st := []) (by decide +kernel) tw_731 tw_732 tw_733 tw_12 tw_734 ⟨by decide +kernel, by decide +kernel, (by decide +kernel : (parseMethodDescriptor mX0_keep.1.desc).map (fun d => d.parameters.length) = some 1)⟩ (by decide) rfl rfl rfl (by decide) (by decide) (by decide) (Nat.le_of_ble_eq_true rfl) (hB.1 53 _ rfl) (mX0_keep_ok hB hZ sz2 hu3 ?_)
    change ab_WP l G mX11_day 5 26 [some (.ref 0)] [] u3.1 u3.2.1 J u3.2.2 4 48 Q
    refine ab_aload_n (z := 0) (by decide +kernel) rfl rfl ?_
    refine gX11_3 (ix := 37) (by decide +kernel) tw_411 (hB2.1 0 _ rfl) (hB2.2.1 3 (0, 3, 23) rfl) ?_
    refine ab_aload_n (z := 0) (by decide +kernel) rfl rfl ?_
    obtain ⟨z4, hz4, H⟩ := ab_bd_of H
    refine gX11_12 (ix := 89) (by decide +kernel) tw_420 (hB2.1 0 _ rfl) hz4 ?_
    have sz4 := hB2.2.2.1 _ hz4
    refine ab_iconst (z := 1) (v := (1 : Int32)) (by decide +kernel) (by decide) ?_
    obtain ⟨u5, hu5, H⟩ := ab_bd_of H
    refine ab_callV (g := mX5_passDay) (ix := 187) (dg := 4) (r := 23) (cc := 5) (as := [.ref z4, .int (1 : Int32)]) (st := []) (by decide +kernel) tw_741 tw_659 tw_660 tw_7 tw_661 ⟨by decide +kernel, by decide +kernel, (by decide +kernel : (parseMethodDescriptor mX5_passDay.1.desc).map (fun d => d.parameters.length) = some 2)⟩ (by decide) rfl rfl rfl (by decide) (by decide) (by decide) (Nat.le_of_ble_eq_true rfl) (hB2.1 23 _ rfl) (mX5_passDay_ok hB2 sz4 hu5 ?_)
    change ab_WP l G mX11_day 5 38 [some (.ref 0)] [.int u5.1] u3.1 u5.2 J u3.2.2 4 48 Q
    obtain rfl := Option.some.inj H
    exact ab_iret (by decide +kernel) rfl (by decide) (by decide) K0
  · replace H := ab_ifn H hc
    refine ab_iconst (z := -1) (v := (-1 : Int32)) (by decide +kernel) (by decide) ?_
    obtain rfl := Option.some.inj H
    exact ab_iret (by decide +kernel) rfl (by decide) (by decide) K0
abbrev mX11_want : ab_M := (yX11_want, cX11_want, 5, some .int, 4, 48)
def fX11_want_22 (a1 : Int32) (a2 : Int32) (a3 : Int32) (S : ab_S) (I : ab_I) (P : ab_P) : Option (Int32 × ab_S × ab_I × ab_P) :=
  some ((-1 : Int32), S, I, P)
set_option maxRecDepth 100000 in
theorem fX11_want_22_ok {l : Launch} {G : ab_G} {S : ab_S} {I : ab_I} {J : ab_J} {P : ab_P} {Q : ab_Q} {a1 : Int32} {a2 : Int32} {a3 : Int32} (hB : bz_B S P) (hZ : bz_Z S.length I J P) {x : Int32 × ab_S × ab_I × ab_P} (H : fX11_want_22 a1 a2 a3 S I P = some x) (K0 : Q (some (.int x.1)) x.2.1 x.2.2.1 J x.2.2.2) : ab_WP l G mX11_want 3 22 [some (.ref 0), some (.int a1), some (.int a2), some (.int a3), none] [] S I J P 0 0 Q := by
  unfold fX11_want_22 at H
  refine ab_iconst (z := -1) (v := (-1 : Int32)) (by decide +kernel) (by decide) ?_
  obtain rfl := Option.some.inj H
  exact ab_iret (by decide +kernel) rfl (by decide) (by decide) K0
def fX11_want (a1 : Int32) (a2 : Int32) (a3 : Int32) (S : ab_S) (I : ab_I) (P : ab_P) : Option (Int32 × ab_S × ab_I × ab_P) :=
  (fX9_isPair a1 a2 I).bind fun u1 =>
  if u1 = 0 then
    fX11_want_22 a1 a2 a3 S I P
  else
    (fX11_within a3 (0 : Int32) (20 : Int32)).bind fun u2 =>
    if u2 = 0 then
      fX11_want_22 a1 a2 a3 S I P
    else
      (P 0 12).bind fun z3 =>
      (fX11_cell a1 a2).bind fun u4 =>
      ab_gd (ab_ix u4 30 = true) (
        if (I (z3 + 3) u4.toNatClampNeg) = a3 then
          some ((-1 : Int32), S, I, P)
        else
          (P 0 12).bind fun z5 =>
          (fX0_keep z5 S I P).bind fun u6 =>
          (u6.2.2 0 12).bind fun z7 =>
          (fX11_cell a1 a2).bind fun u8 =>
          ab_gd (ab_ix u8 30 = true) (
            some ((I (z3 + 3) u4.toNatClampNeg), u6.1, (ab_u u6.2.1 (z7 + 3) u8.toNatClampNeg a3), u6.2.2)
          )
      )
set_option maxRecDepth 100000 in
theorem mX11_want_ok {l : Launch} {G : ab_G} {S : ab_S} {I : ab_I} {J : ab_J} {P : ab_P} {Q : ab_Q} {a1 : Int32} {a2 : Int32} {a3 : Int32} (hB : bz_B S P) (hZ : bz_Z S.length I J P) {x : Int32 × ab_S × ab_I × ab_P} (H : fX11_want a1 a2 a3 S I P = some x) (K0 : Q (some (.int x.1)) x.2.1 x.2.2.1 J x.2.2.2) : ab_Call l G mX11_want 3 [.ref 0, .int a1, .int a2, .int a3] S I J P Q := by
  unfold fX11_want at H
  refine ab_enter rfl (Nat.le_of_ble_eq_true rfl) (ab_wk (ls' := [some (.ref 0), some (.int a1), some (.int a2), some (.int a3), none]) (ab_le_some (ab_le_some (ab_le_some (ab_le_some (ab_le_non0 ab_le_nil))))) ?_)
  refine ab_aload_n (z := 0) (by decide +kernel) rfl rfl ?_
  refine gX11_1 (ix := 19) (by decide +kernel) tw_409 (hB.1 0 _ rfl) (hB.2.1 1 (0, 1, 3) rfl) ?_
  refine ab_iload_n (z := 1) (by decide +kernel) rfl rfl ?_
  refine ab_iload_n (z := 2) (by decide +kernel) rfl rfl ?_
  obtain ⟨u1, hu1, H⟩ := ab_bd_of H
  refine kvX9_isPair (D := 1) (ix := 150) (by decide +kernel) tw_701 (hB.1 3 _ rfl) (by decide) (Nat.le_of_ble_eq_true rfl) (mX9_isPair_ok hB hu1 ?_)
  change ab_WP l G mX11_want 3 9 [some (.ref 0), some (.int a1), some (.int a2), some (.int a3), none] [.int u1] S I J P 0 0 Q
  refine ab_if_eq (off := 13) (tgt := 22) (by decide +kernel) rfl (fun hc => ?_) (fun hc => ?_)
  · replace H := ab_ifp H hc
    exact ab_wk (ab_le_some (ab_le_some (ab_le_some (ab_le_some (ab_le_none (ab_le_nil)))))) (fX11_want_22_ok hB hZ H  K0)
  · replace H := ab_ifn H hc
    refine ab_iload_n (z := 3) (by decide +kernel) rfl rfl ?_
    refine ab_iconst (z := 0) (v := (0 : Int32)) (by decide +kernel) (by decide) ?_
    refine ab_bipush (z := 20) (v := (20 : Int32)) (by decide +kernel) (by decide) ?_
    obtain ⟨u2, hu2, H⟩ := ab_bd_of H
    refine ksX11_within (D := 0) (ix := 191) (by decide +kernel) tw_746 (by decide) (Nat.le_of_ble_eq_true rfl) (mX11_within_ok hB hu2 ?_)
    change ab_WP l G mX11_want 3 19 [some (.ref 0), some (.int a1), some (.int a2), some (.int a3), none] [.int u2] S I J P 0 0 Q
    refine ab_if_ne (off := 5) (tgt := 24) (by decide +kernel) rfl (fun hc => ?_) (fun hc => ?_)
    · replace H := ab_ifn H hc
      refine ab_aload_n (z := 0) (by decide +kernel) rfl rfl ?_
      obtain ⟨z3, hz3, H⟩ := ab_bd_of H
      refine gX11_12 (ix := 89) (by decide +kernel) tw_420 (hB.1 0 _ rfl) hz3 ?_
      have sz3 := hB.2.2.1 _ hz3
      refine gX6_2 (ix := 154) (by decide +kernel) tw_249 sz3.1 sz3.2.2.2.2.2.2 ?_
      refine ab_iload_n (z := 1) (by decide +kernel) rfl rfl ?_
      refine ab_iload_n (z := 2) (by decide +kernel) rfl rfl ?_
      obtain ⟨u4, hu4, H⟩ := ab_bd_of H
      refine ksX11_cell (D := 0) (ix := 157) (by decide +kernel) tw_710 (by decide) (Nat.le_of_ble_eq_true rfl) (mX11_cell_ok hB hu4 ?_)
      change ab_WP l G mX11_want 3 36 [some (.ref 0), some (.int a1), some (.int a2), some (.int a3), none] [.int u4, .ref (z3 + 3)] S I J P 0 0 Q
      obtain ⟨hg, H⟩ := ab_gd_of H
      refine ab_iald (ln := 30) (by decide +kernel) sz3.2.2.2.1 (ab_ix_in hg) ?_
      refine ab_istore (i := 4) (by decide +kernel) (by decide) rfl ?_
      refine ab_ls (ls' := [some (.ref 0), some (.int a1), some (.int a2), some (.int a3), some (.int (I (z3 + 3) u4.toNatClampNeg))]) rfl ?_
      refine ab_iload (i := 4) (by decide +kernel) rfl ?_
      refine ab_iload_n (z := 3) (by decide +kernel) rfl rfl ?_
      refine ab_icmp_ne (off := 5) (tgt := 47) (by decide +kernel) rfl (fun hc => ?_) (fun hc => ?_)
      · replace H := ab_ifn H hc
        refine ab_aload_n (z := 0) (by decide +kernel) rfl rfl ?_
        refine gX11_7 (ix := 67) (by decide +kernel) tw_415 (hB.1 0 _ rfl) (hB.2.1 7 (0, 7, 53) rfl) ?_
        refine ab_aload_n (z := 0) (by decide +kernel) rfl rfl ?_
        obtain ⟨z5, hz5, H⟩ := ab_bd_of H
        refine gX11_12 (ix := 89) (by decide +kernel) tw_420 (hB.1 0 _ rfl) hz5 ?_
        have sz5 := hB.2.2.1 _ hz5
        obtain ⟨u6, hu6, H⟩ := ab_bd_of H
        have hB2 := fX0_keep_B hB sz5 hu6
        have hS2 := fun q => fX0_keep_st (q2 := q) hB hu6
        refine ab_callV (g := mX0_keep) (ix := 184) (dg := 2) (r := 53) (cc := 0) (as := [.ref z5]) (st := []) (by decide +kernel) tw_731 tw_732 tw_733 tw_12 tw_734 ⟨by decide +kernel, by decide +kernel, (by decide +kernel : (parseMethodDescriptor mX0_keep.1.desc).map (fun d => d.parameters.length) = some 1)⟩ (by decide) rfl rfl rfl (by decide) (by decide) (by decide) (Nat.le_of_ble_eq_true rfl) (hB.1 53 _ rfl) (mX0_keep_ok hB hZ sz5 hu6 ?_)
        change ab_WP l G mX11_want 3 58 [some (.ref 0), some (.int a1), some (.int a2), some (.int a3), some (.int (I (z3 + 3) u4.toNatClampNeg))] [] u6.1 u6.2.1 J u6.2.2 4 48 Q
        refine ab_aload_n (z := 0) (by decide +kernel) rfl rfl ?_
        obtain ⟨z7, hz7, H⟩ := ab_bd_of H
        refine gX11_12 (ix := 89) (by decide +kernel) tw_420 (hB2.1 0 _ rfl) hz7 ?_
        have sz7 := hB2.2.2.1 _ hz7
        refine gX6_2 (ix := 154) (by decide +kernel) tw_249 sz7.1 sz7.2.2.2.2.2.2 ?_
        refine ab_iload_n (z := 1) (by decide +kernel) rfl rfl ?_
        refine ab_iload_n (z := 2) (by decide +kernel) rfl rfl ?_
        obtain ⟨u8, hu8, H⟩ := ab_bd_of H
        refine ab_callS (g := mX11_cell) (ix := 157) (dg := 0) (as := [.int a1, .int a2]) (st := [.ref (z7 + 3)]) (by decide +kernel) tw_710 tw_568 tw_1 tw_569 ⟨by decide +kernel, by decide +kernel, (by decide +kernel : (parseMethodDescriptor mX11_cell.1.desc).map (fun d => d.parameters.length) = some 2)⟩ (by decide) rfl (by decide) (by decide) (by decide) (Nat.le_of_ble_eq_true rfl) (mX11_cell_ok hB2 hu8 ?_)
        change ab_WP l G mX11_want 3 70 [some (.ref 0), some (.int a1), some (.int a2), some (.int a3), some (.int (I (z3 + 3) u4.toNatClampNeg))] [.int u8, .ref (z7 + 3)] u6.1 u6.2.1 J u6.2.2 4 48 Q
        refine ab_iload_n (z := 3) (by decide +kernel) rfl rfl ?_
        obtain ⟨hg, H⟩ := ab_gd_of H
        refine ab_iast (ln := 30) (by decide +kernel) sz7.2.2.2.1 (ab_ix_in hg) ?_
        refine ab_iload (i := 4) (by decide +kernel) rfl ?_
        obtain rfl := Option.some.inj H
        exact ab_iret (by decide +kernel) rfl (by decide) (by decide) K0
      · replace H := ab_ifp H hc
        refine ab_iconst (z := -1) (v := (-1 : Int32)) (by decide +kernel) (by decide) ?_
        obtain rfl := Option.some.inj H
        exact ab_iret (by decide +kernel) rfl (by decide) (by decide) K0
    · replace H := ab_ifp H hc
      exact ab_wk (ab_le_some (ab_le_some (ab_le_some (ab_le_some (ab_le_none (ab_le_nil)))))) (fX11_want_22_ok hB hZ H  K0)
abbrev mX11_leave : ab_M := (yX11_leave, cX11_leave, 2, some .int, 4, 48)
def fX11_leave_22 (a1 : Int32) (S : ab_S) (I : ab_I) (P : ab_P) : Option (Int32 × ab_S × ab_I × ab_P) :=
  some ((-1 : Int32), S, I, P)
set_option maxRecDepth 100000 in
theorem fX11_leave_22_ok {l : Launch} {G : ab_G} {S : ab_S} {I : ab_I} {J : ab_J} {P : ab_P} {Q : ab_Q} {a1 : Int32} (hB : bz_B S P) (hZ : bz_Z S.length I J P) {x : Int32 × ab_S × ab_I × ab_P} (H : fX11_leave_22 a1 S I P = some x) (K0 : Q (some (.int x.1)) x.2.1 x.2.2.1 J x.2.2.2) : ab_WP l G mX11_leave 3 22 [some (.ref 0), some (.int a1)] [] S I J P 0 0 Q := by
  unfold fX11_leave_22 at H
  refine ab_iconst (z := -1) (v := (-1 : Int32)) (by decide +kernel) (by decide) ?_
  obtain rfl := Option.some.inj H
  exact ab_iret (by decide +kernel) rfl (by decide) (by decide) K0
def fX11_leave (a1 : Int32) (S : ab_S) (I : ab_I) (P : ab_P) : Option (Int32 × ab_S × ab_I × ab_P) :=
  (fX9_isPerson a1 I).bind fun u1 =>
  if u1 = 0 then
    fX11_leave_22 a1 S I P
  else
    (P 0 12).bind fun z2 =>
    (fX6_isHere z2 a1 I).bind fun u3 =>
    if u3 = 0 then
      fX11_leave_22 a1 S I P
    else
      (P 0 12).bind fun z4 =>
      (fX0_keep z4 S I P).bind fun u5 =>
      (u5.2.2 0 12).bind fun z6 =>
      (u5.2.2 0 12).bind fun z7 =>
      (fJ6_bitCount_0f7a4 ((ab_u u5.2.1 z6 3 ((u5.2.1 z6 3) &&& (((1 : Int32) <<< (a1 &&& 31)) ^^^ (-1 : Int32)))) z7 3)).bind fun u8 =>
      some (u8, u5.1, (ab_u u5.2.1 z6 3 ((u5.2.1 z6 3) &&& (((1 : Int32) <<< (a1 &&& 31)) ^^^ (-1 : Int32)))), u5.2.2)
set_option maxRecDepth 100000 in
theorem mX11_leave_ok {l : Launch} {G : ab_G} {S : ab_S} {I : ab_I} {J : ab_J} {P : ab_P} {Q : ab_Q} {a1 : Int32} (hB : bz_B S P) (hZ : bz_Z S.length I J P) {x : Int32 × ab_S × ab_I × ab_P} (H : fX11_leave a1 S I P = some x) (K0 : Q (some (.int x.1)) x.2.1 x.2.2.1 J x.2.2.2) : ab_Call l G mX11_leave 3 [.ref 0, .int a1] S I J P Q := by
  unfold fX11_leave at H
  refine ab_enter rfl (Nat.le_of_ble_eq_true rfl) (ab_wk (ls' := [some (.ref 0), some (.int a1)]) (ab_le_some (ab_le_some (ab_le_nil))) ?_)
  refine ab_aload_n (z := 0) (by decide +kernel) rfl rfl ?_
  refine gX11_1 (ix := 19) (by decide +kernel) tw_409 (hB.1 0 _ rfl) (hB.2.1 1 (0, 1, 3) rfl) ?_
  refine ab_iload_n (z := 1) (by decide +kernel) rfl rfl ?_
  obtain ⟨u1, hu1, H⟩ := ab_bd_of H
  refine kvX9_isPerson (D := 0) (ix := 129) (by decide +kernel) tw_636 (hB.1 3 _ rfl) (by decide) (Nat.le_of_ble_eq_true rfl) (mX9_isPerson_ok hB hu1 ?_)
  change ab_WP l G mX11_leave 3 8 [some (.ref 0), some (.int a1)] [.int u1] S I J P 0 0 Q
  refine ab_if_eq (off := 14) (tgt := 22) (by decide +kernel) rfl (fun hc => ?_) (fun hc => ?_)
  · replace H := ab_ifp H hc
    exact ab_wk (ab_le_some (ab_le_some (ab_le_nil))) (fX11_leave_22_ok hB hZ H  K0)
  · replace H := ab_ifn H hc
    refine ab_aload_n (z := 0) (by decide +kernel) rfl rfl ?_
    obtain ⟨z2, hz2, H⟩ := ab_bd_of H
    refine gX11_12 (ix := 89) (by decide +kernel) tw_420 (hB.1 0 _ rfl) hz2 ?_
    have sz2 := hB.2.2.1 _ hz2
    refine ab_iload_n (z := 1) (by decide +kernel) rfl rfl ?_
    obtain ⟨u3, hu3, H⟩ := ab_bd_of H
    refine kvX6_isHere (D := 0) (ix := 195) (by decide +kernel) tw_751 sz2.1 (by decide) (Nat.le_of_ble_eq_true rfl) (mX6_isHere_ok hB sz2 hu3 ?_)
    change ab_WP l G mX11_leave 3 19 [some (.ref 0), some (.int a1)] [.int u3] S I J P 0 0 Q
    refine ab_if_ne (off := 5) (tgt := 24) (by decide +kernel) rfl (fun hc => ?_) (fun hc => ?_)
    · replace H := ab_ifn H hc
      refine ab_aload_n (z := 0) (by decide +kernel) rfl rfl ?_
      refine gX11_7 (ix := 67) (by decide +kernel) tw_415 (hB.1 0 _ rfl) (hB.2.1 7 (0, 7, 53) rfl) ?_
      refine ab_aload_n (z := 0) (by decide +kernel) rfl rfl ?_
      obtain ⟨z4, hz4, H⟩ := ab_bd_of H
      refine gX11_12 (ix := 89) (by decide +kernel) tw_420 (hB.1 0 _ rfl) hz4 ?_
      have sz4 := hB.2.2.1 _ hz4
      obtain ⟨u5, hu5, H⟩ := ab_bd_of H
      have hB2 := fX0_keep_B hB sz4 hu5
      have hS2 := fun q => fX0_keep_st (q2 := q) hB hu5
      refine ab_callV (g := mX0_keep) (ix := 184) (dg := 2) (r := 53) (cc := 0) (as := [.ref z4]) (st := []) (by decide +kernel) tw_731 tw_732 tw_733 tw_12 tw_734 ⟨by decide +kernel, by decide +kernel, (by decide +kernel : (parseMethodDescriptor mX0_keep.1.desc).map (fun d => d.parameters.length) = some 1)⟩ (by decide) rfl rfl rfl (by decide) (by decide) (by decide) (Nat.le_of_ble_eq_true rfl) (hB.1 53 _ rfl) (mX0_keep_ok hB hZ sz4 hu5 ?_)
      change ab_WP l G mX11_leave 3 35 [some (.ref 0), some (.int a1)] [] u5.1 u5.2.1 J u5.2.2 4 48 Q
      refine ab_aload_n (z := 0) (by decide +kernel) rfl rfl ?_
      obtain ⟨z6, hz6, H⟩ := ab_bd_of H
      refine gX11_12 (ix := 89) (by decide +kernel) tw_420 (hB2.1 0 _ rfl) hz6 ?_
      have sz6 := hB2.2.2.1 _ hz6
      refine ab_dup (by decide +kernel) rfl ?_
      refine gX6_3 (ix := 139) (by decide +kernel) tw_258 sz6.1 ?_
      refine ab_iconst (z := 1) (v := (1 : Int32)) (by decide +kernel) (by decide) ?_
      refine ab_iload_n (z := 1) (by decide +kernel) rfl rfl ?_
      refine ab_ishl (by decide +kernel) ?_
      refine ab_iconst (z := -1) (v := (-1 : Int32)) (by decide +kernel) (by decide) ?_
      refine ab_ixor (by decide +kernel) ?_
      refine ab_iand (by decide +kernel) ?_
      refine pX6_3 (ix := 139) (by decide +kernel) tw_258 sz6.1 ?_
      refine ab_aload_n (z := 0) (by decide +kernel) rfl rfl ?_
      obtain ⟨z7, hz7, H⟩ := ab_bd_of H
      refine gX11_12 (ix := 89) (by decide +kernel) tw_420 (hB2.1 0 _ rfl) hz7 ?_
      have sz7 := hB2.2.2.1 _ hz7
      refine gX6_3 (ix := 139) (by decide +kernel) tw_258 sz7.1 ?_
      obtain ⟨u8, hu8, H⟩ := ab_bd_of H
      refine ab_callS (g := mJ6_bitCount_0f7a4) (ix := 198) (dg := 0) (as := [.int ((ab_u u5.2.1 z6 3 ((u5.2.1 z6 3) &&& (((1 : Int32) <<< (a1 &&& 31)) ^^^ (-1 : Int32)))) z7 3)]) (st := []) (by decide +kernel) tw_752 tw_681 tw_16 tw_682 ⟨by decide +kernel, by decide +kernel, (by decide +kernel : (parseMethodDescriptor mJ6_bitCount_0f7a4.1.desc).map (fun d => d.parameters.length) = some 1)⟩ (by decide) rfl (by decide) (by decide) (by decide) (Nat.le_of_ble_eq_true rfl) (mJ6_bitCount_0f7a4_ok hB2 hu8 ?_)
      change ab_WP l G mX11_leave 3 62 [some (.ref 0), some (.int a1)] [.int u8] u5.1 (ab_u u5.2.1 z6 3 ((u5.2.1 z6 3) &&& (((1 : Int32) <<< (a1 &&& 31)) ^^^ (-1 : Int32)))) J u5.2.2 4 48 Q
      obtain rfl := Option.some.inj H
      exact ab_iret (by decide +kernel) rfl (by decide) (by decide) K0
    · replace H := ab_ifp H hc
      exact ab_wk (ab_le_some (ab_le_some (ab_le_nil))) (fX11_leave_22_ok hB hZ H  K0)
abbrev mX11_come : ab_M := (yX11_come, cX11_come, 2, some .int, 4, 48)
def fX11_come_22 (a1 : Int32) (S : ab_S) (I : ab_I) (P : ab_P) : Option (Int32 × ab_S × ab_I × ab_P) :=
  some ((-1 : Int32), S, I, P)
set_option maxRecDepth 100000 in
theorem fX11_come_22_ok {l : Launch} {G : ab_G} {S : ab_S} {I : ab_I} {J : ab_J} {P : ab_P} {Q : ab_Q} {a1 : Int32} (hB : bz_B S P) (hZ : bz_Z S.length I J P) {x : Int32 × ab_S × ab_I × ab_P} (H : fX11_come_22 a1 S I P = some x) (K0 : Q (some (.int x.1)) x.2.1 x.2.2.1 J x.2.2.2) : ab_WP l G mX11_come 3 22 [some (.ref 0), some (.int a1)] [] S I J P 0 0 Q := by
  unfold fX11_come_22 at H
  refine ab_iconst (z := -1) (v := (-1 : Int32)) (by decide +kernel) (by decide) ?_
  obtain rfl := Option.some.inj H
  exact ab_iret (by decide +kernel) rfl (by decide) (by decide) K0
def fX11_come (a1 : Int32) (S : ab_S) (I : ab_I) (P : ab_P) : Option (Int32 × ab_S × ab_I × ab_P) :=
  (fX9_isPerson a1 I).bind fun u1 =>
  if u1 = 0 then
    fX11_come_22 a1 S I P
  else
    (P 0 12).bind fun z2 =>
    (fX6_isHere z2 a1 I).bind fun u3 =>
    if u3 = 0 then
      (P 0 12).bind fun z4 =>
      (fX0_keep z4 S I P).bind fun u5 =>
      (u5.2.2 0 12).bind fun z6 =>
      (u5.2.2 0 12).bind fun z7 =>
      (fJ6_bitCount_0f7a4 ((ab_u u5.2.1 z6 3 ((u5.2.1 z6 3) ||| ((1 : Int32) <<< (a1 &&& 31)))) z7 3)).bind fun u8 =>
      some (u8, u5.1, (ab_u u5.2.1 z6 3 ((u5.2.1 z6 3) ||| ((1 : Int32) <<< (a1 &&& 31)))), u5.2.2)
    else
      fX11_come_22 a1 S I P
set_option maxRecDepth 100000 in
theorem mX11_come_ok {l : Launch} {G : ab_G} {S : ab_S} {I : ab_I} {J : ab_J} {P : ab_P} {Q : ab_Q} {a1 : Int32} (hB : bz_B S P) (hZ : bz_Z S.length I J P) {x : Int32 × ab_S × ab_I × ab_P} (H : fX11_come a1 S I P = some x) (K0 : Q (some (.int x.1)) x.2.1 x.2.2.1 J x.2.2.2) : ab_Call l G mX11_come 3 [.ref 0, .int a1] S I J P Q := by
  unfold fX11_come at H
  refine ab_enter rfl (Nat.le_of_ble_eq_true rfl) (ab_wk (ls' := [some (.ref 0), some (.int a1)]) (ab_le_some (ab_le_some (ab_le_nil))) ?_)
  refine ab_aload_n (z := 0) (by decide +kernel) rfl rfl ?_
  refine gX11_1 (ix := 19) (by decide +kernel) tw_409 (hB.1 0 _ rfl) (hB.2.1 1 (0, 1, 3) rfl) ?_
  refine ab_iload_n (z := 1) (by decide +kernel) rfl rfl ?_
  obtain ⟨u1, hu1, H⟩ := ab_bd_of H
  refine kvX9_isPerson (D := 0) (ix := 129) (by decide +kernel) tw_636 (hB.1 3 _ rfl) (by decide) (Nat.le_of_ble_eq_true rfl) (mX9_isPerson_ok hB hu1 ?_)
  change ab_WP l G mX11_come 3 8 [some (.ref 0), some (.int a1)] [.int u1] S I J P 0 0 Q
  refine ab_if_eq (off := 14) (tgt := 22) (by decide +kernel) rfl (fun hc => ?_) (fun hc => ?_)
  · replace H := ab_ifp H hc
    exact ab_wk (ab_le_some (ab_le_some (ab_le_nil))) (fX11_come_22_ok hB hZ H  K0)
  · replace H := ab_ifn H hc
    refine ab_aload_n (z := 0) (by decide +kernel) rfl rfl ?_
    obtain ⟨z2, hz2, H⟩ := ab_bd_of H
    refine gX11_12 (ix := 89) (by decide +kernel) tw_420 (hB.1 0 _ rfl) hz2 ?_
    have sz2 := hB.2.2.1 _ hz2
    refine ab_iload_n (z := 1) (by decide +kernel) rfl rfl ?_
    obtain ⟨u3, hu3, H⟩ := ab_bd_of H
    refine kvX6_isHere (D := 0) (ix := 195) (by decide +kernel) tw_751 sz2.1 (by decide) (Nat.le_of_ble_eq_true rfl) (mX6_isHere_ok hB sz2 hu3 ?_)
    change ab_WP l G mX11_come 3 19 [some (.ref 0), some (.int a1)] [.int u3] S I J P 0 0 Q
    refine ab_if_eq (off := 5) (tgt := 24) (by decide +kernel) rfl (fun hc => ?_) (fun hc => ?_)
    · replace H := ab_ifp H hc
      refine ab_aload_n (z := 0) (by decide +kernel) rfl rfl ?_
      refine gX11_7 (ix := 67) (by decide +kernel) tw_415 (hB.1 0 _ rfl) (hB.2.1 7 (0, 7, 53) rfl) ?_
      refine ab_aload_n (z := 0) (by decide +kernel) rfl rfl ?_
      obtain ⟨z4, hz4, H⟩ := ab_bd_of H
      refine gX11_12 (ix := 89) (by decide +kernel) tw_420 (hB.1 0 _ rfl) hz4 ?_
      have sz4 := hB.2.2.1 _ hz4
      obtain ⟨u5, hu5, H⟩ := ab_bd_of H
      have hB2 := fX0_keep_B hB sz4 hu5
      have hS2 := fun q => fX0_keep_st (q2 := q) hB hu5
      refine ab_callV (g := mX0_keep) (ix := 184) (dg := 2) (r := 53) (cc := 0) (as := [.ref z4]) (st := []) (by decide +kernel) tw_731 tw_732 tw_733 tw_12 tw_734 ⟨by decide +kernel, by decide +kernel, (by decide +kernel : (parseMethodDescriptor mX0_keep.1.desc).map (fun d => d.parameters.length) = some 1)⟩ (by decide) rfl rfl rfl (by decide) (by decide) (by decide) (Nat.le_of_ble_eq_true rfl) (hB.1 53 _ rfl) (mX0_keep_ok hB hZ sz4 hu5 ?_)
      change ab_WP l G mX11_come 3 35 [some (.ref 0), some (.int a1)] [] u5.1 u5.2.1 J u5.2.2 4 48 Q
      refine ab_aload_n (z := 0) (by decide +kernel) rfl rfl ?_
      obtain ⟨z6, hz6, H⟩ := ab_bd_of H
      refine gX11_12 (ix := 89) (by decide +kernel) tw_420 (hB2.1 0 _ rfl) hz6 ?_
      have sz6 := hB2.2.2.1 _ hz6
      refine ab_dup (by decide +kernel) rfl ?_
      refine gX6_3 (ix := 139) (by decide +kernel) tw_258 sz6.1 ?_
      refine ab_iconst (z := 1) (v := (1 : Int32)) (by decide +kernel) (by decide) ?_
      refine ab_iload_n (z := 1) (by decide +kernel) rfl rfl ?_
      refine ab_ishl (by decide +kernel) ?_
      refine ab_ior (by decide +kernel) ?_
      refine pX6_3 (ix := 139) (by decide +kernel) tw_258 sz6.1 ?_
      refine ab_aload_n (z := 0) (by decide +kernel) rfl rfl ?_
      obtain ⟨z7, hz7, H⟩ := ab_bd_of H
      refine gX11_12 (ix := 89) (by decide +kernel) tw_420 (hB2.1 0 _ rfl) hz7 ?_
      have sz7 := hB2.2.2.1 _ hz7
      refine gX6_3 (ix := 139) (by decide +kernel) tw_258 sz7.1 ?_
      obtain ⟨u8, hu8, H⟩ := ab_bd_of H
      refine ab_callS (g := mJ6_bitCount_0f7a4) (ix := 198) (dg := 0) (as := [.int ((ab_u u5.2.1 z6 3 ((u5.2.1 z6 3) ||| ((1 : Int32) <<< (a1 &&& 31)))) z7 3)]) (st := []) (by decide +kernel) tw_752 tw_681 tw_16 tw_682 ⟨by decide +kernel, by decide +kernel, (by decide +kernel : (parseMethodDescriptor mJ6_bitCount_0f7a4.1.desc).map (fun d => d.parameters.length) = some 1)⟩ (by decide) rfl (by decide) (by decide) (by decide) (Nat.le_of_ble_eq_true rfl) (mJ6_bitCount_0f7a4_ok hB2 hu8 ?_)
      change ab_WP l G mX11_come 3 60 [some (.ref 0), some (.int a1)] [.int u8] u5.1 (ab_u u5.2.1 z6 3 ((u5.2.1 z6 3) ||| ((1 : Int32) <<< (a1 &&& 31)))) J u5.2.2 4 48 Q
      obtain rfl := Option.some.inj H
      exact ab_iret (by decide +kernel) rfl (by decide) (by decide) K0
    · replace H := ab_ifn H hc
      exact ab_wk (ab_le_some (ab_le_some (ab_le_nil))) (fX11_come_22_ok hB hZ H  K0)
abbrev mX11_gift : ab_M := (yX11_gift, cX11_gift, 3, some .int, 4, 48)
def fX11_gift_36 (a1 : Int32) (a2 : Int32) (S : ab_S) (I : ab_I) (P : ab_P) : Option (Int32 × ab_S × ab_I × ab_P) :=
  some ((-1 : Int32), S, I, P)
set_option maxRecDepth 100000 in
theorem fX11_gift_36_ok {l : Launch} {G : ab_G} {S : ab_S} {I : ab_I} {J : ab_J} {P : ab_P} {Q : ab_Q} {a1 : Int32} {a2 : Int32} (hB : bz_B S P) (hZ : bz_Z S.length I J P) {x : Int32 × ab_S × ab_I × ab_P} (H : fX11_gift_36 a1 a2 S I P = some x) (K0 : Q (some (.int x.1)) x.2.1 x.2.2.1 J x.2.2.2) : ab_WP l G mX11_gift 3 36 [some (.ref 0), some (.int a1), some (.int a2)] [] S I J P 0 0 Q := by
  unfold fX11_gift_36 at H
  refine ab_iconst (z := -1) (v := (-1 : Int32)) (by decide +kernel) (by decide) ?_
  obtain rfl := Option.some.inj H
  exact ab_iret (by decide +kernel) rfl (by decide) (by decide) K0
def fX11_gift (a1 : Int32) (a2 : Int32) (S : ab_S) (I : ab_I) (P : ab_P) : Option (Int32 × ab_S × ab_I × ab_P) :=
  (fX9_isPerson a1 I).bind fun u1 =>
  if u1 = 0 then
    fX11_gift_36 a1 a2 S I P
  else
    (fX11_within a2 (1 : Int32) (99 : Int32)).bind fun u2 =>
    if u2 = 0 then
      fX11_gift_36 a1 a2 S I P
    else
      (P 0 12).bind fun z3 =>
      ab_gd (ab_ix a1 6 = true) (
        if (I (z3 + 1) a1.toNatClampNeg) < (999 : Int32) then
          (P 0 12).bind fun z4 =>
          (fX0_keep z4 S I P).bind fun u5 =>
          (u5.2.2 0 12).bind fun z6 =>
          (u5.2.2 0 12).bind fun z7 =>
          ab_gd (ab_ix a1 6 = true) (
            ab_gd (ab_ix a1 6 = true) (
              (u5.2.2 0 12).bind fun z8 =>
              ab_gd (ab_ix a1 6 = true) (
                some (((ab_u u5.2.1 (z6 + 1) a1.toNatClampNeg (if ((u5.2.1 (z7 + 1) a1.toNatClampNeg) + a2) < (999 : Int32) then ((u5.2.1 (z7 + 1) a1.toNatClampNeg) + a2) else (999 : Int32))) (z8 + 1) a1.toNatClampNeg), u5.1, (ab_u u5.2.1 (z6 + 1) a1.toNatClampNeg (if ((u5.2.1 (z7 + 1) a1.toNatClampNeg) + a2) < (999 : Int32) then ((u5.2.1 (z7 + 1) a1.toNatClampNeg) + a2) else (999 : Int32))), u5.2.2)
              )
            )
          )
        else
          fX11_gift_36 a1 a2 S I P
      )
set_option maxRecDepth 100000 in
theorem mX11_gift_ok {l : Launch} {G : ab_G} {S : ab_S} {I : ab_I} {J : ab_J} {P : ab_P} {Q : ab_Q} {a1 : Int32} {a2 : Int32} (hB : bz_B S P) (hZ : bz_Z S.length I J P) {x : Int32 × ab_S × ab_I × ab_P} (H : fX11_gift a1 a2 S I P = some x) (K0 : Q (some (.int x.1)) x.2.1 x.2.2.1 J x.2.2.2) : ab_Call l G mX11_gift 3 [.ref 0, .int a1, .int a2] S I J P Q := by
  unfold fX11_gift at H
  refine ab_enter rfl (Nat.le_of_ble_eq_true rfl) (ab_wk (ls' := [some (.ref 0), some (.int a1), some (.int a2)]) (ab_le_some (ab_le_some (ab_le_some (ab_le_nil)))) ?_)
  refine ab_aload_n (z := 0) (by decide +kernel) rfl rfl ?_
  refine gX11_1 (ix := 19) (by decide +kernel) tw_409 (hB.1 0 _ rfl) (hB.2.1 1 (0, 1, 3) rfl) ?_
  refine ab_iload_n (z := 1) (by decide +kernel) rfl rfl ?_
  obtain ⟨u1, hu1, H⟩ := ab_bd_of H
  refine kvX9_isPerson (D := 0) (ix := 129) (by decide +kernel) tw_636 (hB.1 3 _ rfl) (by decide) (Nat.le_of_ble_eq_true rfl) (mX9_isPerson_ok hB hu1 ?_)
  change ab_WP l G mX11_gift 3 8 [some (.ref 0), some (.int a1), some (.int a2)] [.int u1] S I J P 0 0 Q
  refine ab_if_eq (off := 28) (tgt := 36) (by decide +kernel) rfl (fun hc => ?_) (fun hc => ?_)
  · replace H := ab_ifp H hc
    exact ab_wk (ab_le_some (ab_le_some (ab_le_some (ab_le_nil)))) (fX11_gift_36_ok hB hZ H  K0)
  · replace H := ab_ifn H hc
    refine ab_iload_n (z := 2) (by decide +kernel) rfl rfl ?_
    refine ab_iconst (z := 1) (v := (1 : Int32)) (by decide +kernel) (by decide) ?_
    refine ab_bipush (z := 99) (v := (99 : Int32)) (by decide +kernel) (by decide) ?_
    obtain ⟨u2, hu2, H⟩ := ab_bd_of H
    refine ksX11_within (D := 0) (ix := 191) (by decide +kernel) tw_746 (by decide) (Nat.le_of_ble_eq_true rfl) (mX11_within_ok hB hu2 ?_)
    change ab_WP l G mX11_gift 3 18 [some (.ref 0), some (.int a1), some (.int a2)] [.int u2] S I J P 0 0 Q
    refine ab_if_eq (off := 18) (tgt := 36) (by decide +kernel) rfl (fun hc => ?_) (fun hc => ?_)
    · replace H := ab_ifp H hc
      exact ab_wk (ab_le_some (ab_le_some (ab_le_some (ab_le_nil)))) (fX11_gift_36_ok hB hZ H  K0)
    · replace H := ab_ifn H hc
      refine ab_aload_n (z := 0) (by decide +kernel) rfl rfl ?_
      obtain ⟨z3, hz3, H⟩ := ab_bd_of H
      refine gX11_12 (ix := 89) (by decide +kernel) tw_420 (hB.1 0 _ rfl) hz3 ?_
      have sz3 := hB.2.2.1 _ hz3
      refine gX6_0 (ix := 133) (by decide +kernel) tw_237 sz3.1 sz3.2.2.2.2.1 ?_
      refine ab_iload_n (z := 1) (by decide +kernel) rfl rfl ?_
      obtain ⟨hg, H⟩ := ab_gd_of H
      refine ab_iald (ln := 6) (by decide +kernel) sz3.2.1 (ab_ix_in hg) ?_
      refine ab_sipush (z := 999) (v := (999 : Int32)) (by decide +kernel) (by decide) ?_
      refine ab_icmp_lt (off := 5) (tgt := 38) (by decide +kernel) rfl (fun hc => ?_) (fun hc => ?_)
      · replace H := ab_ifp H hc
        refine ab_aload_n (z := 0) (by decide +kernel) rfl rfl ?_
        refine gX11_7 (ix := 67) (by decide +kernel) tw_415 (hB.1 0 _ rfl) (hB.2.1 7 (0, 7, 53) rfl) ?_
        refine ab_aload_n (z := 0) (by decide +kernel) rfl rfl ?_
        obtain ⟨z4, hz4, H⟩ := ab_bd_of H
        refine gX11_12 (ix := 89) (by decide +kernel) tw_420 (hB.1 0 _ rfl) hz4 ?_
        have sz4 := hB.2.2.1 _ hz4
        obtain ⟨u5, hu5, H⟩ := ab_bd_of H
        have hB2 := fX0_keep_B hB sz4 hu5
        have hS2 := fun q => fX0_keep_st (q2 := q) hB hu5
        refine ab_callV (g := mX0_keep) (ix := 184) (dg := 2) (r := 53) (cc := 0) (as := [.ref z4]) (st := []) (by decide +kernel) tw_731 tw_732 tw_733 tw_12 tw_734 ⟨by decide +kernel, by decide +kernel, (by decide +kernel : (parseMethodDescriptor mX0_keep.1.desc).map (fun d => d.parameters.length) = some 1)⟩ (by decide) rfl rfl rfl (by decide) (by decide) (by decide) (Nat.le_of_ble_eq_true rfl) (hB.1 53 _ rfl) (mX0_keep_ok hB hZ sz4 hu5 ?_)
        change ab_WP l G mX11_gift 3 49 [some (.ref 0), some (.int a1), some (.int a2)] [] u5.1 u5.2.1 J u5.2.2 4 48 Q
        refine ab_aload_n (z := 0) (by decide +kernel) rfl rfl ?_
        obtain ⟨z6, hz6, H⟩ := ab_bd_of H
        refine gX11_12 (ix := 89) (by decide +kernel) tw_420 (hB2.1 0 _ rfl) hz6 ?_
        have sz6 := hB2.2.2.1 _ hz6
        refine gX6_0 (ix := 133) (by decide +kernel) tw_237 sz6.1 sz6.2.2.2.2.1 ?_
        refine ab_iload_n (z := 1) (by decide +kernel) rfl rfl ?_
        refine ab_sipush (z := 999) (v := (999 : Int32)) (by decide +kernel) (by decide) ?_
        refine ab_aload_n (z := 0) (by decide +kernel) rfl rfl ?_
        obtain ⟨z7, hz7, H⟩ := ab_bd_of H
        refine gX11_12 (ix := 89) (by decide +kernel) tw_420 (hB2.1 0 _ rfl) hz7 ?_
        have sz7 := hB2.2.2.1 _ hz7
        refine gX6_0 (ix := 133) (by decide +kernel) tw_237 sz7.1 sz7.2.2.2.2.1 ?_
        refine ab_iload_n (z := 1) (by decide +kernel) rfl rfl ?_
        obtain ⟨hg, H⟩ := ab_gd_of H
        refine ab_iald (ln := 6) (by decide +kernel) sz7.2.1 (ab_ix_in hg) ?_
        refine ab_iload_n (z := 2) (by decide +kernel) rfl rfl ?_
        refine ab_iadd (by decide +kernel) ?_
        refine ab_mmin (ix := 203) (by decide +kernel) tw_761 tw_691 tw_17 tw_692 (by decide) (Nat.le_of_ble_eq_true rfl) (by decide) (by decide) ?_
        obtain ⟨hg, H⟩ := ab_gd_of H
        refine ab_iast (ln := 6) (by decide +kernel) sz6.2.1 (ab_ix_in hg) ?_
        refine ab_aload_n (z := 0) (by decide +kernel) rfl rfl ?_
        obtain ⟨z8, hz8, H⟩ := ab_bd_of H
        refine gX11_12 (ix := 89) (by decide +kernel) tw_420 (hB2.1 0 _ rfl) hz8 ?_
        have sz8 := hB2.2.2.1 _ hz8
        refine gX6_0 (ix := 133) (by decide +kernel) tw_237 sz8.1 sz8.2.2.2.2.1 ?_
        refine ab_iload_n (z := 1) (by decide +kernel) rfl rfl ?_
        obtain ⟨hg, H⟩ := ab_gd_of H
        refine ab_iald (ln := 6) (by decide +kernel) sz8.2.1 (ab_ix_in hg) ?_
        obtain rfl := Option.some.inj H
        exact ab_iret (by decide +kernel) rfl (by decide) (by decide) K0
      · replace H := ab_ifn H hc
        exact ab_wk (ab_le_some (ab_le_some (ab_le_some (ab_le_nil)))) (fX11_gift_36_ok hB hZ H  K0)
