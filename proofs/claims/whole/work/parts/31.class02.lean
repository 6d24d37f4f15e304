abbrev mX4_readsBell : ab_M := (yX4_readsBell, cX4_readsBell, 1, some .boolean, 0, 0)
theorem kvX4_readsBell {l : Launch} {G : ab_G} {M : ab_M} {d pc : Nat} {ls : List (Option Value)} {st : List Value} {S : ab_S} {I : ab_I} {J : ab_J} {P : ab_P} {Q : ab_Q} {ix D r ln : Nat} (hd : decode M.2.1 pc = .ok (.invokevirtual ix, 3)) (h1 : Cond.methodLink M.1.cls ix mX4_readsBell.1 ∈ ab_good) (hs : S[r]? = some (9, ln)) (hdg : D + 1 ≤ d) (hsum : (st.map fun v => v.category).sum ≤ 8) (kk : ab_Call l G mX4_readsBell D (.ref r :: []) S I J P (fun v S' I' J' P' => ab_WP l G M d (pc + 3) ls (ab_psh v st) S' I' J' P' 0 0 Q)) : ab_WP l G M d pc ls (.ref r :: st) S I J P 0 0 Q := bz_kv (g := mX4_readsBell) (as := []) (cc := 4) rfl hd h1 tw_557 tw_p10 tw_5 tw_558 ⟨by decide +kernel, by decide +kernel, (by decide +kernel : (parseMethodDescriptor mX4_readsBell.1.desc).map (fun d => d.parameters.length) = some 0)⟩ (by decide) rfl rfl rfl hdg hsum hs kk
def fX4_readsBell_62 (I : ab_I) (J : ab_J) : Option (Int32 × ab_I × ab_J) :=
  some ((0 : Int32), I, J)
set_option maxRecDepth 100000 in
theorem fX4_readsBell_62_ok {l : Launch} {G : ab_G} {S : ab_S} {I : ab_I} {J : ab_J} {P : ab_P} {Q : ab_Q} (hB : bz_B S P) {x : Int32 × ab_I × ab_J} (H : fX4_readsBell_62 I J = some x) (K0 : Q (some (.int x.1)) S x.2.1 x.2.2 P) : ab_WP l G mX4_readsBell 4 62 [some (.ref 11)] [] S I J P 0 0 Q := by
  unfold fX4_readsBell_62 at H
  refine ab_iconst (z := 0) (v := (0 : Int32)) (by decide +kernel) (by decide) ?_
  obtain rfl := Option.some.inj H
  exact ab_zret (by decide +kernel) rfl (Nat.le_refl _) (Nat.le_refl _) (by decide) K0
def fX4_readsBell (I : ab_I) (J : ab_J) : Option (Int32 × ab_I × ab_J) :=
  if (I 14 5) < (5 : Int32) then
    (fX8_advance I J).bind fun u1 =>
    (fX4_takesNewName 13 5 (u1.1 14 5) u1.1 u1.2).bind fun u2 =>
    if u2.1 = 0 then
      fX4_readsBell_62 u2.2.1 u2.2.2
    else
      (fX4_takes (207 : Int32) u2.2.1 u2.2.2).bind fun u3 =>
      if u3.1 = 0 then
        fX4_readsBell_62 u3.2.1 u3.2.2
      else
        (fX4_takesNumber (0 : Int32) (23 : Int32) u3.2.1 u3.2.2).bind fun u4 =>
        if u4.1 = 0 then
          fX4_readsBell_62 u4.2.1 u4.2.2
        else
          ab_gd (ab_ix (u4.2.1 14 5) 5 = true) (
            some ((1 : Int32), (ab_u (ab_u u4.2.1 16 ((u4.2.1 14 5).toNatClampNeg) (u4.2.1 11 6)) 14 5 ((u4.2.1 14 5) + (1 : Int32))), u4.2.2)
          )
  else
    (fX4_refuses (2 : Int32) I).bind fun u5 =>
    ab_gd (u5.1 = 0 ∨ u5.1 = 1) (some (u5.1, u5.2, J))
set_option maxRecDepth 100000 in
theorem mX4_readsBell_ok {l : Launch} {G : ab_G} {S : ab_S} {I : ab_I} {J : ab_J} {P : ab_P} {Q : ab_Q} (hB : bz_B S P) {x : Int32 × ab_I × ab_J} (H : fX4_readsBell I J = some x) (K0 : Q (some (.int x.1)) S x.2.1 x.2.2 P) : ab_Call l G mX4_readsBell 4 [.ref 11] S I J P Q := by
  unfold fX4_readsBell at H
  refine ab_enter rfl (Nat.le_of_ble_eq_true rfl) (ab_wk (ls' := [some (.ref 11)]) (ab_le_some (ab_le_nil)) ?_)
  refine ab_aload_n (z := 0) (by decide +kernel) rfl rfl ?_
  refine gX4_7 (ix := 35) (by decide +kernel) tw_178 (hB.1 11 _ rfl) (hB.2.1 21 (11, 7, 14) rfl) ?_
  refine gX9_5 (ix := 108) (by decide +kernel) tw_95 (hB.1 14 _ rfl) ?_
  refine ab_iconst (z := 5) (v := (5 : Int32)) (by decide +kernel) (by decide) ?_
  refine ab_icmp_lt (off := 9) (tgt := 17) (by decide +kernel) rfl (fun hc => ?_) (fun hc => ?_)
  · replace H := ab_ifp H hc
    refine ab_aload_n (z := 0) (by decide +kernel) rfl rfl ?_
    refine gX4_0 (ix := 50) (by decide +kernel) tw_171 (hB.1 11 _ rfl) (hB.2.1 18 (11, 0, 22) rfl) ?_
    obtain ⟨u1, hu1, H⟩ := ab_bd_of H
    refine kvX8_advance (D := 2) (ix := 93) (by decide +kernel) tw_535 (hB.1 22 _ rfl) (by decide) (Nat.le_of_ble_eq_true rfl) (mX8_advance_ok hB hu1 ?_)
    change ab_WP l G mX4_readsBell 4 24 [some (.ref 11)] [] S u1.1 u1.2 P 0 0 Q
    refine ab_aload_n (z := 0) (by decide +kernel) rfl rfl ?_
    refine ab_aload_n (z := 0) (by decide +kernel) rfl rfl ?_
    refine gX4_2 (ix := 15) (by decide +kernel) tw_173 (hB.1 11 _ rfl) (hB.2.1 20 (11, 2, 13) rfl) ?_
    refine ab_aload_n (z := 0) (by decide +kernel) rfl rfl ?_
    refine gX4_7 (ix := 35) (by decide +kernel) tw_178 (hB.1 11 _ rfl) (hB.2.1 21 (11, 7, 14) rfl) ?_
    refine gX9_5 (ix := 108) (by decide +kernel) tw_95 (hB.1 14 _ rfl) ?_
    obtain ⟨u2, hu2, H⟩ := ab_bd_of H
    refine kvX4_takesNewName (D := 3) (ix := 96) (by decide +kernel) tw_536 (hB.1 11 _ rfl) (by decide) (Nat.le_of_ble_eq_true rfl) (mX4_takesNewName_ok hB (hB.1 13 _ rfl) hu2 ?_)
    change ab_WP l G mX4_readsBell 4 39 [some (.ref 11)] [.int u2.1] S u2.2.1 u2.2.2 P 0 0 Q
    refine ab_if_eq (off := 23) (tgt := 62) (by decide +kernel) rfl (fun hc => ?_) (fun hc => ?_)
    · replace H := ab_ifp H hc
      exact ab_wk (ab_le_some (ab_le_nil)) (fX4_readsBell_62_ok hB H  K0)
    · replace H := ab_ifn H hc
      refine ab_aload_n (z := 0) (by decide +kernel) rfl rfl ?_
      refine ab_sipush (z := 207) (v := (207 : Int32)) (by decide +kernel) (by decide) ?_
      obtain ⟨u3, hu3, H⟩ := ab_bd_of H
      refine kvX4_takes (D := 3) (ix := 83) (by decide +kernel) tw_544 (hB.1 11 _ rfl) (by decide) (Nat.le_of_ble_eq_true rfl) (mX4_takes_ok hB hu3 ?_)
      change ab_WP l G mX4_readsBell 4 49 [some (.ref 11)] [.int u3.1] S u3.2.1 u3.2.2 P 0 0 Q
      refine ab_if_eq (off := 13) (tgt := 62) (by decide +kernel) rfl (fun hc => ?_) (fun hc => ?_)
      · replace H := ab_ifp H hc
        exact ab_wk (ab_le_some (ab_le_nil)) (fX4_readsBell_62_ok hB H  K0)
      · replace H := ab_ifn H hc
        refine ab_aload_n (z := 0) (by decide +kernel) rfl rfl ?_
        refine ab_iconst (z := 0) (v := (0 : Int32)) (by decide +kernel) (by decide) ?_
        refine ab_bipush (z := 23) (v := (23 : Int32)) (by decide +kernel) (by decide) ?_
        obtain ⟨u4, hu4, H⟩ := ab_bd_of H
        refine kvX4_takesNumber (D := 3) (ix := 100) (by decide +kernel) tw_548 (hB.1 11 _ rfl) (by decide) (Nat.le_of_ble_eq_true rfl) (mX4_takesNumber_ok hB hu4 ?_)
        change ab_WP l G mX4_readsBell 4 59 [some (.ref 11)] [.int u4.1] S u4.2.1 u4.2.2 P 0 0 Q
        refine ab_if_ne (off := 5) (tgt := 64) (by decide +kernel) rfl (fun hc => ?_) (fun hc => ?_)
        · replace H := ab_ifn H hc
          refine ab_aload_n (z := 0) (by decide +kernel) rfl rfl ?_
          refine gX4_7 (ix := 35) (by decide +kernel) tw_178 (hB.1 11 _ rfl) (hB.2.1 21 (11, 7, 14) rfl) ?_
          refine gX9_1 (ix := 111) (by decide +kernel) tw_77 (hB.1 14 _ rfl) (hB.2.1 23 (14, 1, 16) rfl) ?_
          refine ab_aload_n (z := 0) (by decide +kernel) rfl rfl ?_
          refine gX4_7 (ix := 35) (by decide +kernel) tw_178 (hB.1 11 _ rfl) (hB.2.1 21 (11, 7, 14) rfl) ?_
          refine gX9_5 (ix := 108) (by decide +kernel) tw_95 (hB.1 14 _ rfl) ?_
          refine ab_aload_n (z := 0) (by decide +kernel) rfl rfl ?_
          refine gX4_6 (ix := 28) (by decide +kernel) tw_177 (hB.1 11 _ rfl) ?_
          obtain ⟨hg, H⟩ := ab_gd_of H
          refine ab_iast (ln := 5) (by decide +kernel) (hB.1 16 _ rfl) (ab_ix_in hg) ?_
          refine ab_aload_n (z := 0) (by decide +kernel) rfl rfl ?_
          refine gX4_7 (ix := 35) (by decide +kernel) tw_178 (hB.1 11 _ rfl) (hB.2.1 21 (11, 7, 14) rfl) ?_
          refine ab_dup (by decide +kernel) rfl ?_
          refine gX9_5 (ix := 108) (by decide +kernel) tw_95 (hB.1 14 _ rfl) ?_
          refine ab_top (y := (u4.2.1 14 5)) rfl ?_
          refine ab_iconst (z := 1) (v := (1 : Int32)) (by decide +kernel) (by decide) ?_
          refine ab_iadd (by decide +kernel) ?_
          refine pX9_5 (ix := 108) (by decide +kernel) tw_95 (hB.1 14 _ rfl) ?_
          refine ab_iconst (z := 1) (v := (1 : Int32)) (by decide +kernel) (by decide) ?_
          obtain rfl := Option.some.inj H
          exact ab_zret (by decide +kernel) rfl (Nat.le_refl _) (Nat.le_refl _) (by decide) K0
        · replace H := ab_ifp H hc
          exact ab_wk (ab_le_some (ab_le_nil)) (fX4_readsBell_62_ok hB H  K0)
  · replace H := ab_ifn H hc
    refine ab_aload_n (z := 0) (by decide +kernel) rfl rfl ?_
    refine ab_iconst (z := 2) (v := (2 : Int32)) (by decide +kernel) (by decide) ?_
    obtain ⟨u5, hu5, H⟩ := ab_bd_of H
    refine kvX4_refuses (D := 0) (ix := 79) (by decide +kernel) tw_531 (hB.1 11 _ rfl) (by decide) (Nat.le_of_ble_eq_true rfl) (mX4_refuses_ok hB hu5 ?_)
    change ab_WP l G mX4_readsBell 4 16 [some (.ref 11)] [.int u5.1] S u5.2 J P 0 0 Q
    obtain ⟨hg, H⟩ := ab_gd_of H
    obtain rfl := Option.some.inj H
    exact ab_zret (by decide +kernel) rfl (Nat.le_refl _) (Nat.le_refl _) hg K0
abbrev mX4_knownName : ab_M := (yX4_knownName, cX4_knownName, 4, some .int, 0, 0)
theorem kvX4_knownName {l : Launch} {G : ab_G} {M : ab_M} {d pc : Nat} {ls : List (Option Value)} {st : List Value} {S : ab_S} {I : ab_I} {J : ab_J} {P : ab_P} {Q : ab_Q} {v0 v1 : Value} {ix D r ln : Nat} (hd : decode M.2.1 pc = .ok (.invokevirtual ix, 3)) (h1 : Cond.methodLink M.1.cls ix mX4_knownName.1 ∈ ab_good) (hs : S[r]? = some (9, ln)) (hdg : D + 1 ≤ d) (hsum : (st.map fun v => v.category).sum ≤ 8) (kk : ab_Call l G mX4_knownName D (.ref r :: [v0, v1]) S I J P (fun v S' I' J' P' => ab_WP l G M d (pc + 3) ls (ab_psh v st) S' I' J' P' 0 0 Q)) : ab_WP l G M d pc ls (v1 :: v0 :: .ref r :: st) S I J P 0 0 Q := bz_kv (g := mX4_knownName) (as := [v0, v1]) (cc := 4) rfl hd h1 tw_565 tw_p12 tw_5 tw_566 ⟨by decide +kernel, by decide +kernel, (by decide +kernel : (parseMethodDescriptor mX4_knownName.1.desc).map (fun d => d.parameters.length) = some 2)⟩ (by decide) rfl rfl rfl hdg hsum hs kk
def fX4_knownName_37 (r1 n1 : Nat) (a2 : Int32) (J : ab_J) (a3 : Int32) (I : ab_I) : Option (Int32 × ab_I) :=
  some (a3, I)
set_option maxRecDepth 100000 in
theorem fX4_knownName_37_ok {l : Launch} {G : ab_G} {S : ab_S} {I : ab_I} {J : ab_J} {P : ab_P} {Q : ab_Q} {r1 n1 : Nat} {a2 : Int32} {a3 : Int32} (hB : bz_B S P) (hr1 : S[r1]? = some (3, n1)) {x : Int32 × ab_I} (H : fX4_knownName_37 r1 n1 a2 J a3 I = some x) (K0 : Q (some (.int x.1)) S x.2 J P) : ab_WP l G mX4_knownName 1 37 [some (.ref 11), some (.ref r1), some (.int a2), some (.int a3)] [] S I J P 0 0 Q := by
  unfold fX4_knownName_37 at H
  refine ab_iload_n (z := 3) (by decide +kernel) rfl rfl ?_
  obtain rfl := Option.some.inj H
  exact ab_iret (by decide +kernel) rfl (Nat.le_refl _) (Nat.le_refl _) K0
def fX4_knownName (r1 n1 : Nat) (a2 : Int32) (I : ab_I) (J : ab_J) : Option (Int32 × ab_I) :=
  if (I 22 2) = (2 : Int32) then
    (fX4_numberOfName r1 n1 a2 J).bind fun u1 =>
    if u1 = (-1 : Int32) then
      (fX4_refuses (5 : Int32) I).bind fun u2 =>
      fX4_knownName_37 r1 n1 a2 J u1 u2.2
    else
      fX4_knownName_37 r1 n1 a2 J u1 I
  else
    (fX4_refuses (2 : Int32) I).bind fun u3 =>
    some ((-1 : Int32), u3.2)
set_option maxRecDepth 100000 in
theorem mX4_knownName_ok {l : Launch} {G : ab_G} {S : ab_S} {I : ab_I} {J : ab_J} {P : ab_P} {Q : ab_Q} {r1 n1 : Nat} {a2 : Int32} (hB : bz_B S P) (hr1 : S[r1]? = some (3, n1)) {x : Int32 × ab_I} (H : fX4_knownName r1 n1 a2 I J = some x) (K0 : Q (some (.int x.1)) S x.2 J P) : ab_Call l G mX4_knownName 1 [.ref 11, .ref r1, .int a2] S I J P Q := by
  unfold fX4_knownName at H
  refine ab_enter rfl (Nat.le_of_ble_eq_true rfl) (ab_wk (ls' := [some (.ref 11), some (.ref r1), some (.int a2), none]) (ab_le_some (ab_le_some (ab_le_some (ab_le_non0 ab_le_nil)))) ?_)
  refine ab_aload_n (z := 0) (by decide +kernel) rfl rfl ?_
  refine gX4_0 (ix := 50) (by decide +kernel) tw_171 (hB.1 11 _ rfl) (hB.2.1 18 (11, 0, 22) rfl) ?_
  refine gX8_2 (ix := 57) (by decide +kernel) tw_150 (hB.1 22 _ rfl) ?_
  refine ab_iconst (z := 2) (v := (2 : Int32)) (by decide +kernel) (by decide) ?_
  refine ab_icmp_eq (off := 11) (tgt := 19) (by decide +kernel) rfl (fun hc => ?_) (fun hc => ?_)
  · replace H := ab_ifp H hc
    refine ab_aload_n (z := 0) (by decide +kernel) rfl rfl ?_
    refine ab_aload_n (z := 1) (by decide +kernel) rfl rfl ?_
    refine ab_iload_n (z := 2) (by decide +kernel) rfl rfl ?_
    obtain ⟨u1, hu1, H⟩ := ab_bd_of H
    refine kvX4_numberOfName (D := 0) (ix := 173) (by decide +kernel) tw_540 (hB.1 11 _ rfl) (by decide) (Nat.le_of_ble_eq_true rfl) (mX4_numberOfName_ok hB hr1 hu1 ?_)
    change ab_WP l G mX4_knownName 1 25 [some (.ref 11), some (.ref r1), some (.int a2), none] [.int u1] S I J P 0 0 Q
    refine ab_istore_n (z := 3) (by decide +kernel) rfl (by decide) rfl ?_
    refine ab_ls (ls' := [some (.ref 11), some (.ref r1), some (.int a2), some (.int u1)]) rfl ?_
    refine ab_iload_n (z := 3) (by decide +kernel) rfl rfl ?_
    refine ab_iconst (z := -1) (v := (-1 : Int32)) (by decide +kernel) (by decide) ?_
    refine ab_icmp_ne (off := 9) (tgt := 37) (by decide +kernel) rfl (fun hc => ?_) (fun hc => ?_)
    · replace H := ab_ifn H hc
      exact ab_wk (ab_le_some (ab_le_some (ab_le_some (ab_le_some (ab_le_nil))))) (fX4_knownName_37_ok hB hr1 H  K0)
    · replace H := ab_ifp H hc
      refine ab_aload_n (z := 0) (by decide +kernel) rfl rfl ?_
      refine ab_iconst (z := 5) (v := (5 : Int32)) (by decide +kernel) (by decide) ?_
      obtain ⟨u2, hu2, H⟩ := ab_bd_of H
      refine kvX4_refuses (D := 0) (ix := 79) (by decide +kernel) tw_531 (hB.1 11 _ rfl) (by decide) (Nat.le_of_ble_eq_true rfl) (mX4_refuses_ok hB hu2 ?_)
      change ab_WP l G mX4_knownName 1 36 [some (.ref 11), some (.ref r1), some (.int a2), some (.int u1)] [.int u2.1] S u2.2 J P 0 0 Q
      refine ab_pop (by decide +kernel) rfl ?_
      exact ab_wk (ab_le_some (ab_le_some (ab_le_some (ab_le_some (ab_le_nil))))) (fX4_knownName_37_ok hB hr1 H  K0)
  · replace H := ab_ifn H hc
    refine ab_aload_n (z := 0) (by decide +kernel) rfl rfl ?_
    refine ab_iconst (z := 2) (v := (2 : Int32)) (by decide +kernel) (by decide) ?_
    obtain ⟨u3, hu3, H⟩ := ab_bd_of H
    refine kvX4_refuses (D := 0) (ix := 79) (by decide +kernel) tw_531 (hB.1 11 _ rfl) (by decide) (Nat.le_of_ble_eq_true rfl) (mX4_refuses_ok hB hu3 ?_)
    change ab_WP l G mX4_knownName 1 16 [some (.ref 11), some (.ref r1), some (.int a2), none] [.int u3.1] S u3.2 J P 0 0 Q
    refine ab_pop (by decide +kernel) rfl ?_
    refine ab_iconst (z := -1) (v := (-1 : Int32)) (by decide +kernel) (by decide) ?_
    obtain rfl := Option.some.inj H
    exact ab_iret (by decide +kernel) rfl (Nat.le_refl _) (Nat.le_refl _) K0
abbrev mX11_cell : ab_M := (yX11_cell, cX11_cell, 2, some .int, 0, 0)
theorem ksX11_cell {l : Launch} {G : ab_G} {M : ab_M} {d pc : Nat} {ls : List (Option Value)} {st : List Value} {S : ab_S} {I : ab_I} {J : ab_J} {P : ab_P} {Q : ab_Q} {v0 v1 : Value} {ix D : Nat} (hd : decode M.2.1 pc = .ok (.invokestatic ix, 3)) (h1 : Cond.methodLink M.1.cls ix mX11_cell.1 ∈ ab_good) (hdg : D + 1 ≤ d) (hsum : (st.map fun v => v.category).sum ≤ 8) (kk : ab_Call l G mX11_cell D [v0, v1] S I J P (fun v S' I' J' P' => ab_WP l G M d (pc + 3) ls (ab_psh v st) S' I' J' P' 0 0 Q)) : ab_WP l G M d pc ls (v1 :: v0 :: st) S I J P 0 0 Q := bz_ks (g := mX11_cell) (as := [v0, v1]) rfl hd h1 tw_568 tw_1 tw_569 ⟨by decide +kernel, by decide +kernel, (by decide +kernel : (parseMethodDescriptor mX11_cell.1.desc).map (fun d => d.parameters.length) = some 2)⟩ (by decide) rfl hdg hsum kk
theorem knX11_cell {l : Launch} {G : ab_G} {M : ab_M} {d pc : Nat} {ls : List (Option Value)} {st : List Value} {S : ab_S} {I : ab_I} {J : ab_J} {P : ab_P} {Q : ab_Q} {v0 v1 : Value} {ix D : Nat} {host : String} (hd : decode M.2.1 pc = .ok (.invokestatic ix, 3)) (h1 : Cond.methodLinkNest M.1.cls ix mX11_cell.1 host ∈ tables_1) (hdg : D + 1 ≤ d) (hsum : (st.map fun v => v.category).sum ≤ 8) (kk : ab_Call l G mX11_cell D [v0, v1] S I J P (fun v S' I' J' P' => ab_WP l G M d (pc + 3) ls (ab_psh v st) S' I' J' P' 0 0 Q)) : ab_WP l G M d pc ls (v1 :: v0 :: st) S I J P 0 0 Q := bz_kn (g := mX11_cell) (as := [v0, v1]) rfl hd h1 tw_568 tw_1 tw_569 ⟨by decide +kernel, by decide +kernel, (by decide +kernel : (parseMethodDescriptor mX11_cell.1.desc).map (fun d => d.parameters.length) = some 2)⟩ (by decide) rfl hdg hsum kk
def fX11_cell (a0 : Int32) (a1 : Int32) : Option Int32 :=
  some ((a0 * (5 : Int32)) + a1)
set_option maxRecDepth 100000 in
theorem mX11_cell_ok {l : Launch} {G : ab_G} {S : ab_S} {I : ab_I} {J : ab_J} {P : ab_P} {Q : ab_Q} {a0 : Int32} {a1 : Int32} (hB : bz_B S P) {x : Int32} (H : fX11_cell a0 a1 = some x) (K0 : Q (some (.int x)) S I J P) : ab_Call l G mX11_cell 0 [.int a0, .int a1] S I J P Q := by
  unfold fX11_cell at H
  refine ab_enter rfl (Nat.le_of_ble_eq_true rfl) (ab_wk (ls' := [some (.int a0), some (.int a1)]) (ab_le_some (ab_le_some (ab_le_nil))) ?_)
  refine ab_iload_n (z := 0) (by decide +kernel) rfl rfl ?_
  refine ab_iconst (z := 5) (v := (5 : Int32)) (by decide +kernel) (by decide) ?_
  refine ab_imul (by decide +kernel) ?_
  refine ab_iload_n (z := 1) (by decide +kernel) rfl rfl ?_
  refine ab_iadd (by decide +kernel) ?_
  obtain rfl := Option.some.inj H
  exact ab_iret (by decide +kernel) rfl (Nat.le_refl _) (Nat.le_refl _) K0
abbrev mX4_readsLoses : ab_M := (yX4_readsLoses, cX4_readsLoses, 4, some .boolean, 0, 0)
theorem kvX4_readsLoses {l : Launch} {G : ab_G} {M : ab_M} {d pc : Nat} {ls : List (Option Value)} {st : List Value} {S : ab_S} {I : ab_I} {J : ab_J} {P : ab_P} {Q : ab_Q} {ix D r ln : Nat} (hd : decode M.2.1 pc = .ok (.invokevirtual ix, 3)) (h1 : Cond.methodLink M.1.cls ix mX4_readsLoses.1 ∈ ab_good) (hs : S[r]? = some (9, ln)) (hdg : D + 1 ≤ d) (hsum : (st.map fun v => v.category).sum ≤ 8) (kk : ab_Call l G mX4_readsLoses D (.ref r :: []) S I J P (fun v S' I' J' P' => ab_WP l G M d (pc + 3) ls (ab_psh v st) S' I' J' P' 0 0 Q)) : ab_WP l G M d pc ls (.ref r :: st) S I J P 0 0 Q := bz_kv (g := mX4_readsLoses) (as := []) (cc := 4) rfl hd h1 tw_561 tw_p11 tw_5 tw_562 ⟨by decide +kernel, by decide +kernel, (by decide +kernel : (parseMethodDescriptor mX4_readsLoses.1.desc).map (fun d => d.parameters.length) = some 0)⟩ (by decide) rfl rfl rfl hdg hsum hs kk
def fX4_readsLoses (I : ab_I) (J : ab_J) : Option (Int32 × ab_I × ab_J) :=
  if (I 14 6) < (20 : Int32) then
    (fX8_advance I J).bind fun u1 =>
    (fX4_knownName 12 6 (u1.1 14 4) u1.1 u1.2).bind fun u2 =>
    if u2.1 = (-1 : Int32) then
      some ((0 : Int32), u2.2, u1.2)
    else
      (fX8_advance u2.2 u1.2).bind fun u3 =>
      (fX4_knownName 13 5 (u3.1 14 5) u3.1 u3.2).bind fun u4 =>
      if u4.1 = (-1 : Int32) then
        some ((0 : Int32), u4.2, u3.2)
      else
        (fX11_cell u2.1 u4.1).bind fun u5 =>
        ab_gd (ab_ix u5 30 = true) (
          if (u4.2 17 u5.toNatClampNeg) ≤ 0 then
            (fX8_advance u4.2 u3.2).bind fun u6 =>
            (fX4_takesNumber (1 : Int32) (20 : Int32) u6.1 u6.2).bind fun u7 =>
            if u7.1 = 0 then
              some ((0 : Int32), u7.2.1, u7.2.2)
            else
              ab_gd (ab_ix u5 30 = true) (
                some ((1 : Int32), (ab_u (ab_u (ab_u u7.2.1 17 u5.toNatClampNeg (u7.2.1 11 6)) 14 7 u5) 14 6 ((u7.2.1 14 6) + (1 : Int32))), u7.2.2)
              )
          else
            (fX4_refuses (3 : Int32) u4.2).bind fun u8 =>
            ab_gd (u8.1 = 0 ∨ u8.1 = 1) (some (u8.1, u8.2, u3.2))
        )
  else
    (fX4_refuses (2 : Int32) I).bind fun u9 =>
    ab_gd (u9.1 = 0 ∨ u9.1 = 1) (some (u9.1, u9.2, J))
set_option maxRecDepth 100000 in
theorem mX4_readsLoses_ok {l : Launch} {G : ab_G} {S : ab_S} {I : ab_I} {J : ab_J} {P : ab_P} {Q : ab_Q} (hB : bz_B S P) {x : Int32 × ab_I × ab_J} (H : fX4_readsLoses I J = some x) (K0 : Q (some (.int x.1)) S x.2.1 x.2.2 P) : ab_Call l G mX4_readsLoses 4 [.ref 11] S I J P Q := by
  unfold fX4_readsLoses at H
  refine ab_enter rfl (Nat.le_of_ble_eq_true rfl) (ab_wk (ls' := [some (.ref 11), none, none, none]) (ab_le_some (ab_le_non0 (ab_le_non0 (ab_le_non0 ab_le_nil)))) ?_)
  refine ab_aload_n (z := 0) (by decide +kernel) rfl rfl ?_
  refine gX4_7 (ix := 35) (by decide +kernel) tw_178 (hB.1 11 _ rfl) (hB.2.1 21 (11, 7, 14) rfl) ?_
  refine gX9_6 (ix := 114) (by decide +kernel) tw_100 (hB.1 14 _ rfl) ?_
  refine ab_bipush (z := 20) (v := (20 : Int32)) (by decide +kernel) (by decide) ?_
  refine ab_icmp_lt (off := 9) (tgt := 18) (by decide +kernel) rfl (fun hc => ?_) (fun hc => ?_)
  · replace H := ab_ifp H hc
    refine ab_aload_n (z := 0) (by decide +kernel) rfl rfl ?_
    refine gX4_0 (ix := 50) (by decide +kernel) tw_171 (hB.1 11 _ rfl) (hB.2.1 18 (11, 0, 22) rfl) ?_
    obtain ⟨u1, hu1, H⟩ := ab_bd_of H
    refine kvX8_advance (D := 2) (ix := 93) (by decide +kernel) tw_535 (hB.1 22 _ rfl) (by decide) (Nat.le_of_ble_eq_true rfl) (mX8_advance_ok hB hu1 ?_)
    change ab_WP l G mX4_readsLoses 4 25 [some (.ref 11), none, none, none] [] S u1.1 u1.2 P 0 0 Q
    refine ab_aload_n (z := 0) (by decide +kernel) rfl rfl ?_
    refine ab_aload_n (z := 0) (by decide +kernel) rfl rfl ?_
    refine gX4_1 (ix := 9) (by decide +kernel) tw_172 (hB.1 11 _ rfl) (hB.2.1 19 (11, 1, 12) rfl) ?_
    refine ab_aload_n (z := 0) (by decide +kernel) rfl rfl ?_
    refine gX4_7 (ix := 35) (by decide +kernel) tw_178 (hB.1 11 _ rfl) (hB.2.1 21 (11, 7, 14) rfl) ?_
    refine gX9_4 (ix := 90) (by decide +kernel) tw_87 (hB.1 14 _ rfl) ?_
    obtain ⟨u2, hu2, H⟩ := ab_bd_of H
    refine kvX4_knownName (D := 1) (ix := 117) (by decide +kernel) tw_563 (hB.1 11 _ rfl) (by decide) (Nat.le_of_ble_eq_true rfl) (mX4_knownName_ok hB (hB.1 12 _ rfl) hu2 ?_)
    change ab_WP l G mX4_readsLoses 4 40 [some (.ref 11), none, none, none] [.int u2.1] S u2.2 u1.2 P 0 0 Q
    refine ab_istore_n (z := 1) (by decide +kernel) rfl (by decide) rfl ?_
    refine ab_ls (ls' := [some (.ref 11), some (.int u2.1), none, none]) rfl ?_
    refine ab_iload_n (z := 1) (by decide +kernel) rfl rfl ?_
    refine ab_iconst (z := -1) (v := (-1 : Int32)) (by decide +kernel) (by decide) ?_
    refine ab_icmp_ne (off := 5) (tgt := 48) (by decide +kernel) rfl (fun hc => ?_) (fun hc => ?_)
    · replace H := ab_ifn H hc
      refine ab_aload_n (z := 0) (by decide +kernel) rfl rfl ?_
      refine gX4_0 (ix := 50) (by decide +kernel) tw_171 (hB.1 11 _ rfl) (hB.2.1 18 (11, 0, 22) rfl) ?_
      obtain ⟨u3, hu3, H⟩ := ab_bd_of H
      refine kvX8_advance (D := 2) (ix := 93) (by decide +kernel) tw_535 (hB.1 22 _ rfl) (by decide) (Nat.le_of_ble_eq_true rfl) (mX8_advance_ok hB hu3 ?_)
      change ab_WP l G mX4_readsLoses 4 55 [some (.ref 11), some (.int u2.1), none, none] [] S u3.1 u3.2 P 0 0 Q
      refine ab_aload_n (z := 0) (by decide +kernel) rfl rfl ?_
      refine ab_aload_n (z := 0) (by decide +kernel) rfl rfl ?_
      refine gX4_2 (ix := 15) (by decide +kernel) tw_173 (hB.1 11 _ rfl) (hB.2.1 20 (11, 2, 13) rfl) ?_
      refine ab_aload_n (z := 0) (by decide +kernel) rfl rfl ?_
      refine gX4_7 (ix := 35) (by decide +kernel) tw_178 (hB.1 11 _ rfl) (hB.2.1 21 (11, 7, 14) rfl) ?_
      refine gX9_5 (ix := 108) (by decide +kernel) tw_95 (hB.1 14 _ rfl) ?_
      obtain ⟨u4, hu4, H⟩ := ab_bd_of H
      refine kvX4_knownName (D := 1) (ix := 117) (by decide +kernel) tw_563 (hB.1 11 _ rfl) (by decide) (Nat.le_of_ble_eq_true rfl) (mX4_knownName_ok hB (hB.1 13 _ rfl) hu4 ?_)
      change ab_WP l G mX4_readsLoses 4 70 [some (.ref 11), some (.int u2.1), none, none] [.int u4.1] S u4.2 u3.2 P 0 0 Q
      refine ab_istore_n (z := 2) (by decide +kernel) rfl (by decide) rfl ?_
      refine ab_ls (ls' := [some (.ref 11), some (.int u2.1), some (.int u4.1), none]) rfl ?_
      refine ab_iload_n (z := 2) (by decide +kernel) rfl rfl ?_
      refine ab_iconst (z := -1) (v := (-1 : Int32)) (by decide +kernel) (by decide) ?_
      refine ab_icmp_ne (off := 5) (tgt := 78) (by decide +kernel) rfl (fun hc => ?_) (fun hc => ?_)
      · replace H := ab_ifn H hc
        refine ab_iload_n (z := 1) (by decide +kernel) rfl rfl ?_
        refine ab_iload_n (z := 2) (by decide +kernel) rfl rfl ?_
        obtain ⟨u5, hu5, H⟩ := ab_bd_of H
        refine knX11_cell (D := 0) (ix := 121) (host := "BellRingers") (by decide +kernel) tn_567 (by decide) (Nat.le_of_ble_eq_true rfl) (mX11_cell_ok hB hu5 ?_)
        change ab_WP l G mX4_readsLoses 4 83 [some (.ref 11), some (.int u2.1), some (.int u4.1), none] [.int u5] S u4.2 u3.2 P 0 0 Q
        refine ab_istore_n (z := 3) (by decide +kernel) rfl (by decide) rfl ?_
        refine ab_ls (ls' := [some (.ref 11), some (.int u2.1), some (.int u4.1), some (.int u5)]) rfl ?_
        refine ab_aload_n (z := 0) (by decide +kernel) rfl rfl ?_
        refine gX4_7 (ix := 35) (by decide +kernel) tw_178 (hB.1 11 _ rfl) (hB.2.1 21 (11, 7, 14) rfl) ?_
        refine gX9_2 (ix := 125) (by decide +kernel) tw_80 (hB.1 14 _ rfl) (hB.2.1 24 (14, 2, 17) rfl) ?_
        refine ab_iload_n (z := 3) (by decide +kernel) rfl rfl ?_
        obtain ⟨hg, H⟩ := ab_gd_of H
        refine ab_iald (ln := 30) (by decide +kernel) (hB.1 17 _ rfl) (ab_ix_in hg) ?_
        refine ab_if_le (off := 9) (tgt := 102) (by decide +kernel) rfl (fun hc => ?_) (fun hc => ?_)
        · replace H := ab_ifp H hc
          refine ab_aload_n (z := 0) (by decide +kernel) rfl rfl ?_
          refine gX4_0 (ix := 50) (by decide +kernel) tw_171 (hB.1 11 _ rfl) (hB.2.1 18 (11, 0, 22) rfl) ?_
          obtain ⟨u6, hu6, H⟩ := ab_bd_of H
          refine kvX8_advance (D := 2) (ix := 93) (by decide +kernel) tw_535 (hB.1 22 _ rfl) (by decide) (Nat.le_of_ble_eq_true rfl) (mX8_advance_ok hB hu6 ?_)
          change ab_WP l G mX4_readsLoses 4 109 [some (.ref 11), some (.int u2.1), some (.int u4.1), some (.int u5)] [] S u6.1 u6.2 P 0 0 Q
          refine ab_aload_n (z := 0) (by decide +kernel) rfl rfl ?_
          refine ab_iconst (z := 1) (v := (1 : Int32)) (by decide +kernel) (by decide) ?_
          refine ab_bipush (z := 20) (v := (20 : Int32)) (by decide +kernel) (by decide) ?_
          obtain ⟨u7, hu7, H⟩ := ab_bd_of H
          refine kvX4_takesNumber (D := 3) (ix := 100) (by decide +kernel) tw_548 (hB.1 11 _ rfl) (by decide) (Nat.le_of_ble_eq_true rfl) (mX4_takesNumber_ok hB hu7 ?_)
          change ab_WP l G mX4_readsLoses 4 116 [some (.ref 11), some (.int u2.1), some (.int u4.1), some (.int u5)] [.int u7.1] S u7.2.1 u7.2.2 P 0 0 Q
          refine ab_if_ne (off := 5) (tgt := 121) (by decide +kernel) rfl (fun hc => ?_) (fun hc => ?_)
          · replace H := ab_ifn H hc
            refine ab_aload_n (z := 0) (by decide +kernel) rfl rfl ?_
            refine gX4_7 (ix := 35) (by decide +kernel) tw_178 (hB.1 11 _ rfl) (hB.2.1 21 (11, 7, 14) rfl) ?_
            refine gX9_2 (ix := 125) (by decide +kernel) tw_80 (hB.1 14 _ rfl) (hB.2.1 24 (14, 2, 17) rfl) ?_
            refine ab_iload_n (z := 3) (by decide +kernel) rfl rfl ?_
            refine ab_aload_n (z := 0) (by decide +kernel) rfl rfl ?_
            refine gX4_6 (ix := 28) (by decide +kernel) tw_177 (hB.1 11 _ rfl) ?_
            obtain ⟨hg, H⟩ := ab_gd_of H
            refine ab_iast (ln := 30) (by decide +kernel) (hB.1 17 _ rfl) (ab_ix_in hg) ?_
            refine ab_aload_n (z := 0) (by decide +kernel) rfl rfl ?_
            refine gX4_7 (ix := 35) (by decide +kernel) tw_178 (hB.1 11 _ rfl) (hB.2.1 21 (11, 7, 14) rfl) ?_
            refine ab_iload_n (z := 3) (by decide +kernel) rfl rfl ?_
            refine pX9_7 (ix := 128) (by decide +kernel) tw_104 (hB.1 14 _ rfl) ?_
            refine ab_aload_n (z := 0) (by decide +kernel) rfl rfl ?_
            refine gX4_7 (ix := 35) (by decide +kernel) tw_178 (hB.1 11 _ rfl) (hB.2.1 21 (11, 7, 14) rfl) ?_
            refine ab_dup (by decide +kernel) rfl ?_
            refine gX9_6 (ix := 114) (by decide +kernel) tw_100 (hB.1 14 _ rfl) ?_
            refine ab_top (y := (u7.2.1 14 6)) rfl ?_
            refine ab_iconst (z := 1) (v := (1 : Int32)) (by decide +kernel) (by decide) ?_
            refine ab_iadd (by decide +kernel) ?_
            refine pX9_6 (ix := 114) (by decide +kernel) tw_100 (hB.1 14 _ rfl) ?_
            refine ab_iconst (z := 1) (v := (1 : Int32)) (by decide +kernel) (by decide) ?_
            obtain rfl := Option.some.inj H
            exact ab_zret (by decide +kernel) rfl (Nat.le_refl _) (Nat.le_refl _) (by decide) K0
          · replace H := ab_ifp H hc
            refine ab_iconst (z := 0) (v := (0 : Int32)) (by decide +kernel) (by decide) ?_
            obtain rfl := Option.some.inj H
            exact ab_zret (by decide +kernel) rfl (Nat.le_refl _) (Nat.le_refl _) (by decide) K0
        · replace H := ab_ifn H hc
          refine ab_aload_n (z := 0) (by decide +kernel) rfl rfl ?_
          refine ab_iconst (z := 3) (v := (3 : Int32)) (by decide +kernel) (by decide) ?_
          obtain ⟨u8, hu8, H⟩ := ab_bd_of H
          refine kvX4_refuses (D := 0) (ix := 79) (by decide +kernel) tw_531 (hB.1 11 _ rfl) (by decide) (Nat.le_of_ble_eq_true rfl) (mX4_refuses_ok hB hu8 ?_)
          change ab_WP l G mX4_readsLoses 4 101 [some (.ref 11), some (.int u2.1), some (.int u4.1), some (.int u5)] [.int u8.1] S u8.2 u3.2 P 0 0 Q
          obtain ⟨hg, H⟩ := ab_gd_of H
          obtain rfl := Option.some.inj H
          exact ab_zret (by decide +kernel) rfl (Nat.le_refl _) (Nat.le_refl _) hg K0
      · replace H := ab_ifp H hc
        refine ab_iconst (z := 0) (v := (0 : Int32)) (by decide +kernel) (by decide) ?_
        obtain rfl := Option.some.inj H
        exact ab_zret (by decide +kernel) rfl (Nat.le_refl _) (Nat.le_refl _) (by decide) K0
    · replace H := ab_ifp H hc
      refine ab_iconst (z := 0) (v := (0 : Int32)) (by decide +kernel) (by decide) ?_
      obtain rfl := Option.some.inj H
      exact ab_zret (by decide +kernel) rfl (Nat.le_refl _) (Nat.le_refl _) (by decide) K0
  · replace H := ab_ifn H hc
    refine ab_aload_n (z := 0) (by decide +kernel) rfl rfl ?_
    refine ab_iconst (z := 2) (v := (2 : Int32)) (by decide +kernel) (by decide) ?_
    obtain ⟨u9, hu9, H⟩ := ab_bd_of H
    refine kvX4_refuses (D := 0) (ix := 79) (by decide +kernel) tw_531 (hB.1 11 _ rfl) (by decide) (Nat.le_of_ble_eq_true rfl) (mX4_refuses_ok hB hu9 ?_)
    change ab_WP l G mX4_readsLoses 4 17 [some (.ref 11), none, none, none] [.int u9.1] S u9.2 J P 0 0 Q
    obtain ⟨hg, H⟩ := ab_gd_of H
    obtain rfl := Option.some.inj H
    exact ab_zret (by decide +kernel) rfl (Nat.le_refl _) (Nat.le_refl _) hg K0
abbrev mX2_isValue : ab_M := (yX2_isValue, cX2_isValue, 1, some .boolean, 0, 0)
theorem ksX2_isValue {l : Launch} {G : ab_G} {M : ab_M} {d pc : Nat} {ls : List (Option Value)} {st : List Value} {S : ab_S} {I : ab_I} {J : ab_J} {P : ab_P} {Q : ab_Q} {v0 : Value} {ix D : Nat} (hd : decode M.2.1 pc = .ok (.invokestatic ix, 3)) (h1 : Cond.methodLink M.1.cls ix mX2_isValue.1 ∈ ab_good) (hdg : D + 1 ≤ d) (hsum : (st.map fun v => v.category).sum ≤ 8) (kk : ab_Call l G mX2_isValue D [v0] S I J P (fun v S' I' J' P' => ab_WP l G M d (pc + 3) ls (ab_psh v st) S' I' J' P' 0 0 Q)) : ab_WP l G M d pc ls (v0 :: st) S I J P 0 0 Q := bz_ks (g := mX2_isValue) (as := [v0]) rfl hd h1 tw_583 tw_4 tw_584 ⟨by decide +kernel, by decide +kernel, (by decide +kernel : (parseMethodDescriptor mX2_isValue.1.desc).map (fun d => d.parameters.length) = some 1)⟩ (by decide) rfl hdg hsum kk
def fX2_isValue_19 (a0 : Int32) (s0 : Int32) : Option Int32 :=
  ab_gd (s0 = 0 ∨ s0 = 1) (some s0)
set_option maxRecDepth 100000 in
theorem fX2_isValue_19_ok {l : Launch} {G : ab_G} {S : ab_S} {I : ab_I} {J : ab_J} {P : ab_P} {Q : ab_Q} {a0 : Int32} {s0 : Int32} (hB : bz_B S P) {x : Int32} (H : fX2_isValue_19 a0 s0 = some x) (K0 : Q (some (.int x)) S I J P) : ab_WP l G mX2_isValue 0 19 [some (.int a0)] [.int s0] S I J P 0 0 Q := by
  unfold fX2_isValue_19 at H
  obtain ⟨hg, H⟩ := ab_gd_of H
  obtain rfl := Option.some.inj H
  exact ab_zret (by decide +kernel) rfl (Nat.le_refl _) (Nat.le_refl _) hg K0
def fX2_isValue_18 (a0 : Int32) : Option Int32 :=
  fX2_isValue_19 a0 (0 : Int32)
set_option maxRecDepth 100000 in
theorem fX2_isValue_18_ok {l : Launch} {G : ab_G} {S : ab_S} {I : ab_I} {J : ab_J} {P : ab_P} {Q : ab_Q} {a0 : Int32} (hB : bz_B S P) {x : Int32} (H : fX2_isValue_18 a0 = some x) (K0 : Q (some (.int x)) S I J P) : ab_WP l G mX2_isValue 0 18 [some (.int a0)] [] S I J P 0 0 Q := by
  unfold fX2_isValue_18 at H
  refine ab_iconst (z := 0) (v := (0 : Int32)) (by decide +kernel) (by decide) ?_
  exact ab_wk (ab_le_some (ab_le_nil)) (fX2_isValue_19_ok hB H  K0)
def fX2_isValue (a0 : Int32) : Option Int32 :=
  if a0 < (206 : Int32) then
    fX2_isValue_18 a0
  else
    if (211 : Int32) < a0 then
      fX2_isValue_18 a0
    else
      fX2_isValue_19 a0 (1 : Int32)
set_option maxRecDepth 100000 in
theorem mX2_isValue_ok {l : Launch} {G : ab_G} {S : ab_S} {I : ab_I} {J : ab_J} {P : ab_P} {Q : ab_Q} {a0 : Int32} (hB : bz_B S P) {x : Int32} (H : fX2_isValue a0 = some x) (K0 : Q (some (.int x)) S I J P) : ab_Call l G mX2_isValue 0 [.int a0] S I J P Q := by
  unfold fX2_isValue at H
  refine ab_enter rfl (Nat.le_of_ble_eq_true rfl) (ab_wk (ls' := [some (.int a0)]) (ab_le_some (ab_le_nil)) ?_)
  refine ab_iload_n (z := 0) (by decide +kernel) rfl rfl ?_
  refine ab_sipush (z := 206) (v := (206 : Int32)) (by decide +kernel) (by decide) ?_
  refine ab_icmp_lt (off := 14) (tgt := 18) (by decide +kernel) rfl (fun hc => ?_) (fun hc => ?_)
  · replace H := ab_ifp H hc
    exact ab_wk (ab_le_some (ab_le_nil)) (fX2_isValue_18_ok hB H  K0)
  · replace H := ab_ifn H hc
    refine ab_iload_n (z := 0) (by decide +kernel) rfl rfl ?_
    refine ab_sipush (z := 211) (v := (211 : Int32)) (by decide +kernel) (by decide) ?_
    refine ab_icmp_gt (off := 7) (tgt := 18) (by decide +kernel) rfl (fun hc => ?_) (fun hc => ?_)
    · replace H := ab_ifp H hc
      exact ab_wk (ab_le_some (ab_le_nil)) (fX2_isValue_18_ok hB H  K0)
    · replace H := ab_ifn H hc
      refine ab_iconst (z := 1) (v := (1 : Int32)) (by decide +kernel) (by decide) ?_
      refine ab_goto (off := 4) (tgt := 19) (by decide +kernel) rfl ?_
      exact ab_wk (ab_le_some (ab_le_nil)) (fX2_isValue_19_ok hB H  K0)
abbrev mX2_add : ab_M := (yX2_add, cX2_add, 2, none, 0, 0)
theorem kvX2_add {l : Launch} {G : ab_G} {M : ab_M} {d pc : Nat} {ls : List (Option Value)} {st : List Value} {S : ab_S} {I : ab_I} {J : ab_J} {P : ab_P} {Q : ab_Q} {v0 : Value} {ix D r ln : Nat} (hd : decode M.2.1 pc = .ok (.invokevirtual ix, 3)) (h1 : Cond.methodLink M.1.cls ix mX2_add.1 ∈ ab_good) (hs : S[r]? = some (7, ln)) (hdg : D + 1 ≤ d) (hsum : (st.map fun v => v.category).sum ≤ 8) (kk : ab_Call l G mX2_add D (.ref r :: [v0]) S I J P (fun v S' I' J' P' => ab_WP l G M d (pc + 3) ls (ab_psh v st) S' I' J' P' 0 0 Q)) : ab_WP l G M d pc ls (v0 :: .ref r :: st) S I J P 0 0 Q := bz_kv (g := mX2_add) (as := [v0]) (cc := 2) rfl hd h1 tw_586 tw_587 tw_4 tw_588 ⟨by decide +kernel, by decide +kernel, (by decide +kernel : (parseMethodDescriptor mX2_add.1.desc).map (fun d => d.parameters.length) = some 1)⟩ (by decide) rfl rfl rfl hdg hsum hs kk
def fX2_add_32 (a1 : Int32) (I : ab_I) : Option ab_I :=
  some I
set_option maxRecDepth 100000 in
theorem fX2_add_32_ok {l : Launch} {G : ab_G} {S : ab_S} {I : ab_I} {J : ab_J} {P : ab_P} {Q : ab_Q} {a1 : Int32} (hB : bz_B S P) {x : ab_I} (H : fX2_add_32 a1 I = some x) (K0 : Q none S x J P) : ab_WP l G mX2_add 0 32 [some (.ref 18), some (.int a1)] [] S I J P 0 0 Q := by
  unfold fX2_add_32 at H
  obtain rfl := Option.some.inj H
  exact ab_vret (by decide +kernel) rfl (Nat.le_refl _) (Nat.le_refl _) K0
def fX2_add (a1 : Int32) (I : ab_I) : Option ab_I :=
  if (300 : Int32) ≤ (I 18 3) then
    fX2_add_32 a1 I
  else
    ab_gd (ab_ix (I 18 3) 300 = true) (
      fX2_add_32 a1 (ab_u (ab_u I 19 ((I 18 3).toNatClampNeg) a1) 18 3 ((I 18 3) + (1 : Int32)))
    )
set_option maxRecDepth 100000 in
theorem mX2_add_ok {l : Launch} {G : ab_G} {S : ab_S} {I : ab_I} {J : ab_J} {P : ab_P} {Q : ab_Q} {a1 : Int32} (hB : bz_B S P) {x : ab_I} (H : fX2_add a1 I = some x) (K0 : Q none S x J P) : ab_Call l G mX2_add 0 [.ref 18, .int a1] S I J P Q := by
  unfold fX2_add at H
  refine ab_enter rfl (Nat.le_of_ble_eq_true rfl) (ab_wk (ls' := [some (.ref 18), some (.int a1)]) (ab_le_some (ab_le_some (ab_le_nil))) ?_)
  refine ab_aload_n (z := 0) (by decide +kernel) rfl rfl ?_
  refine gX2_3 (ix := 21) (by decide +kernel) tw_57 (hB.1 18 _ rfl) ?_
  refine ab_aload_n (z := 0) (by decide +kernel) rfl rfl ?_
  refine gX2_0 (ix := 9) (by decide +kernel) tw_54 (hB.1 18 _ rfl) (hB.2.1 26 (18, 0, 19) rfl) ?_
  refine ab_alen (v := (300 : Int32)) (by decide +kernel) (hB.1 19 _ rfl) (by decide) (by decide) ?_
  refine ab_icmp_ge (off := 23) (tgt := 32) (by decide +kernel) rfl (fun hc => ?_) (fun hc => ?_)
  · replace H := ab_ifp H hc
    exact ab_wk (ab_le_some (ab_le_some (ab_le_nil))) (fX2_add_32_ok hB H  K0)
  · replace H := ab_ifn H hc
    refine ab_aload_n (z := 0) (by decide +kernel) rfl rfl ?_
    refine gX2_0 (ix := 9) (by decide +kernel) tw_54 (hB.1 18 _ rfl) (hB.2.1 26 (18, 0, 19) rfl) ?_
    refine ab_aload_n (z := 0) (by decide +kernel) rfl rfl ?_
    refine gX2_3 (ix := 21) (by decide +kernel) tw_57 (hB.1 18 _ rfl) ?_
    refine ab_iload_n (z := 1) (by decide +kernel) rfl rfl ?_
    obtain ⟨hg, H⟩ := ab_gd_of H
    refine ab_iast (ln := 300) (by decide +kernel) (hB.1 19 _ rfl) (ab_ix_in hg) ?_
    refine ab_aload_n (z := 0) (by decide +kernel) rfl rfl ?_
    refine ab_dup (by decide +kernel) rfl ?_
    refine gX2_3 (ix := 21) (by decide +kernel) tw_57 (hB.1 18 _ rfl) ?_
    refine ab_top (y := (I 18 3)) rfl ?_
    refine ab_iconst (z := 1) (v := (1 : Int32)) (by decide +kernel) (by decide) ?_
    refine ab_iadd (by decide +kernel) ?_
    refine pX2_3 (ix := 21) (by decide +kernel) tw_57 (hB.1 18 _ rfl) ?_
    exact ab_wk (ab_le_some (ab_le_some (ab_le_nil))) (fX2_add_32_ok hB H  K0)
abbrev mX4_readsLevel : ab_M := (yX4_readsLevel, cX4_readsLevel, 7, some .boolean, 0, 0)
theorem kvX4_readsLevel {l : Launch} {G : ab_G} {M : ab_M} {d pc : Nat} {ls : List (Option Value)} {st : List Value} {S : ab_S} {I : ab_I} {J : ab_J} {P : ab_P} {Q : ab_Q} {v0 v1 : Value} {ix D r ln : Nat} (hd : decode M.2.1 pc = .ok (.invokevirtual ix, 3)) (h1 : Cond.methodLink M.1.cls ix mX4_readsLevel.1 ∈ ab_good) (hs : S[r]? = some (9, ln)) (hdg : D + 1 ≤ d) (hsum : (st.map fun v => v.category).sum ≤ 8) (kk : ab_Call l G mX4_readsLevel D (.ref r :: [v0, v1]) S I J P (fun v S' I' J' P' => ab_WP l G M d (pc + 3) ls (ab_psh v st) S' I' J' P' 0 0 Q)) : ab_WP l G M d pc ls (v1 :: v0 :: .ref r :: st) S I J P 0 0 Q := bz_kv (g := mX4_readsLevel) (as := [v0, v1]) (cc := 4) rfl hd h1 tw_576 tw_p14 tw_5 tw_577 ⟨by decide +kernel, by decide +kernel, (by decide +kernel : (parseMethodDescriptor mX4_readsLevel.1.desc).map (fun d => d.parameters.length) = some 2)⟩ (by decide) rfl rfl rfl hdg hsum hs kk
abbrev mX4_readsUnit : ab_M := (yX4_readsUnit, cX4_readsUnit, 5, some .boolean, 0, 0)
theorem kvX4_readsUnit {l : Launch} {G : ab_G} {M : ab_M} {d pc : Nat} {ls : List (Option Value)} {st : List Value} {S : ab_S} {I : ab_I} {J : ab_J} {P : ab_P} {Q : ab_Q} {v0 : Value} {ix D r ln : Nat} (hd : decode M.2.1 pc = .ok (.invokevirtual ix, 3)) (h1 : Cond.methodLink M.1.cls ix mX4_readsUnit.1 ∈ ab_good) (hs : S[r]? = some (9, ln)) (hdg : D + 1 ≤ d) (hsum : (st.map fun v => v.category).sum ≤ 8) (kk : ab_Call l G mX4_readsUnit D (.ref r :: [v0]) S I J P (fun v S' I' J' P' => ab_WP l G M d (pc + 3) ls (ab_psh v st) S' I' J' P' 0 0 Q)) : ab_WP l G M d pc ls (v0 :: .ref r :: st) S I J P 0 0 Q := bz_kv (g := mX4_readsUnit) (as := [v0]) (cc := 4) rfl hd h1 tw_580 tw_p15 tw_5 tw_581 ⟨by decide +kernel, by decide +kernel, (by decide +kernel : (parseMethodDescriptor mX4_readsUnit.1.desc).map (fun d => d.parameters.length) = some 1)⟩ (by decide) rfl rfl rfl hdg hsum hs kk
def fX4_readsUnit_164 (rec : Int32 → Int32 → ab_I → ab_J → Option (Int32 × ab_I × ab_J)) (a1 : Int32) (s0 : Int32) (I : ab_I) (J : ab_J) : Option (Int32 × ab_I × ab_J) :=
  ab_gd (s0 = 0 ∨ s0 = 1) (some (s0, I, J))
set_option maxRecDepth 100000 in
theorem fX4_readsUnit_164_ok {l : Launch} {G : ab_G} {S : ab_S} {I : ab_I} {J : ab_J} {P : ab_P} {Q : ab_Q} {a1 : Int32} {s0 : Int32} (hB : bz_B S P) {rec : Int32 → Int32 → ab_I → ab_J → Option (Int32 × ab_I × ab_J)} {d0 : Nat} (hd0 : 6 ≤ d0) (hrec : ∀ {a1 : Int32} {a2 : Int32} {I : ab_I} {J : ab_J} {r : Int32 × ab_I × ab_J} {Q : ab_Q} , rec a1 a2 I J = some r → Q (some (.int r.1)) S r.2.1 r.2.2 P → ab_Call l G mX4_readsLevel d0 [.ref 11, .int a1, .int a2] S I J P Q) {x : Int32 × ab_I × ab_J} (H : fX4_readsUnit_164 rec a1 s0 I J = some x) (K0 : Q (some (.int x.1)) S x.2.1 x.2.2 P) : ab_WP l G mX4_readsUnit (d0 + 1) 164 [some (.ref 11), some (.int a1), none, none, none] [.int s0] S I J P 0 0 Q := by
  unfold fX4_readsUnit_164 at H
  obtain ⟨hg, H⟩ := ab_gd_of H
  obtain rfl := Option.some.inj H
  exact ab_zret (by decide +kernel) rfl (Nat.le_refl _) (Nat.le_refl _) hg K0
def fX4_readsUnit_73 (rec : Int32 → Int32 → ab_I → ab_J → Option (Int32 × ab_I × ab_J)) (a1 : Int32) (I : ab_I) (J : ab_J) : Option (Int32 × ab_I × ab_J) :=
  (fX4_refuses (2 : Int32) I).bind fun u2 =>
  ab_gd (u2.1 = 0 ∨ u2.1 = 1) (some (u2.1, u2.2, J))
set_option maxRecDepth 100000 in
theorem fX4_readsUnit_73_ok {l : Launch} {G : ab_G} {S : ab_S} {I : ab_I} {J : ab_J} {P : ab_P} {Q : ab_Q} {a1 : Int32} (hB : bz_B S P) {rec : Int32 → Int32 → ab_I → ab_J → Option (Int32 × ab_I × ab_J)} {d0 : Nat} (hd0 : 6 ≤ d0) (hrec : ∀ {a1 : Int32} {a2 : Int32} {I : ab_I} {J : ab_J} {r : Int32 × ab_I × ab_J} {Q : ab_Q} , rec a1 a2 I J = some r → Q (some (.int r.1)) S r.2.1 r.2.2 P → ab_Call l G mX4_readsLevel d0 [.ref 11, .int a1, .int a2] S I J P Q) {x : Int32 × ab_I × ab_J} (H : fX4_readsUnit_73 rec a1 I J = some x) (K0 : Q (some (.int x.1)) S x.2.1 x.2.2 P) : ab_WP l G mX4_readsUnit (d0 + 1) 73 [some (.ref 11), some (.int a1), none, none, none] [] S I J P 0 0 Q := by
  unfold fX4_readsUnit_73 at H
  refine ab_aload_n (z := 0) (by decide +kernel) rfl rfl ?_
  refine ab_iconst (z := 2) (v := (2 : Int32)) (by decide +kernel) (by decide) ?_
  obtain ⟨u2, hu2, H⟩ := ab_bd_of H
  refine kvX4_refuses (D := 0) (ix := 79) (by decide +kernel) tw_531 (hB.1 11 _ rfl) (by omega) (Nat.le_of_ble_eq_true rfl) (mX4_refuses_ok hB hu2 ?_)
  change ab_WP l G mX4_readsUnit (d0 + 1) 78 [some (.ref 11), some (.int a1), none, none, none] [.int u2.1] S u2.2 J P 0 0 Q
  obtain ⟨hg, H⟩ := ab_gd_of H
  obtain rfl := Option.some.inj H
  exact ab_zret (by decide +kernel) rfl (Nat.le_refl _) (Nat.le_refl _) hg K0
def fX4_readsUnit_163 (rec : Int32 → Int32 → ab_I → ab_J → Option (Int32 × ab_I × ab_J)) (a1 : Int32) (I : ab_I) (J : ab_J) : Option (Int32 × ab_I × ab_J) :=
  fX4_readsUnit_164 rec a1 (0 : Int32) I J
set_option maxRecDepth 100000 in
theorem fX4_readsUnit_163_ok {l : Launch} {G : ab_G} {S : ab_S} {I : ab_I} {J : ab_J} {P : ab_P} {Q : ab_Q} {a1 : Int32} (hB : bz_B S P) {rec : Int32 → Int32 → ab_I → ab_J → Option (Int32 × ab_I × ab_J)} {d0 : Nat} (hd0 : 6 ≤ d0) (hrec : ∀ {a1 : Int32} {a2 : Int32} {I : ab_I} {J : ab_J} {r : Int32 × ab_I × ab_J} {Q : ab_Q} , rec a1 a2 I J = some r → Q (some (.int r.1)) S r.2.1 r.2.2 P → ab_Call l G mX4_readsLevel d0 [.ref 11, .int a1, .int a2] S I J P Q) {x : Int32 × ab_I × ab_J} (H : fX4_readsUnit_163 rec a1 I J = some x) (K0 : Q (some (.int x.1)) S x.2.1 x.2.2 P) : ab_WP l G mX4_readsUnit (d0 + 1) 163 [some (.ref 11), some (.int a1), none, none, none] [] S I J P 0 0 Q := by
  unfold fX4_readsUnit_163 at H
  refine ab_iconst (z := 0) (v := (0 : Int32)) (by decide +kernel) (by decide) ?_
  exact ab_wk (ab_le_some (ab_le_some (ab_le_none (ab_le_none (ab_le_none (ab_le_nil)))))) (fX4_readsUnit_164_ok hB hd0 hrec H  K0)
def fX4_readsUnit_159 (rec : Int32 → Int32 → ab_I → ab_J → Option (Int32 × ab_I × ab_J)) (a1 : Int32) (I : ab_I) (J : ab_J) : Option (Int32 × ab_I × ab_J) :=
  fX4_readsUnit_164 rec a1 (1 : Int32) I J
set_option maxRecDepth 100000 in
theorem fX4_readsUnit_159_ok {l : Launch} {G : ab_G} {S : ab_S} {I : ab_I} {J : ab_J} {P : ab_P} {Q : ab_Q} {a1 : Int32} (hB : bz_B S P) {rec : Int32 → Int32 → ab_I → ab_J → Option (Int32 × ab_I × ab_J)} {d0 : Nat} (hd0 : 6 ≤ d0) (hrec : ∀ {a1 : Int32} {a2 : Int32} {I : ab_I} {J : ab_J} {r : Int32 × ab_I × ab_J} {Q : ab_Q} , rec a1 a2 I J = some r → Q (some (.int r.1)) S r.2.1 r.2.2 P → ab_Call l G mX4_readsLevel d0 [.ref 11, .int a1, .int a2] S I J P Q) {x : Int32 × ab_I × ab_J} (H : fX4_readsUnit_159 rec a1 I J = some x) (K0 : Q (some (.int x.1)) S x.2.1 x.2.2 P) : ab_WP l G mX4_readsUnit (d0 + 1) 159 [some (.ref 11), some (.int a1), none, none, none] [] S I J P 0 0 Q := by
  unfold fX4_readsUnit_159 at H
  refine ab_iconst (z := 1) (v := (1 : Int32)) (by decide +kernel) (by decide) ?_
  refine ab_goto (off := 4) (tgt := 164) (by decide +kernel) rfl ?_
  exact ab_wk (ab_le_some (ab_le_some (ab_le_none (ab_le_none (ab_le_none (ab_le_nil)))))) (fX4_readsUnit_164_ok hB hd0 hrec H  K0)
def fX4_readsUnit_127 (rec : Int32 → Int32 → ab_I → ab_J → Option (Int32 × ab_I × ab_J)) (a1 : Int32) (a4 : Int32) (I : ab_I) (J : ab_J) : Option (Int32 × ab_I × ab_J) :=
  (fX8_advance I J).bind fun u3 =>
  if a4 = 0 then
    (rec (0 : Int32) (a1 + (1 : Int32)) u3.1 u3.2).bind fun u4 =>
    if u4.1 = 0 then
      fX4_readsUnit_163 rec a1 u4.2.1 u4.2.2
    else
      (fX4_takes (41 : Int32) u4.2.1 u4.2.2).bind fun u5 =>
      if u5.1 = 0 then
        fX4_readsUnit_163 rec a1 u5.2.1 u5.2.2
      else
        fX4_readsUnit_159 rec a1 u5.2.1 u5.2.2
  else
    fX4_readsUnit_159 rec a1 u3.1 u3.2
set_option maxRecDepth 100000 in
theorem fX4_readsUnit_127_ok {l : Launch} {G : ab_G} {S : ab_S} {I : ab_I} {J : ab_J} {P : ab_P} {Q : ab_Q} {a1 : Int32} {a4 : Int32} (hB : bz_B S P) {rec : Int32 → Int32 → ab_I → ab_J → Option (Int32 × ab_I × ab_J)} {d0 : Nat} (hd0 : 6 ≤ d0) (hrec : ∀ {a1 : Int32} {a2 : Int32} {I : ab_I} {J : ab_J} {r : Int32 × ab_I × ab_J} {Q : ab_Q} , rec a1 a2 I J = some r → Q (some (.int r.1)) S r.2.1 r.2.2 P → ab_Call l G mX4_readsLevel d0 [.ref 11, .int a1, .int a2] S I J P Q) {x : Int32 × ab_I × ab_J} (H : fX4_readsUnit_127 rec a1 a4 I J = some x) (K0 : Q (some (.int x.1)) S x.2.1 x.2.2 P) : ab_WP l G mX4_readsUnit (d0 + 1) 127 [some (.ref 11), some (.int a1), none, none, some (.int a4)] [] S I J P 0 0 Q := by
  unfold fX4_readsUnit_127 at H
  refine ab_aload_n (z := 0) (by decide +kernel) rfl rfl ?_
  refine gX4_0 (ix := 50) (by decide +kernel) tw_171 (hB.1 11 _ rfl) (hB.2.1 18 (11, 0, 22) rfl) ?_
  obtain ⟨u3, hu3, H⟩ := ab_bd_of H
  refine kvX8_advance (D := 2) (ix := 93) (by decide +kernel) tw_535 (hB.1 22 _ rfl) (by omega) (Nat.le_of_ble_eq_true rfl) (mX8_advance_ok hB hu3 ?_)
  change ab_WP l G mX4_readsUnit (d0 + 1) 134 [some (.ref 11), some (.int a1), none, none, some (.int a4)] [] S u3.1 u3.2 P 0 0 Q
  refine ab_iload (i := 4) (by decide +kernel) rfl ?_
  refine ab_if_ne (off := 23) (tgt := 159) (by decide +kernel) rfl (fun hc => ?_) (fun hc => ?_)
  · replace H := ab_ifn H hc
    exact ab_wk (ab_le_some (ab_le_some (ab_le_none (ab_le_none (ab_le_none (ab_le_nil)))))) (fX4_readsUnit_159_ok hB hd0 hrec H  K0)
  · replace H := ab_ifp H hc
    refine ab_aload_n (z := 0) (by decide +kernel) rfl rfl ?_
    refine ab_iconst (z := 0) (v := (0 : Int32)) (by decide +kernel) (by decide) ?_
    refine ab_iload_n (z := 1) (by decide +kernel) rfl rfl ?_
    refine ab_iconst (z := 1) (v := (1 : Int32)) (by decide +kernel) (by decide) ?_
    refine ab_iadd (by decide +kernel) ?_
    obtain ⟨u4, hu4, H⟩ := ab_bd_of H
    refine kvX4_readsLevel (D := d0) (ix := 131) (by decide +kernel) tw_574 (hB.1 11 _ rfl) (by omega) (Nat.le_of_ble_eq_true rfl) (hrec hu4 ?_)
    change ab_WP l G mX4_readsUnit (d0 + 1) 147 [some (.ref 11), some (.int a1), none, none, some (.int a4)] [.int u4.1] S u4.2.1 u4.2.2 P 0 0 Q
    refine ab_if_eq (off := 16) (tgt := 163) (by decide +kernel) rfl (fun hc => ?_) (fun hc => ?_)
    · replace H := ab_ifp H hc
      exact ab_wk (ab_le_some (ab_le_some (ab_le_none (ab_le_none (ab_le_none (ab_le_nil)))))) (fX4_readsUnit_163_ok hB hd0 hrec H  K0)
    · replace H := ab_ifn H hc
      refine ab_aload_n (z := 0) (by decide +kernel) rfl rfl ?_
      refine ab_bipush (z := 41) (v := (41 : Int32)) (by decide +kernel) (by decide) ?_
      obtain ⟨u5, hu5, H⟩ := ab_bd_of H
      refine kvX4_takes (D := 3) (ix := 83) (by decide +kernel) tw_544 (hB.1 11 _ rfl) (by omega) (Nat.le_of_ble_eq_true rfl) (mX4_takes_ok hB hu5 ?_)
      change ab_WP l G mX4_readsUnit (d0 + 1) 156 [some (.ref 11), some (.int a1), none, none, some (.int a4)] [.int u5.1] S u5.2.1 u5.2.2 P 0 0 Q
      refine ab_if_eq (off := 7) (tgt := 163) (by decide +kernel) rfl (fun hc => ?_) (fun hc => ?_)
      · replace H := ab_ifp H hc
        exact ab_wk (ab_le_some (ab_le_some (ab_le_none (ab_le_none (ab_le_none (ab_le_nil)))))) (fX4_readsUnit_163_ok hB hd0 hrec H  K0)
      · replace H := ab_ifn H hc
        exact ab_wk (ab_le_some (ab_le_some (ab_le_none (ab_le_none (ab_le_none (ab_le_nil)))))) (fX4_readsUnit_159_ok hB hd0 hrec H  K0)
def fX4_readsUnit_124 (rec : Int32 → Int32 → ab_I → ab_J → Option (Int32 × ab_I × ab_J)) (a1 : Int32) (a4 : Int32) (s1 : Int32) (I : ab_I) (J : ab_J) : Option (Int32 × ab_I × ab_J) :=
  (fX2_add s1 I).bind fun u6 =>
  fX4_readsUnit_127 rec a1 a4 u6 J
set_option maxRecDepth 100000 in
theorem fX4_readsUnit_124_ok {l : Launch} {G : ab_G} {S : ab_S} {I : ab_I} {J : ab_J} {P : ab_P} {Q : ab_Q} {a1 : Int32} {a4 : Int32} {s1 : Int32} (hB : bz_B S P) {rec : Int32 → Int32 → ab_I → ab_J → Option (Int32 × ab_I × ab_J)} {d0 : Nat} (hd0 : 6 ≤ d0) (hrec : ∀ {a1 : Int32} {a2 : Int32} {I : ab_I} {J : ab_J} {r : Int32 × ab_I × ab_J} {Q : ab_Q} , rec a1 a2 I J = some r → Q (some (.int r.1)) S r.2.1 r.2.2 P → ab_Call l G mX4_readsLevel d0 [.ref 11, .int a1, .int a2] S I J P Q) {x : Int32 × ab_I × ab_J} (H : fX4_readsUnit_124 rec a1 a4 s1 I J = some x) (K0 : Q (some (.int x.1)) S x.2.1 x.2.2 P) : ab_WP l G mX4_readsUnit (d0 + 1) 124 [some (.ref 11), some (.int a1), none, none, some (.int a4)] [.int s1, .ref 18] S I J P 0 0 Q := by
  unfold fX4_readsUnit_124 at H
  obtain ⟨u6, hu6, H⟩ := ab_bd_of H
  refine kvX2_add (D := 0) (ix := 154) (by decide +kernel) tw_585 (hB.1 18 _ rfl) (by omega) (Nat.le_of_ble_eq_true rfl) (mX2_add_ok hB hu6 ?_)
  change ab_WP l G mX4_readsUnit (d0 + 1) 127 [some (.ref 11), some (.int a1), none, none, some (.int a4)] [] S u6 J P 0 0 Q
  exact ab_wk (ab_le_some (ab_le_some (ab_le_none (ab_le_none (ab_le_some (ab_le_nil)))))) (fX4_readsUnit_127_ok hB hd0 hrec H  K0)
def fX4_readsUnit_79 (rec : Int32 → Int32 → ab_I → ab_J → Option (Int32 × ab_I × ab_J)) (a1 : Int32) (a2 : Int32) (a4 : Int32) (I : ab_I) (J : ab_J) : Option (Int32 × ab_I × ab_J) :=
  if a4 = 0 then
    fX4_readsUnit_127 rec a1 a4 (ab_u I 18 4 ((I 18 4) + (1 : Int32))) J
  else
    if a2 = (3 : Int32) then
      fX4_readsUnit_124 rec a1 a4 (I 22 4) (ab_u I 18 4 ((I 18 4) + (1 : Int32))) J
    else
      fX4_readsUnit_124 rec a1 a4 (-a2) (ab_u I 18 4 ((I 18 4) + (1 : Int32))) J
set_option maxRecDepth 100000 in
theorem fX4_readsUnit_79_ok {l : Launch} {G : ab_G} {S : ab_S} {I : ab_I} {J : ab_J} {P : ab_P} {Q : ab_Q} {a1 : Int32} {a2 : Int32} {a4 : Int32} (hB : bz_B S P) {rec : Int32 → Int32 → ab_I → ab_J → Option (Int32 × ab_I × ab_J)} {d0 : Nat} (hd0 : 6 ≤ d0) (hrec : ∀ {a1 : Int32} {a2 : Int32} {I : ab_I} {J : ab_J} {r : Int32 × ab_I × ab_J} {Q : ab_Q} , rec a1 a2 I J = some r → Q (some (.int r.1)) S r.2.1 r.2.2 P → ab_Call l G mX4_readsLevel d0 [.ref 11, .int a1, .int a2] S I J P Q) {x : Int32 × ab_I × ab_J} (H : fX4_readsUnit_79 rec a1 a2 a4 I J = some x) (K0 : Q (some (.int x.1)) S x.2.1 x.2.2 P) : ab_WP l G mX4_readsUnit (d0 + 1) 79 [some (.ref 11), some (.int a1), some (.int a2), none, some (.int a4)] [] S I J P 0 0 Q := by
  unfold fX4_readsUnit_79 at H
  refine ab_aload_n (z := 0) (by decide +kernel) rfl rfl ?_
  refine gX4_7 (ix := 35) (by decide +kernel) tw_178 (hB.1 11 _ rfl) (hB.2.1 21 (11, 7, 14) rfl) ?_
  refine gX9_3 (ix := 150) (by decide +kernel) tw_84 (hB.1 14 _ rfl) (hB.2.1 25 (14, 3, 18) rfl) ?_
  refine ab_dup (by decide +kernel) rfl ?_
  refine gX2_4 (ix := 163) (by decide +kernel) tw_59 (hB.1 18 _ rfl) ?_
  refine ab_iconst (z := 1) (v := (1 : Int32)) (by decide +kernel) (by decide) ?_
  refine ab_iadd (by decide +kernel) ?_
  refine pX2_4 (ix := 163) (by decide +kernel) tw_59 (hB.1 18 _ rfl) ?_
  refine ab_iload (i := 4) (by decide +kernel) rfl ?_
  refine ab_if_eq (off := 30) (tgt := 127) (by decide +kernel) rfl (fun hc => ?_) (fun hc => ?_)
  · replace H := ab_ifp H hc
    exact ab_wk (ab_le_some (ab_le_some (ab_le_none (ab_le_none (ab_le_some (ab_le_nil)))))) (fX4_readsUnit_127_ok hB hd0 hrec H  K0)
  · replace H := ab_ifn H hc
    refine ab_aload_n (z := 0) (by decide +kernel) rfl rfl ?_
    refine gX4_7 (ix := 35) (by decide +kernel) tw_178 (hB.1 11 _ rfl) (hB.2.1 21 (11, 7, 14) rfl) ?_
    refine gX9_3 (ix := 150) (by decide +kernel) tw_84 (hB.1 14 _ rfl) (hB.2.1 25 (14, 3, 18) rfl) ?_
    refine ab_iload_n (z := 2) (by decide +kernel) rfl rfl ?_
    refine ab_iconst (z := 3) (v := (3 : Int32)) (by decide +kernel) (by decide) ?_
    refine ab_icmp_ne (off := 13) (tgt := 122) (by decide +kernel) rfl (fun hc => ?_) (fun hc => ?_)
    · replace H := ab_ifn H hc
      refine ab_iload_n (z := 2) (by decide +kernel) rfl rfl ?_
      refine ab_ineg (by decide +kernel) ?_
      exact ab_wk (ab_le_some (ab_le_some (ab_le_none (ab_le_none (ab_le_some (ab_le_nil)))))) (fX4_readsUnit_124_ok hB hd0 hrec H  K0)
    · replace H := ab_ifp H hc
      refine ab_aload_n (z := 0) (by decide +kernel) rfl rfl ?_
      refine gX4_0 (ix := 50) (by decide +kernel) tw_171 (hB.1 11 _ rfl) (hB.2.1 18 (11, 0, 22) rfl) ?_
      refine gX8_4 (ix := 166) (by decide +kernel) tw_154 (hB.1 22 _ rfl) ?_
      refine ab_top (y := (I 22 4)) rfl ?_
      refine ab_goto (off := 5) (tgt := 124) (by decide +kernel) rfl ?_
      exact ab_wk (ab_le_some (ab_le_some (ab_le_none (ab_le_none (ab_le_some (ab_le_nil)))))) (fX4_readsUnit_124_ok hB hd0 hrec H  K0)
def fX4_readsUnit_63 (rec : Int32 → Int32 → ab_I → ab_J → Option (Int32 × ab_I × ab_J)) (a1 : Int32) (a2 : Int32) (a3 : Int32) (a4 : Int32) (I : ab_I) (J : ab_J) : Option (Int32 × ab_I × ab_J) :=
  if a3 = 0 then
    fX4_readsUnit_79 rec a1 a2 a4 I J
  else
    if a1 < (7 : Int32) then
      fX4_readsUnit_79 rec a1 a2 a4 I J
    else
      fX4_readsUnit_73 rec a1 I J
set_option maxRecDepth 100000 in
theorem fX4_readsUnit_63_ok {l : Launch} {G : ab_G} {S : ab_S} {I : ab_I} {J : ab_J} {P : ab_P} {Q : ab_Q} {a1 : Int32} {a2 : Int32} {a3 : Int32} {a4 : Int32} (hB : bz_B S P) {rec : Int32 → Int32 → ab_I → ab_J → Option (Int32 × ab_I × ab_J)} {d0 : Nat} (hd0 : 6 ≤ d0) (hrec : ∀ {a1 : Int32} {a2 : Int32} {I : ab_I} {J : ab_J} {r : Int32 × ab_I × ab_J} {Q : ab_Q} , rec a1 a2 I J = some r → Q (some (.int r.1)) S r.2.1 r.2.2 P → ab_Call l G mX4_readsLevel d0 [.ref 11, .int a1, .int a2] S I J P Q) {x : Int32 × ab_I × ab_J} (H : fX4_readsUnit_63 rec a1 a2 a3 a4 I J = some x) (K0 : Q (some (.int x.1)) S x.2.1 x.2.2 P) : ab_WP l G mX4_readsUnit (d0 + 1) 63 [some (.ref 11), some (.int a1), some (.int a2), some (.int a3), some (.int a4)] [] S I J P 0 0 Q := by
  unfold fX4_readsUnit_63 at H
  refine ab_iload_n (z := 3) (by decide +kernel) rfl rfl ?_
  refine ab_if_eq (off := 15) (tgt := 79) (by decide +kernel) rfl (fun hc => ?_) (fun hc => ?_)
  · replace H := ab_ifp H hc
    exact ab_wk (ab_le_some (ab_le_some (ab_le_some (ab_le_none (ab_le_some (ab_le_nil)))))) (fX4_readsUnit_79_ok hB hd0 hrec H  K0)
  · replace H := ab_ifn H hc
    refine ab_iload_n (z := 1) (by decide +kernel) rfl rfl ?_
    refine ab_bipush (z := 7) (v := (7 : Int32)) (by decide +kernel) (by decide) ?_
    refine ab_icmp_lt (off := 9) (tgt := 79) (by decide +kernel) rfl (fun hc => ?_) (fun hc => ?_)
    · replace H := ab_ifp H hc
      exact ab_wk (ab_le_some (ab_le_some (ab_le_some (ab_le_none (ab_le_some (ab_le_nil)))))) (fX4_readsUnit_79_ok hB hd0 hrec H  K0)
    · replace H := ab_ifn H hc
      exact ab_wk (ab_le_some (ab_le_some (ab_le_none (ab_le_none (ab_le_none (ab_le_nil)))))) (fX4_readsUnit_73_ok hB hd0 hrec H  K0)
def fX4_readsUnit_37 (rec : Int32 → Int32 → ab_I → ab_J → Option (Int32 × ab_I × ab_J)) (a1 : Int32) (a2 : Int32) (a3 : Int32) (s0 : Int32) (I : ab_I) (J : ab_J) : Option (Int32 × ab_I × ab_J) :=
  if (30 : Int32) ≤ (I 18 4) then
    fX4_readsUnit_73 rec a1 I J
  else
    if a3 = 0 then
      if s0 = 0 then
        fX4_readsUnit_73 rec a1 I J
      else
        fX4_readsUnit_63 rec a1 a2 a3 s0 I J
    else
      fX4_readsUnit_63 rec a1 a2 a3 s0 I J
set_option maxRecDepth 100000 in
theorem fX4_readsUnit_37_ok {l : Launch} {G : ab_G} {S : ab_S} {I : ab_I} {J : ab_J} {P : ab_P} {Q : ab_Q} {a1 : Int32} {a2 : Int32} {a3 : Int32} {s0 : Int32} (hB : bz_B S P) {rec : Int32 → Int32 → ab_I → ab_J → Option (Int32 × ab_I × ab_J)} {d0 : Nat} (hd0 : 6 ≤ d0) (hrec : ∀ {a1 : Int32} {a2 : Int32} {I : ab_I} {J : ab_J} {r : Int32 × ab_I × ab_J} {Q : ab_Q} , rec a1 a2 I J = some r → Q (some (.int r.1)) S r.2.1 r.2.2 P → ab_Call l G mX4_readsLevel d0 [.ref 11, .int a1, .int a2] S I J P Q) {x : Int32 × ab_I × ab_J} (H : fX4_readsUnit_37 rec a1 a2 a3 s0 I J = some x) (K0 : Q (some (.int x.1)) S x.2.1 x.2.2 P) : ab_WP l G mX4_readsUnit (d0 + 1) 37 [some (.ref 11), some (.int a1), some (.int a2), some (.int a3), none] [.int s0] S I J P 0 0 Q := by
  unfold fX4_readsUnit_37 at H
  refine ab_istore (i := 4) (by decide +kernel) (by decide) rfl ?_
  refine ab_ls (ls' := [some (.ref 11), some (.int a1), some (.int a2), some (.int a3), some (.int s0)]) rfl ?_
  refine ab_aload_n (z := 0) (by decide +kernel) rfl rfl ?_
  refine gX4_7 (ix := 35) (by decide +kernel) tw_178 (hB.1 11 _ rfl) (hB.2.1 21 (11, 7, 14) rfl) ?_
  refine gX9_3 (ix := 150) (by decide +kernel) tw_84 (hB.1 14 _ rfl) (hB.2.1 25 (14, 3, 18) rfl) ?_
  refine gX2_4 (ix := 163) (by decide +kernel) tw_59 (hB.1 18 _ rfl) ?_
  refine ab_bipush (z := 30) (v := (30 : Int32)) (by decide +kernel) (by decide) ?_
  refine ab_icmp_ge (off := 22) (tgt := 73) (by decide +kernel) rfl (fun hc => ?_) (fun hc => ?_)
  · replace H := ab_ifp H hc
    exact ab_wk (ab_le_some (ab_le_some (ab_le_none (ab_le_none (ab_le_none (ab_le_nil)))))) (fX4_readsUnit_73_ok hB hd0 hrec H  K0)
  · replace H := ab_ifn H hc
    refine ab_iload_n (z := 3) (by decide +kernel) rfl rfl ?_
    refine ab_if_ne (off := 8) (tgt := 63) (by decide +kernel) rfl (fun hc => ?_) (fun hc => ?_)
    · replace H := ab_ifn H hc
      exact ab_wk (ab_le_some (ab_le_some (ab_le_some (ab_le_some (ab_le_some (ab_le_nil)))))) (fX4_readsUnit_63_ok hB hd0 hrec H  K0)
    · replace H := ab_ifp H hc
      refine ab_iload (i := 4) (by decide +kernel) rfl ?_
      refine ab_if_eq (off := 13) (tgt := 73) (by decide +kernel) rfl (fun hc => ?_) (fun hc => ?_)
      · replace H := ab_ifp H hc
        exact ab_wk (ab_le_some (ab_le_some (ab_le_none (ab_le_none (ab_le_none (ab_le_nil)))))) (fX4_readsUnit_73_ok hB hd0 hrec H  K0)
      · replace H := ab_ifn H hc
        exact ab_wk (ab_le_some (ab_le_some (ab_le_some (ab_le_some (ab_le_some (ab_le_nil)))))) (fX4_readsUnit_63_ok hB hd0 hrec H  K0)
def fX4_readsUnit_32 (rec : Int32 → Int32 → ab_I → ab_J → Option (Int32 × ab_I × ab_J)) (a1 : Int32) (a2 : Int32) (a3 : Int32) (I : ab_I) (J : ab_J) : Option (Int32 × ab_I × ab_J) :=
  fX4_readsUnit_37 rec a1 a2 a3 (1 : Int32) I J
set_option maxRecDepth 100000 in
theorem fX4_readsUnit_32_ok {l : Launch} {G : ab_G} {S : ab_S} {I : ab_I} {J : ab_J} {P : ab_P} {Q : ab_Q} {a1 : Int32} {a2 : Int32} {a3 : Int32} (hB : bz_B S P) {rec : Int32 → Int32 → ab_I → ab_J → Option (Int32 × ab_I × ab_J)} {d0 : Nat} (hd0 : 6 ≤ d0) (hrec : ∀ {a1 : Int32} {a2 : Int32} {I : ab_I} {J : ab_J} {r : Int32 × ab_I × ab_J} {Q : ab_Q} , rec a1 a2 I J = some r → Q (some (.int r.1)) S r.2.1 r.2.2 P → ab_Call l G mX4_readsLevel d0 [.ref 11, .int a1, .int a2] S I J P Q) {x : Int32 × ab_I × ab_J} (H : fX4_readsUnit_32 rec a1 a2 a3 I J = some x) (K0 : Q (some (.int x.1)) S x.2.1 x.2.2 P) : ab_WP l G mX4_readsUnit (d0 + 1) 32 [some (.ref 11), some (.int a1), some (.int a2), some (.int a3), none] [] S I J P 0 0 Q := by
  unfold fX4_readsUnit_32 at H
  refine ab_iconst (z := 1) (v := (1 : Int32)) (by decide +kernel) (by decide) ?_
  refine ab_goto (off := 4) (tgt := 37) (by decide +kernel) rfl ?_
  exact ab_wk (ab_le_some (ab_le_some (ab_le_some (ab_le_some (ab_le_none (ab_le_nil)))))) (fX4_readsUnit_37_ok hB hd0 hrec H  K0)
def fX4_readsUnit_19 (rec : Int32 → Int32 → ab_I → ab_J → Option (Int32 × ab_I × ab_J)) (a1 : Int32) (a2 : Int32) (s0 : Int32) (I : ab_I) (J : ab_J) : Option (Int32 × ab_I × ab_J) :=
  if a2 = (3 : Int32) then
    fX4_readsUnit_32 rec a1 a2 s0 I J
  else
    (fX2_isValue a2).bind fun u1 =>
    if u1 = 0 then
      fX4_readsUnit_37 rec a1 a2 s0 (0 : Int32) I J
    else
      fX4_readsUnit_32 rec a1 a2 s0 I J
set_option maxRecDepth 100000 in
theorem fX4_readsUnit_19_ok {l : Launch} {G : ab_G} {S : ab_S} {I : ab_I} {J : ab_J} {P : ab_P} {Q : ab_Q} {a1 : Int32} {a2 : Int32} {s0 : Int32} (hB : bz_B S P) {rec : Int32 → Int32 → ab_I → ab_J → Option (Int32 × ab_I × ab_J)} {d0 : Nat} (hd0 : 6 ≤ d0) (hrec : ∀ {a1 : Int32} {a2 : Int32} {I : ab_I} {J : ab_J} {r : Int32 × ab_I × ab_J} {Q : ab_Q} , rec a1 a2 I J = some r → Q (some (.int r.1)) S r.2.1 r.2.2 P → ab_Call l G mX4_readsLevel d0 [.ref 11, .int a1, .int a2] S I J P Q) {x : Int32 × ab_I × ab_J} (H : fX4_readsUnit_19 rec a1 a2 s0 I J = some x) (K0 : Q (some (.int x.1)) S x.2.1 x.2.2 P) : ab_WP l G mX4_readsUnit (d0 + 1) 19 [some (.ref 11), some (.int a1), some (.int a2), none, none] [.int s0] S I J P 0 0 Q := by
  unfold fX4_readsUnit_19 at H
  refine ab_istore_n (z := 3) (by decide +kernel) rfl (by decide) rfl ?_
  refine ab_ls (ls' := [some (.ref 11), some (.int a1), some (.int a2), some (.int s0), none]) rfl ?_
  refine ab_iload_n (z := 2) (by decide +kernel) rfl rfl ?_
  refine ab_iconst (z := 3) (v := (3 : Int32)) (by decide +kernel) (by decide) ?_
  refine ab_icmp_eq (off := 10) (tgt := 32) (by decide +kernel) rfl (fun hc => ?_) (fun hc => ?_)
  · replace H := ab_ifp H hc
    exact ab_wk (ab_le_some (ab_le_some (ab_le_some (ab_le_some (ab_le_none (ab_le_nil)))))) (fX4_readsUnit_32_ok hB hd0 hrec H  K0)
  · replace H := ab_ifn H hc
    refine ab_iload_n (z := 2) (by decide +kernel) rfl rfl ?_
    obtain ⟨u1, hu1, H⟩ := ab_bd_of H
    refine ksX2_isValue (D := 0) (ix := 160) (by decide +kernel) tw_582 (by omega) (Nat.le_of_ble_eq_true rfl) (mX2_isValue_ok hB hu1 ?_)
    change ab_WP l G mX4_readsUnit (d0 + 1) 29 [some (.ref 11), some (.int a1), some (.int a2), some (.int s0), none] [.int u1] S I J P 0 0 Q
    refine ab_if_eq (off := 7) (tgt := 36) (by decide +kernel) rfl (fun hc => ?_) (fun hc => ?_)
    · replace H := ab_ifp H hc
      refine ab_iconst (z := 0) (v := (0 : Int32)) (by decide +kernel) (by decide) ?_
      exact ab_wk (ab_le_some (ab_le_some (ab_le_some (ab_le_some (ab_le_none (ab_le_nil)))))) (fX4_readsUnit_37_ok hB hd0 hrec H  K0)
    · replace H := ab_ifn H hc
      exact ab_wk (ab_le_some (ab_le_some (ab_le_some (ab_le_some (ab_le_none (ab_le_nil)))))) (fX4_readsUnit_32_ok hB hd0 hrec H  K0)
def fX4_readsUnit (rec : Int32 → Int32 → ab_I → ab_J → Option (Int32 × ab_I × ab_J)) (a1 : Int32) (I : ab_I) (J : ab_J) : Option (Int32 × ab_I × ab_J) :=
  if (I 22 2) = (40 : Int32) then
    fX4_readsUnit_19 rec a1 (I 22 2) (1 : Int32) I J
  else
    fX4_readsUnit_19 rec a1 (I 22 2) (0 : Int32) I J
set_option maxRecDepth 100000 in
theorem mX4_readsUnit_ok {l : Launch} {G : ab_G} {S : ab_S} {I : ab_I} {J : ab_J} {P : ab_P} {Q : ab_Q} {a1 : Int32} (hB : bz_B S P) {rec : Int32 → Int32 → ab_I → ab_J → Option (Int32 × ab_I × ab_J)} {d0 : Nat} (hd0 : 6 ≤ d0) (hrec : ∀ {a1 : Int32} {a2 : Int32} {I : ab_I} {J : ab_J} {r : Int32 × ab_I × ab_J} {Q : ab_Q} , rec a1 a2 I J = some r → Q (some (.int r.1)) S r.2.1 r.2.2 P → ab_Call l G mX4_readsLevel d0 [.ref 11, .int a1, .int a2] S I J P Q) {x : Int32 × ab_I × ab_J} (H : fX4_readsUnit rec a1 I J = some x) (K0 : Q (some (.int x.1)) S x.2.1 x.2.2 P) : ab_Call l G mX4_readsUnit (d0 + 1) [.ref 11, .int a1] S I J P Q := by
  unfold fX4_readsUnit at H
  refine ab_enter rfl (Nat.le_of_ble_eq_true rfl) (ab_wk (ls' := [some (.ref 11), some (.int a1), none, none, none]) (ab_le_some (ab_le_some (ab_le_non0 (ab_le_non0 (ab_le_non0 ab_le_nil))))) ?_)
  refine ab_aload_n (z := 0) (by decide +kernel) rfl rfl ?_
  refine gX4_0 (ix := 50) (by decide +kernel) tw_171 (hB.1 11 _ rfl) (hB.2.1 18 (11, 0, 22) rfl) ?_
  refine gX8_2 (ix := 57) (by decide +kernel) tw_150 (hB.1 22 _ rfl) ?_
  refine ab_istore_n (z := 2) (by decide +kernel) rfl (by decide) rfl ?_
  refine ab_ls (ls' := [some (.ref 11), some (.int a1), some (.int (I 22 2)), none, none]) rfl ?_
  refine ab_iload_n (z := 2) (by decide +kernel) rfl rfl ?_
  refine ab_bipush (z := 40) (v := (40 : Int32)) (by decide +kernel) (by decide) ?_
  refine ab_icmp_ne (off := 7) (tgt := 18) (by decide +kernel) rfl (fun hc => ?_) (fun hc => ?_)
  · replace H := ab_ifn H hc
    refine ab_iconst (z := 0) (v := (0 : Int32)) (by decide +kernel) (by decide) ?_
    exact ab_wk (ab_le_some (ab_le_some (ab_le_some (ab_le_none (ab_le_none (ab_le_nil)))))) (fX4_readsUnit_19_ok hB hd0 hrec H  K0)
  · replace H := ab_ifp H hc
    refine ab_iconst (z := 1) (v := (1 : Int32)) (by decide +kernel) (by decide) ?_
    refine ab_goto (off := 4) (tgt := 19) (by decide +kernel) rfl ?_
    exact ab_wk (ab_le_some (ab_le_some (ab_le_some (ab_le_none (ab_le_none (ab_le_nil)))))) (fX4_readsUnit_19_ok hB hd0 hrec H  K0)
abbrev mX4_readsNot : ab_M := (yX4_readsNot, cX4_readsNot, 3, some .boolean, 0, 0)
theorem kvX4_readsNot {l : Launch} {G : ab_G} {M : ab_M} {d pc : Nat} {ls : List (Option Value)} {st : List Value} {S : ab_S} {I : ab_I} {J : ab_J} {P : ab_P} {Q : ab_Q} {v0 : Value} {ix D r ln : Nat} (hd : decode M.2.1 pc = .ok (.invokevirtual ix, 3)) (h1 : Cond.methodLink M.1.cls ix mX4_readsNot.1 ∈ ab_good) (hs : S[r]? = some (9, ln)) (hdg : D + 1 ≤ d) (hsum : (st.map fun v => v.category).sum ≤ 8) (kk : ab_Call l G mX4_readsNot D (.ref r :: [v0]) S I J P (fun v S' I' J' P' => ab_WP l G M d (pc + 3) ls (ab_psh v st) S' I' J' P' 0 0 Q)) : ab_WP l G M d pc ls (v0 :: .ref r :: st) S I J P 0 0 Q := bz_kv (g := mX4_readsNot) (as := [v0]) (cc := 4) rfl hd h1 tw_591 tw_p16 tw_5 tw_592 ⟨by decide +kernel, by decide +kernel, (by decide +kernel : (parseMethodDescriptor mX4_readsNot.1.desc).map (fun d => d.parameters.length) = some 1)⟩ (by decide) rfl rfl rfl hdg hsum hs kk
def fX4_readsNot (rec : Int32 → Int32 → ab_I → ab_J → Option (Int32 × ab_I × ab_J)) (a1 : Int32) (I : ab_I) (J : ab_J) : Option (Int32 × ab_I × ab_J) :=
  if a1 < (7 : Int32) then
    (fX8_advance I J).bind fun u1 =>
    (rec (2 : Int32) (a1 + (1 : Int32)) u1.1 u1.2).bind fun u2 =>
    (fX2_add (-214 : Int32) u2.2.1).bind fun u3 =>
    ab_gd (u2.1 = 0 ∨ u2.1 = 1) (some (u2.1, u3, u2.2.2))
  else
    (fX4_refuses (2 : Int32) I).bind fun u4 =>
    ab_gd (u4.1 = 0 ∨ u4.1 = 1) (some (u4.1, u4.2, J))
set_option maxRecDepth 100000 in
theorem mX4_readsNot_ok {l : Launch} {G : ab_G} {S : ab_S} {I : ab_I} {J : ab_J} {P : ab_P} {Q : ab_Q} {a1 : Int32} (hB : bz_B S P) {rec : Int32 → Int32 → ab_I → ab_J → Option (Int32 × ab_I × ab_J)} {d0 : Nat} (hd0 : 6 ≤ d0) (hrec : ∀ {a1 : Int32} {a2 : Int32} {I : ab_I} {J : ab_J} {r : Int32 × ab_I × ab_J} {Q : ab_Q} , rec a1 a2 I J = some r → Q (some (.int r.1)) S r.2.1 r.2.2 P → ab_Call l G mX4_readsLevel d0 [.ref 11, .int a1, .int a2] S I J P Q) {x : Int32 × ab_I × ab_J} (H : fX4_readsNot rec a1 I J = some x) (K0 : Q (some (.int x.1)) S x.2.1 x.2.2 P) : ab_Call l G mX4_readsNot (d0 + 1) [.ref 11, .int a1] S I J P Q := by
  unfold fX4_readsNot at H
  refine ab_enter rfl (Nat.le_of_ble_eq_true rfl) (ab_wk (ls' := [some (.ref 11), some (.int a1), none]) (ab_le_some (ab_le_some (ab_le_non0 ab_le_nil))) ?_)
  refine ab_iload_n (z := 1) (by decide +kernel) rfl rfl ?_
  refine ab_bipush (z := 7) (v := (7 : Int32)) (by decide +kernel) (by decide) ?_
  refine ab_icmp_lt (off := 9) (tgt := 12) (by decide +kernel) rfl (fun hc => ?_) (fun hc => ?_)
  · replace H := ab_ifp H hc
    refine ab_aload_n (z := 0) (by decide +kernel) rfl rfl ?_
    refine gX4_0 (ix := 50) (by decide +kernel) tw_171 (hB.1 11 _ rfl) (hB.2.1 18 (11, 0, 22) rfl) ?_
    obtain ⟨u1, hu1, H⟩ := ab_bd_of H
    refine kvX8_advance (D := 2) (ix := 93) (by decide +kernel) tw_535 (hB.1 22 _ rfl) (by omega) (Nat.le_of_ble_eq_true rfl) (mX8_advance_ok hB hu1 ?_)
    change ab_WP l G mX4_readsNot (d0 + 1) 19 [some (.ref 11), some (.int a1), none] [] S u1.1 u1.2 P 0 0 Q
    refine ab_aload_n (z := 0) (by decide +kernel) rfl rfl ?_
    refine ab_iconst (z := 2) (v := (2 : Int32)) (by decide +kernel) (by decide) ?_
    refine ab_iload_n (z := 1) (by decide +kernel) rfl rfl ?_
    refine ab_iconst (z := 1) (v := (1 : Int32)) (by decide +kernel) (by decide) ?_
    refine ab_iadd (by decide +kernel) ?_
    obtain ⟨u2, hu2, H⟩ := ab_bd_of H
    refine kvX4_readsLevel (D := d0) (ix := 131) (by decide +kernel) tw_574 (hB.1 11 _ rfl) (by omega) (Nat.le_of_ble_eq_true rfl) (hrec hu2 ?_)
    change ab_WP l G mX4_readsNot (d0 + 1) 27 [some (.ref 11), some (.int a1), none] [.int u2.1] S u2.2.1 u2.2.2 P 0 0 Q
    refine ab_istore_n (z := 2) (by decide +kernel) rfl (by decide) rfl ?_
    refine ab_ls (ls' := [some (.ref 11), some (.int a1), some (.int u2.1)]) rfl ?_
    refine ab_aload_n (z := 0) (by decide +kernel) rfl rfl ?_
    refine gX4_7 (ix := 35) (by decide +kernel) tw_178 (hB.1 11 _ rfl) (hB.2.1 21 (11, 7, 14) rfl) ?_
    refine gX9_3 (ix := 150) (by decide +kernel) tw_84 (hB.1 14 _ rfl) (hB.2.1 25 (14, 3, 18) rfl) ?_
    refine ab_sipush (z := -214) (v := (-214 : Int32)) (by decide +kernel) (by decide) ?_
    obtain ⟨u3, hu3, H⟩ := ab_bd_of H
    refine kvX2_add (D := 0) (ix := 154) (by decide +kernel) tw_585 (hB.1 18 _ rfl) (by omega) (Nat.le_of_ble_eq_true rfl) (mX2_add_ok hB hu3 ?_)
    change ab_WP l G mX4_readsNot (d0 + 1) 41 [some (.ref 11), some (.int a1), some (.int u2.1)] [] S u3 u2.2.2 P 0 0 Q
    refine ab_iload_n (z := 2) (by decide +kernel) rfl rfl ?_
    obtain ⟨hg, H⟩ := ab_gd_of H
    obtain rfl := Option.some.inj H
    exact ab_zret (by decide +kernel) rfl (Nat.le_refl _) (Nat.le_refl _) hg K0
  · replace H := ab_ifn H hc
    refine ab_aload_n (z := 0) (by decide +kernel) rfl rfl ?_
    refine ab_iconst (z := 2) (v := (2 : Int32)) (by decide +kernel) (by decide) ?_
    obtain ⟨u4, hu4, H⟩ := ab_bd_of H
    refine kvX4_refuses (D := 0) (ix := 79) (by decide +kernel) tw_531 (hB.1 11 _ rfl) (by omega) (Nat.le_of_ble_eq_true rfl) (mX4_refuses_ok hB hu4 ?_)
    change ab_WP l G mX4_readsNot (d0 + 1) 11 [some (.ref 11), some (.int a1), none] [.int u4.1] S u4.2 J P 0 0 Q
    obtain ⟨hg, H⟩ := ab_gd_of H
    obtain rfl := Option.some.inj H
    exact ab_zret (by decide +kernel) rfl (Nat.le_refl _) (Nat.le_refl _) hg K0
abbrev mX4_levelOf : ab_M := (yX4_levelOf, cX4_levelOf, 1, some .int, 0, 0)
theorem ksX4_levelOf {l : Launch} {G : ab_G} {M : ab_M} {d pc : Nat} {ls : List (Option Value)} {st : List Value} {S : ab_S} {I : ab_I} {J : ab_J} {P : ab_P} {Q : ab_Q} {v0 : Value} {ix D : Nat} (hd : decode M.2.1 pc = .ok (.invokestatic ix, 3)) (h1 : Cond.methodLink M.1.cls ix mX4_levelOf.1 ∈ ab_good) (hdg : D + 1 ≤ d) (hsum : (st.map fun v => v.category).sum ≤ 8) (kk : ab_Call l G mX4_levelOf D [v0] S I J P (fun v S' I' J' P' => ab_WP l G M d (pc + 3) ls (ab_psh v st) S' I' J' P' 0 0 Q)) : ab_WP l G M d pc ls (v0 :: st) S I J P 0 0 Q := bz_ks (g := mX4_levelOf) (as := [v0]) rfl hd h1 tw_594 tw_5 tw_595 ⟨by decide +kernel, by decide +kernel, (by decide +kernel : (parseMethodDescriptor mX4_levelOf.1.desc).map (fun d => d.parameters.length) = some 1)⟩ (by decide) rfl hdg hsum kk
def fX4_levelOf_113 (a0 : Int32) (s0 : Int32) : Option Int32 :=
  some s0
set_option maxRecDepth 100000 in
theorem fX4_levelOf_113_ok {l : Launch} {G : ab_G} {S : ab_S} {I : ab_I} {J : ab_J} {P : ab_P} {Q : ab_Q} {a0 : Int32} {s0 : Int32} (hB : bz_B S P) {x : Int32} (H : fX4_levelOf_113 a0 s0 = some x) (K0 : Q (some (.int x)) S I J P) : ab_WP l G mX4_levelOf 0 113 [some (.int a0)] [.int s0] S I J P 0 0 Q := by
  unfold fX4_levelOf_113 at H
  obtain rfl := Option.some.inj H
  exact ab_iret (by decide +kernel) rfl (Nat.le_refl _) (Nat.le_refl _) K0
def fX4_levelOf (a0 : Int32) : Option Int32 :=
  if a0 = (37 : Int32) then
    fX4_levelOf_113 a0 (4 : Int32)
  else
    if a0 = (42 : Int32) then
      fX4_levelOf_113 a0 (4 : Int32)
    else
      if a0 = (43 : Int32) then
        fX4_levelOf_113 a0 (3 : Int32)
      else
        if a0 = (45 : Int32) then
          fX4_levelOf_113 a0 (3 : Int32)
        else
          if a0 = (47 : Int32) then
            fX4_levelOf_113 a0 (4 : Int32)
          else
            if a0 = (60 : Int32) then
              fX4_levelOf_113 a0 (2 : Int32)
            else
              if a0 = (61 : Int32) then
                fX4_levelOf_113 a0 (2 : Int32)
              else
                if a0 = (62 : Int32) then
                  fX4_levelOf_113 a0 (2 : Int32)
                else
                  if a0 = (212 : Int32) then
                    fX4_levelOf_113 a0 (0 : Int32)
                  else
                    if a0 = (213 : Int32) then
                      fX4_levelOf_113 a0 (1 : Int32)
                    else
                      fX4_levelOf_113 a0 (-1 : Int32)
set_option maxRecDepth 100000 in
theorem mX4_levelOf_ok {l : Launch} {G : ab_G} {S : ab_S} {I : ab_I} {J : ab_J} {P : ab_P} {Q : ab_Q} {a0 : Int32} (hB : bz_B S P) {x : Int32} (H : fX4_levelOf a0 = some x) (K0 : Q (some (.int x)) S I J P) : ab_Call l G mX4_levelOf 0 [.int a0] S I J P Q := by
  unfold fX4_levelOf at H
  refine ab_enter rfl (Nat.le_of_ble_eq_true rfl) (ab_wk (ls' := [some (.int a0)]) (ab_le_some (ab_le_nil)) ?_)
  refine ab_iload_n (z := 0) (by decide +kernel) rfl rfl ?_
  by_cases hk37 : a0 = (37 : Int32)
  · replace H := ab_ifp H hk37
    refine ab_lookk (key := (37 : Int32)) (off := 107) (tgt := 108) (dflt := 111) (ps := #[(37, 107), (42, 107), (43, 103), (45, 103), (47, 107), (60, 99), (61, 99), (62, 99), (212, 91), (213, 95)]) (len := 91) hk37 (by decide +kernel) (by decide) (by decide) rfl ?_
    refine ab_iconst (z := 4) (v := (4 : Int32)) (by decide +kernel) (by decide) ?_
    refine ab_goto (off := 4) (tgt := 113) (by decide +kernel) rfl ?_
    exact ab_wk (ab_le_some (ab_le_nil)) (fX4_levelOf_113_ok hB H  K0)
  replace H := ab_ifn H hk37
  by_cases hk42 : a0 = (42 : Int32)
  · replace H := ab_ifp H hk42
    refine ab_lookk (key := (42 : Int32)) (off := 107) (tgt := 108) (dflt := 111) (ps := #[(37, 107), (42, 107), (43, 103), (45, 103), (47, 107), (60, 99), (61, 99), (62, 99), (212, 91), (213, 95)]) (len := 91) hk42 (by decide +kernel) (by decide) (by decide) rfl ?_
    refine ab_iconst (z := 4) (v := (4 : Int32)) (by decide +kernel) (by decide) ?_
    refine ab_goto (off := 4) (tgt := 113) (by decide +kernel) rfl ?_
    exact ab_wk (ab_le_some (ab_le_nil)) (fX4_levelOf_113_ok hB H  K0)
  replace H := ab_ifn H hk42
  by_cases hk43 : a0 = (43 : Int32)
  · replace H := ab_ifp H hk43
    refine ab_lookk (key := (43 : Int32)) (off := 103) (tgt := 104) (dflt := 111) (ps := #[(37, 107), (42, 107), (43, 103), (45, 103), (47, 107), (60, 99), (61, 99), (62, 99), (212, 91), (213, 95)]) (len := 91) hk43 (by decide +kernel) (by decide) (by decide) rfl ?_
    refine ab_iconst (z := 3) (v := (3 : Int32)) (by decide +kernel) (by decide) ?_
    refine ab_goto (off := 8) (tgt := 113) (by decide +kernel) rfl ?_
    exact ab_wk (ab_le_some (ab_le_nil)) (fX4_levelOf_113_ok hB H  K0)
  replace H := ab_ifn H hk43
  by_cases hk45 : a0 = (45 : Int32)
  · replace H := ab_ifp H hk45
    refine ab_lookk (key := (45 : Int32)) (off := 103) (tgt := 104) (dflt := 111) (ps := #[(37, 107), (42, 107), (43, 103), (45, 103), (47, 107), (60, 99), (61, 99), (62, 99), (212, 91), (213, 95)]) (len := 91) hk45 (by decide +kernel) (by decide) (by decide) rfl ?_
    refine ab_iconst (z := 3) (v := (3 : Int32)) (by decide +kernel) (by decide) ?_
    refine ab_goto (off := 8) (tgt := 113) (by decide +kernel) rfl ?_
    exact ab_wk (ab_le_some (ab_le_nil)) (fX4_levelOf_113_ok hB H  K0)
  replace H := ab_ifn H hk45
  by_cases hk47 : a0 = (47 : Int32)
  · replace H := ab_ifp H hk47
    refine ab_lookk (key := (47 : Int32)) (off := 107) (tgt := 108) (dflt := 111) (ps := #[(37, 107), (42, 107), (43, 103), (45, 103), (47, 107), (60, 99), (61, 99), (62, 99), (212, 91), (213, 95)]) (len := 91) hk47 (by decide +kernel) (by decide) (by decide) rfl ?_
    refine ab_iconst (z := 4) (v := (4 : Int32)) (by decide +kernel) (by decide) ?_
    refine ab_goto (off := 4) (tgt := 113) (by decide +kernel) rfl ?_
    exact ab_wk (ab_le_some (ab_le_nil)) (fX4_levelOf_113_ok hB H  K0)
  replace H := ab_ifn H hk47
  by_cases hk60 : a0 = (60 : Int32)
  · replace H := ab_ifp H hk60
    refine ab_lookk (key := (60 : Int32)) (off := 99) (tgt := 100) (dflt := 111) (ps := #[(37, 107), (42, 107), (43, 103), (45, 103), (47, 107), (60, 99), (61, 99), (62, 99), (212, 91), (213, 95)]) (len := 91) hk60 (by decide +kernel) (by decide) (by decide) rfl ?_
    refine ab_iconst (z := 2) (v := (2 : Int32)) (by decide +kernel) (by decide) ?_
    refine ab_goto (off := 12) (tgt := 113) (by decide +kernel) rfl ?_
    exact ab_wk (ab_le_some (ab_le_nil)) (fX4_levelOf_113_ok hB H  K0)
  replace H := ab_ifn H hk60
  by_cases hk61 : a0 = (61 : Int32)
  · replace H := ab_ifp H hk61
    refine ab_lookk (key := (61 : Int32)) (off := 99) (tgt := 100) (dflt := 111) (ps := #[(37, 107), (42, 107), (43, 103), (45, 103), (47, 107), (60, 99), (61, 99), (62, 99), (212, 91), (213, 95)]) (len := 91) hk61 (by decide +kernel) (by decide) (by decide) rfl ?_
    refine ab_iconst (z := 2) (v := (2 : Int32)) (by decide +kernel) (by decide) ?_
    refine ab_goto (off := 12) (tgt := 113) (by decide +kernel) rfl ?_
    exact ab_wk (ab_le_some (ab_le_nil)) (fX4_levelOf_113_ok hB H  K0)
  replace H := ab_ifn H hk61
  by_cases hk62 : a0 = (62 : Int32)
  · replace H := ab_ifp H hk62
    refine ab_lookk (key := (62 : Int32)) (off := 99) (tgt := 100) (dflt := 111) (ps := #[(37, 107), (42, 107), (43, 103), (45, 103), (47, 107), (60, 99), (61, 99), (62, 99), (212, 91), (213, 95)]) (len := 91) hk62 (by decide +kernel) (by decide) (by decide) rfl ?_
    refine ab_iconst (z := 2) (v := (2 : Int32)) (by decide +kernel) (by decide) ?_
    refine ab_goto (off := 12) (tgt := 113) (by decide +kernel) rfl ?_
    exact ab_wk (ab_le_some (ab_le_nil)) (fX4_levelOf_113_ok hB H  K0)
  replace H := ab_ifn H hk62
  by_cases hk212 : a0 = (212 : Int32)
  · replace H := ab_ifp H hk212
    refine ab_lookk (key := (212 : Int32)) (off := 91) (tgt := 92) (dflt := 111) (ps := #[(37, 107), (42, 107), (43, 103), (45, 103), (47, 107), (60, 99), (61, 99), (62, 99), (212, 91), (213, 95)]) (len := 91) hk212 (by decide +kernel) (by decide) (by decide) rfl ?_
    refine ab_iconst (z := 0) (v := (0 : Int32)) (by decide +kernel) (by decide) ?_
    refine ab_goto (off := 20) (tgt := 113) (by decide +kernel) rfl ?_
    exact ab_wk (ab_le_some (ab_le_nil)) (fX4_levelOf_113_ok hB H  K0)
  replace H := ab_ifn H hk212
  by_cases hk213 : a0 = (213 : Int32)
  · replace H := ab_ifp H hk213
    refine ab_lookk (key := (213 : Int32)) (off := 95) (tgt := 96) (dflt := 111) (ps := #[(37, 107), (42, 107), (43, 103), (45, 103), (47, 107), (60, 99), (61, 99), (62, 99), (212, 91), (213, 95)]) (len := 91) hk213 (by decide +kernel) (by decide) (by decide) rfl ?_
    refine ab_iconst (z := 1) (v := (1 : Int32)) (by decide +kernel) (by decide) ?_
    refine ab_goto (off := 16) (tgt := 113) (by decide +kernel) rfl ?_
    exact ab_wk (ab_le_some (ab_le_nil)) (fX4_levelOf_113_ok hB H  K0)
  replace H := ab_ifn H hk213
  have KD : ab_WP l G mX4_levelOf 0 112 [some (.int a0)] [] S I J P 0 0 Q := by
    refine ab_iconst (z := -1) (v := (-1 : Int32)) (by decide +kernel) (by decide) ?_
    exact ab_wk (ab_le_some (ab_le_nil)) (fX4_levelOf_113_ok hB H  K0)
  refine ab_lookup (dflt := 111) (ps := #[(37, 107), (42, 107), (43, 103), (45, 103), (47, 107), (60, 99), (61, 99), (62, 99), (212, 91), (213, 95)]) (len := 91) (by decide +kernel) (by decide) (off := 111) (tgt := 112) ?_ rfl KD
  show Op.lookupswitch.offset [(37, 107), (42, 107), (43, 103), (45, 103), (47, 107), (60, 99), (61, 99), (62, 99), (212, 91), (213, 95)] _ _ = _
  rw [bz_lk (key := (37 : Int32)) (by decide) hk37, bz_lk (key := (42 : Int32)) (by decide) hk42, bz_lk (key := (43 : Int32)) (by decide) hk43, bz_lk (key := (45 : Int32)) (by decide) hk45, bz_lk (key := (47 : Int32)) (by decide) hk47, bz_lk (key := (60 : Int32)) (by decide) hk60, bz_lk (key := (61 : Int32)) (by decide) hk61, bz_lk (key := (62 : Int32)) (by decide) hk62, bz_lk (key := (212 : Int32)) (by decide) hk212, bz_lk (key := (213 : Int32)) (by decide) hk213, Op.lookupswitch.offset_nil]
