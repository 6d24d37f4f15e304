abbrev mX11_back : ab_M := (yX11_back, cX11_back, 2, some .int, 0, 0)
def fX11_back_20 (a1 : Int32) (P : ab_P) (I : ab_I) : Option (Int32 × ab_I) :=
  some ((-1 : Int32), I)
set_option maxRecDepth 100000 in
theorem fX11_back_20_ok {l : Launch} {G : ab_G} {S : ab_S} {I : ab_I} {J : ab_J} {P : ab_P} {Q : ab_Q} {a1 : Int32} (hB : bz_B S P) {x : Int32 × ab_I} (H : fX11_back_20 a1 P I = some x) (K0 : Q (some (.int x.1)) S x.2 J P) : ab_WP l G mX11_back 2 20 [some (.ref 0), some (.int a1)] [] S I J P 0 0 Q := by
  unfold fX11_back_20 at H
  refine ab_iconst (z := -1) (v := (-1 : Int32)) (by decide +kernel) (by decide) ?_
  obtain rfl := Option.some.inj H
  exact ab_iret (by decide +kernel) rfl (Nat.le_refl _) (Nat.le_refl _) K0
def fX11_back (a1 : Int32) (I : ab_I) (P : ab_P) : Option (Int32 × ab_I) :=
  (fX11_within a1 (0 : Int32) (2 : Int32)).bind fun u1 =>
  if u1 = 0 then
    fX11_back_20 a1 P I
  else
    if (((I 0 11) >>> (a1 &&& 31)) &&& (1 : Int32)) = 0 then
      fX11_back_20 a1 P I
    else
      (P 0 12).bind fun z2 =>
      ab_gd (ab_ix a1 3 = true) (
        (P 56 a1.toNatClampNeg).bind fun z3 =>
        (fX6_copyFrom z2 z3 I).bind fun u4 =>
        (fX0_forget u4).bind fun u5 =>
        (P 0 12).bind fun z6 =>
        some ((u5 z6 4), u5)
      )
set_option maxRecDepth 100000 in
theorem mX11_back_ok {l : Launch} {G : ab_G} {S : ab_S} {I : ab_I} {J : ab_J} {P : ab_P} {Q : ab_Q} {a1 : Int32} (hB : bz_B S P) {x : Int32 × ab_I} (H : fX11_back a1 I P = some x) (K0 : Q (some (.int x.1)) S x.2 J P) : ab_Call l G mX11_back 2 [.ref 0, .int a1] S I J P Q := by
  unfold fX11_back at H
  refine ab_enter rfl (Nat.le_of_ble_eq_true rfl) (ab_wk (ls' := [some (.ref 0), some (.int a1)]) (ab_le_some (ab_le_some (ab_le_nil))) ?_)
  refine ab_iload_n (z := 1) (by decide +kernel) rfl rfl ?_
  refine ab_iconst (z := 0) (v := (0 : Int32)) (by decide +kernel) (by decide) ?_
  refine ab_iconst (z := 2) (v := (2 : Int32)) (by decide +kernel) (by decide) ?_
  obtain ⟨u1, hu1, H⟩ := ab_bd_of H
  refine ksX11_within (D := 0) (ix := 191) (by decide +kernel) tw_746 (by decide) (Nat.le_of_ble_eq_true rfl) (mX11_within_ok hB hu1 ?_)
  change ab_WP l G mX11_back 2 6 [some (.ref 0), some (.int a1)] [.int u1] S I J P 0 0 Q
  refine ab_if_eq (off := 14) (tgt := 20) (by decide +kernel) rfl (fun hc => ?_) (fun hc => ?_)
  · replace H := ab_ifp H hc
    exact ab_wk (ab_le_some (ab_le_some (ab_le_nil))) (fX11_back_20_ok hB H  K0)
  · replace H := ab_ifn H hc
    refine ab_aload_n (z := 0) (by decide +kernel) rfl rfl ?_
    refine gX11_11 (ix := 85) (by decide +kernel) tw_419 (hB.1 0 _ rfl) ?_
    refine ab_iload_n (z := 1) (by decide +kernel) rfl rfl ?_
    refine ab_ishr (by decide +kernel) ?_
    refine ab_iconst (z := 1) (v := (1 : Int32)) (by decide +kernel) (by decide) ?_
    refine ab_iand (by decide +kernel) ?_
    refine ab_if_ne (off := 5) (tgt := 22) (by decide +kernel) rfl (fun hc => ?_) (fun hc => ?_)
    · replace H := ab_ifn H hc
      refine ab_aload_n (z := 0) (by decide +kernel) rfl rfl ?_
      obtain ⟨z2, hz2, H⟩ := ab_bd_of H
      refine gX11_12 (ix := 89) (by decide +kernel) tw_420 (hB.1 0 _ rfl) hz2 ?_
      have sz2 := hB.2.2.1 _ hz2
      refine ab_aload_n (z := 0) (by decide +kernel) rfl rfl ?_
      refine gX11_10 (ix := 81) (by decide +kernel) tw_418 (hB.1 0 _ rfl) (hB.2.1 9 (0, 10, 56) rfl) ?_
      refine ab_iload_n (z := 1) (by decide +kernel) rfl rfl ?_
      obtain ⟨hg, H⟩ := ab_gd_of H
      obtain ⟨z3, hz3, H⟩ := ab_bd_of H
      refine ab_aald (ln := 3) (by decide +kernel) (hB.1 56 _ rfl) (ab_ix_in hg) hz3 ?_
      have sz3 := bz_box hB (ab_ix_in hg) hz3
      obtain ⟨u4, hu4, H⟩ := ab_bd_of H
      refine kvX6_copyFrom (D := 1) (ix := 337) (by decide +kernel) tw_1066 sz2.1 (by decide) (Nat.le_of_ble_eq_true rfl) (mX6_copyFrom_ok hB sz2 sz3 hu4 ?_)
      change ab_WP l G mX11_back 2 35 [some (.ref 0), some (.int a1)] [] S u4 J P 0 0 Q
      refine ab_aload_n (z := 0) (by decide +kernel) rfl rfl ?_
      refine gX11_7 (ix := 67) (by decide +kernel) tw_415 (hB.1 0 _ rfl) (hB.2.1 7 (0, 7, 53) rfl) ?_
      obtain ⟨u5, hu5, H⟩ := ab_bd_of H
      refine kvX0_forget (D := 0) (ix := 122) (by decide +kernel) tw_620 (hB.1 53 _ rfl) (by decide) (Nat.le_of_ble_eq_true rfl) (mX0_forget_ok hB hu5 ?_)
      change ab_WP l G mX11_back 2 42 [some (.ref 0), some (.int a1)] [] S u5 J P 0 0 Q
      refine ab_aload_n (z := 0) (by decide +kernel) rfl rfl ?_
      obtain ⟨z6, hz6, H⟩ := ab_bd_of H
      refine gX11_12 (ix := 89) (by decide +kernel) tw_420 (hB.1 0 _ rfl) hz6 ?_
      have sz6 := hB.2.2.1 _ hz6
      refine gX6_4 (ix := 181) (by decide +kernel) tw_263 sz6.1 ?_
      obtain rfl := Option.some.inj H
      exact ab_iret (by decide +kernel) rfl (Nat.le_refl _) (Nat.le_refl _) K0
    · replace H := ab_ifp H hc
      exact ab_wk (ab_le_some (ab_le_some (ab_le_nil))) (fX11_back_20_ok hB H  K0)
abbrev mX11_about : ab_M := (yX11_about, cX11_about, 2, some .int, 0, 0)
def fX11_about_221 (a1 : Int32) (I : ab_I) (P : ab_P) (s0 : Int32) : Option Int32 :=
  some s0
set_option maxRecDepth 100000 in
theorem fX11_about_221_ok {l : Launch} {G : ab_G} {S : ab_S} {I : ab_I} {J : ab_J} {P : ab_P} {Q : ab_Q} {a1 : Int32} {s0 : Int32} (hB : bz_B S P) {x : Int32} (H : fX11_about_221 a1 I P s0 = some x) (K0 : Q (some (.int x)) S I J P) : ab_WP l G mX11_about 0 221 [some (.ref 0), some (.int a1)] [.int s0] S I J P 0 0 Q := by
  unfold fX11_about_221 at H
  obtain rfl := Option.some.inj H
  exact ab_iret (by decide +kernel) rfl (Nat.le_refl _) (Nat.le_refl _) K0
def fX11_about (a1 : Int32) (I : ab_I) (P : ab_P) : Option Int32 :=
  if a1 = (0 : Int32) then
    fX11_about_221 a1 I P (I 3 4)
  else
    if a1 = (1 : Int32) then
      fX11_about_221 a1 I P (I 3 5)
    else
      if a1 = (2 : Int32) then
        fX11_about_221 a1 I P (I 3 6)
      else
        if a1 = (3 : Int32) then
          (P 0 12).bind fun z1 =>
          fX11_about_221 a1 I P (I z1 3)
        else
          if a1 = (4 : Int32) then
            (P 0 12).bind fun z2 =>
            fX11_about_221 a1 I P (I z2 4)
          else
            if a1 = (5 : Int32) then
              (P 0 12).bind fun z3 =>
              fX11_about_221 a1 I P (I z3 5)
            else
              if a1 = (6 : Int32) then
                fX11_about_221 a1 I P (I 53 1)
              else
                if a1 = (7 : Int32) then
                  fX11_about_221 a1 I P ((I 53 2) - (I 53 1))
                else
                  if a1 = (8 : Int32) then
                    fX11_about_221 a1 I P (I 41 10)
                  else
                    if a1 = (9 : Int32) then
                      fX11_about_221 a1 I P (I 41 11)
                    else
                      if a1 = (10 : Int32) then
                        fX11_about_221 a1 I P (I 1 1)
                      else
                        if a1 = (11 : Int32) then
                          fX11_about_221 a1 I P (I 7 4)
                        else
                          if a1 = (12 : Int32) then
                            fX11_about_221 a1 I P (I 0 9)
                          else
                            if a1 = (13 : Int32) then
                              fX11_about_221 a1 I P (I 3 8)
                            else
                              fX11_about_221 a1 I P (-1 : Int32)
set_option maxRecDepth 100000 in
theorem mX11_about_ok {l : Launch} {G : ab_G} {S : ab_S} {I : ab_I} {J : ab_J} {P : ab_P} {Q : ab_Q} {a1 : Int32} (hB : bz_B S P) {x : Int32} (H : fX11_about a1 I P = some x) (K0 : Q (some (.int x)) S I J P) : ab_Call l G mX11_about 0 [.ref 0, .int a1] S I J P Q := by
  unfold fX11_about at H
  refine ab_enter rfl (Nat.le_of_ble_eq_true rfl) (ab_wk (ls' := [some (.ref 0), some (.int a1)]) (ab_le_some (ab_le_some (ab_le_nil))) ?_)
  refine ab_iload_n (z := 1) (by decide +kernel) rfl rfl ?_
  by_cases hk0 : a1 = (0 : Int32)
  · replace H := ab_ifp H hk0
    refine ab_tabk (key := (0 : Int32)) (off := 71) (tgt := 72) (dflt := 219) (lo := 0) (hi := 13) (offs := #[71, 81, 91, 101, 111, 121, 131, 141, 159, 169, 179, 189, 202, 209]) (len := 71) hk0 (by decide +kernel) (by decide) rfl ?_
    refine ab_aload_n (z := 0) (by decide +kernel) rfl rfl ?_
    refine gX11_1 (ix := 19) (by decide +kernel) tw_409 (hB.1 0 _ rfl) (hB.2.1 1 (0, 1, 3) rfl) ?_
    refine gX9_4 (ix := 126) (by decide +kernel) tw_88 (hB.1 3 _ rfl) ?_
    refine ab_goto (off := 142) (tgt := 221) (by decide +kernel) rfl ?_
    exact ab_wk (ab_le_some (ab_le_some (ab_le_nil))) (fX11_about_221_ok hB H  K0)
  replace H := ab_ifn H hk0
  by_cases hk1 : a1 = (1 : Int32)
  · replace H := ab_ifp H hk1
    refine ab_tabk (key := (1 : Int32)) (off := 81) (tgt := 82) (dflt := 219) (lo := 0) (hi := 13) (offs := #[71, 81, 91, 101, 111, 121, 131, 141, 159, 169, 179, 189, 202, 209]) (len := 71) hk1 (by decide +kernel) (by decide) rfl ?_
    refine ab_aload_n (z := 0) (by decide +kernel) rfl rfl ?_
    refine gX11_1 (ix := 19) (by decide +kernel) tw_409 (hB.1 0 _ rfl) (hB.2.1 1 (0, 1, 3) rfl) ?_
    refine gX9_5 (ix := 232) (by decide +kernel) tw_98 (hB.1 3 _ rfl) ?_
    refine ab_goto (off := 132) (tgt := 221) (by decide +kernel) rfl ?_
    exact ab_wk (ab_le_some (ab_le_some (ab_le_nil))) (fX11_about_221_ok hB H  K0)
  replace H := ab_ifn H hk1
  by_cases hk2 : a1 = (2 : Int32)
  · replace H := ab_ifp H hk2
    refine ab_tabk (key := (2 : Int32)) (off := 91) (tgt := 92) (dflt := 219) (lo := 0) (hi := 13) (offs := #[71, 81, 91, 101, 111, 121, 131, 141, 159, 169, 179, 189, 202, 209]) (len := 71) hk2 (by decide +kernel) (by decide) rfl ?_
    refine ab_aload_n (z := 0) (by decide +kernel) rfl rfl ?_
    refine gX11_1 (ix := 19) (by decide +kernel) tw_409 (hB.1 0 _ rfl) (hB.2.1 1 (0, 1, 3) rfl) ?_
    refine gX9_6 (ix := 303) (by decide +kernel) tw_102 (hB.1 3 _ rfl) ?_
    refine ab_goto (off := 122) (tgt := 221) (by decide +kernel) rfl ?_
    exact ab_wk (ab_le_some (ab_le_some (ab_le_nil))) (fX11_about_221_ok hB H  K0)
  replace H := ab_ifn H hk2
  by_cases hk3 : a1 = (3 : Int32)
  · replace H := ab_ifp H hk3
    refine ab_tabk (key := (3 : Int32)) (off := 101) (tgt := 102) (dflt := 219) (lo := 0) (hi := 13) (offs := #[71, 81, 91, 101, 111, 121, 131, 141, 159, 169, 179, 189, 202, 209]) (len := 71) hk3 (by decide +kernel) (by decide) rfl ?_
    refine ab_aload_n (z := 0) (by decide +kernel) rfl rfl ?_
    obtain ⟨z1, hz1, H⟩ := ab_bd_of H
    refine gX11_12 (ix := 89) (by decide +kernel) tw_420 (hB.1 0 _ rfl) hz1 ?_
    have sz1 := hB.2.2.1 _ hz1
    refine gX6_3 (ix := 139) (by decide +kernel) tw_258 sz1.1 ?_
    refine ab_goto (off := 112) (tgt := 221) (by decide +kernel) rfl ?_
    exact ab_wk (ab_le_some (ab_le_some (ab_le_nil))) (fX11_about_221_ok hB H  K0)
  replace H := ab_ifn H hk3
  by_cases hk4 : a1 = (4 : Int32)
  · replace H := ab_ifp H hk4
    refine ab_tabk (key := (4 : Int32)) (off := 111) (tgt := 112) (dflt := 219) (lo := 0) (hi := 13) (offs := #[71, 81, 91, 101, 111, 121, 131, 141, 159, 169, 179, 189, 202, 209]) (len := 71) hk4 (by decide +kernel) (by decide) rfl ?_
    refine ab_aload_n (z := 0) (by decide +kernel) rfl rfl ?_
    obtain ⟨z2, hz2, H⟩ := ab_bd_of H
    refine gX11_12 (ix := 89) (by decide +kernel) tw_420 (hB.1 0 _ rfl) hz2 ?_
    have sz2 := hB.2.2.1 _ hz2
    refine gX6_4 (ix := 181) (by decide +kernel) tw_263 sz2.1 ?_
    refine ab_goto (off := 102) (tgt := 221) (by decide +kernel) rfl ?_
    exact ab_wk (ab_le_some (ab_le_some (ab_le_nil))) (fX11_about_221_ok hB H  K0)
  replace H := ab_ifn H hk4
  by_cases hk5 : a1 = (5 : Int32)
  · replace H := ab_ifp H hk5
    refine ab_tabk (key := (5 : Int32)) (off := 121) (tgt := 122) (dflt := 219) (lo := 0) (hi := 13) (offs := #[71, 81, 91, 101, 111, 121, 131, 141, 159, 169, 179, 189, 202, 209]) (len := 71) hk5 (by decide +kernel) (by decide) rfl ?_
    refine ab_aload_n (z := 0) (by decide +kernel) rfl rfl ?_
    obtain ⟨z3, hz3, H⟩ := ab_bd_of H
    refine gX11_12 (ix := 89) (by decide +kernel) tw_420 (hB.1 0 _ rfl) hz3 ?_
    have sz3 := hB.2.2.1 _ hz3
    refine gX6_5 (ix := 339) (by decide +kernel) tw_267 sz3.1 ?_
    refine ab_goto (off := 92) (tgt := 221) (by decide +kernel) rfl ?_
    exact ab_wk (ab_le_some (ab_le_some (ab_le_nil))) (fX11_about_221_ok hB H  K0)
  replace H := ab_ifn H hk5
  by_cases hk6 : a1 = (6 : Int32)
  · replace H := ab_ifp H hk6
    refine ab_tabk (key := (6 : Int32)) (off := 131) (tgt := 132) (dflt := 219) (lo := 0) (hi := 13) (offs := #[71, 81, 91, 101, 111, 121, 131, 141, 159, 169, 179, 189, 202, 209]) (len := 71) hk6 (by decide +kernel) (by decide) rfl ?_
    refine ab_aload_n (z := 0) (by decide +kernel) rfl rfl ?_
    refine gX11_7 (ix := 67) (by decide +kernel) tw_415 (hB.1 0 _ rfl) (hB.2.1 7 (0, 7, 53) rfl) ?_
    refine gX0_1 (ix := 342) (by decide +kernel) tw_396 (hB.1 53 _ rfl) ?_
    refine ab_goto (off := 82) (tgt := 221) (by decide +kernel) rfl ?_
    exact ab_wk (ab_le_some (ab_le_some (ab_le_nil))) (fX11_about_221_ok hB H  K0)
  replace H := ab_ifn H hk6
  by_cases hk7 : a1 = (7 : Int32)
  · replace H := ab_ifp H hk7
    refine ab_tabk (key := (7 : Int32)) (off := 141) (tgt := 142) (dflt := 219) (lo := 0) (hi := 13) (offs := #[71, 81, 91, 101, 111, 121, 131, 141, 159, 169, 179, 189, 202, 209]) (len := 71) hk7 (by decide +kernel) (by decide) rfl ?_
    refine ab_aload_n (z := 0) (by decide +kernel) rfl rfl ?_
    refine gX11_7 (ix := 67) (by decide +kernel) tw_415 (hB.1 0 _ rfl) (hB.2.1 7 (0, 7, 53) rfl) ?_
    refine gX0_2 (ix := 345) (by decide +kernel) tw_398 (hB.1 53 _ rfl) ?_
    refine ab_aload_n (z := 0) (by decide +kernel) rfl rfl ?_
    refine gX11_7 (ix := 67) (by decide +kernel) tw_415 (hB.1 0 _ rfl) (hB.2.1 7 (0, 7, 53) rfl) ?_
    refine gX0_1 (ix := 342) (by decide +kernel) tw_396 (hB.1 53 _ rfl) ?_
    refine ab_isub (by decide +kernel) ?_
    refine ab_goto (off := 64) (tgt := 221) (by decide +kernel) rfl ?_
    exact ab_wk (ab_le_some (ab_le_some (ab_le_nil))) (fX11_about_221_ok hB H  K0)
  replace H := ab_ifn H hk7
  by_cases hk8 : a1 = (8 : Int32)
  · replace H := ab_ifp H hk8
    refine ab_tabk (key := (8 : Int32)) (off := 159) (tgt := 160) (dflt := 219) (lo := 0) (hi := 13) (offs := #[71, 81, 91, 101, 111, 121, 131, 141, 159, 169, 179, 189, 202, 209]) (len := 71) hk8 (by decide +kernel) (by decide) rfl ?_
    refine ab_aload_n (z := 0) (by decide +kernel) rfl rfl ?_
    refine gX11_6 (ix := 60) (by decide +kernel) tw_414 (hB.1 0 _ rfl) (hB.2.1 6 (0, 6, 41) rfl) ?_
    refine gX10_10 (ix := 348) (by decide +kernel) tw_357 (hB.1 41 _ rfl) ?_
    refine ab_goto (off := 54) (tgt := 221) (by decide +kernel) rfl ?_
    exact ab_wk (ab_le_some (ab_le_some (ab_le_nil))) (fX11_about_221_ok hB H  K0)
  replace H := ab_ifn H hk8
  by_cases hk9 : a1 = (9 : Int32)
  · replace H := ab_ifp H hk9
    refine ab_tabk (key := (9 : Int32)) (off := 169) (tgt := 170) (dflt := 219) (lo := 0) (hi := 13) (offs := #[71, 81, 91, 101, 111, 121, 131, 141, 159, 169, 179, 189, 202, 209]) (len := 71) hk9 (by decide +kernel) (by decide) rfl ?_
    refine ab_aload_n (z := 0) (by decide +kernel) rfl rfl ?_
    refine gX11_6 (ix := 60) (by decide +kernel) tw_414 (hB.1 0 _ rfl) (hB.2.1 6 (0, 6, 41) rfl) ?_
    refine gX10_11 (ix := 313) (by decide +kernel) tw_359 (hB.1 41 _ rfl) ?_
    refine ab_goto (off := 44) (tgt := 221) (by decide +kernel) rfl ?_
    exact ab_wk (ab_le_some (ab_le_some (ab_le_nil))) (fX11_about_221_ok hB H  K0)
  replace H := ab_ifn H hk9
  by_cases hk10 : a1 = (10 : Int32)
  · replace H := ab_ifp H hk10
    refine ab_tabk (key := (10 : Int32)) (off := 179) (tgt := 180) (dflt := 219) (lo := 0) (hi := 13) (offs := #[71, 81, 91, 101, 111, 121, 131, 141, 159, 169, 179, 189, 202, 209]) (len := 71) hk10 (by decide +kernel) (by decide) rfl ?_
    refine ab_aload_n (z := 0) (by decide +kernel) rfl rfl ?_
    refine gX11_0 (ix := 12) (by decide +kernel) tw_408 (hB.1 0 _ rfl) (hB.2.1 0 (0, 0, 1) rfl) ?_
    refine gX7_1 (ix := 99) (by decide +kernel) tw_34 (hB.1 1 _ rfl) ?_
    refine ab_goto (off := 34) (tgt := 221) (by decide +kernel) rfl ?_
    exact ab_wk (ab_le_some (ab_le_some (ab_le_nil))) (fX11_about_221_ok hB H  K0)
  replace H := ab_ifn H hk10
  by_cases hk11 : a1 = (11 : Int32)
  · replace H := ab_ifp H hk11
    refine ab_tabk (key := (11 : Int32)) (off := 189) (tgt := 190) (dflt := 219) (lo := 0) (hi := 13) (offs := #[71, 81, 91, 101, 111, 121, 131, 141, 159, 169, 179, 189, 202, 209]) (len := 71) hk11 (by decide +kernel) (by decide) rfl ?_
    refine ab_aload_n (z := 0) (by decide +kernel) rfl rfl ?_
    refine gX11_1 (ix := 19) (by decide +kernel) tw_409 (hB.1 0 _ rfl) (hB.2.1 1 (0, 1, 3) rfl) ?_
    refine gX9_3 (ix := 162) (by decide +kernel) tw_83 (hB.1 3 _ rfl) (hB.2.1 14 (3, 3, 7) rfl) ?_
    refine gX2_4 (ix := 351) (by decide +kernel) tw_60 (hB.1 7 _ rfl) ?_
    refine ab_goto (off := 21) (tgt := 221) (by decide +kernel) rfl ?_
    exact ab_wk (ab_le_some (ab_le_some (ab_le_nil))) (fX11_about_221_ok hB H  K0)
  replace H := ab_ifn H hk11
  by_cases hk12 : a1 = (12 : Int32)
  · replace H := ab_ifp H hk12
    refine ab_tabk (key := (12 : Int32)) (off := 202) (tgt := 203) (dflt := 219) (lo := 0) (hi := 13) (offs := #[71, 81, 91, 101, 111, 121, 131, 141, 159, 169, 179, 189, 202, 209]) (len := 71) hk12 (by decide +kernel) (by decide) rfl ?_
    refine ab_aload_n (z := 0) (by decide +kernel) rfl rfl ?_
    refine gX11_9 (ix := 75) (by decide +kernel) tw_417 (hB.1 0 _ rfl) ?_
    refine ab_goto (off := 14) (tgt := 221) (by decide +kernel) rfl ?_
    exact ab_wk (ab_le_some (ab_le_some (ab_le_nil))) (fX11_about_221_ok hB H  K0)
  replace H := ab_ifn H hk12
  by_cases hk13 : a1 = (13 : Int32)
  · replace H := ab_ifp H hk13
    refine ab_tabk (key := (13 : Int32)) (off := 209) (tgt := 210) (dflt := 219) (lo := 0) (hi := 13) (offs := #[71, 81, 91, 101, 111, 121, 131, 141, 159, 169, 179, 189, 202, 209]) (len := 71) hk13 (by decide +kernel) (by decide) rfl ?_
    refine ab_aload_n (z := 0) (by decide +kernel) rfl rfl ?_
    refine gX11_1 (ix := 19) (by decide +kernel) tw_409 (hB.1 0 _ rfl) (hB.2.1 1 (0, 1, 3) rfl) ?_
    refine gX9_8 (ix := 297) (by decide +kernel) tw_109 (hB.1 3 _ rfl) ?_
    refine ab_goto (off := 4) (tgt := 221) (by decide +kernel) rfl ?_
    exact ab_wk (ab_le_some (ab_le_some (ab_le_nil))) (fX11_about_221_ok hB H  K0)
  replace H := ab_ifn H hk13
  have KD : ab_WP l G mX11_about 0 220 [some (.ref 0), some (.int a1)] [] S I J P 0 0 Q := by
    refine ab_iconst (z := -1) (v := (-1 : Int32)) (by decide +kernel) (by decide) ?_
    exact ab_wk (ab_le_some (ab_le_some (ab_le_nil))) (fX11_about_221_ok hB H  K0)
  by_cases hlo : a1.toInt < 0
  · exact ab_tableOut (dflt := 219) (lo := 0) (hi := 13) (offs := #[71, 81, 91, 101, 111, 121, 131, 141, 159, 169, 179, 189, 202, 209]) (len := 71) (by decide +kernel) (Or.inl hlo) (tgt := 220) rfl KD
  by_cases hhi : 13 < a1.toInt
  · exact ab_tableOut (dflt := 219) (lo := 0) (hi := 13) (offs := #[71, 81, 91, 101, 111, 121, 131, 141, 159, 169, 179, 189, 202, 209]) (len := 71) (by decide +kernel) (Or.inr hhi) (tgt := 220) rfl KD
  by_cases hr : a1.toInt = 0
  · exact absurd (Int32.toInt_inj.mp (hr.trans (by decide))) hk0
  have hlo : ¬ a1.toInt < 1 := by omega
  by_cases hr : a1.toInt = 1
  · exact absurd (Int32.toInt_inj.mp (hr.trans (by decide))) hk1
  have hlo : ¬ a1.toInt < 2 := by omega
  by_cases hr : a1.toInt = 2
  · exact absurd (Int32.toInt_inj.mp (hr.trans (by decide))) hk2
  have hlo : ¬ a1.toInt < 3 := by omega
  by_cases hr : a1.toInt = 3
  · exact absurd (Int32.toInt_inj.mp (hr.trans (by decide))) hk3
  have hlo : ¬ a1.toInt < 4 := by omega
  by_cases hr : a1.toInt = 4
  · exact absurd (Int32.toInt_inj.mp (hr.trans (by decide))) hk4
  have hlo : ¬ a1.toInt < 5 := by omega
  by_cases hr : a1.toInt = 5
  · exact absurd (Int32.toInt_inj.mp (hr.trans (by decide))) hk5
  have hlo : ¬ a1.toInt < 6 := by omega
  by_cases hr : a1.toInt = 6
  · exact absurd (Int32.toInt_inj.mp (hr.trans (by decide))) hk6
  have hlo : ¬ a1.toInt < 7 := by omega
  by_cases hr : a1.toInt = 7
  · exact absurd (Int32.toInt_inj.mp (hr.trans (by decide))) hk7
  have hlo : ¬ a1.toInt < 8 := by omega
  by_cases hr : a1.toInt = 8
  · exact absurd (Int32.toInt_inj.mp (hr.trans (by decide))) hk8
  have hlo : ¬ a1.toInt < 9 := by omega
  by_cases hr : a1.toInt = 9
  · exact absurd (Int32.toInt_inj.mp (hr.trans (by decide))) hk9
  have hlo : ¬ a1.toInt < 10 := by omega
  by_cases hr : a1.toInt = 10
  · exact absurd (Int32.toInt_inj.mp (hr.trans (by decide))) hk10
  have hlo : ¬ a1.toInt < 11 := by omega
  by_cases hr : a1.toInt = 11
  · exact absurd (Int32.toInt_inj.mp (hr.trans (by decide))) hk11
  have hlo : ¬ a1.toInt < 12 := by omega
  by_cases hr : a1.toInt = 12
  · exact absurd (Int32.toInt_inj.mp (hr.trans (by decide))) hk12
  have hlo : ¬ a1.toInt < 13 := by omega
  by_cases hr : a1.toInt = 13
  · exact absurd (Int32.toInt_inj.mp (hr.trans (by decide))) hk13
  have hlo : ¬ a1.toInt < 14 := by omega
  exact absurd (by omega : 13 < a1.toInt) hhi
