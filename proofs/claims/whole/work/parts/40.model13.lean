abbrev mX12_lies : ab_M := (yX12_lies, cX12_lies, 2, some .int, 0, 0)
def fX12_lies_25 (a1 : Int32) (I : ab_I) (s0 : Int32) : Option Int32 :=
  some s0
set_option maxRecDepth 100000 in
theorem fX12_lies_25_ok {l : Launch} {G : ab_G} {S : ab_S} {I : ab_I} {J : ab_J} {P : ab_P} {Q : ab_Q} {a1 : Int32} {s0 : Int32} (hB : bz_B S P) {x : Int32} (H : fX12_lies_25 a1 I s0 = some x) (K0 : Q (some (.int x)) S I J P) : ab_WP l G mX12_lies 1 25 [some (.ref 73), some (.int a1)] [.int s0] S I J P 0 0 Q := by
  unfold fX12_lies_25 at H
  obtain rfl := Option.some.inj H
  exact ab_iret (by decide +kernel) rfl (Nat.le_refl _) (Nat.le_refl _) K0
def fX12_lies (a1 : Int32) (I : ab_I) : Option Int32 :=
  (fX12_isIn a1 (0 : Int32) ((I 73 54) - (1 : Int32))).bind fun u1 =>
  if u1 = 0 then
    fX12_lies_25 a1 I (-2 : Int32)
  else
    ab_gd (ab_ix a1 6 = true) (
      fX12_lies_25 a1 I (I 93 a1.toNatClampNeg)
    )
set_option maxRecDepth 100000 in
theorem mX12_lies_ok {l : Launch} {G : ab_G} {S : ab_S} {I : ab_I} {J : ab_J} {P : ab_P} {Q : ab_Q} {a1 : Int32} (hB : bz_B S P) {x : Int32} (H : fX12_lies a1 I = some x) (K0 : Q (some (.int x)) S I J P) : ab_Call l G mX12_lies 1 [.ref 73, .int a1] S I J P Q := by
  unfold fX12_lies at H
  refine ab_enter rfl (Nat.le_of_ble_eq_true rfl) (ab_wk (ls' := [some (.ref 73), some (.int a1)]) (ab_le_some (ab_le_some (ab_le_nil))) ?_)
  refine ab_iload_n (z := 1) (by decide +kernel) rfl rfl ?_
  refine ab_iconst (z := 0) (v := (0 : Int32)) (by decide +kernel) (by decide) ?_
  refine ab_aload_n (z := 0) (by decide +kernel) rfl rfl ?_
  refine gX12_54 (ix := 381) (by decide +kernel) tw_1135 (hB.1 73 _ rfl) ?_
  refine ab_iconst (z := 1) (v := (1 : Int32)) (by decide +kernel) (by decide) ?_
  refine ab_isub (by decide +kernel) ?_
  obtain ⟨u1, hu1, H⟩ := ab_bd_of H
  refine ksX12_isIn (D := 0) (ix := 384) (by decide +kernel) tw_1474 (by decide) (Nat.le_of_ble_eq_true rfl) (mX12_isIn_ok hB hu1 ?_)
  change ab_WP l G mX12_lies 1 11 [some (.ref 73), some (.int a1)] [.int u1] S I J P 0 0 Q
  refine ab_if_eq (off := 12) (tgt := 23) (by decide +kernel) rfl (fun hc => ?_) (fun hc => ?_)
  · replace H := ab_ifp H hc
    refine ab_bipush (z := -2) (v := (-2 : Int32)) (by decide +kernel) (by decide) ?_
    exact ab_wk (ab_le_some (ab_le_some (ab_le_nil))) (fX12_lies_25_ok hB H  K0)
  · replace H := ab_ifn H hc
    refine ab_aload_n (z := 0) (by decide +kernel) rfl rfl ?_
    refine gX12_52 (ix := 72) (by decide +kernel) tw_1133 (hB.1 73 _ rfl) (hB.2.1 98 (73, 52, 93) rfl) ?_
    refine ab_iload_n (z := 1) (by decide +kernel) rfl rfl ?_
    obtain ⟨hg, H⟩ := ab_gd_of H
    refine ab_iald (ln := 6) (by decide +kernel) (hB.1 93 _ rfl) (ab_ix_in hg) ?_
    refine ab_goto (off := 5) (tgt := 25) (by decide +kernel) rfl ?_
    exact ab_wk (ab_le_some (ab_le_some (ab_le_nil))) (fX12_lies_25_ok hB H  K0)
abbrev mX12_seen : ab_M := (yX12_seen, cX12_seen, 5, some .int, 0, 0)
def fX12_seen_42 (a1 : Int32) (a2 : Int32) (a3 : Int32) (a4 : Int32) (I : ab_I) : Option (Int32 × ab_I) :=
  some ((-1 : Int32), I)
set_option maxRecDepth 100000 in
theorem fX12_seen_42_ok {l : Launch} {G : ab_G} {S : ab_S} {I : ab_I} {J : ab_J} {P : ab_P} {Q : ab_Q} {a1 : Int32} {a2 : Int32} {a3 : Int32} {a4 : Int32} (hB : bz_B S P) {x : Int32 × ab_I} (H : fX12_seen_42 a1 a2 a3 a4 I = some x) (K0 : Q (some (.int x.1)) S x.2 J P) : ab_WP l G mX12_seen 2 42 [some (.ref 73), some (.int a1), some (.int a2), some (.int a3), some (.int a4)] [] S I J P 0 0 Q := by
  unfold fX12_seen_42 at H
  refine ab_iconst (z := -1) (v := (-1 : Int32)) (by decide +kernel) (by decide) ?_
  obtain rfl := Option.some.inj H
  exact ab_iret (by decide +kernel) rfl (Nat.le_refl _) (Nat.le_refl _) K0
def fX12_seen (a1 : Int32) (a2 : Int32) (a3 : Int32) (a4 : Int32) (I : ab_I) : Option (Int32 × ab_I) :=
  (fX12_isIn a1 (1 : Int32) (12 : Int32)).bind fun u1 =>
  if u1 = 0 then
    fX12_seen_42 a1 a2 a3 a4 I
  else
    (fX12_isBell a2 I).bind fun u2 =>
    if u2 = 0 then
      fX12_seen_42 a1 a2 a3 a4 I
    else
      (fX12_isPerson a3 I).bind fun u3 =>
      if u3 = 0 then
        fX12_seen_42 a1 a2 a3 a4 I
      else
        if (I 73 41) = 0 then
          fX12_seen_42 a1 a2 a3 a4 I
        else
          if (I 73 64) = (30 : Int32) then
            fX12_seen_42 a1 a2 a3 a4 I
          else
            ab_gd (ab_ix (I 73 64) 30 = true) (
              ab_gd (ab_ix (I 73 64) 30 = true) (
                ab_gd (ab_ix (I 73 64) 30 = true) (
                  ab_gd (ab_ix (I 73 64) 30 = true) (
                  ab_gd (a4 = 0 ∨ a4 = 1) (
                    ab_gd (ab_ix (I 73 64) 30 = true) (
                      ab_gd (ab_ix (I 73 64) 30 = true) (
                        some ((((I 73 64) + (1 : Int32)) - (1 : Int32)), (ab_u (ab_u (ab_u (ab_u (ab_u (ab_u (ab_u I 98 ((I 73 64).toNatClampNeg) a1) 99 ((I 73 64).toNatClampNeg) a2) 100 ((I 73 64).toNatClampNeg) a3) 103 ((I 73 64).toNatClampNeg) a4) 101 ((I 73 64).toNatClampNeg) (I 73 65)) 102 ((I 73 64).toNatClampNeg) (-1 : Int32)) 73 64 ((I 73 64) + (1 : Int32))))
                      )
                    )
                  ))
                )
              )
            )
set_option maxRecDepth 100000 in
theorem mX12_seen_ok {l : Launch} {G : ab_G} {S : ab_S} {I : ab_I} {J : ab_J} {P : ab_P} {Q : ab_Q} {a1 : Int32} {a2 : Int32} {a3 : Int32} {a4 : Int32} (hB : bz_B S P) {x : Int32 × ab_I} (H : fX12_seen a1 a2 a3 a4 I = some x) (K0 : Q (some (.int x.1)) S x.2 J P) : ab_Call l G mX12_seen 2 [.ref 73, .int a1, .int a2, .int a3, .int a4] S I J P Q := by
  unfold fX12_seen at H
  refine ab_enter rfl (Nat.le_of_ble_eq_true rfl) (ab_wk (ls' := [some (.ref 73), some (.int a1), some (.int a2), some (.int a3), some (.int a4)]) (ab_le_some (ab_le_some (ab_le_some (ab_le_some (ab_le_some (ab_le_nil)))))) ?_)
  refine ab_iload_n (z := 1) (by decide +kernel) rfl rfl ?_
  refine ab_iconst (z := 1) (v := (1 : Int32)) (by decide +kernel) (by decide) ?_
  refine ab_bipush (z := 12) (v := (12 : Int32)) (by decide +kernel) (by decide) ?_
  obtain ⟨u1, hu1, H⟩ := ab_bd_of H
  refine ksX12_isIn (D := 0) (ix := 384) (by decide +kernel) tw_1474 (by decide) (Nat.le_of_ble_eq_true rfl) (mX12_isIn_ok hB hu1 ?_)
  change ab_WP l G mX12_seen 2 7 [some (.ref 73), some (.int a1), some (.int a2), some (.int a3), some (.int a4)] [.int u1] S I J P 0 0 Q
  refine ab_if_eq (off := 35) (tgt := 42) (by decide +kernel) rfl (fun hc => ?_) (fun hc => ?_)
  · replace H := ab_ifp H hc
    exact ab_wk (ab_le_some (ab_le_some (ab_le_some (ab_le_some (ab_le_some (ab_le_nil)))))) (fX12_seen_42_ok hB H  K0)
  · replace H := ab_ifn H hc
    refine ab_aload_n (z := 0) (by decide +kernel) rfl rfl ?_
    refine ab_iload_n (z := 2) (by decide +kernel) rfl rfl ?_
    obtain ⟨u2, hu2, H⟩ := ab_bd_of H
    refine kvX12_isBell (D := 1) (ix := 423) (by decide +kernel) tw_1529 (hB.1 73 _ rfl) (by decide) (Nat.le_of_ble_eq_true rfl) (mX12_isBell_ok hB hu2 ?_)
    change ab_WP l G mX12_seen 2 15 [some (.ref 73), some (.int a1), some (.int a2), some (.int a3), some (.int a4)] [.int u2] S I J P 0 0 Q
    refine ab_if_eq (off := 27) (tgt := 42) (by decide +kernel) rfl (fun hc => ?_) (fun hc => ?_)
    · replace H := ab_ifp H hc
      exact ab_wk (ab_le_some (ab_le_some (ab_le_some (ab_le_some (ab_le_some (ab_le_nil)))))) (fX12_seen_42_ok hB H  K0)
    · replace H := ab_ifn H hc
      refine ab_aload_n (z := 0) (by decide +kernel) rfl rfl ?_
      refine ab_iload_n (z := 3) (by decide +kernel) rfl rfl ?_
      obtain ⟨u3, hu3, H⟩ := ab_bd_of H
      refine kvX12_isPerson (D := 1) (ix := 408) (by decide +kernel) tw_1470 (hB.1 73 _ rfl) (by decide) (Nat.le_of_ble_eq_true rfl) (mX12_isPerson_ok hB hu3 ?_)
      change ab_WP l G mX12_seen 2 23 [some (.ref 73), some (.int a1), some (.int a2), some (.int a3), some (.int a4)] [.int u3] S I J P 0 0 Q
      refine ab_if_eq (off := 19) (tgt := 42) (by decide +kernel) rfl (fun hc => ?_) (fun hc => ?_)
      · replace H := ab_ifp H hc
        exact ab_wk (ab_le_some (ab_le_some (ab_le_some (ab_le_some (ab_le_some (ab_le_nil)))))) (fX12_seen_42_ok hB H  K0)
      · replace H := ab_ifn H hc
        refine ab_aload_n (z := 0) (by decide +kernel) rfl rfl ?_
        refine gX12_41 (ix := 354) (by decide +kernel) tw_1122 (hB.1 73 _ rfl) ?_
        refine ab_if_eq (off := 12) (tgt := 42) (by decide +kernel) rfl (fun hc => ?_) (fun hc => ?_)
        · replace H := ab_ifp H hc
          exact ab_wk (ab_le_some (ab_le_some (ab_le_some (ab_le_some (ab_le_some (ab_le_nil)))))) (fX12_seen_42_ok hB H  K0)
        · replace H := ab_ifn H hc
          refine ab_aload_n (z := 0) (by decide +kernel) rfl rfl ?_
          refine gX12_64 (ix := 378) (by decide +kernel) tw_1145 (hB.1 73 _ rfl) ?_
          refine ab_bipush (z := 30) (v := (30 : Int32)) (by decide +kernel) (by decide) ?_
          refine ab_icmp_ne (off := 5) (tgt := 44) (by decide +kernel) rfl (fun hc => ?_) (fun hc => ?_)
          · replace H := ab_ifn H hc
            refine ab_aload_n (z := 0) (by decide +kernel) rfl rfl ?_
            refine gX12_58 (ix := 87) (by decide +kernel) tw_1139 (hB.1 73 _ rfl) (hB.2.1 103 (73, 58, 98) rfl) ?_
            refine ab_aload_n (z := 0) (by decide +kernel) rfl rfl ?_
            refine gX12_64 (ix := 378) (by decide +kernel) tw_1145 (hB.1 73 _ rfl) ?_
            refine ab_iload_n (z := 1) (by decide +kernel) rfl rfl ?_
            obtain ⟨hg, H⟩ := ab_gd_of H
            refine ab_iast (ln := 30) (by decide +kernel) (hB.1 98 _ rfl) (ab_ix_in hg) ?_
            refine ab_aload_n (z := 0) (by decide +kernel) rfl rfl ?_
            refine gX12_59 (ix := 90) (by decide +kernel) tw_1140 (hB.1 73 _ rfl) (hB.2.1 104 (73, 59, 99) rfl) ?_
            refine ab_aload_n (z := 0) (by decide +kernel) rfl rfl ?_
            refine gX12_64 (ix := 378) (by decide +kernel) tw_1145 (hB.1 73 _ rfl) ?_
            refine ab_top (y := (I 73 64)) rfl ?_
            refine ab_iload_n (z := 2) (by decide +kernel) rfl rfl ?_
            obtain ⟨hg, H⟩ := ab_gd_of H
            refine ab_iast (ln := 30) (by decide +kernel) (hB.1 99 _ rfl) (ab_ix_in hg) ?_
            refine ab_aload_n (z := 0) (by decide +kernel) rfl rfl ?_
            refine gX12_60 (ix := 93) (by decide +kernel) tw_1141 (hB.1 73 _ rfl) (hB.2.1 105 (73, 60, 100) rfl) ?_
            refine ab_aload_n (z := 0) (by decide +kernel) rfl rfl ?_
            refine gX12_64 (ix := 378) (by decide +kernel) tw_1145 (hB.1 73 _ rfl) ?_
            refine ab_top (y := (I 73 64)) rfl ?_
            refine ab_iload_n (z := 3) (by decide +kernel) rfl rfl ?_
            obtain ⟨hg, H⟩ := ab_gd_of H
            refine ab_iast (ln := 30) (by decide +kernel) (hB.1 100 _ rfl) (ab_ix_in hg) ?_
            refine ab_aload_n (z := 0) (by decide +kernel) rfl rfl ?_
            refine gX12_63 (ix := 102) (by decide +kernel) tw_1144 (hB.1 73 _ rfl) (hB.2.1 108 (73, 63, 103) rfl) ?_
            refine ab_aload_n (z := 0) (by decide +kernel) rfl rfl ?_
            refine gX12_64 (ix := 378) (by decide +kernel) tw_1145 (hB.1 73 _ rfl) ?_
            refine ab_top (y := (I 73 64)) rfl ?_
            refine ab_iload (i := 4) (by decide +kernel) rfl ?_
            obtain ⟨hg, H⟩ := ab_gd_of H
            obtain ⟨hg2, H⟩ := ab_gd_of H
            refine ab_zast (ln := 30) (by decide +kernel) (hB.1 103 _ rfl) (ab_ix_in hg) hg2 ?_
            refine ab_aload_n (z := 0) (by decide +kernel) rfl rfl ?_
            refine gX12_61 (ix := 96) (by decide +kernel) tw_1142 (hB.1 73 _ rfl) (hB.2.1 106 (73, 61, 101) rfl) ?_
            refine ab_aload_n (z := 0) (by decide +kernel) rfl rfl ?_
            refine gX12_64 (ix := 378) (by decide +kernel) tw_1145 (hB.1 73 _ rfl) ?_
            refine ab_top (y := (I 73 64)) rfl ?_
            refine ab_aload_n (z := 0) (by decide +kernel) rfl rfl ?_
            refine gX12_65 (ix := 476) (by decide +kernel) tw_1146 (hB.1 73 _ rfl) ?_
            refine ab_top (y := (I 73 65)) rfl ?_
            obtain ⟨hg, H⟩ := ab_gd_of H
            refine ab_iast (ln := 30) (by decide +kernel) (hB.1 101 _ rfl) (ab_ix_in hg) ?_
            refine ab_aload_n (z := 0) (by decide +kernel) rfl rfl ?_
            refine gX12_62 (ix := 99) (by decide +kernel) tw_1143 (hB.1 73 _ rfl) (hB.2.1 107 (73, 62, 102) rfl) ?_
            refine ab_aload_n (z := 0) (by decide +kernel) rfl rfl ?_
            refine gX12_64 (ix := 378) (by decide +kernel) tw_1145 (hB.1 73 _ rfl) ?_
            refine ab_top (y := (I 73 64)) rfl ?_
            refine ab_iconst (z := -1) (v := (-1 : Int32)) (by decide +kernel) (by decide) ?_
            obtain ⟨hg, H⟩ := ab_gd_of H
            refine ab_iast (ln := 30) (by decide +kernel) (hB.1 102 _ rfl) (ab_ix_in hg) ?_
            refine ab_aload_n (z := 0) (by decide +kernel) rfl rfl ?_
            refine ab_dup (by decide +kernel) rfl ?_
            refine gX12_64 (ix := 378) (by decide +kernel) tw_1145 (hB.1 73 _ rfl) ?_
            refine ab_top (y := (I 73 64)) rfl ?_
            refine ab_iconst (z := 1) (v := (1 : Int32)) (by decide +kernel) (by decide) ?_
            refine ab_iadd (by decide +kernel) ?_
            refine pX12_64 (ix := 378) (by decide +kernel) tw_1145 (hB.1 73 _ rfl) ?_
            refine ab_aload_n (z := 0) (by decide +kernel) rfl rfl ?_
            refine gX12_64 (ix := 378) (by decide +kernel) tw_1145 (hB.1 73 _ rfl) ?_
            refine ab_top (y := ((I 73 64) + (1 : Int32))) rfl ?_
            refine ab_iconst (z := 1) (v := (1 : Int32)) (by decide +kernel) (by decide) ?_
            refine ab_isub (by decide +kernel) ?_
            obtain rfl := Option.some.inj H
            exact ab_iret (by decide +kernel) rfl (Nat.le_refl _) (Nat.le_refl _) K0
          · replace H := ab_ifp H hc
            exact ab_wk (ab_le_some (ab_le_some (ab_le_some (ab_le_some (ab_le_some (ab_le_nil)))))) (fX12_seen_42_ok hB H  K0)
abbrev mX12_untell : ab_M := (yX12_untell, cX12_untell, 2, some .boolean, 0, 0)
def fX12_untell_23 (a1 : Int32) (I : ab_I) : Option (Int32 × ab_I) :=
  some ((0 : Int32), I)
set_option maxRecDepth 100000 in
theorem fX12_untell_23_ok {l : Launch} {G : ab_G} {S : ab_S} {I : ab_I} {J : ab_J} {P : ab_P} {Q : ab_Q} {a1 : Int32} (hB : bz_B S P) {x : Int32 × ab_I} (H : fX12_untell_23 a1 I = some x) (K0 : Q (some (.int x.1)) S x.2 J P) : ab_WP l G mX12_untell 1 23 [some (.ref 73), some (.int a1)] [] S I J P 0 0 Q := by
  unfold fX12_untell_23 at H
  refine ab_iconst (z := 0) (v := (0 : Int32)) (by decide +kernel) (by decide) ?_
  obtain rfl := Option.some.inj H
  exact ab_zret (by decide +kernel) rfl (Nat.le_refl _) (Nat.le_refl _) (by decide) K0
def fX12_untell (a1 : Int32) (I : ab_I) : Option (Int32 × ab_I) :=
  (fX12_isIn a1 (0 : Int32) ((I 73 64) - (1 : Int32))).bind fun u1 =>
  if u1 = 0 then
    fX12_untell_23 a1 I
  else
    ab_gd (ab_ix a1 30 = true) (
      if (I 102 a1.toNatClampNeg) < 0 then
        ab_gd (ab_ix a1 30 = true) (
          some ((1 : Int32), (ab_u I 102 a1.toNatClampNeg (I 73 65)))
        )
      else
        fX12_untell_23 a1 I
    )
set_option maxRecDepth 100000 in
theorem mX12_untell_ok {l : Launch} {G : ab_G} {S : ab_S} {I : ab_I} {J : ab_J} {P : ab_P} {Q : ab_Q} {a1 : Int32} (hB : bz_B S P) {x : Int32 × ab_I} (H : fX12_untell a1 I = some x) (K0 : Q (some (.int x.1)) S x.2 J P) : ab_Call l G mX12_untell 1 [.ref 73, .int a1] S I J P Q := by
  unfold fX12_untell at H
  refine ab_enter rfl (Nat.le_of_ble_eq_true rfl) (ab_wk (ls' := [some (.ref 73), some (.int a1)]) (ab_le_some (ab_le_some (ab_le_nil))) ?_)
  refine ab_iload_n (z := 1) (by decide +kernel) rfl rfl ?_
  refine ab_iconst (z := 0) (v := (0 : Int32)) (by decide +kernel) (by decide) ?_
  refine ab_aload_n (z := 0) (by decide +kernel) rfl rfl ?_
  refine gX12_64 (ix := 378) (by decide +kernel) tw_1145 (hB.1 73 _ rfl) ?_
  refine ab_iconst (z := 1) (v := (1 : Int32)) (by decide +kernel) (by decide) ?_
  refine ab_isub (by decide +kernel) ?_
  obtain ⟨u1, hu1, H⟩ := ab_bd_of H
  refine ksX12_isIn (D := 0) (ix := 384) (by decide +kernel) tw_1474 (by decide) (Nat.le_of_ble_eq_true rfl) (mX12_isIn_ok hB hu1 ?_)
  change ab_WP l G mX12_untell 1 11 [some (.ref 73), some (.int a1)] [.int u1] S I J P 0 0 Q
  refine ab_if_eq (off := 12) (tgt := 23) (by decide +kernel) rfl (fun hc => ?_) (fun hc => ?_)
  · replace H := ab_ifp H hc
    exact ab_wk (ab_le_some (ab_le_some (ab_le_nil))) (fX12_untell_23_ok hB H  K0)
  · replace H := ab_ifn H hc
    refine ab_aload_n (z := 0) (by decide +kernel) rfl rfl ?_
    refine gX12_62 (ix := 99) (by decide +kernel) tw_1143 (hB.1 73 _ rfl) (hB.2.1 107 (73, 62, 102) rfl) ?_
    refine ab_iload_n (z := 1) (by decide +kernel) rfl rfl ?_
    obtain ⟨hg, H⟩ := ab_gd_of H
    refine ab_iald (ln := 30) (by decide +kernel) (hB.1 102 _ rfl) (ab_ix_in hg) ?_
    refine ab_if_lt (off := 5) (tgt := 25) (by decide +kernel) rfl (fun hc => ?_) (fun hc => ?_)
    · replace H := ab_ifp H hc
      refine ab_aload_n (z := 0) (by decide +kernel) rfl rfl ?_
      refine gX12_62 (ix := 99) (by decide +kernel) tw_1143 (hB.1 73 _ rfl) (hB.2.1 107 (73, 62, 102) rfl) ?_
      refine ab_iload_n (z := 1) (by decide +kernel) rfl rfl ?_
      refine ab_aload_n (z := 0) (by decide +kernel) rfl rfl ?_
      refine gX12_65 (ix := 476) (by decide +kernel) tw_1146 (hB.1 73 _ rfl) ?_
      obtain ⟨hg, H⟩ := ab_gd_of H
      refine ab_iast (ln := 30) (by decide +kernel) (hB.1 102 _ rfl) (ab_ix_in hg) ?_
      refine ab_iconst (z := 1) (v := (1 : Int32)) (by decide +kernel) (by decide) ?_
      obtain rfl := Option.some.inj H
      exact ab_zret (by decide +kernel) rfl (Nat.le_refl _) (Nat.le_refl _) (by decide) K0
    · replace H := ab_ifn H hc
      exact ab_wk (ab_le_some (ab_le_some (ab_le_nil))) (fX12_untell_23_ok hB H  K0)
abbrev mX12_later : ab_M := (yX12_later, cX12_later, 2, some .int, 0, 0)
def fX12_later_23 (a1 : Int32) (I : ab_I) : Option (Int32 × ab_I) :=
  some ((-1 : Int32), I)
set_option maxRecDepth 100000 in
theorem fX12_later_23_ok {l : Launch} {G : ab_G} {S : ab_S} {I : ab_I} {J : ab_J} {P : ab_P} {Q : ab_Q} {a1 : Int32} (hB : bz_B S P) {x : Int32 × ab_I} (H : fX12_later_23 a1 I = some x) (K0 : Q (some (.int x.1)) S x.2 J P) : ab_WP l G mX12_later 0 23 [some (.ref 73), some (.int a1)] [] S I J P 0 0 Q := by
  unfold fX12_later_23 at H
  refine ab_iconst (z := -1) (v := (-1 : Int32)) (by decide +kernel) (by decide) ?_
  obtain rfl := Option.some.inj H
  exact ab_iret (by decide +kernel) rfl (Nat.le_refl _) (Nat.le_refl _) K0
def fX12_later (a1 : Int32) (I : ab_I) : Option (Int32 × ab_I) :=
  if a1 < 0 then
    fX12_later_23 a1 I
  else
    if (1000 : Int32) < a1 then
      fX12_later_23 a1 I
    else
      if ((I 73 65) + a1) ≤ (100000 : Int32) then
        some (((I 73 65) + a1), (ab_u I 73 65 ((I 73 65) + a1)))
      else
        fX12_later_23 a1 I
set_option maxRecDepth 100000 in
theorem mX12_later_ok {l : Launch} {G : ab_G} {S : ab_S} {I : ab_I} {J : ab_J} {P : ab_P} {Q : ab_Q} {a1 : Int32} (hB : bz_B S P) {x : Int32 × ab_I} (H : fX12_later a1 I = some x) (K0 : Q (some (.int x.1)) S x.2 J P) : ab_Call l G mX12_later 0 [.ref 73, .int a1] S I J P Q := by
  unfold fX12_later at H
  refine ab_enter rfl (Nat.le_of_ble_eq_true rfl) (ab_wk (ls' := [some (.ref 73), some (.int a1)]) (ab_le_some (ab_le_some (ab_le_nil))) ?_)
  refine ab_iload_n (z := 1) (by decide +kernel) rfl rfl ?_
  refine ab_if_lt (off := 22) (tgt := 23) (by decide +kernel) rfl (fun hc => ?_) (fun hc => ?_)
  · replace H := ab_ifp H hc
    exact ab_wk (ab_le_some (ab_le_some (ab_le_nil))) (fX12_later_23_ok hB H  K0)
  · replace H := ab_ifn H hc
    refine ab_iload_n (z := 1) (by decide +kernel) rfl rfl ?_
    refine ab_sipush (z := 1000) (v := (1000 : Int32)) (by decide +kernel) (by decide) ?_
    refine ab_icmp_gt (off := 15) (tgt := 23) (by decide +kernel) rfl (fun hc => ?_) (fun hc => ?_)
    · replace H := ab_ifp H hc
      exact ab_wk (ab_le_some (ab_le_some (ab_le_nil))) (fX12_later_23_ok hB H  K0)
    · replace H := ab_ifn H hc
      refine ab_aload_n (z := 0) (by decide +kernel) rfl rfl ?_
      refine gX12_65 (ix := 476) (by decide +kernel) tw_1146 (hB.1 73 _ rfl) ?_
      refine ab_iload_n (z := 1) (by decide +kernel) rfl rfl ?_
      refine ab_iadd (by decide +kernel) ?_
      refine ab_ldcw (ix := 479) (v := (100000 : Int32)) (by decide +kernel) tw_1741 ?_
      refine ab_icmp_le (off := 5) (tgt := 25) (by decide +kernel) rfl (fun hc => ?_) (fun hc => ?_)
      · replace H := ab_ifp H hc
        refine ab_aload_n (z := 0) (by decide +kernel) rfl rfl ?_
        refine ab_dup (by decide +kernel) rfl ?_
        refine gX12_65 (ix := 476) (by decide +kernel) tw_1146 (hB.1 73 _ rfl) ?_
        refine ab_iload_n (z := 1) (by decide +kernel) rfl rfl ?_
        refine ab_iadd (by decide +kernel) ?_
        refine pX12_65 (ix := 476) (by decide +kernel) tw_1146 (hB.1 73 _ rfl) ?_
        refine ab_aload_n (z := 0) (by decide +kernel) rfl rfl ?_
        refine gX12_65 (ix := 476) (by decide +kernel) tw_1146 (hB.1 73 _ rfl) ?_
        refine ab_top (y := ((I 73 65) + a1)) rfl ?_
        obtain rfl := Option.some.inj H
        exact ab_iret (by decide +kernel) rfl (Nat.le_refl _) (Nat.le_refl _) K0
      · replace H := ab_ifn H hc
        exact ab_wk (ab_le_some (ab_le_some (ab_le_nil))) (fX12_later_23_ok hB H  K0)
abbrev mX12_wasAt : ab_M := (yX12_wasAt, cX12_wasAt, 4, some .int, 0, 0)
theorem kvX12_wasAt {l : Launch} {G : ab_G} {M : ab_M} {d pc : Nat} {ls : List (Option Value)} {st : List Value} {S : ab_S} {I : ab_I} {J : ab_J} {P : ab_P} {Q : ab_Q} {v0 v1 v2 : Value} {ix D r ln : Nat} (hd : decode M.2.1 pc = .ok (.invokevirtual ix, 3)) (h1 : Cond.methodLink M.1.cls ix mX12_wasAt.1 ∈ ab_good) (hs : S[r]? = some (17, ln)) (hdg : D + 1 ≤ d) (hsum : (st.map fun v => v.category).sum ≤ 8) (kk : ab_Call l G mX12_wasAt D (.ref r :: [v0, v1, v2]) S I J P (fun v S' I' J' P' => ab_WP l G M d (pc + 3) ls (ab_psh v st) S' I' J' P' 0 0 Q)) : ab_WP l G M d pc ls (v2 :: v1 :: v0 :: .ref r :: st) S I J P 0 0 Q := bz_kv (g := mX12_wasAt) (as := [v0, v1, v2]) (cc := 12) rfl hd h1 tw_1756 tw_p89 tw_13 tw_1757 ⟨by decide +kernel, by decide +kernel, (by decide +kernel : (parseMethodDescriptor mX12_wasAt.1.desc).map (fun d => d.parameters.length) = some 3)⟩ (by decide) rfl rfl rfl hdg hsum hs kk
def fX12_wasAt (a1 : Int32) (a2 : Int32) (a3 : Int32) (I : ab_I) : Option Int32 :=
  ab_gd (ab_ix ((((60 : Int32) * a1) + ((5 : Int32) * (a2 - (1 : Int32)))) + a3) 1260 = true) (
    some (I 104 (((((60 : Int32) * a1) + ((5 : Int32) * (a2 - (1 : Int32)))) + a3).toNatClampNeg))
  )
set_option maxRecDepth 100000 in
theorem mX12_wasAt_ok {l : Launch} {G : ab_G} {S : ab_S} {I : ab_I} {J : ab_J} {P : ab_P} {Q : ab_Q} {a1 : Int32} {a2 : Int32} {a3 : Int32} (hB : bz_B S P) {x : Int32} (H : fX12_wasAt a1 a2 a3 I = some x) (K0 : Q (some (.int x)) S I J P) : ab_Call l G mX12_wasAt 0 [.ref 73, .int a1, .int a2, .int a3] S I J P Q := by
  unfold fX12_wasAt at H
  refine ab_enter rfl (Nat.le_of_ble_eq_true rfl) (ab_wk (ls' := [some (.ref 73), some (.int a1), some (.int a2), some (.int a3)]) (ab_le_some (ab_le_some (ab_le_some (ab_le_some (ab_le_nil))))) ?_)
  refine ab_aload_n (z := 0) (by decide +kernel) rfl rfl ?_
  refine gX12_66 (ix := 106) (by decide +kernel) tw_1147 (hB.1 73 _ rfl) (hB.2.1 109 (73, 66, 104) rfl) ?_
  refine ab_bipush (z := 60) (v := (60 : Int32)) (by decide +kernel) (by decide) ?_
  refine ab_iload_n (z := 1) (by decide +kernel) rfl rfl ?_
  refine ab_imul (by decide +kernel) ?_
  refine ab_iconst (z := 5) (v := (5 : Int32)) (by decide +kernel) (by decide) ?_
  refine ab_iload_n (z := 2) (by decide +kernel) rfl rfl ?_
  refine ab_iconst (z := 1) (v := (1 : Int32)) (by decide +kernel) (by decide) ?_
  refine ab_isub (by decide +kernel) ?_
  refine ab_imul (by decide +kernel) ?_
  refine ab_iadd (by decide +kernel) ?_
  refine ab_iload_n (z := 3) (by decide +kernel) rfl rfl ?_
  refine ab_iadd (by decide +kernel) ?_
  obtain ⟨hg, H⟩ := ab_gd_of H
  refine ab_iald (ln := 1260) (by decide +kernel) (hB.1 104 _ rfl) (ab_ix_in hg) ?_
  obtain rfl := Option.some.inj H
  exact ab_iret (by decide +kernel) rfl (Nat.le_refl _) (Nat.le_refl _) K0
abbrev mX12_fitsLoss : ab_M := (yX12_fitsLoss, cX12_fitsLoss, 5, some .boolean, 0, 0)
theorem kvX12_fitsLoss {l : Launch} {G : ab_G} {M : ab_M} {d pc : Nat} {ls : List (Option Value)} {st : List Value} {S : ab_S} {I : ab_I} {J : ab_J} {P : ab_P} {Q : ab_Q} {v0 v1 : Value} {ix D r ln : Nat} (hd : decode M.2.1 pc = .ok (.invokevirtual ix, 3)) (h1 : Cond.methodLink M.1.cls ix mX12_fitsLoss.1 ∈ ab_good) (hs : S[r]? = some (17, ln)) (hdg : D + 1 ≤ d) (hsum : (st.map fun v => v.category).sum ≤ 8) (kk : ab_Call l G mX12_fitsLoss D (.ref r :: [v0, v1]) S I J P (fun v S' I' J' P' => ab_WP l G M d (pc + 3) ls (ab_psh v st) S' I' J' P' 0 0 Q)) : ab_WP l G M d pc ls (v1 :: v0 :: .ref r :: st) S I J P 0 0 Q := bz_kv (g := mX12_fitsLoss) (as := [v0, v1]) (cc := 12) rfl hd h1 tw_1752 tw_p88 tw_13 tw_1753 ⟨by decide +kernel, by decide +kernel, (by decide +kernel : (parseMethodDescriptor mX12_fitsLoss.1.desc).map (fun d => d.parameters.length) = some 2)⟩ (by decide) rfl rfl rfl hdg hsum hs kk
def fX12_fitsLoss_109 (a1 : Int32) (a2 : Int32) (I : ab_I) (a3 : Int32) : Option Int32 :=
  ab_gd (a3 = 0 ∨ a3 = 1) (some a3)
set_option maxRecDepth 100000 in
theorem fX12_fitsLoss_109_ok {l : Launch} {G : ab_G} {S : ab_S} {I : ab_I} {J : ab_J} {P : ab_P} {Q : ab_Q} {a1 : Int32} {a2 : Int32} {a3 : Int32} (hB : bz_B S P) {x : Int32} (H : fX12_fitsLoss_109 a1 a2 I a3 = some x) (K0 : Q (some (.int x)) S I J P) : ab_WP l G mX12_fitsLoss 1 109 [some (.ref 73), some (.int a1), some (.int a2), some (.int a3), none] [] S I J P 0 0 Q := by
  unfold fX12_fitsLoss_109 at H
  refine ab_iload_n (z := 3) (by decide +kernel) rfl rfl ?_
  obtain ⟨hg, H⟩ := ab_gd_of H
  obtain rfl := Option.some.inj H
  exact ab_zret (by decide +kernel) rfl (Nat.le_refl _) (Nat.le_refl _) hg K0
def fX12_fitsLoss_103 (a1 : Int32) (a2 : Int32) (I : ab_I) (a3 : Int32) (a4 : Int32) : Option ((Int32 × Int32) ⊕ Int32) :=
  some (.inl (a3, (a4 + (1 : Int32))))
set_option maxRecDepth 100000 in
theorem fX12_fitsLoss_103_ok {l : Launch} {G : ab_G} {S : ab_S} {I : ab_I} {J : ab_J} {P : ab_P} {Q : ab_Q} {a1 : Int32} {a2 : Int32} {a3 : Int32} {a4 : Int32} (hB : bz_B S P) {x : ((Int32 × Int32) ⊕ Int32)} (H : fX12_fitsLoss_103 a1 a2 I a3 a4 = some x) (K1 : ∀ s, x = (.inl s) → ab_WP l G mX12_fitsLoss 1 5 [some (.ref 73), some (.int a1), some (.int a2), some (.int s.1), some (.int s.2)] [] S I J P 0 0 Q) (K0 : ∀ r, x = (.inr r) → Q (some (.int r)) S I J P) : ab_WP l G mX12_fitsLoss 1 103 [some (.ref 73), some (.int a1), some (.int a2), some (.int a3), some (.int a4)] [] S I J P 0 0 Q := by
  unfold fX12_fitsLoss_103 at H
  refine ab_iinc (i := 4) (z := 1) (v := (a4 + (1 : Int32))) (by decide +kernel) rfl rfl (by decide) rfl ?_
  refine ab_ls (ls' := [some (.ref 73), some (.int a1), some (.int a2), some (.int a3), some (.int (a4 + (1 : Int32)))]) rfl ?_
  refine ab_goto (off := -101) (tgt := 5) (by decide +kernel) rfl ?_
  exact ab_wk (ab_le_some (ab_le_some (ab_le_some (ab_le_some (ab_le_some (ab_le_nil)))))) (K1 (a3, (a4 + (1 : Int32))) (Option.some.inj H).symm)
def fX12_fitsLoss_102 (a1 : Int32) (a2 : Int32) (I : ab_I) (a4 : Int32) (s0 : Int32) : Option ((Int32 × Int32) ⊕ Int32) :=
  fX12_fitsLoss_103 a1 a2 I s0 a4
set_option maxRecDepth 100000 in
theorem fX12_fitsLoss_102_ok {l : Launch} {G : ab_G} {S : ab_S} {I : ab_I} {J : ab_J} {P : ab_P} {Q : ab_Q} {a1 : Int32} {a2 : Int32} {a4 : Int32} {s0 : Int32} (hB : bz_B S P) {x : ((Int32 × Int32) ⊕ Int32)} (H : fX12_fitsLoss_102 a1 a2 I a4 s0 = some x) (K1 : ∀ s, x = (.inl s) → ab_WP l G mX12_fitsLoss 1 5 [some (.ref 73), some (.int a1), some (.int a2), some (.int s.1), some (.int s.2)] [] S I J P 0 0 Q) (K0 : ∀ r, x = (.inr r) → Q (some (.int r)) S I J P) : ab_WP l G mX12_fitsLoss 1 102 [some (.ref 73), some (.int a1), some (.int a2), none, some (.int a4)] [.int s0] S I J P 0 0 Q := by
  unfold fX12_fitsLoss_102 at H
  refine ab_istore_n (z := 3) (by decide +kernel) rfl (by decide) rfl ?_
  refine ab_ls (ls' := [some (.ref 73), some (.int a1), some (.int a2), some (.int s0), some (.int a4)]) rfl ?_
  exact ab_wk (ab_le_some (ab_le_some (ab_le_some (ab_le_some (ab_le_some (ab_le_nil)))))) (fX12_fitsLoss_103_ok hB H K1 K0)
def fX12_fitsLoss_87 (a1 : Int32) (a2 : Int32) (I : ab_I) (a4 : Int32) (s0 : Int32) : Option ((Int32 × Int32) ⊕ Int32) :=
  ab_gd (ab_ix a4 30 = true) (
    if s0 = (I 103 a4.toNatClampNeg) then
      fX12_fitsLoss_102 a1 a2 I a4 (1 : Int32)
    else
      fX12_fitsLoss_102 a1 a2 I a4 (0 : Int32)
  )
set_option maxRecDepth 100000 in
theorem fX12_fitsLoss_87_ok {l : Launch} {G : ab_G} {S : ab_S} {I : ab_I} {J : ab_J} {P : ab_P} {Q : ab_Q} {a1 : Int32} {a2 : Int32} {a4 : Int32} {s0 : Int32} (hB : bz_B S P) {x : ((Int32 × Int32) ⊕ Int32)} (H : fX12_fitsLoss_87 a1 a2 I a4 s0 = some x) (K1 : ∀ s, x = (.inl s) → ab_WP l G mX12_fitsLoss 1 5 [some (.ref 73), some (.int a1), some (.int a2), some (.int s.1), some (.int s.2)] [] S I J P 0 0 Q) (K0 : ∀ r, x = (.inr r) → Q (some (.int r)) S I J P) : ab_WP l G mX12_fitsLoss 1 87 [some (.ref 73), some (.int a1), some (.int a2), none, some (.int a4)] [.int s0] S I J P 0 0 Q := by
  unfold fX12_fitsLoss_87 at H
  refine ab_aload_n (z := 0) (by decide +kernel) rfl rfl ?_
  refine gX12_63 (ix := 102) (by decide +kernel) tw_1144 (hB.1 73 _ rfl) (hB.2.1 108 (73, 63, 103) rfl) ?_
  refine ab_iload (i := 4) (by decide +kernel) rfl ?_
  obtain ⟨hg, H⟩ := ab_gd_of H
  refine ab_zald (ln := 30) (by decide +kernel) (hB.1 103 _ rfl) (ab_ix_in hg) ?_
  refine ab_icmp_ne (off := 7) (tgt := 101) (by decide +kernel) rfl (fun hc => ?_) (fun hc => ?_)
  · replace H := ab_ifn H hc
    refine ab_iconst (z := 0) (v := (0 : Int32)) (by decide +kernel) (by decide) ?_
    exact ab_wk (ab_le_some (ab_le_some (ab_le_some (ab_le_none (ab_le_some (ab_le_nil)))))) (fX12_fitsLoss_102_ok hB H K1 K0)
  · replace H := ab_ifp H hc
    refine ab_iconst (z := 1) (v := (1 : Int32)) (by decide +kernel) (by decide) ?_
    refine ab_goto (off := 4) (tgt := 102) (by decide +kernel) rfl ?_
    exact ab_wk (ab_le_some (ab_le_some (ab_le_some (ab_le_none (ab_le_some (ab_le_nil)))))) (fX12_fitsLoss_102_ok hB H K1 K0)
def fX12_fitsLoss_53 (a1 : Int32) (a2 : Int32) (I : ab_I) (a4 : Int32) : Option ((Int32 × Int32) ⊕ Int32) :=
  ab_gd (ab_ix a4 30 = true) (
    ab_gd (ab_ix a4 30 = true) (
      (fX12_wasAt a1 (I 98 a4.toNatClampNeg) (I 99 a4.toNatClampNeg) I).bind fun u3 =>
      ab_gd (ab_ix a4 30 = true) (
        if u3 = (I 100 a4.toNatClampNeg) then
          fX12_fitsLoss_87 a1 a2 I a4 (1 : Int32)
        else
          fX12_fitsLoss_87 a1 a2 I a4 (0 : Int32)
      )
    )
  )
set_option maxRecDepth 100000 in
theorem fX12_fitsLoss_53_ok {l : Launch} {G : ab_G} {S : ab_S} {I : ab_I} {J : ab_J} {P : ab_P} {Q : ab_Q} {a1 : Int32} {a2 : Int32} {a4 : Int32} (hB : bz_B S P) {x : ((Int32 × Int32) ⊕ Int32)} (H : fX12_fitsLoss_53 a1 a2 I a4 = some x) (K1 : ∀ s, x = (.inl s) → ab_WP l G mX12_fitsLoss 1 5 [some (.ref 73), some (.int a1), some (.int a2), some (.int s.1), some (.int s.2)] [] S I J P 0 0 Q) (K0 : ∀ r, x = (.inr r) → Q (some (.int r)) S I J P) : ab_WP l G mX12_fitsLoss 1 53 [some (.ref 73), some (.int a1), some (.int a2), none, some (.int a4)] [] S I J P 0 0 Q := by
  unfold fX12_fitsLoss_53 at H
  refine ab_aload_n (z := 0) (by decide +kernel) rfl rfl ?_
  refine ab_iload_n (z := 1) (by decide +kernel) rfl rfl ?_
  refine ab_aload_n (z := 0) (by decide +kernel) rfl rfl ?_
  refine gX12_58 (ix := 87) (by decide +kernel) tw_1139 (hB.1 73 _ rfl) (hB.2.1 103 (73, 58, 98) rfl) ?_
  refine ab_iload (i := 4) (by decide +kernel) rfl ?_
  obtain ⟨hg, H⟩ := ab_gd_of H
  refine ab_iald (ln := 30) (by decide +kernel) (hB.1 98 _ rfl) (ab_ix_in hg) ?_
  refine ab_aload_n (z := 0) (by decide +kernel) rfl rfl ?_
  refine gX12_59 (ix := 90) (by decide +kernel) tw_1140 (hB.1 73 _ rfl) (hB.2.1 104 (73, 59, 99) rfl) ?_
  refine ab_iload (i := 4) (by decide +kernel) rfl ?_
  obtain ⟨hg, H⟩ := ab_gd_of H
  refine ab_iald (ln := 30) (by decide +kernel) (hB.1 99 _ rfl) (ab_ix_in hg) ?_
  obtain ⟨u3, hu3, H⟩ := ab_bd_of H
  refine kvX12_wasAt (D := 0) (ix := 480) (by decide +kernel) tw_1754 (hB.1 73 _ rfl) (by decide) (Nat.le_of_ble_eq_true rfl) (mX12_wasAt_ok hB hu3 ?_)
  change ab_WP l G mX12_fitsLoss 1 72 [some (.ref 73), some (.int a1), some (.int a2), none, some (.int a4)] [.int u3] S I J P 0 0 Q
  refine ab_aload_n (z := 0) (by decide +kernel) rfl rfl ?_
  refine gX12_60 (ix := 93) (by decide +kernel) tw_1141 (hB.1 73 _ rfl) (hB.2.1 105 (73, 60, 100) rfl) ?_
  refine ab_iload (i := 4) (by decide +kernel) rfl ?_
  obtain ⟨hg, H⟩ := ab_gd_of H
  refine ab_iald (ln := 30) (by decide +kernel) (hB.1 100 _ rfl) (ab_ix_in hg) ?_
  refine ab_icmp_ne (off := 7) (tgt := 86) (by decide +kernel) rfl (fun hc => ?_) (fun hc => ?_)
  · replace H := ab_ifn H hc
    refine ab_iconst (z := 0) (v := (0 : Int32)) (by decide +kernel) (by decide) ?_
    exact ab_wk (ab_le_some (ab_le_some (ab_le_some (ab_le_none (ab_le_some (ab_le_nil)))))) (fX12_fitsLoss_87_ok hB H K1 K0)
  · replace H := ab_ifp H hc
    refine ab_iconst (z := 1) (v := (1 : Int32)) (by decide +kernel) (by decide) ?_
    refine ab_goto (off := 4) (tgt := 87) (by decide +kernel) rfl ?_
    exact ab_wk (ab_le_some (ab_le_some (ab_le_some (ab_le_none (ab_le_some (ab_le_nil)))))) (fX12_fitsLoss_87_ok hB H K1 K0)
def fX12_fitsLoss_5 (a1 : Int32) (a2 : Int32) (I : ab_I) (a3 : Int32) (a4 : Int32) : Option ((Int32 × Int32) ⊕ Int32) :=
  if (I 73 64) ≤ a4 then
    (fX12_fitsLoss_109 a1 a2 I a3).map .inr
  else
    if a3 = 0 then
      (fX12_fitsLoss_109 a1 a2 I a3).map .inr
    else
      ab_gd (ab_ix a4 30 = true) (
        if a2 < (I 101 a4.toNatClampNeg) then
          fX12_fitsLoss_103 a1 a2 I a3 a4
        else
          ab_gd (ab_ix a4 30 = true) (
            if (I 102 a4.toNatClampNeg) < 0 then
              fX12_fitsLoss_53 a1 a2 I a4
            else
              ab_gd (ab_ix a4 30 = true) (
                if a2 < (I 102 a4.toNatClampNeg) then
                  fX12_fitsLoss_53 a1 a2 I a4
                else
                  fX12_fitsLoss_103 a1 a2 I a3 a4
              )
          )
      )
set_option maxRecDepth 100000 in
theorem fX12_fitsLoss_5_ok {l : Launch} {G : ab_G} {S : ab_S} {I : ab_I} {J : ab_J} {P : ab_P} {Q : ab_Q} {a1 : Int32} {a2 : Int32} {a3 : Int32} {a4 : Int32} (hB : bz_B S P) {x : ((Int32 × Int32) ⊕ Int32)} (H : fX12_fitsLoss_5 a1 a2 I a3 a4 = some x) (K1 : ∀ s, x = (.inl s) → ab_WP l G mX12_fitsLoss 1 5 [some (.ref 73), some (.int a1), some (.int a2), some (.int s.1), some (.int s.2)] [] S I J P 0 0 Q) (K0 : ∀ r, x = (.inr r) → Q (some (.int r)) S I J P) : ab_WP l G mX12_fitsLoss 1 5 [some (.ref 73), some (.int a1), some (.int a2), some (.int a3), some (.int a4)] [] S I J P 0 0 Q := by
  unfold fX12_fitsLoss_5 at H
  refine ab_iload (i := 4) (by decide +kernel) rfl ?_
  refine ab_aload_n (z := 0) (by decide +kernel) rfl rfl ?_
  refine gX12_64 (ix := 378) (by decide +kernel) tw_1145 (hB.1 73 _ rfl) ?_
  refine ab_icmp_ge (off := 98) (tgt := 109) (by decide +kernel) rfl (fun hc => ?_) (fun hc => ?_)
  · replace H := ab_ifp H hc
    obtain ⟨y1, Hy, hx⟩ := ab_mp_of H
    subst hx
    replace H := Hy
    exact ab_wk (ab_le_some (ab_le_some (ab_le_some (ab_le_some (ab_le_none (ab_le_nil)))))) (fX12_fitsLoss_109_ok hB H  (K0 _ rfl))
  · replace H := ab_ifn H hc
    refine ab_iload_n (z := 3) (by decide +kernel) rfl rfl ?_
    refine ab_if_eq (off := 94) (tgt := 109) (by decide +kernel) rfl (fun hc => ?_) (fun hc => ?_)
    · replace H := ab_ifp H hc
      obtain ⟨y2, Hy, hx⟩ := ab_mp_of H
      subst hx
      replace H := Hy
      exact ab_wk (ab_le_some (ab_le_some (ab_le_some (ab_le_some (ab_le_none (ab_le_nil)))))) (fX12_fitsLoss_109_ok hB H  (K0 _ rfl))
    · replace H := ab_ifn H hc
      refine ab_aload_n (z := 0) (by decide +kernel) rfl rfl ?_
      refine gX12_61 (ix := 96) (by decide +kernel) tw_1142 (hB.1 73 _ rfl) (hB.2.1 106 (73, 61, 101) rfl) ?_
      refine ab_iload (i := 4) (by decide +kernel) rfl ?_
      obtain ⟨hg, H⟩ := ab_gd_of H
      refine ab_iald (ln := 30) (by decide +kernel) (hB.1 101 _ rfl) (ab_ix_in hg) ?_
      refine ab_iload_n (z := 2) (by decide +kernel) rfl rfl ?_
      refine ab_icmp_gt (off := 77) (tgt := 103) (by decide +kernel) rfl (fun hc => ?_) (fun hc => ?_)
      · replace H := ab_ifp H hc
        exact ab_wk (ab_le_some (ab_le_some (ab_le_some (ab_le_some (ab_le_some (ab_le_nil)))))) (fX12_fitsLoss_103_ok hB H K1 K0)
      · replace H := ab_ifn H hc
        refine ab_aload_n (z := 0) (by decide +kernel) rfl rfl ?_
        refine gX12_62 (ix := 99) (by decide +kernel) tw_1143 (hB.1 73 _ rfl) (hB.2.1 107 (73, 62, 102) rfl) ?_
        refine ab_iload (i := 4) (by decide +kernel) rfl ?_
        obtain ⟨hg, H⟩ := ab_gd_of H
        refine ab_iald (ln := 30) (by decide +kernel) (hB.1 102 _ rfl) (ab_ix_in hg) ?_
        refine ab_if_lt (off := 17) (tgt := 53) (by decide +kernel) rfl (fun hc => ?_) (fun hc => ?_)
        · replace H := ab_ifp H hc
          exact ab_wk (ab_le_some (ab_le_some (ab_le_some (ab_le_none (ab_le_some (ab_le_nil)))))) (fX12_fitsLoss_53_ok hB H K1 K0)
        · replace H := ab_ifn H hc
          refine ab_aload_n (z := 0) (by decide +kernel) rfl rfl ?_
          refine gX12_62 (ix := 99) (by decide +kernel) tw_1143 (hB.1 73 _ rfl) (hB.2.1 107 (73, 62, 102) rfl) ?_
          refine ab_iload (i := 4) (by decide +kernel) rfl ?_
          obtain ⟨hg, H⟩ := ab_gd_of H
          refine ab_iald (ln := 30) (by decide +kernel) (hB.1 102 _ rfl) (ab_ix_in hg) ?_
          refine ab_iload_n (z := 2) (by decide +kernel) rfl rfl ?_
          refine ab_icmp_gt (off := 6) (tgt := 53) (by decide +kernel) rfl (fun hc => ?_) (fun hc => ?_)
          · replace H := ab_ifp H hc
            exact ab_wk (ab_le_some (ab_le_some (ab_le_some (ab_le_none (ab_le_some (ab_le_nil)))))) (fX12_fitsLoss_53_ok hB H K1 K0)
          · replace H := ab_ifn H hc
            refine ab_goto (off := 53) (tgt := 103) (by decide +kernel) rfl ?_
            exact ab_wk (ab_le_some (ab_le_some (ab_le_some (ab_le_some (ab_le_some (ab_le_nil)))))) (fX12_fitsLoss_103_ok hB H K1 K0)
def fX12_fitsLoss (a1 : Int32) (a2 : Int32) (I : ab_I) : Option Int32 :=
  ab_it (fun s => fX12_fitsLoss_5 a1 a2 I s.1 s.2) 5000 ((1 : Int32), (0 : Int32))
set_option maxRecDepth 100000 in
theorem mX12_fitsLoss_ok {l : Launch} {G : ab_G} {S : ab_S} {I : ab_I} {J : ab_J} {P : ab_P} {Q : ab_Q} {a1 : Int32} {a2 : Int32} (hB : bz_B S P) {x : Int32} (H : fX12_fitsLoss a1 a2 I = some x) (K0 : Q (some (.int x)) S I J P) : ab_Call l G mX12_fitsLoss 1 [.ref 73, .int a1, .int a2] S I J P Q := by
  unfold fX12_fitsLoss at H
  refine ab_enter rfl (Nat.le_of_ble_eq_true rfl) (ab_wk (ls' := [some (.ref 73), some (.int a1), some (.int a2), none, none]) (ab_le_some (ab_le_some (ab_le_some (ab_le_non0 (ab_le_non0 ab_le_nil))))) ?_)
  refine ab_iconst (z := 1) (v := (1 : Int32)) (by decide +kernel) (by decide) ?_
  refine ab_istore_n (z := 3) (by decide +kernel) rfl (by decide) rfl ?_
  refine ab_ls (ls' := [some (.ref 73), some (.int a1), some (.int a2), some (.int (1 : Int32)), none]) rfl ?_
  refine ab_iconst (z := 0) (v := (0 : Int32)) (by decide +kernel) (by decide) ?_
  refine ab_istore (i := 4) (by decide +kernel) (by decide) rfl ?_
  refine ab_ls (ls' := [some (.ref 73), some (.int a1), some (.int a2), some (.int (1 : Int32)), some (.int (0 : Int32))]) rfl ?_
  exact ab_wk (ab_le_some (ab_le_some (ab_le_some (ab_le_some (ab_le_some (ab_le_nil)))))) (ab_iter (body := (fun s => fX12_fitsLoss_5 a1 a2 I s.1 s.2)) (W := fun s => ab_WP l G mX12_fitsLoss 1 5 [some (.ref 73), some (.int a1), some (.int a2), some (.int s.1), some (.int s.2)] [] S I J P 0 0 Q) (fun s y hb h1 h2 => fX12_fitsLoss_5_ok hB hb h1 (fun r e => by have e2 := h2 _ e; subst e2; exact K0)) 5000 ((1 : Int32), (0 : Int32)) H)
abbrev mX12_layFits : ab_M := (yX12_layFits, cX12_layFits, 6, some .int, 0, 0)
theorem kvX12_layFits {l : Launch} {G : ab_G} {M : ab_M} {d pc : Nat} {ls : List (Option Value)} {st : List Value} {S : ab_S} {I : ab_I} {J : ab_J} {P : ab_P} {Q : ab_Q} {v0 : Value} {ix D r ln : Nat} (hd : decode M.2.1 pc = .ok (.invokevirtual ix, 3)) (h1 : Cond.methodLink M.1.cls ix mX12_layFits.1 ∈ ab_good) (hs : S[r]? = some (17, ln)) (hdg : D + 1 ≤ d) (hsum : (st.map fun v => v.category).sum ≤ 8) (kk : ab_Call l G mX12_layFits D (.ref r :: [v0]) S I J P (fun v S' I' J' P' => ab_WP l G M d (pc + 3) ls (ab_psh v st) S' I' J' P' 0 0 Q)) : ab_WP l G M d pc ls (v0 :: .ref r :: st) S I J P 0 0 Q := bz_kv (g := mX12_layFits) (as := [v0]) (cc := 12) rfl hd h1 tw_1748 tw_p87 tw_13 tw_1749 ⟨by decide +kernel, by decide +kernel, (by decide +kernel : (parseMethodDescriptor mX12_layFits.1.desc).map (fun d => d.parameters.length) = some 1)⟩ (by decide) rfl rfl rfl hdg hsum hs kk
def fX12_layFits_128 (a1 : Int32) (a2 : Int32) (I : ab_I) : Option (Int32 × ab_I) :=
  some (a2, I)
set_option maxRecDepth 100000 in
theorem fX12_layFits_128_ok {l : Launch} {G : ab_G} {S : ab_S} {I : ab_I} {J : ab_J} {P : ab_P} {Q : ab_Q} {a1 : Int32} {a2 : Int32} (hB : bz_B S P) {x : Int32 × ab_I} (H : fX12_layFits_128 a1 a2 I = some x) (K0 : Q (some (.int x.1)) S x.2 J P) : ab_WP l G mX12_layFits 6 128 [some (.ref 73), some (.int a1), some (.int a2), none, none, none] [] S I J P 0 0 Q := by
  unfold fX12_layFits_128 at H
  refine ab_iload_n (z := 2) (by decide +kernel) rfl rfl ?_
  obtain rfl := Option.some.inj H
  exact ab_iret (by decide +kernel) rfl (Nat.le_refl _) (Nat.le_refl _) K0
def fX12_layFits_98 (a1 : Int32) (a2 : Int32) (a3 : Int32) (I : ab_I) : Option ((Int32 × Int32 × ab_I) ⊕ (Int32 × ab_I)) :=
  (fX12_fitsLoss a3 a1 I).bind fun u6 =>
  ab_gd (ab_ix a3 21 = true) (
  ab_gd (u6 = 0 ∨ u6 = 1) (
    ab_gd (ab_ix a3 21 = true) (
      (fX12_truth ((ab_u I 106 a3.toNatClampNeg u6) 106 a3.toNatClampNeg)).bind fun u7 =>
      some (.inl ((a2 + u7), (a3 + (1 : Int32)), (ab_u I 106 a3.toNatClampNeg u6)))
    )
  ))
set_option maxRecDepth 100000 in
theorem fX12_layFits_98_ok {l : Launch} {G : ab_G} {S : ab_S} {I : ab_I} {J : ab_J} {P : ab_P} {Q : ab_Q} {a1 : Int32} {a2 : Int32} {a3 : Int32} (hB : bz_B S P) {x : ((Int32 × Int32 × ab_I) ⊕ (Int32 × ab_I))} (H : fX12_layFits_98 a1 a2 a3 I = some x) (K1 : ∀ s, x = (.inl s) → ab_WP l G mX12_layFits 6 4 [some (.ref 73), some (.int a1), some (.int s.1), some (.int s.2.1), none, none] [] S s.2.2 J P 0 0 Q) (K0 : ∀ r, x = (.inr r) → Q (some (.int r.1)) S r.2 J P) : ab_WP l G mX12_layFits 6 98 [some (.ref 73), some (.int a1), some (.int a2), some (.int a3), none, none] [] S I J P 0 0 Q := by
  unfold fX12_layFits_98 at H
  refine ab_aload_n (z := 0) (by decide +kernel) rfl rfl ?_
  refine gX12_68 (ix := 112) (by decide +kernel) tw_1149 (hB.1 73 _ rfl) (hB.2.1 111 (73, 68, 106) rfl) ?_
  refine ab_iload_n (z := 3) (by decide +kernel) rfl rfl ?_
  refine ab_aload_n (z := 0) (by decide +kernel) rfl rfl ?_
  refine ab_iload_n (z := 3) (by decide +kernel) rfl rfl ?_
  refine ab_iload_n (z := 1) (by decide +kernel) rfl rfl ?_
  obtain ⟨u6, hu6, H⟩ := ab_bd_of H
  refine kvX12_fitsLoss (D := 1) (ix := 483) (by decide +kernel) tw_1750 (hB.1 73 _ rfl) (by decide) (Nat.le_of_ble_eq_true rfl) (mX12_fitsLoss_ok hB hu6 ?_)
  change ab_WP l G mX12_layFits 6 109 [some (.ref 73), some (.int a1), some (.int a2), some (.int a3), none, none] [.int u6, .int a3, .ref 106] S I J P 0 0 Q
  obtain ⟨hg, H⟩ := ab_gd_of H
  obtain ⟨hg2, H⟩ := ab_gd_of H
  refine ab_zast (ln := 21) (by decide +kernel) (hB.1 106 _ rfl) (ab_ix_in hg) hg2 ?_
  refine ab_iload_n (z := 2) (by decide +kernel) rfl rfl ?_
  refine ab_aload_n (z := 0) (by decide +kernel) rfl rfl ?_
  refine gX12_68 (ix := 112) (by decide +kernel) tw_1149 (hB.1 73 _ rfl) (hB.2.1 111 (73, 68, 106) rfl) ?_
  refine ab_iload_n (z := 3) (by decide +kernel) rfl rfl ?_
  obtain ⟨hg, H⟩ := ab_gd_of H
  refine ab_zald (ln := 21) (by decide +kernel) (hB.1 106 _ rfl) (ab_ix_in hg) ?_
  obtain ⟨u7, hu7, H⟩ := ab_bd_of H
  refine ksX12_truth (D := 0) (ix := 279) (by decide +kernel) tw_1485 (by decide) (Nat.le_of_ble_eq_true rfl) (mX12_truth_ok hB hu7 ?_)
  change ab_WP l G mX12_layFits 6 120 [some (.ref 73), some (.int a1), some (.int a2), some (.int a3), none, none] [.int u7, .int a2] S (ab_u I 106 a3.toNatClampNeg u6) J P 0 0 Q
  refine ab_iadd (by decide +kernel) ?_
  refine ab_istore_n (z := 2) (by decide +kernel) rfl (by decide) rfl ?_
  refine ab_ls (ls' := [some (.ref 73), some (.int a1), some (.int (a2 + u7)), some (.int a3), none, none]) rfl ?_
  refine ab_iinc (i := 3) (z := 1) (v := (a3 + (1 : Int32))) (by decide +kernel) rfl rfl (by decide) rfl ?_
  refine ab_ls (ls' := [some (.ref 73), some (.int a1), some (.int (a2 + u7)), some (.int (a3 + (1 : Int32))), none, none]) rfl ?_
  refine ab_goto (off := -121) (tgt := 4) (by decide +kernel) rfl ?_
  exact ab_wk (ab_le_some (ab_le_some (ab_le_some (ab_le_some (ab_le_none (ab_le_none (ab_le_nil))))))) (K1 ((a2 + u7), (a3 + (1 : Int32)), (ab_u I 106 a3.toNatClampNeg u6)) (Option.some.inj H).symm)
def fX12_layFits_92 (a1 : Int32) (a2 : Int32) (a3 : Int32) (a4 : Int32) (I : ab_I) : Option ((Int32 × Int32 × Int32 × ab_I) ⊕ ((Int32 × Int32 × ab_I) ⊕ (Int32 × ab_I))) :=
  some (.inl (a2, a3, (a4 + (1 : Int32)), I))
set_option maxRecDepth 100000 in
theorem fX12_layFits_92_ok {l : Launch} {G : ab_G} {S : ab_S} {I : ab_I} {J : ab_J} {P : ab_P} {Q : ab_Q} {a1 : Int32} {a2 : Int32} {a3 : Int32} {a4 : Int32} (hB : bz_B S P) {x : ((Int32 × Int32 × Int32 × ab_I) ⊕ ((Int32 × Int32 × ab_I) ⊕ (Int32 × ab_I)))} (H : fX12_layFits_92 a1 a2 a3 a4 I = some x) (K2 : ∀ s, x = (.inl s) → ab_WP l G mX12_layFits 6 37 [some (.ref 73), some (.int a1), some (.int s.1), some (.int s.2.1), some (.int s.2.2.1), none] [] S s.2.2.2 J P 0 0 Q) (K1 : ∀ s, x = (.inr (.inl s)) → ab_WP l G mX12_layFits 6 4 [some (.ref 73), some (.int a1), some (.int s.1), some (.int s.2.1), none, none] [] S s.2.2 J P 0 0 Q) (K0 : ∀ r, x = (.inr (.inr r)) → Q (some (.int r.1)) S r.2 J P) : ab_WP l G mX12_layFits 6 92 [some (.ref 73), some (.int a1), some (.int a2), some (.int a3), some (.int a4), none] [] S I J P 0 0 Q := by
  unfold fX12_layFits_92 at H
  refine ab_iinc (i := 4) (z := 1) (v := (a4 + (1 : Int32))) (by decide +kernel) rfl rfl (by decide) rfl ?_
  refine ab_ls (ls' := [some (.ref 73), some (.int a1), some (.int a2), some (.int a3), some (.int (a4 + (1 : Int32))), none]) rfl ?_
  refine ab_goto (off := -58) (tgt := 37) (by decide +kernel) rfl ?_
  exact ab_wk (ab_le_some (ab_le_some (ab_le_some (ab_le_some (ab_le_some (ab_le_none (ab_le_nil))))))) (K2 (a2, a3, (a4 + (1 : Int32)), I) (Option.some.inj H).symm)
def fX12_layFits_53 (a1 : Int32) (a2 : Int32) (a3 : Int32) (a4 : Int32) (a5 : Int32) (I : ab_I) : Option ((Int32 × Int32 × Int32 × Int32 × ab_I) ⊕ ((Int32 × Int32 × Int32 × ab_I) ⊕ ((Int32 × Int32 × ab_I) ⊕ (Int32 × ab_I)))) :=
  if (I 73 40) ≤ a5 then
    (fX12_layFits_92 a1 a2 a3 a4 I).map .inr
  else
    ab_gd (ab_ix a5 5 = true) (
      ab_gd (ab_ix ((((60 : Int32) * a3) + ((5 : Int32) * a4)) + a5) 1260 = true) (
        some (.inl (a2, a3, a4, (a5 + (1 : Int32)), (ab_u I 104 (((((60 : Int32) * a3) + ((5 : Int32) * a4)) + a5).toNatClampNeg) (I 91 a5.toNatClampNeg))))
      )
    )
set_option maxRecDepth 100000 in
theorem fX12_layFits_53_ok {l : Launch} {G : ab_G} {S : ab_S} {I : ab_I} {J : ab_J} {P : ab_P} {Q : ab_Q} {a1 : Int32} {a2 : Int32} {a3 : Int32} {a4 : Int32} {a5 : Int32} (hB : bz_B S P) {x : ((Int32 × Int32 × Int32 × Int32 × ab_I) ⊕ ((Int32 × Int32 × Int32 × ab_I) ⊕ ((Int32 × Int32 × ab_I) ⊕ (Int32 × ab_I))))} (H : fX12_layFits_53 a1 a2 a3 a4 a5 I = some x) (K3 : ∀ s, x = (.inl s) → ab_WP l G mX12_layFits 6 53 [some (.ref 73), some (.int a1), some (.int s.1), some (.int s.2.1), some (.int s.2.2.1), some (.int s.2.2.2.1)] [] S s.2.2.2.2 J P 0 0 Q) (K2 : ∀ s, x = (.inr (.inl s)) → ab_WP l G mX12_layFits 6 37 [some (.ref 73), some (.int a1), some (.int s.1), some (.int s.2.1), some (.int s.2.2.1), none] [] S s.2.2.2 J P 0 0 Q) (K1 : ∀ s, x = (.inr (.inr (.inl s))) → ab_WP l G mX12_layFits 6 4 [some (.ref 73), some (.int a1), some (.int s.1), some (.int s.2.1), none, none] [] S s.2.2 J P 0 0 Q) (K0 : ∀ r, x = (.inr (.inr (.inr r))) → Q (some (.int r.1)) S r.2 J P) : ab_WP l G mX12_layFits 6 53 [some (.ref 73), some (.int a1), some (.int a2), some (.int a3), some (.int a4), some (.int a5)] [] S I J P 0 0 Q := by
  unfold fX12_layFits_53 at H
  refine ab_iload (i := 5) (by decide +kernel) rfl ?_
  refine ab_aload_n (z := 0) (by decide +kernel) rfl rfl ?_
  refine gX12_40 (ix := 351) (by decide +kernel) tw_1121 (hB.1 73 _ rfl) ?_
  refine ab_icmp_ge (off := 33) (tgt := 92) (by decide +kernel) rfl (fun hc => ?_) (fun hc => ?_)
  · replace H := ab_ifp H hc
    obtain ⟨y8, Hy, hx⟩ := ab_mp_of H
    subst hx
    replace H := Hy
    exact ab_wk (ab_le_some (ab_le_some (ab_le_some (ab_le_some (ab_le_some (ab_le_none (ab_le_nil))))))) (fX12_layFits_92_ok hB H (fun s e => K2 s (by rw [e])) (fun s e => K1 s (by rw [e])) (fun r e => K0 r (by rw [e])))
  · replace H := ab_ifn H hc
    refine ab_aload_n (z := 0) (by decide +kernel) rfl rfl ?_
    refine gX12_66 (ix := 106) (by decide +kernel) tw_1147 (hB.1 73 _ rfl) (hB.2.1 109 (73, 66, 104) rfl) ?_
    refine ab_bipush (z := 60) (v := (60 : Int32)) (by decide +kernel) (by decide) ?_
    refine ab_iload_n (z := 3) (by decide +kernel) rfl rfl ?_
    refine ab_imul (by decide +kernel) ?_
    refine ab_iconst (z := 5) (v := (5 : Int32)) (by decide +kernel) (by decide) ?_
    refine ab_iload (i := 4) (by decide +kernel) rfl ?_
    refine ab_imul (by decide +kernel) ?_
    refine ab_iadd (by decide +kernel) ?_
    refine ab_iload (i := 5) (by decide +kernel) rfl ?_
    refine ab_iadd (by decide +kernel) ?_
    refine ab_aload_n (z := 0) (by decide +kernel) rfl rfl ?_
    refine gX12_48 (ix := 66) (by decide +kernel) tw_1129 (hB.1 73 _ rfl) (hB.2.1 96 (73, 48, 91) rfl) ?_
    refine ab_iload (i := 5) (by decide +kernel) rfl ?_
    obtain ⟨hg, H⟩ := ab_gd_of H
    refine ab_iald (ln := 5) (by decide +kernel) (hB.1 91 _ rfl) (ab_ix_in hg) ?_
    obtain ⟨hg, H⟩ := ab_gd_of H
    refine ab_iast (ln := 1260) (by decide +kernel) (hB.1 104 _ rfl) (ab_ix_in hg) ?_
    refine ab_iinc (i := 5) (z := 1) (v := (a5 + (1 : Int32))) (by decide +kernel) rfl rfl (by decide) rfl ?_
    refine ab_ls (ls' := [some (.ref 73), some (.int a1), some (.int a2), some (.int a3), some (.int a4), some (.int (a5 + (1 : Int32)))]) rfl ?_
    refine ab_goto (off := -36) (tgt := 53) (by decide +kernel) rfl ?_
    exact ab_wk (ab_le_some (ab_le_some (ab_le_some (ab_le_some (ab_le_some (ab_le_some (ab_le_nil))))))) (K3 (a2, a3, a4, (a5 + (1 : Int32)), (ab_u I 104 (((((60 : Int32) * a3) + ((5 : Int32) * a4)) + a5).toNatClampNeg) (I 91 a5.toNatClampNeg))) (Option.some.inj H).symm)
def fX12_layFits_37 (a1 : Int32) (a2 : Int32) (a3 : Int32) (a4 : Int32) (I : ab_I) : Option ((Int32 × Int32 × Int32 × ab_I) ⊕ ((Int32 × Int32 × ab_I) ⊕ (Int32 × ab_I))) :=
  if (12 : Int32) ≤ a4 then
    (fX12_layFits_98 a1 a2 a3 I).map .inr
  else
    (fX12_goDay (0 : Int32) I).bind fun u5 =>
    ab_it (fun s => fX12_layFits_53 a1 s.1 s.2.1 s.2.2.1 s.2.2.2.1 s.2.2.2.2) 5000 (a2, a3, a4, (0 : Int32), u5.2)
set_option maxRecDepth 100000 in
theorem fX12_layFits_37_ok {l : Launch} {G : ab_G} {S : ab_S} {I : ab_I} {J : ab_J} {P : ab_P} {Q : ab_Q} {a1 : Int32} {a2 : Int32} {a3 : Int32} {a4 : Int32} (hB : bz_B S P) {x : ((Int32 × Int32 × Int32 × ab_I) ⊕ ((Int32 × Int32 × ab_I) ⊕ (Int32 × ab_I)))} (H : fX12_layFits_37 a1 a2 a3 a4 I = some x) (K2 : ∀ s, x = (.inl s) → ab_WP l G mX12_layFits 6 37 [some (.ref 73), some (.int a1), some (.int s.1), some (.int s.2.1), some (.int s.2.2.1), none] [] S s.2.2.2 J P 0 0 Q) (K1 : ∀ s, x = (.inr (.inl s)) → ab_WP l G mX12_layFits 6 4 [some (.ref 73), some (.int a1), some (.int s.1), some (.int s.2.1), none, none] [] S s.2.2 J P 0 0 Q) (K0 : ∀ r, x = (.inr (.inr r)) → Q (some (.int r.1)) S r.2 J P) : ab_WP l G mX12_layFits 6 37 [some (.ref 73), some (.int a1), some (.int a2), some (.int a3), some (.int a4), none] [] S I J P 0 0 Q := by
  unfold fX12_layFits_37 at H
  refine ab_iload (i := 4) (by decide +kernel) rfl ?_
  refine ab_bipush (z := 12) (v := (12 : Int32)) (by decide +kernel) (by decide) ?_
  refine ab_icmp_ge (off := 57) (tgt := 98) (by decide +kernel) rfl (fun hc => ?_) (fun hc => ?_)
  · replace H := ab_ifp H hc
    obtain ⟨y4, Hy, hx⟩ := ab_mp_of H
    subst hx
    replace H := Hy
    exact ab_wk (ab_le_some (ab_le_some (ab_le_some (ab_le_some (ab_le_none (ab_le_none (ab_le_nil))))))) (fX12_layFits_98_ok hB H (fun s e => K1 s (by rw [e])) (fun r e => K0 r (by rw [e])))
  · replace H := ab_ifn H hc
    refine ab_aload_n (z := 0) (by decide +kernel) rfl rfl ?_
    refine ab_iconst (z := 0) (v := (0 : Int32)) (by decide +kernel) (by decide) ?_
    obtain ⟨u5, hu5, H⟩ := ab_bd_of H
    refine kvX12_goDay (D := 5) (ix := 417) (by decide +kernel) tw_1496 (hB.1 73 _ rfl) (by decide) (Nat.le_of_ble_eq_true rfl) (mX12_goDay_ok hB hu5 ?_)
    change ab_WP l G mX12_layFits 6 49 [some (.ref 73), some (.int a1), some (.int a2), some (.int a3), some (.int a4), none] [.int u5.1] S u5.2 J P 0 0 Q
    refine ab_pop (by decide +kernel) rfl ?_
    refine ab_iconst (z := 0) (v := (0 : Int32)) (by decide +kernel) (by decide) ?_
    refine ab_istore (i := 5) (by decide +kernel) (by decide) rfl ?_
    refine ab_ls (ls' := [some (.ref 73), some (.int a1), some (.int a2), some (.int a3), some (.int a4), some (.int (0 : Int32))]) rfl ?_
    exact ab_wk (ab_le_some (ab_le_some (ab_le_some (ab_le_some (ab_le_some (ab_le_some (ab_le_nil))))))) (ab_iter (body := (fun s => fX12_layFits_53 a1 s.1 s.2.1 s.2.2.1 s.2.2.2.1 s.2.2.2.2)) (W := fun s => ab_WP l G mX12_layFits 6 53 [some (.ref 73), some (.int a1), some (.int s.1), some (.int s.2.1), some (.int s.2.2.1), some (.int s.2.2.2.1)] [] S s.2.2.2.2 J P 0 0 Q) (fun s y hb h1 h2 => fX12_layFits_53_ok hB hb h1 (fun s e => K2 s (h2 _ e).symm) (fun s e => K1 s (h2 _ e).symm) (fun r e => K0 r (h2 _ e).symm)) 5000 (a2, a3, a4, (0 : Int32), u5.2) H)
def fX12_layFits_4 (a1 : Int32) (a2 : Int32) (a3 : Int32) (I : ab_I) : Option ((Int32 × Int32 × ab_I) ⊕ (Int32 × ab_I)) :=
  if (20 : Int32) < a3 then
    (fX12_layFits_128 a1 a2 I).map .inr
  else
    if (I 73 41) ≤ 0 then
      (fX12_layFits_128 a1 a2 I).map .inr
    else
      (fX12_begin I).bind fun u3 =>
      ab_gd (ab_ix ((13 : Int32) + (u3 73 42)) 45 = true) (
        ab_it (fun s => fX12_layFits_37 a1 s.1 s.2.1 s.2.2.1 s.2.2.2) 5000 (a2, a3, (0 : Int32), (ab_u u3 90 (((13 : Int32) + (u3 73 42)).toNatClampNeg) a3))
      )
set_option maxRecDepth 100000 in
theorem fX12_layFits_4_ok {l : Launch} {G : ab_G} {S : ab_S} {I : ab_I} {J : ab_J} {P : ab_P} {Q : ab_Q} {a1 : Int32} {a2 : Int32} {a3 : Int32} (hB : bz_B S P) {x : ((Int32 × Int32 × ab_I) ⊕ (Int32 × ab_I))} (H : fX12_layFits_4 a1 a2 a3 I = some x) (K1 : ∀ s, x = (.inl s) → ab_WP l G mX12_layFits 6 4 [some (.ref 73), some (.int a1), some (.int s.1), some (.int s.2.1), none, none] [] S s.2.2 J P 0 0 Q) (K0 : ∀ r, x = (.inr r) → Q (some (.int r.1)) S r.2 J P) : ab_WP l G mX12_layFits 6 4 [some (.ref 73), some (.int a1), some (.int a2), some (.int a3), none, none] [] S I J P 0 0 Q := by
  unfold fX12_layFits_4 at H
  refine ab_iload_n (z := 3) (by decide +kernel) rfl rfl ?_
  refine ab_bipush (z := 20) (v := (20 : Int32)) (by decide +kernel) (by decide) ?_
  refine ab_icmp_gt (off := 121) (tgt := 128) (by decide +kernel) rfl (fun hc => ?_) (fun hc => ?_)
  · replace H := ab_ifp H hc
    obtain ⟨y1, Hy, hx⟩ := ab_mp_of H
    subst hx
    replace H := Hy
    exact ab_wk (ab_le_some (ab_le_some (ab_le_some (ab_le_none (ab_le_none (ab_le_none (ab_le_nil))))))) (fX12_layFits_128_ok hB H  (K0 _ rfl))
  · replace H := ab_ifn H hc
    refine ab_aload_n (z := 0) (by decide +kernel) rfl rfl ?_
    refine gX12_41 (ix := 354) (by decide +kernel) tw_1122 (hB.1 73 _ rfl) ?_
    refine ab_if_le (off := 114) (tgt := 128) (by decide +kernel) rfl (fun hc => ?_) (fun hc => ?_)
    · replace H := ab_ifp H hc
      obtain ⟨y2, Hy, hx⟩ := ab_mp_of H
      subst hx
      replace H := Hy
      exact ab_wk (ab_le_some (ab_le_some (ab_le_some (ab_le_none (ab_le_none (ab_le_none (ab_le_nil))))))) (fX12_layFits_128_ok hB H  (K0 _ rfl))
    · replace H := ab_ifn H hc
      refine ab_aload_n (z := 0) (by decide +kernel) rfl rfl ?_
      obtain ⟨u3, hu3, H⟩ := ab_bd_of H
      refine kvX12_begin (D := 0) (ix := 366) (by decide +kernel) tw_1454 (hB.1 73 _ rfl) (by decide) (Nat.le_of_ble_eq_true rfl) (mX12_begin_ok hB hu3 ?_)
      change ab_WP l G mX12_layFits 6 21 [some (.ref 73), some (.int a1), some (.int a2), some (.int a3), none, none] [] S u3 J P 0 0 Q
      refine ab_aload_n (z := 0) (by decide +kernel) rfl rfl ?_
      refine gX12_47 (ix := 63) (by decide +kernel) tw_1128 (hB.1 73 _ rfl) (hB.2.1 95 (73, 47, 90) rfl) ?_
      refine ab_bipush (z := 13) (v := (13 : Int32)) (by decide +kernel) (by decide) ?_
      refine ab_aload_n (z := 0) (by decide +kernel) rfl rfl ?_
      refine gX12_42 (ix := 357) (by decide +kernel) tw_1123 (hB.1 73 _ rfl) ?_
      refine ab_iadd (by decide +kernel) ?_
      refine ab_iload_n (z := 3) (by decide +kernel) rfl rfl ?_
      obtain ⟨hg, H⟩ := ab_gd_of H
      refine ab_iast (ln := 45) (by decide +kernel) (hB.1 90 _ rfl) (ab_ix_in hg) ?_
      refine ab_iconst (z := 0) (v := (0 : Int32)) (by decide +kernel) (by decide) ?_
      refine ab_istore (i := 4) (by decide +kernel) (by decide) rfl ?_
      refine ab_ls (ls' := [some (.ref 73), some (.int a1), some (.int a2), some (.int a3), some (.int (0 : Int32)), none]) rfl ?_
      exact ab_wk (ab_le_some (ab_le_some (ab_le_some (ab_le_some (ab_le_some (ab_le_none (ab_le_nil))))))) (ab_iter (body := (fun s => fX12_layFits_37 a1 s.1 s.2.1 s.2.2.1 s.2.2.2)) (W := fun s => ab_WP l G mX12_layFits 6 37 [some (.ref 73), some (.int a1), some (.int s.1), some (.int s.2.1), some (.int s.2.2.1), none] [] S s.2.2.2 J P 0 0 Q) (fun s y hb h1 h2 => fX12_layFits_37_ok hB hb h1 (fun s e => K1 s (h2 _ e).symm) (fun r e => K0 r (h2 _ e).symm)) 5000 (a2, a3, (0 : Int32), (ab_u u3 90 (((13 : Int32) + (u3 73 42)).toNatClampNeg) a3)) H)
def fX12_layFits (a1 : Int32) (I : ab_I) : Option (Int32 × ab_I) :=
  ab_it (fun s => fX12_layFits_4 a1 s.1 s.2.1 s.2.2) 5000 ((0 : Int32), (0 : Int32), I)
set_option maxRecDepth 100000 in
theorem mX12_layFits_ok {l : Launch} {G : ab_G} {S : ab_S} {I : ab_I} {J : ab_J} {P : ab_P} {Q : ab_Q} {a1 : Int32} (hB : bz_B S P) {x : Int32 × ab_I} (H : fX12_layFits a1 I = some x) (K0 : Q (some (.int x.1)) S x.2 J P) : ab_Call l G mX12_layFits 6 [.ref 73, .int a1] S I J P Q := by
  unfold fX12_layFits at H
  refine ab_enter rfl (Nat.le_of_ble_eq_true rfl) (ab_wk (ls' := [some (.ref 73), some (.int a1), none, none, none, none]) (ab_le_some (ab_le_some (ab_le_non0 (ab_le_non0 (ab_le_non0 (ab_le_non0 ab_le_nil)))))) ?_)
  refine ab_iconst (z := 0) (v := (0 : Int32)) (by decide +kernel) (by decide) ?_
  refine ab_istore_n (z := 2) (by decide +kernel) rfl (by decide) rfl ?_
  refine ab_ls (ls' := [some (.ref 73), some (.int a1), some (.int (0 : Int32)), none, none, none]) rfl ?_
  refine ab_iconst (z := 0) (v := (0 : Int32)) (by decide +kernel) (by decide) ?_
  refine ab_istore_n (z := 3) (by decide +kernel) rfl (by decide) rfl ?_
  refine ab_ls (ls' := [some (.ref 73), some (.int a1), some (.int (0 : Int32)), some (.int (0 : Int32)), none, none]) rfl ?_
  exact ab_wk (ab_le_some (ab_le_some (ab_le_some (ab_le_some (ab_le_none (ab_le_none (ab_le_nil))))))) (ab_iter (body := (fun s => fX12_layFits_4 a1 s.1 s.2.1 s.2.2)) (W := fun s => ab_WP l G mX12_layFits 6 4 [some (.ref 73), some (.int a1), some (.int s.1), some (.int s.2.1), none, none] [] S s.2.2 J P 0 0 Q) (fun s y hb h1 h2 => fX12_layFits_4_ok hB hb h1 (fun r e => by have e2 := h2 _ e; subst e2; exact K0)) 5000 ((0 : Int32), (0 : Int32), I) H)
abbrev mX12_fits : ab_M := (yX12_fits, cX12_fits, 2, some .int, 0, 0)
def fX12_fits (a1 : Int32) (I : ab_I) : Option (Int32 × ab_I) :=
  (fX12_layFits a1 I).bind fun u1 =>
  some (u1.1, u1.2)
set_option maxRecDepth 100000 in
theorem mX12_fits_ok {l : Launch} {G : ab_G} {S : ab_S} {I : ab_I} {J : ab_J} {P : ab_P} {Q : ab_Q} {a1 : Int32} (hB : bz_B S P) {x : Int32 × ab_I} (H : fX12_fits a1 I = some x) (K0 : Q (some (.int x.1)) S x.2 J P) : ab_Call l G mX12_fits 7 [.ref 73, .int a1] S I J P Q := by
  unfold fX12_fits at H
  refine ab_enter rfl (Nat.le_of_ble_eq_true rfl) (ab_wk (ls' := [some (.ref 73), some (.int a1)]) (ab_le_some (ab_le_some (ab_le_nil))) ?_)
  refine ab_aload_n (z := 0) (by decide +kernel) rfl rfl ?_
  refine ab_iload_n (z := 1) (by decide +kernel) rfl rfl ?_
  obtain ⟨u1, hu1, H⟩ := ab_bd_of H
  refine kvX12_layFits (D := 6) (ix := 486) (by decide +kernel) tw_1746 (hB.1 73 _ rfl) (by decide) (Nat.le_of_ble_eq_true rfl) (mX12_layFits_ok hB hu1 ?_)
  change ab_WP l G mX12_fits 7 5 [some (.ref 73), some (.int a1)] [.int u1.1] S u1.2 J P 0 0 Q
  obtain rfl := Option.some.inj H
  exact ab_iret (by decide +kernel) rfl (Nat.le_refl _) (Nat.le_refl _) K0
abbrev mX12_sure : ab_M := (yX12_sure, cX12_sure, 5, some .int, 0, 0)
def fX12_sure_59 (a1 : Int32) (a2 : Int32) (a3 : Int32) (I : ab_I) : Option (Int32 × ab_I) :=
  some (a3, I)
set_option maxRecDepth 100000 in
theorem fX12_sure_59_ok {l : Launch} {G : ab_G} {S : ab_S} {I : ab_I} {J : ab_J} {P : ab_P} {Q : ab_Q} {a1 : Int32} {a2 : Int32} {a3 : Int32} (hB : bz_B S P) {x : Int32 × ab_I} (H : fX12_sure_59 a1 a2 a3 I = some x) (K0 : Q (some (.int x.1)) S x.2 J P) : ab_WP l G mX12_sure 7 59 [some (.ref 73), some (.int a1), some (.int a2), some (.int a3), none] [] S I J P 0 0 Q := by
  unfold fX12_sure_59 at H
  refine ab_iload_n (z := 3) (by decide +kernel) rfl rfl ?_
  obtain rfl := Option.some.inj H
  exact ab_iret (by decide +kernel) rfl (Nat.le_refl _) (Nat.le_refl _) K0
def fX12_sure_53 (a1 : Int32) (a2 : Int32) (a3 : Int32) (a4 : Int32) (I : ab_I) : Option ((Int32 × Int32 × ab_I) ⊕ (Int32 × ab_I)) :=
  some (.inl (a3, (a4 + (1 : Int32)), I))
set_option maxRecDepth 100000 in
theorem fX12_sure_53_ok {l : Launch} {G : ab_G} {S : ab_S} {I : ab_I} {J : ab_J} {P : ab_P} {Q : ab_Q} {a1 : Int32} {a2 : Int32} {a3 : Int32} {a4 : Int32} (hB : bz_B S P) {x : ((Int32 × Int32 × ab_I) ⊕ (Int32 × ab_I))} (H : fX12_sure_53 a1 a2 a3 a4 I = some x) (K1 : ∀ s, x = (.inl s) → ab_WP l G mX12_sure 7 24 [some (.ref 73), some (.int a1), some (.int a2), some (.int s.1), some (.int s.2.1)] [] S s.2.2 J P 0 0 Q) (K0 : ∀ r, x = (.inr r) → Q (some (.int r.1)) S r.2 J P) : ab_WP l G mX12_sure 7 53 [some (.ref 73), some (.int a1), some (.int a2), some (.int a3), some (.int a4)] [] S I J P 0 0 Q := by
  unfold fX12_sure_53 at H
  refine ab_iinc (i := 4) (z := 1) (v := (a4 + (1 : Int32))) (by decide +kernel) rfl rfl (by decide) rfl ?_
  refine ab_ls (ls' := [some (.ref 73), some (.int a1), some (.int a2), some (.int a3), some (.int (a4 + (1 : Int32)))]) rfl ?_
  refine ab_goto (off := -32) (tgt := 24) (by decide +kernel) rfl ?_
  exact ab_wk (ab_le_some (ab_le_some (ab_le_some (ab_le_some (ab_le_some (ab_le_nil)))))) (K1 (a3, (a4 + (1 : Int32)), I) (Option.some.inj H).symm)
def fX12_sure_17 (a1 : Int32) (a2 : Int32) (I : ab_I) : Option (Int32 × ab_I) :=
  some ((-1 : Int32), I)
set_option maxRecDepth 100000 in
theorem fX12_sure_17_ok {l : Launch} {G : ab_G} {S : ab_S} {I : ab_I} {J : ab_J} {P : ab_P} {Q : ab_Q} {a1 : Int32} {a2 : Int32} (hB : bz_B S P) {x : Int32 × ab_I} (H : fX12_sure_17 a1 a2 I = some x) (K0 : Q (some (.int x.1)) S x.2 J P) : ab_WP l G mX12_sure 7 17 [some (.ref 73), some (.int a1), some (.int a2), none, none] [] S I J P 0 0 Q := by
  unfold fX12_sure_17 at H
  refine ab_iconst (z := -1) (v := (-1 : Int32)) (by decide +kernel) (by decide) ?_
  obtain rfl := Option.some.inj H
  exact ab_iret (by decide +kernel) rfl (Nat.le_refl _) (Nat.le_refl _) K0
def fX12_sure_50 (a1 : Int32) (a2 : Int32) (a4 : Int32) (I : ab_I) : Option ((Int32 × Int32 × ab_I) ⊕ (Int32 × ab_I)) :=
  fX12_sure_53 a1 a2 a4 a4 I
set_option maxRecDepth 100000 in
theorem fX12_sure_50_ok {l : Launch} {G : ab_G} {S : ab_S} {I : ab_I} {J : ab_J} {P : ab_P} {Q : ab_Q} {a1 : Int32} {a2 : Int32} {a4 : Int32} (hB : bz_B S P) {x : ((Int32 × Int32 × ab_I) ⊕ (Int32 × ab_I))} (H : fX12_sure_50 a1 a2 a4 I = some x) (K1 : ∀ s, x = (.inl s) → ab_WP l G mX12_sure 7 24 [some (.ref 73), some (.int a1), some (.int a2), some (.int s.1), some (.int s.2.1)] [] S s.2.2 J P 0 0 Q) (K0 : ∀ r, x = (.inr r) → Q (some (.int r.1)) S r.2 J P) : ab_WP l G mX12_sure 7 50 [some (.ref 73), some (.int a1), some (.int a2), none, some (.int a4)] [] S I J P 0 0 Q := by
  unfold fX12_sure_50 at H
  refine ab_iload (i := 4) (by decide +kernel) rfl ?_
  refine ab_istore_n (z := 3) (by decide +kernel) rfl (by decide) rfl ?_
  refine ab_ls (ls' := [some (.ref 73), some (.int a1), some (.int a2), some (.int a4), some (.int a4)]) rfl ?_
  exact ab_wk (ab_le_some (ab_le_some (ab_le_some (ab_le_some (ab_le_some (ab_le_nil)))))) (fX12_sure_53_ok hB H K1 K0)
def fX12_sure_24 (a1 : Int32) (a2 : Int32) (a3 : Int32) (a4 : Int32) (I : ab_I) : Option ((Int32 × Int32 × ab_I) ⊕ (Int32 × ab_I)) :=
  if (20 : Int32) < a4 then
    (fX12_sure_59 a1 a2 a3 I).map .inr
  else
    ab_gd (ab_ix a4 21 = true) (
      if (I 106 a4.toNatClampNeg) = 0 then
        fX12_sure_53 a1 a2 a3 a4 I
      else
        if a3 < 0 then
          fX12_sure_50 a1 a2 a4 I
        else
          if a1 = (1 : Int32) then
            fX12_sure_50 a1 a2 a4 I
          else
            fX12_sure_53 a1 a2 a3 a4 I
    )
set_option maxRecDepth 100000 in
theorem fX12_sure_24_ok {l : Launch} {G : ab_G} {S : ab_S} {I : ab_I} {J : ab_J} {P : ab_P} {Q : ab_Q} {a1 : Int32} {a2 : Int32} {a3 : Int32} {a4 : Int32} (hB : bz_B S P) {x : ((Int32 × Int32 × ab_I) ⊕ (Int32 × ab_I))} (H : fX12_sure_24 a1 a2 a3 a4 I = some x) (K1 : ∀ s, x = (.inl s) → ab_WP l G mX12_sure 7 24 [some (.ref 73), some (.int a1), some (.int a2), some (.int s.1), some (.int s.2.1)] [] S s.2.2 J P 0 0 Q) (K0 : ∀ r, x = (.inr r) → Q (some (.int r.1)) S r.2 J P) : ab_WP l G mX12_sure 7 24 [some (.ref 73), some (.int a1), some (.int a2), some (.int a3), some (.int a4)] [] S I J P 0 0 Q := by
  unfold fX12_sure_24 at H
  refine ab_iload (i := 4) (by decide +kernel) rfl ?_
  refine ab_bipush (z := 20) (v := (20 : Int32)) (by decide +kernel) (by decide) ?_
  refine ab_icmp_gt (off := 31) (tgt := 59) (by decide +kernel) rfl (fun hc => ?_) (fun hc => ?_)
  · replace H := ab_ifp H hc
    obtain ⟨y3, Hy, hx⟩ := ab_mp_of H
    subst hx
    replace H := Hy
    exact ab_wk (ab_le_some (ab_le_some (ab_le_some (ab_le_some (ab_le_none (ab_le_nil)))))) (fX12_sure_59_ok hB H  (K0 _ rfl))
  · replace H := ab_ifn H hc
    refine ab_aload_n (z := 0) (by decide +kernel) rfl rfl ?_
    refine gX12_68 (ix := 112) (by decide +kernel) tw_1149 (hB.1 73 _ rfl) (hB.2.1 111 (73, 68, 106) rfl) ?_
    refine ab_iload (i := 4) (by decide +kernel) rfl ?_
    obtain ⟨hg, H⟩ := ab_gd_of H
    refine ab_zald (ln := 21) (by decide +kernel) (hB.1 106 _ rfl) (ab_ix_in hg) ?_
    refine ab_if_eq (off := 15) (tgt := 53) (by decide +kernel) rfl (fun hc => ?_) (fun hc => ?_)
    · replace H := ab_ifp H hc
      exact ab_wk (ab_le_some (ab_le_some (ab_le_some (ab_le_some (ab_le_some (ab_le_nil)))))) (fX12_sure_53_ok hB H K1 K0)
    · replace H := ab_ifn H hc
      refine ab_iload_n (z := 3) (by decide +kernel) rfl rfl ?_
      refine ab_if_lt (off := 8) (tgt := 50) (by decide +kernel) rfl (fun hc => ?_) (fun hc => ?_)
      · replace H := ab_ifp H hc
        exact ab_wk (ab_le_some (ab_le_some (ab_le_some (ab_le_none (ab_le_some (ab_le_nil)))))) (fX12_sure_50_ok hB H K1 K0)
      · replace H := ab_ifn H hc
        refine ab_iload_n (z := 1) (by decide +kernel) rfl rfl ?_
        refine ab_iconst (z := 1) (v := (1 : Int32)) (by decide +kernel) (by decide) ?_
        refine ab_icmp_ne (off := 6) (tgt := 53) (by decide +kernel) rfl (fun hc => ?_) (fun hc => ?_)
        · replace H := ab_ifn H hc
          exact ab_wk (ab_le_some (ab_le_some (ab_le_some (ab_le_some (ab_le_some (ab_le_nil)))))) (fX12_sure_53_ok hB H K1 K0)
        · replace H := ab_ifp H hc
          exact ab_wk (ab_le_some (ab_le_some (ab_le_some (ab_le_none (ab_le_some (ab_le_nil)))))) (fX12_sure_50_ok hB H K1 K0)
def fX12_sure (a1 : Int32) (a2 : Int32) (I : ab_I) : Option (Int32 × ab_I) :=
  (fX12_isIn a1 (0 : Int32) (1 : Int32)).bind fun u1 =>
  if u1 = 0 then
    fX12_sure_17 a1 a2 I
  else
    (fX12_layFits a2 I).bind fun u2 =>
    if u2.1 = 0 then
      fX12_sure_17 a1 a2 u2.2
    else
      ab_it (fun s => fX12_sure_24 a1 a2 s.1 s.2.1 s.2.2) 5000 ((-1 : Int32), (0 : Int32), u2.2)
set_option maxRecDepth 100000 in
theorem mX12_sure_ok {l : Launch} {G : ab_G} {S : ab_S} {I : ab_I} {J : ab_J} {P : ab_P} {Q : ab_Q} {a1 : Int32} {a2 : Int32} (hB : bz_B S P) {x : Int32 × ab_I} (H : fX12_sure a1 a2 I = some x) (K0 : Q (some (.int x.1)) S x.2 J P) : ab_Call l G mX12_sure 7 [.ref 73, .int a1, .int a2] S I J P Q := by
  unfold fX12_sure at H
  refine ab_enter rfl (Nat.le_of_ble_eq_true rfl) (ab_wk (ls' := [some (.ref 73), some (.int a1), some (.int a2), none, none]) (ab_le_some (ab_le_some (ab_le_some (ab_le_non0 (ab_le_non0 ab_le_nil))))) ?_)
  refine ab_iload_n (z := 1) (by decide +kernel) rfl rfl ?_
  refine ab_iconst (z := 0) (v := (0 : Int32)) (by decide +kernel) (by decide) ?_
  refine ab_iconst (z := 1) (v := (1 : Int32)) (by decide +kernel) (by decide) ?_
  obtain ⟨u1, hu1, H⟩ := ab_bd_of H
  refine ksX12_isIn (D := 0) (ix := 384) (by decide +kernel) tw_1474 (by decide) (Nat.le_of_ble_eq_true rfl) (mX12_isIn_ok hB hu1 ?_)
  change ab_WP l G mX12_sure 7 6 [some (.ref 73), some (.int a1), some (.int a2), none, none] [.int u1] S I J P 0 0 Q
  refine ab_if_eq (off := 11) (tgt := 17) (by decide +kernel) rfl (fun hc => ?_) (fun hc => ?_)
  · replace H := ab_ifp H hc
    exact ab_wk (ab_le_some (ab_le_some (ab_le_some (ab_le_none (ab_le_none (ab_le_nil)))))) (fX12_sure_17_ok hB H  K0)
  · replace H := ab_ifn H hc
    refine ab_aload_n (z := 0) (by decide +kernel) rfl rfl ?_
    refine ab_iload_n (z := 2) (by decide +kernel) rfl rfl ?_
    obtain ⟨u2, hu2, H⟩ := ab_bd_of H
    refine kvX12_layFits (D := 6) (ix := 486) (by decide +kernel) tw_1746 (hB.1 73 _ rfl) (by decide) (Nat.le_of_ble_eq_true rfl) (mX12_layFits_ok hB hu2 ?_)
    change ab_WP l G mX12_sure 7 14 [some (.ref 73), some (.int a1), some (.int a2), none, none] [.int u2.1] S u2.2 J P 0 0 Q
    refine ab_if_ne (off := 5) (tgt := 19) (by decide +kernel) rfl (fun hc => ?_) (fun hc => ?_)
    · replace H := ab_ifn H hc
      refine ab_iconst (z := -1) (v := (-1 : Int32)) (by decide +kernel) (by decide) ?_
      refine ab_istore_n (z := 3) (by decide +kernel) rfl (by decide) rfl ?_
      refine ab_ls (ls' := [some (.ref 73), some (.int a1), some (.int a2), some (.int (-1 : Int32)), none]) rfl ?_
      refine ab_iconst (z := 0) (v := (0 : Int32)) (by decide +kernel) (by decide) ?_
      refine ab_istore (i := 4) (by decide +kernel) (by decide) rfl ?_
      refine ab_ls (ls' := [some (.ref 73), some (.int a1), some (.int a2), some (.int (-1 : Int32)), some (.int (0 : Int32))]) rfl ?_
      exact ab_wk (ab_le_some (ab_le_some (ab_le_some (ab_le_some (ab_le_some (ab_le_nil)))))) (ab_iter (body := (fun s => fX12_sure_24 a1 a2 s.1 s.2.1 s.2.2)) (W := fun s => ab_WP l G mX12_sure 7 24 [some (.ref 73), some (.int a1), some (.int a2), some (.int s.1), some (.int s.2.1)] [] S s.2.2 J P 0 0 Q) (fun s y hb h1 h2 => fX12_sure_24_ok hB hb h1 (fun r e => by have e2 := h2 _ e; subst e2; exact K0)) 5000 ((-1 : Int32), (0 : Int32), u2.2) H)
    · replace H := ab_ifp H hc
      exact ab_wk (ab_le_some (ab_le_some (ab_le_some (ab_le_none (ab_le_none (ab_le_nil)))))) (fX12_sure_17_ok hB H  K0)
