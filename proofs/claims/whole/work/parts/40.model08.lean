abbrev mX12_want : ab_M := (yX12_want, cX12_want, 6, some .int, 0, 0)
def fX12_want_26 (a1 : Int32) (a2 : Int32) (a3 : Int32) (I : ab_I) : Option (Int32 × ab_I) :=
  some ((-1 : Int32), I)
set_option maxRecDepth 100000 in
theorem fX12_want_26_ok {l : Launch} {G : ab_G} {S : ab_S} {I : ab_I} {J : ab_J} {P : ab_P} {Q : ab_Q} {a1 : Int32} {a2 : Int32} {a3 : Int32} (hB : bz_B S P) {x : Int32 × ab_I} (H : fX12_want_26 a1 a2 a3 I = some x) (K0 : Q (some (.int x.1)) S x.2 J P) : ab_WP l G mX12_want 2 26 [some (.ref 73), some (.int a1), some (.int a2), some (.int a3), none, none] [] S I J P 0 0 Q := by
  unfold fX12_want_26 at H
  refine ab_iconst (z := -1) (v := (-1 : Int32)) (by decide +kernel) (by decide) ?_
  obtain rfl := Option.some.inj H
  exact ab_iret (by decide +kernel) rfl (Nat.le_refl _) (Nat.le_refl _) K0
def fX12_want (a1 : Int32) (a2 : Int32) (a3 : Int32) (I : ab_I) : Option (Int32 × ab_I) :=
  (fX12_isPerson a1 I).bind fun u1 =>
  if u1 = 0 then
    fX12_want_26 a1 a2 a3 I
  else
    (fX12_isBell a2 I).bind fun u2 =>
    if u2 = 0 then
      fX12_want_26 a1 a2 a3 I
    else
      (fX12_isIn a3 (0 : Int32) (20 : Int32)).bind fun u3 =>
      if u3 = 0 then
        fX12_want_26 a1 a2 a3 I
      else
        ab_gd (ab_ix (((13 : Int32) + ((5 : Int32) * a1)) + a2) 45 = true) (
          if (I 89 ((((13 : Int32) + ((5 : Int32) * a1)) + a2).toNatClampNeg)) = a3 then
            some ((-1 : Int32), I)
          else
            (fX12_act I).bind fun u4 =>
            ab_gd (ab_ix (((13 : Int32) + ((5 : Int32) * a1)) + a2) 45 = true) (
              some ((I 89 ((((13 : Int32) + ((5 : Int32) * a1)) + a2).toNatClampNeg)), (ab_u u4 89 ((((13 : Int32) + ((5 : Int32) * a1)) + a2).toNatClampNeg) a3))
            )
        )
set_option maxRecDepth 100000 in
theorem mX12_want_ok {l : Launch} {G : ab_G} {S : ab_S} {I : ab_I} {J : ab_J} {P : ab_P} {Q : ab_Q} {a1 : Int32} {a2 : Int32} {a3 : Int32} (hB : bz_B S P) {x : Int32 × ab_I} (H : fX12_want a1 a2 a3 I = some x) (K0 : Q (some (.int x.1)) S x.2 J P) : ab_Call l G mX12_want 2 [.ref 73, .int a1, .int a2, .int a3] S I J P Q := by
  unfold fX12_want at H
  refine ab_enter rfl (Nat.le_of_ble_eq_true rfl) (ab_wk (ls' := [some (.ref 73), some (.int a1), some (.int a2), some (.int a3), none, none]) (ab_le_some (ab_le_some (ab_le_some (ab_le_some (ab_le_non0 (ab_le_non0 ab_le_nil)))))) ?_)
  refine ab_aload_n (z := 0) (by decide +kernel) rfl rfl ?_
  refine ab_iload_n (z := 1) (by decide +kernel) rfl rfl ?_
  obtain ⟨u1, hu1, H⟩ := ab_bd_of H
  refine kvX12_isPerson (D := 1) (ix := 408) (by decide +kernel) tw_1470 (hB.1 73 _ rfl) (by decide) (Nat.le_of_ble_eq_true rfl) (mX12_isPerson_ok hB hu1 ?_)
  change ab_WP l G mX12_want 2 5 [some (.ref 73), some (.int a1), some (.int a2), some (.int a3), none, none] [.int u1] S I J P 0 0 Q
  refine ab_if_eq (off := 21) (tgt := 26) (by decide +kernel) rfl (fun hc => ?_) (fun hc => ?_)
  · replace H := ab_ifp H hc
    exact ab_wk (ab_le_some (ab_le_some (ab_le_some (ab_le_some (ab_le_none (ab_le_none (ab_le_nil))))))) (fX12_want_26_ok hB H  K0)
  · replace H := ab_ifn H hc
    refine ab_aload_n (z := 0) (by decide +kernel) rfl rfl ?_
    refine ab_iload_n (z := 2) (by decide +kernel) rfl rfl ?_
    obtain ⟨u2, hu2, H⟩ := ab_bd_of H
    refine kvX12_isBell (D := 1) (ix := 423) (by decide +kernel) tw_1529 (hB.1 73 _ rfl) (by decide) (Nat.le_of_ble_eq_true rfl) (mX12_isBell_ok hB hu2 ?_)
    change ab_WP l G mX12_want 2 13 [some (.ref 73), some (.int a1), some (.int a2), some (.int a3), none, none] [.int u2] S I J P 0 0 Q
    refine ab_if_eq (off := 13) (tgt := 26) (by decide +kernel) rfl (fun hc => ?_) (fun hc => ?_)
    · replace H := ab_ifp H hc
      exact ab_wk (ab_le_some (ab_le_some (ab_le_some (ab_le_some (ab_le_none (ab_le_none (ab_le_nil))))))) (fX12_want_26_ok hB H  K0)
    · replace H := ab_ifn H hc
      refine ab_iload_n (z := 3) (by decide +kernel) rfl rfl ?_
      refine ab_iconst (z := 0) (v := (0 : Int32)) (by decide +kernel) (by decide) ?_
      refine ab_bipush (z := 20) (v := (20 : Int32)) (by decide +kernel) (by decide) ?_
      obtain ⟨u3, hu3, H⟩ := ab_bd_of H
      refine ksX12_isIn (D := 0) (ix := 384) (by decide +kernel) tw_1474 (by decide) (Nat.le_of_ble_eq_true rfl) (mX12_isIn_ok hB hu3 ?_)
      change ab_WP l G mX12_want 2 23 [some (.ref 73), some (.int a1), some (.int a2), some (.int a3), none, none] [.int u3] S I J P 0 0 Q
      refine ab_if_ne (off := 5) (tgt := 28) (by decide +kernel) rfl (fun hc => ?_) (fun hc => ?_)
      · replace H := ab_ifn H hc
        refine ab_bipush (z := 13) (v := (13 : Int32)) (by decide +kernel) (by decide) ?_
        refine ab_iconst (z := 5) (v := (5 : Int32)) (by decide +kernel) (by decide) ?_
        refine ab_iload_n (z := 1) (by decide +kernel) rfl rfl ?_
        refine ab_imul (by decide +kernel) ?_
        refine ab_iadd (by decide +kernel) ?_
        refine ab_iload_n (z := 2) (by decide +kernel) rfl rfl ?_
        refine ab_iadd (by decide +kernel) ?_
        refine ab_istore (i := 4) (by decide +kernel) (by decide) rfl ?_
        refine ab_ls (ls' := [some (.ref 73), some (.int a1), some (.int a2), some (.int a3), some (.int (((13 : Int32) + ((5 : Int32) * a1)) + a2)), none]) rfl ?_
        refine ab_aload_n (z := 0) (by decide +kernel) rfl rfl ?_
        refine gX12_46 (ix := 60) (by decide +kernel) tw_1127 (hB.1 73 _ rfl) (hB.2.1 94 (73, 46, 89) rfl) ?_
        refine ab_iload (i := 4) (by decide +kernel) rfl ?_
        obtain ⟨hg, H⟩ := ab_gd_of H
        refine ab_iald (ln := 45) (by decide +kernel) (hB.1 89 _ rfl) (ab_ix_in hg) ?_
        refine ab_istore (i := 5) (by decide +kernel) (by decide) rfl ?_
        refine ab_ls (ls' := [some (.ref 73), some (.int a1), some (.int a2), some (.int a3), some (.int (((13 : Int32) + ((5 : Int32) * a1)) + a2)), some (.int (I 89 ((((13 : Int32) + ((5 : Int32) * a1)) + a2).toNatClampNeg)))]) rfl ?_
        refine ab_iload (i := 5) (by decide +kernel) rfl ?_
        refine ab_iload_n (z := 3) (by decide +kernel) rfl rfl ?_
        refine ab_icmp_ne (off := 5) (tgt := 55) (by decide +kernel) rfl (fun hc => ?_) (fun hc => ?_)
        · replace H := ab_ifn H hc
          refine ab_aload_n (z := 0) (by decide +kernel) rfl rfl ?_
          obtain ⟨u4, hu4, H⟩ := ab_bd_of H
          refine kvX12_act (D := 1) (ix := 427) (by decide +kernel) tw_1550 (hB.1 73 _ rfl) (by decide) (Nat.le_of_ble_eq_true rfl) (mX12_act_ok hB hu4 ?_)
          change ab_WP l G mX12_want 2 59 [some (.ref 73), some (.int a1), some (.int a2), some (.int a3), some (.int (((13 : Int32) + ((5 : Int32) * a1)) + a2)), some (.int (I 89 ((((13 : Int32) + ((5 : Int32) * a1)) + a2).toNatClampNeg)))] [] S u4 J P 0 0 Q
          refine ab_aload_n (z := 0) (by decide +kernel) rfl rfl ?_
          refine gX12_46 (ix := 60) (by decide +kernel) tw_1127 (hB.1 73 _ rfl) (hB.2.1 94 (73, 46, 89) rfl) ?_
          refine ab_iload (i := 4) (by decide +kernel) rfl ?_
          refine ab_iload_n (z := 3) (by decide +kernel) rfl rfl ?_
          obtain ⟨hg, H⟩ := ab_gd_of H
          refine ab_iast (ln := 45) (by decide +kernel) (hB.1 89 _ rfl) (ab_ix_in hg) ?_
          refine ab_iload (i := 5) (by decide +kernel) rfl ?_
          obtain rfl := Option.some.inj H
          exact ab_iret (by decide +kernel) rfl (Nat.le_refl _) (Nat.le_refl _) K0
        · replace H := ab_ifp H hc
          refine ab_iconst (z := -1) (v := (-1 : Int32)) (by decide +kernel) (by decide) ?_
          obtain rfl := Option.some.inj H
          exact ab_iret (by decide +kernel) rfl (Nat.le_refl _) (Nat.le_refl _) K0
      · replace H := ab_ifp H hc
        exact ab_wk (ab_le_some (ab_le_some (ab_le_some (ab_le_some (ab_le_none (ab_le_none (ab_le_nil))))))) (fX12_want_26_ok hB H  K0)
abbrev mX12_isThere : ab_M := (yX12_isThere, cX12_isThere, 2, some .boolean, 0, 0)
theorem kvX12_isThere {l : Launch} {G : ab_G} {M : ab_M} {d pc : Nat} {ls : List (Option Value)} {st : List Value} {S : ab_S} {I : ab_I} {J : ab_J} {P : ab_P} {Q : ab_Q} {v0 : Value} {ix D r ln : Nat} (hd : decode M.2.1 pc = .ok (.invokevirtual ix, 3)) (h1 : Cond.methodLink M.1.cls ix mX12_isThere.1 ∈ ab_good) (hs : S[r]? = some (17, ln)) (hdg : D + 1 ≤ d) (hsum : (st.map fun v => v.category).sum ≤ 8) (kk : ab_Call l G mX12_isThere D (.ref r :: [v0]) S I J P (fun v S' I' J' P' => ab_WP l G M d (pc + 3) ls (ab_psh v st) S' I' J' P' 0 0 Q)) : ab_WP l G M d pc ls (v0 :: .ref r :: st) S I J P 0 0 Q := bz_kv (g := mX12_isThere) (as := [v0]) (cc := 12) rfl hd h1 tw_1564 tw_p74 tw_13 tw_1565 ⟨by decide +kernel, by decide +kernel, (by decide +kernel : (parseMethodDescriptor mX12_isThere.1.desc).map (fun d => d.parameters.length) = some 1)⟩ (by decide) rfl rfl rfl hdg hsum hs kk
def fX12_isThere_20 (a1 : Int32) (I : ab_I) (s0 : Int32) : Option Int32 :=
  ab_gd (s0 = 0 ∨ s0 = 1) (some s0)
set_option maxRecDepth 100000 in
theorem fX12_isThere_20_ok {l : Launch} {G : ab_G} {S : ab_S} {I : ab_I} {J : ab_J} {P : ab_P} {Q : ab_Q} {a1 : Int32} {s0 : Int32} (hB : bz_B S P) {x : Int32} (H : fX12_isThere_20 a1 I s0 = some x) (K0 : Q (some (.int x)) S I J P) : ab_WP l G mX12_isThere 0 20 [some (.ref 73), some (.int a1)] [.int s0] S I J P 0 0 Q := by
  unfold fX12_isThere_20 at H
  obtain ⟨hg, H⟩ := ab_gd_of H
  obtain rfl := Option.some.inj H
  exact ab_zret (by decide +kernel) rfl (Nat.le_refl _) (Nat.le_refl _) hg K0
def fX12_isThere (a1 : Int32) (I : ab_I) : Option Int32 :=
  ab_gd (ab_ix (12 : Int32) 45 = true) (
    if (((I 89 ((12 : Int32).toNatClampNeg)) >>> (a1 &&& 31)) &&& (1 : Int32)) = (1 : Int32) then
      fX12_isThere_20 a1 I (1 : Int32)
    else
      fX12_isThere_20 a1 I (0 : Int32)
  )
set_option maxRecDepth 100000 in
theorem mX12_isThere_ok {l : Launch} {G : ab_G} {S : ab_S} {I : ab_I} {J : ab_J} {P : ab_P} {Q : ab_Q} {a1 : Int32} (hB : bz_B S P) {x : Int32} (H : fX12_isThere a1 I = some x) (K0 : Q (some (.int x)) S I J P) : ab_Call l G mX12_isThere 0 [.ref 73, .int a1] S I J P Q := by
  unfold fX12_isThere at H
  refine ab_enter rfl (Nat.le_of_ble_eq_true rfl) (ab_wk (ls' := [some (.ref 73), some (.int a1)]) (ab_le_some (ab_le_some (ab_le_nil))) ?_)
  refine ab_aload_n (z := 0) (by decide +kernel) rfl rfl ?_
  refine gX12_46 (ix := 60) (by decide +kernel) tw_1127 (hB.1 73 _ rfl) (hB.2.1 94 (73, 46, 89) rfl) ?_
  refine ab_bipush (z := 12) (v := (12 : Int32)) (by decide +kernel) (by decide) ?_
  obtain ⟨hg, H⟩ := ab_gd_of H
  refine ab_iald (ln := 45) (by decide +kernel) (hB.1 89 _ rfl) (ab_ix_in hg) ?_
  refine ab_iload_n (z := 1) (by decide +kernel) rfl rfl ?_
  refine ab_ishr (by decide +kernel) ?_
  refine ab_iconst (z := 1) (v := (1 : Int32)) (by decide +kernel) (by decide) ?_
  refine ab_iand (by decide +kernel) ?_
  refine ab_iconst (z := 1) (v := (1 : Int32)) (by decide +kernel) (by decide) ?_
  refine ab_icmp_ne (off := 7) (tgt := 19) (by decide +kernel) rfl (fun hc => ?_) (fun hc => ?_)
  · replace H := ab_ifn H hc
    refine ab_iconst (z := 0) (v := (0 : Int32)) (by decide +kernel) (by decide) ?_
    exact ab_wk (ab_le_some (ab_le_some (ab_le_nil))) (fX12_isThere_20_ok hB H  K0)
  · replace H := ab_ifp H hc
    refine ab_iconst (z := 1) (v := (1 : Int32)) (by decide +kernel) (by decide) ?_
    refine ab_goto (off := 4) (tgt := 20) (by decide +kernel) rfl ?_
    exact ab_wk (ab_le_some (ab_le_some (ab_le_nil))) (fX12_isThere_20_ok hB H  K0)
abbrev mX12_turn : ab_M := (yX12_turn, cX12_turn, 2, some .int, 0, 0)
theorem kvX12_turn {l : Launch} {G : ab_G} {M : ab_M} {d pc : Nat} {ls : List (Option Value)} {st : List Value} {S : ab_S} {I : ab_I} {J : ab_J} {P : ab_P} {Q : ab_Q} {v0 : Value} {ix D r ln : Nat} (hd : decode M.2.1 pc = .ok (.invokevirtual ix, 3)) (h1 : Cond.methodLink M.1.cls ix mX12_turn.1 ∈ ab_good) (hs : S[r]? = some (17, ln)) (hdg : D + 1 ≤ d) (hsum : (st.map fun v => v.category).sum ≤ 8) (kk : ab_Call l G mX12_turn D (.ref r :: [v0]) S I J P (fun v S' I' J' P' => ab_WP l G M d (pc + 3) ls (ab_psh v st) S' I' J' P' 0 0 Q)) : ab_WP l G M d pc ls (v0 :: .ref r :: st) S I J P 0 0 Q := bz_kv (g := mX12_turn) (as := [v0]) (cc := 12) rfl hd h1 tw_1568 tw_p75 tw_13 tw_1569 ⟨by decide +kernel, by decide +kernel, (by decide +kernel : (parseMethodDescriptor mX12_turn.1.desc).map (fun d => d.parameters.length) = some 1)⟩ (by decide) rfl rfl rfl hdg hsum hs kk
def fX12_turn (a1 : Int32) (I : ab_I) : Option (Int32 × ab_I) :=
  (fX12_act I).bind fun u1 =>
  ab_gd (ab_ix (12 : Int32) 45 = true) (
    ab_gd (ab_ix (12 : Int32) 45 = true) (
      ab_gd (ab_ix (12 : Int32) 45 = true) (
        (fX12_members ((ab_u u1 89 ((12 : Int32).toNatClampNeg) ((u1 89 ((12 : Int32).toNatClampNeg)) ^^^ ((1 : Int32) <<< (a1 &&& 31)))) 89 ((12 : Int32).toNatClampNeg))).bind fun u2 =>
        some (u2, (ab_u u1 89 ((12 : Int32).toNatClampNeg) ((u1 89 ((12 : Int32).toNatClampNeg)) ^^^ ((1 : Int32) <<< (a1 &&& 31)))))
      )
    )
  )
set_option maxRecDepth 100000 in
theorem mX12_turn_ok {l : Launch} {G : ab_G} {S : ab_S} {I : ab_I} {J : ab_J} {P : ab_P} {Q : ab_Q} {a1 : Int32} (hB : bz_B S P) {x : Int32 × ab_I} (H : fX12_turn a1 I = some x) (K0 : Q (some (.int x.1)) S x.2 J P) : ab_Call l G mX12_turn 2 [.ref 73, .int a1] S I J P Q := by
  unfold fX12_turn at H
  refine ab_enter rfl (Nat.le_of_ble_eq_true rfl) (ab_wk (ls' := [some (.ref 73), some (.int a1)]) (ab_le_some (ab_le_some (ab_le_nil))) ?_)
  refine ab_aload_n (z := 0) (by decide +kernel) rfl rfl ?_
  obtain ⟨u1, hu1, H⟩ := ab_bd_of H
  refine kvX12_act (D := 1) (ix := 427) (by decide +kernel) tw_1550 (hB.1 73 _ rfl) (by decide) (Nat.le_of_ble_eq_true rfl) (mX12_act_ok hB hu1 ?_)
  change ab_WP l G mX12_turn 2 4 [some (.ref 73), some (.int a1)] [] S u1 J P 0 0 Q
  refine ab_aload_n (z := 0) (by decide +kernel) rfl rfl ?_
  refine gX12_46 (ix := 60) (by decide +kernel) tw_1127 (hB.1 73 _ rfl) (hB.2.1 94 (73, 46, 89) rfl) ?_
  refine ab_bipush (z := 12) (v := (12 : Int32)) (by decide +kernel) (by decide) ?_
  refine ab_dup2 (by decide +kernel) rfl rfl ?_
  obtain ⟨hg, H⟩ := ab_gd_of H
  refine ab_iald (ln := 45) (by decide +kernel) (hB.1 89 _ rfl) (ab_ix_in hg) ?_
  refine ab_iconst (z := 1) (v := (1 : Int32)) (by decide +kernel) (by decide) ?_
  refine ab_iload_n (z := 1) (by decide +kernel) rfl rfl ?_
  refine ab_ishl (by decide +kernel) ?_
  refine ab_ixor (by decide +kernel) ?_
  obtain ⟨hg, H⟩ := ab_gd_of H
  refine ab_iast (ln := 45) (by decide +kernel) (hB.1 89 _ rfl) (ab_ix_in hg) ?_
  refine ab_aload_n (z := 0) (by decide +kernel) rfl rfl ?_
  refine gX12_46 (ix := 60) (by decide +kernel) tw_1127 (hB.1 73 _ rfl) (hB.2.1 94 (73, 46, 89) rfl) ?_
  refine ab_bipush (z := 12) (v := (12 : Int32)) (by decide +kernel) (by decide) ?_
  obtain ⟨hg, H⟩ := ab_gd_of H
  refine ab_iald (ln := 45) (by decide +kernel) (hB.1 89 _ rfl) (ab_ix_in hg) ?_
  obtain ⟨u2, hu2, H⟩ := ab_bd_of H
  refine ksX12_members (D := 0) (ix := 283) (by decide +kernel) tw_1512 (by decide) (Nat.le_of_ble_eq_true rfl) (mX12_members_ok hB hu2 ?_)
  change ab_WP l G mX12_turn 2 27 [some (.ref 73), some (.int a1)] [.int u2] S (ab_u u1 89 ((12 : Int32).toNatClampNeg) ((u1 89 ((12 : Int32).toNatClampNeg)) ^^^ ((1 : Int32) <<< (a1 &&& 31)))) J P 0 0 Q
  obtain rfl := Option.some.inj H
  exact ab_iret (by decide +kernel) rfl (Nat.le_refl _) (Nat.le_refl _) K0
abbrev mX12_leave : ab_M := (yX12_leave, cX12_leave, 2, some .int, 0, 0)
def fX12_leave_25 (a1 : Int32) (s0 : Int32) (I : ab_I) : Option (Int32 × ab_I) :=
  some (s0, I)
set_option maxRecDepth 100000 in
theorem fX12_leave_25_ok {l : Launch} {G : ab_G} {S : ab_S} {I : ab_I} {J : ab_J} {P : ab_P} {Q : ab_Q} {a1 : Int32} {s0 : Int32} (hB : bz_B S P) {x : Int32 × ab_I} (H : fX12_leave_25 a1 s0 I = some x) (K0 : Q (some (.int x.1)) S x.2 J P) : ab_WP l G mX12_leave 3 25 [some (.ref 73), some (.int a1)] [.int s0] S I J P 0 0 Q := by
  unfold fX12_leave_25 at H
  obtain rfl := Option.some.inj H
  exact ab_iret (by decide +kernel) rfl (Nat.le_refl _) (Nat.le_refl _) K0
def fX12_leave_24 (a1 : Int32) (I : ab_I) : Option (Int32 × ab_I) :=
  fX12_leave_25 a1 (-1 : Int32) I
set_option maxRecDepth 100000 in
theorem fX12_leave_24_ok {l : Launch} {G : ab_G} {S : ab_S} {I : ab_I} {J : ab_J} {P : ab_P} {Q : ab_Q} {a1 : Int32} (hB : bz_B S P) {x : Int32 × ab_I} (H : fX12_leave_24 a1 I = some x) (K0 : Q (some (.int x.1)) S x.2 J P) : ab_WP l G mX12_leave 3 24 [some (.ref 73), some (.int a1)] [] S I J P 0 0 Q := by
  unfold fX12_leave_24 at H
  refine ab_iconst (z := -1) (v := (-1 : Int32)) (by decide +kernel) (by decide) ?_
  exact ab_wk (ab_le_some (ab_le_some (ab_le_nil))) (fX12_leave_25_ok hB H  K0)
def fX12_leave (a1 : Int32) (I : ab_I) : Option (Int32 × ab_I) :=
  (fX12_isPerson a1 I).bind fun u1 =>
  if u1 = 0 then
    fX12_leave_24 a1 I
  else
    (fX12_isThere a1 I).bind fun u2 =>
    if u2 = 0 then
      fX12_leave_24 a1 I
    else
      (fX12_turn a1 I).bind fun u3 =>
      fX12_leave_25 a1 u3.1 u3.2
set_option maxRecDepth 100000 in
theorem mX12_leave_ok {l : Launch} {G : ab_G} {S : ab_S} {I : ab_I} {J : ab_J} {P : ab_P} {Q : ab_Q} {a1 : Int32} (hB : bz_B S P) {x : Int32 × ab_I} (H : fX12_leave a1 I = some x) (K0 : Q (some (.int x.1)) S x.2 J P) : ab_Call l G mX12_leave 3 [.ref 73, .int a1] S I J P Q := by
  unfold fX12_leave at H
  refine ab_enter rfl (Nat.le_of_ble_eq_true rfl) (ab_wk (ls' := [some (.ref 73), some (.int a1)]) (ab_le_some (ab_le_some (ab_le_nil))) ?_)
  refine ab_aload_n (z := 0) (by decide +kernel) rfl rfl ?_
  refine ab_iload_n (z := 1) (by decide +kernel) rfl rfl ?_
  obtain ⟨u1, hu1, H⟩ := ab_bd_of H
  refine kvX12_isPerson (D := 1) (ix := 408) (by decide +kernel) tw_1470 (hB.1 73 _ rfl) (by decide) (Nat.le_of_ble_eq_true rfl) (mX12_isPerson_ok hB hu1 ?_)
  change ab_WP l G mX12_leave 3 5 [some (.ref 73), some (.int a1)] [.int u1] S I J P 0 0 Q
  refine ab_if_eq (off := 19) (tgt := 24) (by decide +kernel) rfl (fun hc => ?_) (fun hc => ?_)
  · replace H := ab_ifp H hc
    exact ab_wk (ab_le_some (ab_le_some (ab_le_nil))) (fX12_leave_24_ok hB H  K0)
  · replace H := ab_ifn H hc
    refine ab_aload_n (z := 0) (by decide +kernel) rfl rfl ?_
    refine ab_iload_n (z := 1) (by decide +kernel) rfl rfl ?_
    obtain ⟨u2, hu2, H⟩ := ab_bd_of H
    refine kvX12_isThere (D := 0) (ix := 430) (by decide +kernel) tw_1562 (hB.1 73 _ rfl) (by decide) (Nat.le_of_ble_eq_true rfl) (mX12_isThere_ok hB hu2 ?_)
    change ab_WP l G mX12_leave 3 13 [some (.ref 73), some (.int a1)] [.int u2] S I J P 0 0 Q
    refine ab_if_eq (off := 11) (tgt := 24) (by decide +kernel) rfl (fun hc => ?_) (fun hc => ?_)
    · replace H := ab_ifp H hc
      exact ab_wk (ab_le_some (ab_le_some (ab_le_nil))) (fX12_leave_24_ok hB H  K0)
    · replace H := ab_ifn H hc
      refine ab_aload_n (z := 0) (by decide +kernel) rfl rfl ?_
      refine ab_iload_n (z := 1) (by decide +kernel) rfl rfl ?_
      obtain ⟨u3, hu3, H⟩ := ab_bd_of H
      refine kvX12_turn (D := 2) (ix := 433) (by decide +kernel) tw_1566 (hB.1 73 _ rfl) (by decide) (Nat.le_of_ble_eq_true rfl) (mX12_turn_ok hB hu3 ?_)
      change ab_WP l G mX12_leave 3 21 [some (.ref 73), some (.int a1)] [.int u3.1] S u3.2 J P 0 0 Q
      refine ab_goto (off := 4) (tgt := 25) (by decide +kernel) rfl ?_
      exact ab_wk (ab_le_some (ab_le_some (ab_le_nil))) (fX12_leave_25_ok hB H  K0)
abbrev mX12_come : ab_M := (yX12_come, cX12_come, 2, some .int, 0, 0)
def fX12_come_25 (a1 : Int32) (s0 : Int32) (I : ab_I) : Option (Int32 × ab_I) :=
  some (s0, I)
set_option maxRecDepth 100000 in
theorem fX12_come_25_ok {l : Launch} {G : ab_G} {S : ab_S} {I : ab_I} {J : ab_J} {P : ab_P} {Q : ab_Q} {a1 : Int32} {s0 : Int32} (hB : bz_B S P) {x : Int32 × ab_I} (H : fX12_come_25 a1 s0 I = some x) (K0 : Q (some (.int x.1)) S x.2 J P) : ab_WP l G mX12_come 3 25 [some (.ref 73), some (.int a1)] [.int s0] S I J P 0 0 Q := by
  unfold fX12_come_25 at H
  obtain rfl := Option.some.inj H
  exact ab_iret (by decide +kernel) rfl (Nat.le_refl _) (Nat.le_refl _) K0
def fX12_come_24 (a1 : Int32) (I : ab_I) : Option (Int32 × ab_I) :=
  fX12_come_25 a1 (-1 : Int32) I
set_option maxRecDepth 100000 in
theorem fX12_come_24_ok {l : Launch} {G : ab_G} {S : ab_S} {I : ab_I} {J : ab_J} {P : ab_P} {Q : ab_Q} {a1 : Int32} (hB : bz_B S P) {x : Int32 × ab_I} (H : fX12_come_24 a1 I = some x) (K0 : Q (some (.int x.1)) S x.2 J P) : ab_WP l G mX12_come 3 24 [some (.ref 73), some (.int a1)] [] S I J P 0 0 Q := by
  unfold fX12_come_24 at H
  refine ab_iconst (z := -1) (v := (-1 : Int32)) (by decide +kernel) (by decide) ?_
  exact ab_wk (ab_le_some (ab_le_some (ab_le_nil))) (fX12_come_25_ok hB H  K0)
def fX12_come (a1 : Int32) (I : ab_I) : Option (Int32 × ab_I) :=
  (fX12_isPerson a1 I).bind fun u1 =>
  if u1 = 0 then
    fX12_come_24 a1 I
  else
    (fX12_isThere a1 I).bind fun u2 =>
    if u2 = 0 then
      (fX12_turn a1 I).bind fun u3 =>
      fX12_come_25 a1 u3.1 u3.2
    else
      fX12_come_24 a1 I
set_option maxRecDepth 100000 in
theorem mX12_come_ok {l : Launch} {G : ab_G} {S : ab_S} {I : ab_I} {J : ab_J} {P : ab_P} {Q : ab_Q} {a1 : Int32} (hB : bz_B S P) {x : Int32 × ab_I} (H : fX12_come a1 I = some x) (K0 : Q (some (.int x.1)) S x.2 J P) : ab_Call l G mX12_come 3 [.ref 73, .int a1] S I J P Q := by
  unfold fX12_come at H
  refine ab_enter rfl (Nat.le_of_ble_eq_true rfl) (ab_wk (ls' := [some (.ref 73), some (.int a1)]) (ab_le_some (ab_le_some (ab_le_nil))) ?_)
  refine ab_aload_n (z := 0) (by decide +kernel) rfl rfl ?_
  refine ab_iload_n (z := 1) (by decide +kernel) rfl rfl ?_
  obtain ⟨u1, hu1, H⟩ := ab_bd_of H
  refine kvX12_isPerson (D := 1) (ix := 408) (by decide +kernel) tw_1470 (hB.1 73 _ rfl) (by decide) (Nat.le_of_ble_eq_true rfl) (mX12_isPerson_ok hB hu1 ?_)
  change ab_WP l G mX12_come 3 5 [some (.ref 73), some (.int a1)] [.int u1] S I J P 0 0 Q
  refine ab_if_eq (off := 19) (tgt := 24) (by decide +kernel) rfl (fun hc => ?_) (fun hc => ?_)
  · replace H := ab_ifp H hc
    exact ab_wk (ab_le_some (ab_le_some (ab_le_nil))) (fX12_come_24_ok hB H  K0)
  · replace H := ab_ifn H hc
    refine ab_aload_n (z := 0) (by decide +kernel) rfl rfl ?_
    refine ab_iload_n (z := 1) (by decide +kernel) rfl rfl ?_
    obtain ⟨u2, hu2, H⟩ := ab_bd_of H
    refine kvX12_isThere (D := 0) (ix := 430) (by decide +kernel) tw_1562 (hB.1 73 _ rfl) (by decide) (Nat.le_of_ble_eq_true rfl) (mX12_isThere_ok hB hu2 ?_)
    change ab_WP l G mX12_come 3 13 [some (.ref 73), some (.int a1)] [.int u2] S I J P 0 0 Q
    refine ab_if_ne (off := 11) (tgt := 24) (by decide +kernel) rfl (fun hc => ?_) (fun hc => ?_)
    · replace H := ab_ifn H hc
      exact ab_wk (ab_le_some (ab_le_some (ab_le_nil))) (fX12_come_24_ok hB H  K0)
    · replace H := ab_ifp H hc
      refine ab_aload_n (z := 0) (by decide +kernel) rfl rfl ?_
      refine ab_iload_n (z := 1) (by decide +kernel) rfl rfl ?_
      obtain ⟨u3, hu3, H⟩ := ab_bd_of H
      refine kvX12_turn (D := 2) (ix := 433) (by decide +kernel) tw_1566 (hB.1 73 _ rfl) (by decide) (Nat.le_of_ble_eq_true rfl) (mX12_turn_ok hB hu3 ?_)
      change ab_WP l G mX12_come 3 21 [some (.ref 73), some (.int a1)] [.int u3.1] S u3.2 J P 0 0 Q
      refine ab_goto (off := 4) (tgt := 25) (by decide +kernel) rfl ?_
      exact ab_wk (ab_le_some (ab_le_some (ab_le_nil))) (fX12_come_25_ok hB H  K0)
abbrev mX12_gift : ab_M := (yX12_gift, cX12_gift, 3, some .int, 0, 0)
def fX12_gift_30 (a1 : Int32) (a2 : Int32) (I : ab_I) : Option (Int32 × ab_I) :=
  some ((-1 : Int32), I)
set_option maxRecDepth 100000 in
theorem fX12_gift_30_ok {l : Launch} {G : ab_G} {S : ab_S} {I : ab_I} {J : ab_J} {P : ab_P} {Q : ab_Q} {a1 : Int32} {a2 : Int32} (hB : bz_B S P) {x : Int32 × ab_I} (H : fX12_gift_30 a1 a2 I = some x) (K0 : Q (some (.int x.1)) S x.2 J P) : ab_WP l G mX12_gift 2 30 [some (.ref 73), some (.int a1), some (.int a2)] [] S I J P 0 0 Q := by
  unfold fX12_gift_30 at H
  refine ab_iconst (z := -1) (v := (-1 : Int32)) (by decide +kernel) (by decide) ?_
  obtain rfl := Option.some.inj H
  exact ab_iret (by decide +kernel) rfl (Nat.le_refl _) (Nat.le_refl _) K0
def fX12_gift (a1 : Int32) (a2 : Int32) (I : ab_I) : Option (Int32 × ab_I) :=
  (fX12_isPerson a1 I).bind fun u1 =>
  if u1 = 0 then
    fX12_gift_30 a1 a2 I
  else
    (fX12_isIn a2 (1 : Int32) (99 : Int32)).bind fun u2 =>
    if u2 = 0 then
      fX12_gift_30 a1 a2 I
    else
      ab_gd (ab_ix a1 45 = true) (
        if (I 89 a1.toNatClampNeg) = (999 : Int32) then
          fX12_gift_30 a1 a2 I
        else
          (fX12_act I).bind fun u3 =>
          ab_gd (ab_ix a1 45 = true) (
            (fX12_lesser (999 : Int32) ((u3 89 a1.toNatClampNeg) + a2)).bind fun u4 =>
            ab_gd (ab_ix a1 45 = true) (
              ab_gd (ab_ix a1 45 = true) (
                some (((ab_u u3 89 a1.toNatClampNeg u4) 89 a1.toNatClampNeg), (ab_u u3 89 a1.toNatClampNeg u4))
              )
            )
          )
      )
set_option maxRecDepth 100000 in
theorem mX12_gift_ok {l : Launch} {G : ab_G} {S : ab_S} {I : ab_I} {J : ab_J} {P : ab_P} {Q : ab_Q} {a1 : Int32} {a2 : Int32} (hB : bz_B S P) {x : Int32 × ab_I} (H : fX12_gift a1 a2 I = some x) (K0 : Q (some (.int x.1)) S x.2 J P) : ab_Call l G mX12_gift 2 [.ref 73, .int a1, .int a2] S I J P Q := by
  unfold fX12_gift at H
  refine ab_enter rfl (Nat.le_of_ble_eq_true rfl) (ab_wk (ls' := [some (.ref 73), some (.int a1), some (.int a2)]) (ab_le_some (ab_le_some (ab_le_some (ab_le_nil)))) ?_)
  refine ab_aload_n (z := 0) (by decide +kernel) rfl rfl ?_
  refine ab_iload_n (z := 1) (by decide +kernel) rfl rfl ?_
  obtain ⟨u1, hu1, H⟩ := ab_bd_of H
  refine kvX12_isPerson (D := 1) (ix := 408) (by decide +kernel) tw_1470 (hB.1 73 _ rfl) (by decide) (Nat.le_of_ble_eq_true rfl) (mX12_isPerson_ok hB hu1 ?_)
  change ab_WP l G mX12_gift 2 5 [some (.ref 73), some (.int a1), some (.int a2)] [.int u1] S I J P 0 0 Q
  refine ab_if_eq (off := 25) (tgt := 30) (by decide +kernel) rfl (fun hc => ?_) (fun hc => ?_)
  · replace H := ab_ifp H hc
    exact ab_wk (ab_le_some (ab_le_some (ab_le_some (ab_le_nil)))) (fX12_gift_30_ok hB H  K0)
  · replace H := ab_ifn H hc
    refine ab_iload_n (z := 2) (by decide +kernel) rfl rfl ?_
    refine ab_iconst (z := 1) (v := (1 : Int32)) (by decide +kernel) (by decide) ?_
    refine ab_bipush (z := 99) (v := (99 : Int32)) (by decide +kernel) (by decide) ?_
    obtain ⟨u2, hu2, H⟩ := ab_bd_of H
    refine ksX12_isIn (D := 0) (ix := 384) (by decide +kernel) tw_1474 (by decide) (Nat.le_of_ble_eq_true rfl) (mX12_isIn_ok hB hu2 ?_)
    change ab_WP l G mX12_gift 2 15 [some (.ref 73), some (.int a1), some (.int a2)] [.int u2] S I J P 0 0 Q
    refine ab_if_eq (off := 15) (tgt := 30) (by decide +kernel) rfl (fun hc => ?_) (fun hc => ?_)
    · replace H := ab_ifp H hc
      exact ab_wk (ab_le_some (ab_le_some (ab_le_some (ab_le_nil)))) (fX12_gift_30_ok hB H  K0)
    · replace H := ab_ifn H hc
      refine ab_aload_n (z := 0) (by decide +kernel) rfl rfl ?_
      refine gX12_46 (ix := 60) (by decide +kernel) tw_1127 (hB.1 73 _ rfl) (hB.2.1 94 (73, 46, 89) rfl) ?_
      refine ab_iload_n (z := 1) (by decide +kernel) rfl rfl ?_
      obtain ⟨hg, H⟩ := ab_gd_of H
      refine ab_iald (ln := 45) (by decide +kernel) (hB.1 89 _ rfl) (ab_ix_in hg) ?_
      refine ab_sipush (z := 999) (v := (999 : Int32)) (by decide +kernel) (by decide) ?_
      refine ab_icmp_ne (off := 5) (tgt := 32) (by decide +kernel) rfl (fun hc => ?_) (fun hc => ?_)
      · replace H := ab_ifn H hc
        refine ab_aload_n (z := 0) (by decide +kernel) rfl rfl ?_
        obtain ⟨u3, hu3, H⟩ := ab_bd_of H
        refine kvX12_act (D := 1) (ix := 427) (by decide +kernel) tw_1550 (hB.1 73 _ rfl) (by decide) (Nat.le_of_ble_eq_true rfl) (mX12_act_ok hB hu3 ?_)
        change ab_WP l G mX12_gift 2 36 [some (.ref 73), some (.int a1), some (.int a2)] [] S u3 J P 0 0 Q
        refine ab_aload_n (z := 0) (by decide +kernel) rfl rfl ?_
        refine gX12_46 (ix := 60) (by decide +kernel) tw_1127 (hB.1 73 _ rfl) (hB.2.1 94 (73, 46, 89) rfl) ?_
        refine ab_iload_n (z := 1) (by decide +kernel) rfl rfl ?_
        refine ab_sipush (z := 999) (v := (999 : Int32)) (by decide +kernel) (by decide) ?_
        refine ab_aload_n (z := 0) (by decide +kernel) rfl rfl ?_
        refine gX12_46 (ix := 60) (by decide +kernel) tw_1127 (hB.1 73 _ rfl) (hB.2.1 94 (73, 46, 89) rfl) ?_
        refine ab_iload_n (z := 1) (by decide +kernel) rfl rfl ?_
        obtain ⟨hg, H⟩ := ab_gd_of H
        refine ab_iald (ln := 45) (by decide +kernel) (hB.1 89 _ rfl) (ab_ix_in hg) ?_
        refine ab_iload_n (z := 2) (by decide +kernel) rfl rfl ?_
        refine ab_iadd (by decide +kernel) ?_
        obtain ⟨u4, hu4, H⟩ := ab_bd_of H
        refine ksX12_lesser (D := 0) (ix := 401) (by decide +kernel) tw_1518 (by decide) (Nat.le_of_ble_eq_true rfl) (mX12_lesser_ok hB hu4 ?_)
        change ab_WP l G mX12_gift 2 55 [some (.ref 73), some (.int a1), some (.int a2)] [.int u4, .int a1, .ref 89] S u3 J P 0 0 Q
        obtain ⟨hg, H⟩ := ab_gd_of H
        refine ab_iast (ln := 45) (by decide +kernel) (hB.1 89 _ rfl) (ab_ix_in hg) ?_
        refine ab_aload_n (z := 0) (by decide +kernel) rfl rfl ?_
        refine gX12_46 (ix := 60) (by decide +kernel) tw_1127 (hB.1 73 _ rfl) (hB.2.1 94 (73, 46, 89) rfl) ?_
        refine ab_iload_n (z := 1) (by decide +kernel) rfl rfl ?_
        obtain ⟨hg, H⟩ := ab_gd_of H
        refine ab_iald (ln := 45) (by decide +kernel) (hB.1 89 _ rfl) (ab_ix_in hg) ?_
        obtain rfl := Option.some.inj H
        exact ab_iret (by decide +kernel) rfl (Nat.le_refl _) (Nat.le_refl _) K0
      · replace H := ab_ifp H hc
        exact ab_wk (ab_le_some (ab_le_some (ab_le_some (ab_le_nil)))) (fX12_gift_30_ok hB H  K0)
abbrev mX12_undo : ab_M := (yX12_undo, cX12_undo, 1, some .boolean, 0, 0)
def fX12_undo (I : ab_I) : Option (Int32 × ab_I) :=
  if (I 73 50) = 0 then
    some ((0 : Int32), I)
  else
    (fX12_exchange ((45 : Int32) * ((I 73 50) - (1 : Int32))) (ab_u (ab_u I 73 50 ((I 73 50) - (1 : Int32))) 73 51 ((I 73 51) + (1 : Int32)))).bind fun u1 =>
    some ((1 : Int32), u1)
set_option maxRecDepth 100000 in
theorem mX12_undo_ok {l : Launch} {G : ab_G} {S : ab_S} {I : ab_I} {J : ab_J} {P : ab_P} {Q : ab_Q} (hB : bz_B S P) {x : Int32 × ab_I} (H : fX12_undo I = some x) (K0 : Q (some (.int x.1)) S x.2 J P) : ab_Call l G mX12_undo 1 [.ref 73] S I J P Q := by
  unfold fX12_undo at H
  refine ab_enter rfl (Nat.le_of_ble_eq_true rfl) (ab_wk (ls' := [some (.ref 73)]) (ab_le_some (ab_le_nil)) ?_)
  refine ab_aload_n (z := 0) (by decide +kernel) rfl rfl ?_
  refine gX12_50 (ix := 372) (by decide +kernel) tw_1131 (hB.1 73 _ rfl) ?_
  refine ab_if_ne (off := 5) (tgt := 9) (by decide +kernel) rfl (fun hc => ?_) (fun hc => ?_)
  · replace H := ab_ifn H hc
    refine ab_aload_n (z := 0) (by decide +kernel) rfl rfl ?_
    refine ab_dup (by decide +kernel) rfl ?_
    refine gX12_50 (ix := 372) (by decide +kernel) tw_1131 (hB.1 73 _ rfl) ?_
    refine ab_iconst (z := 1) (v := (1 : Int32)) (by decide +kernel) (by decide) ?_
    refine ab_isub (by decide +kernel) ?_
    refine pX12_50 (ix := 372) (by decide +kernel) tw_1131 (hB.1 73 _ rfl) ?_
    refine ab_aload_n (z := 0) (by decide +kernel) rfl rfl ?_
    refine ab_dup (by decide +kernel) rfl ?_
    refine gX12_51 (ix := 375) (by decide +kernel) tw_1132 (hB.1 73 _ rfl) ?_
    refine ab_top (y := (I 73 51)) rfl ?_
    refine ab_iconst (z := 1) (v := (1 : Int32)) (by decide +kernel) (by decide) ?_
    refine ab_iadd (by decide +kernel) ?_
    refine pX12_51 (ix := 375) (by decide +kernel) tw_1132 (hB.1 73 _ rfl) ?_
    refine ab_aload_n (z := 0) (by decide +kernel) rfl rfl ?_
    refine ab_bipush (z := 45) (v := (45 : Int32)) (by decide +kernel) (by decide) ?_
    refine ab_aload_n (z := 0) (by decide +kernel) rfl rfl ?_
    refine gX12_50 (ix := 372) (by decide +kernel) tw_1131 (hB.1 73 _ rfl) ?_
    refine ab_top (y := ((I 73 50) - (1 : Int32))) rfl ?_
    refine ab_imul (by decide +kernel) ?_
    obtain ⟨u1, hu1, H⟩ := ab_bd_of H
    refine kvX12_exchange (D := 0) (ix := 436) (by decide +kernel) tw_1582 (hB.1 73 _ rfl) (by decide) (Nat.le_of_ble_eq_true rfl) (mX12_exchange_ok hB hu1 ?_)
    change ab_WP l G mX12_undo 1 40 [some (.ref 73)] [] S u1 J P 0 0 Q
    refine ab_iconst (z := 1) (v := (1 : Int32)) (by decide +kernel) (by decide) ?_
    obtain rfl := Option.some.inj H
    exact ab_zret (by decide +kernel) rfl (Nat.le_refl _) (Nat.le_refl _) (by decide) K0
  · replace H := ab_ifp H hc
    refine ab_iconst (z := 0) (v := (0 : Int32)) (by decide +kernel) (by decide) ?_
    obtain rfl := Option.some.inj H
    exact ab_zret (by decide +kernel) rfl (Nat.le_refl _) (Nat.le_refl _) (by decide) K0
abbrev mX12_redo : ab_M := (yX12_redo, cX12_redo, 1, some .boolean, 0, 0)
def fX12_redo (I : ab_I) : Option (Int32 × ab_I) :=
  if (I 73 51) = 0 then
    some ((0 : Int32), I)
  else
    (fX12_exchange ((45 : Int32) * (I 73 50)) I).bind fun u1 =>
    some ((1 : Int32), (ab_u (ab_u u1 73 50 ((u1 73 50) + (1 : Int32))) 73 51 ((u1 73 51) - (1 : Int32))))
set_option maxRecDepth 100000 in
theorem mX12_redo_ok {l : Launch} {G : ab_G} {S : ab_S} {I : ab_I} {J : ab_J} {P : ab_P} {Q : ab_Q} (hB : bz_B S P) {x : Int32 × ab_I} (H : fX12_redo I = some x) (K0 : Q (some (.int x.1)) S x.2 J P) : ab_Call l G mX12_redo 1 [.ref 73] S I J P Q := by
  unfold fX12_redo at H
  refine ab_enter rfl (Nat.le_of_ble_eq_true rfl) (ab_wk (ls' := [some (.ref 73)]) (ab_le_some (ab_le_nil)) ?_)
  refine ab_aload_n (z := 0) (by decide +kernel) rfl rfl ?_
  refine gX12_51 (ix := 375) (by decide +kernel) tw_1132 (hB.1 73 _ rfl) ?_
  refine ab_if_ne (off := 5) (tgt := 9) (by decide +kernel) rfl (fun hc => ?_) (fun hc => ?_)
  · replace H := ab_ifn H hc
    refine ab_aload_n (z := 0) (by decide +kernel) rfl rfl ?_
    refine ab_bipush (z := 45) (v := (45 : Int32)) (by decide +kernel) (by decide) ?_
    refine ab_aload_n (z := 0) (by decide +kernel) rfl rfl ?_
    refine gX12_50 (ix := 372) (by decide +kernel) tw_1131 (hB.1 73 _ rfl) ?_
    refine ab_imul (by decide +kernel) ?_
    obtain ⟨u1, hu1, H⟩ := ab_bd_of H
    refine kvX12_exchange (D := 0) (ix := 436) (by decide +kernel) tw_1582 (hB.1 73 _ rfl) (by decide) (Nat.le_of_ble_eq_true rfl) (mX12_exchange_ok hB hu1 ?_)
    change ab_WP l G mX12_redo 1 20 [some (.ref 73)] [] S u1 J P 0 0 Q
    refine ab_aload_n (z := 0) (by decide +kernel) rfl rfl ?_
    refine ab_dup (by decide +kernel) rfl ?_
    refine gX12_50 (ix := 372) (by decide +kernel) tw_1131 (hB.1 73 _ rfl) ?_
    refine ab_iconst (z := 1) (v := (1 : Int32)) (by decide +kernel) (by decide) ?_
    refine ab_iadd (by decide +kernel) ?_
    refine pX12_50 (ix := 372) (by decide +kernel) tw_1131 (hB.1 73 _ rfl) ?_
    refine ab_aload_n (z := 0) (by decide +kernel) rfl rfl ?_
    refine ab_dup (by decide +kernel) rfl ?_
    refine gX12_51 (ix := 375) (by decide +kernel) tw_1132 (hB.1 73 _ rfl) ?_
    refine ab_top (y := (u1 73 51)) rfl ?_
    refine ab_iconst (z := 1) (v := (1 : Int32)) (by decide +kernel) (by decide) ?_
    refine ab_isub (by decide +kernel) ?_
    refine pX12_51 (ix := 375) (by decide +kernel) tw_1132 (hB.1 73 _ rfl) ?_
    refine ab_iconst (z := 1) (v := (1 : Int32)) (by decide +kernel) (by decide) ?_
    obtain rfl := Option.some.inj H
    exact ab_zret (by decide +kernel) rfl (Nat.le_refl _) (Nat.le_refl _) (by decide) K0
  · replace H := ab_ifp H hc
    refine ab_iconst (z := 0) (v := (0 : Int32)) (by decide +kernel) (by decide) ?_
    obtain rfl := Option.some.inj H
    exact ab_zret (by decide +kernel) rfl (Nat.le_refl _) (Nat.le_refl _) (by decide) K0
abbrev mX12_will : ab_M := (yX12_will, cX12_will, 5, some .int, 0, 0)
def fX12_will_64 (a1 : Int32) (a2 : Int32) (a3 : Int32) (I : ab_I) : Option (Int32 × ab_I) :=
  ab_gd (ab_ix a1 5 = true) (
    some ((I 91 a1.toNatClampNeg), I)
  )
set_option maxRecDepth 100000 in
theorem fX12_will_64_ok {l : Launch} {G : ab_G} {S : ab_S} {I : ab_I} {J : ab_J} {P : ab_P} {Q : ab_Q} {a1 : Int32} {a2 : Int32} {a3 : Int32} (hB : bz_B S P) {x : Int32 × ab_I} (H : fX12_will_64 a1 a2 a3 I = some x) (K0 : Q (some (.int x.1)) S x.2 J P) : ab_WP l G mX12_will 6 64 [some (.ref 73), some (.int a1), some (.int a2), some (.int a3), none] [] S I J P 0 0 Q := by
  unfold fX12_will_64 at H
  refine ab_aload_n (z := 0) (by decide +kernel) rfl rfl ?_
  refine gX12_48 (ix := 66) (by decide +kernel) tw_1129 (hB.1 73 _ rfl) (hB.2.1 96 (73, 48, 91) rfl) ?_
  refine ab_iload_n (z := 1) (by decide +kernel) rfl rfl ?_
  obtain ⟨hg, H⟩ := ab_gd_of H
  refine ab_iald (ln := 5) (by decide +kernel) (hB.1 91 _ rfl) (ab_ix_in hg) ?_
  obtain rfl := Option.some.inj H
  exact ab_iret (by decide +kernel) rfl (Nat.le_refl _) (Nat.le_refl _) K0
def fX12_will_54 (a1 : Int32) (a2 : Int32) (a3 : Int32) (a4 : Int32) (s1 : Int32) (I : ab_I) : Option ((Int32 × ab_I) ⊕ (Int32 × ab_I)) :=
  (fX12_goDay s1 I).bind fun u6 =>
  some (.inl ((a4 + (1 : Int32)), u6.2))
set_option maxRecDepth 100000 in
theorem fX12_will_54_ok {l : Launch} {G : ab_G} {S : ab_S} {I : ab_I} {J : ab_J} {P : ab_P} {Q : ab_Q} {a1 : Int32} {a2 : Int32} {a3 : Int32} {a4 : Int32} {s1 : Int32} (hB : bz_B S P) {x : ((Int32 × ab_I) ⊕ (Int32 × ab_I))} (H : fX12_will_54 a1 a2 a3 a4 s1 I = some x) (K1 : ∀ s, x = (.inl s) → ab_WP l G mX12_will 6 37 [some (.ref 73), some (.int a1), some (.int a2), some (.int a3), some (.int s.1)] [] S s.2 J P 0 0 Q) (K0 : ∀ r, x = (.inr r) → Q (some (.int r.1)) S r.2 J P) : ab_WP l G mX12_will 6 54 [some (.ref 73), some (.int a1), some (.int a2), some (.int a3), some (.int a4)] [.int s1, .ref 73] S I J P 0 0 Q := by
  unfold fX12_will_54 at H
  obtain ⟨u6, hu6, H⟩ := ab_bd_of H
  refine kvX12_goDay (D := 5) (ix := 417) (by decide +kernel) tw_1496 (hB.1 73 _ rfl) (by decide) (Nat.le_of_ble_eq_true rfl) (mX12_goDay_ok hB hu6 ?_)
  change ab_WP l G mX12_will 6 57 [some (.ref 73), some (.int a1), some (.int a2), some (.int a3), some (.int a4)] [.int u6.1] S u6.2 J P 0 0 Q
  refine ab_pop (by decide +kernel) rfl ?_
  refine ab_iinc (i := 4) (z := 1) (v := (a4 + (1 : Int32))) (by decide +kernel) rfl rfl (by decide) rfl ?_
  refine ab_ls (ls' := [some (.ref 73), some (.int a1), some (.int a2), some (.int a3), some (.int (a4 + (1 : Int32)))]) rfl ?_
  refine ab_goto (off := -24) (tgt := 37) (by decide +kernel) rfl ?_
  exact ab_wk (ab_le_some (ab_le_some (ab_le_some (ab_le_some (ab_le_some (ab_le_nil)))))) (K1 ((a4 + (1 : Int32)), u6.2) (Option.some.inj H).symm)
def fX12_will_27 (a1 : Int32) (a2 : Int32) (a3 : Int32) (I : ab_I) : Option (Int32 × ab_I) :=
  some ((-2 : Int32), I)
set_option maxRecDepth 100000 in
theorem fX12_will_27_ok {l : Launch} {G : ab_G} {S : ab_S} {I : ab_I} {J : ab_J} {P : ab_P} {Q : ab_Q} {a1 : Int32} {a2 : Int32} {a3 : Int32} (hB : bz_B S P) {x : Int32 × ab_I} (H : fX12_will_27 a1 a2 a3 I = some x) (K0 : Q (some (.int x.1)) S x.2 J P) : ab_WP l G mX12_will 6 27 [some (.ref 73), some (.int a1), some (.int a2), some (.int a3), none] [] S I J P 0 0 Q := by
  unfold fX12_will_27 at H
  refine ab_bipush (z := -2) (v := (-2 : Int32)) (by decide +kernel) (by decide) ?_
  obtain rfl := Option.some.inj H
  exact ab_iret (by decide +kernel) rfl (Nat.le_refl _) (Nat.le_refl _) K0
def fX12_will_37 (a1 : Int32) (a2 : Int32) (a3 : Int32) (a4 : Int32) (I : ab_I) : Option ((Int32 × ab_I) ⊕ (Int32 × ab_I)) :=
  if a2 ≤ a4 then
    (fX12_will_64 a1 a2 a3 I).map .inr
  else
    if a3 = (1 : Int32) then
      fX12_will_54 a1 a2 a3 a4 (1 : Int32) I
    else
      fX12_will_54 a1 a2 a3 a4 (0 : Int32) I
set_option maxRecDepth 100000 in
theorem fX12_will_37_ok {l : Launch} {G : ab_G} {S : ab_S} {I : ab_I} {J : ab_J} {P : ab_P} {Q : ab_Q} {a1 : Int32} {a2 : Int32} {a3 : Int32} {a4 : Int32} (hB : bz_B S P) {x : ((Int32 × ab_I) ⊕ (Int32 × ab_I))} (H : fX12_will_37 a1 a2 a3 a4 I = some x) (K1 : ∀ s, x = (.inl s) → ab_WP l G mX12_will 6 37 [some (.ref 73), some (.int a1), some (.int a2), some (.int a3), some (.int s.1)] [] S s.2 J P 0 0 Q) (K0 : ∀ r, x = (.inr r) → Q (some (.int r.1)) S r.2 J P) : ab_WP l G mX12_will 6 37 [some (.ref 73), some (.int a1), some (.int a2), some (.int a3), some (.int a4)] [] S I J P 0 0 Q := by
  unfold fX12_will_37 at H
  refine ab_iload (i := 4) (by decide +kernel) rfl ?_
  refine ab_iload_n (z := 2) (by decide +kernel) rfl rfl ?_
  refine ab_icmp_ge (off := 24) (tgt := 64) (by decide +kernel) rfl (fun hc => ?_) (fun hc => ?_)
  · replace H := ab_ifp H hc
    obtain ⟨y5, Hy, hx⟩ := ab_mp_of H
    subst hx
    replace H := Hy
    exact ab_wk (ab_le_some (ab_le_some (ab_le_some (ab_le_some (ab_le_none (ab_le_nil)))))) (fX12_will_64_ok hB H  (K0 _ rfl))
  · replace H := ab_ifn H hc
    refine ab_aload_n (z := 0) (by decide +kernel) rfl rfl ?_
    refine ab_iload_n (z := 3) (by decide +kernel) rfl rfl ?_
    refine ab_iconst (z := 1) (v := (1 : Int32)) (by decide +kernel) (by decide) ?_
    refine ab_icmp_ne (off := 7) (tgt := 53) (by decide +kernel) rfl (fun hc => ?_) (fun hc => ?_)
    · replace H := ab_ifn H hc
      refine ab_iconst (z := 0) (v := (0 : Int32)) (by decide +kernel) (by decide) ?_
      exact ab_wk (ab_le_some (ab_le_some (ab_le_some (ab_le_some (ab_le_some (ab_le_nil)))))) (fX12_will_54_ok hB H K1 K0)
    · replace H := ab_ifp H hc
      refine ab_iconst (z := 1) (v := (1 : Int32)) (by decide +kernel) (by decide) ?_
      refine ab_goto (off := 4) (tgt := 54) (by decide +kernel) rfl ?_
      exact ab_wk (ab_le_some (ab_le_some (ab_le_some (ab_le_some (ab_le_some (ab_le_nil)))))) (fX12_will_54_ok hB H K1 K0)
def fX12_will (a1 : Int32) (a2 : Int32) (a3 : Int32) (I : ab_I) : Option (Int32 × ab_I) :=
  (fX12_isBell a1 I).bind fun u1 =>
  if u1 = 0 then
    fX12_will_27 a1 a2 a3 I
  else
    (fX12_isIn a2 (1 : Int32) (60 : Int32)).bind fun u2 =>
    if u2 = 0 then
      fX12_will_27 a1 a2 a3 I
    else
      (fX12_isIn a3 (0 : Int32) (1 : Int32)).bind fun u3 =>
      if u3 = 0 then
        fX12_will_27 a1 a2 a3 I
      else
        (fX12_fill I).bind fun u4 =>
        ab_it (fun s => fX12_will_37 a1 a2 a3 s.1 s.2) 5000 ((0 : Int32), u4)
set_option maxRecDepth 100000 in
theorem mX12_will_ok {l : Launch} {G : ab_G} {S : ab_S} {I : ab_I} {J : ab_J} {P : ab_P} {Q : ab_Q} {a1 : Int32} {a2 : Int32} {a3 : Int32} (hB : bz_B S P) {x : Int32 × ab_I} (H : fX12_will a1 a2 a3 I = some x) (K0 : Q (some (.int x.1)) S x.2 J P) : ab_Call l G mX12_will 6 [.ref 73, .int a1, .int a2, .int a3] S I J P Q := by
  unfold fX12_will at H
  refine ab_enter rfl (Nat.le_of_ble_eq_true rfl) (ab_wk (ls' := [some (.ref 73), some (.int a1), some (.int a2), some (.int a3), none]) (ab_le_some (ab_le_some (ab_le_some (ab_le_some (ab_le_non0 ab_le_nil))))) ?_)
  refine ab_aload_n (z := 0) (by decide +kernel) rfl rfl ?_
  refine ab_iload_n (z := 1) (by decide +kernel) rfl rfl ?_
  obtain ⟨u1, hu1, H⟩ := ab_bd_of H
  refine kvX12_isBell (D := 1) (ix := 423) (by decide +kernel) tw_1529 (hB.1 73 _ rfl) (by decide) (Nat.le_of_ble_eq_true rfl) (mX12_isBell_ok hB hu1 ?_)
  change ab_WP l G mX12_will 6 5 [some (.ref 73), some (.int a1), some (.int a2), some (.int a3), none] [.int u1] S I J P 0 0 Q
  refine ab_if_eq (off := 22) (tgt := 27) (by decide +kernel) rfl (fun hc => ?_) (fun hc => ?_)
  · replace H := ab_ifp H hc
    exact ab_wk (ab_le_some (ab_le_some (ab_le_some (ab_le_some (ab_le_none (ab_le_nil)))))) (fX12_will_27_ok hB H  K0)
  · replace H := ab_ifn H hc
    refine ab_iload_n (z := 2) (by decide +kernel) rfl rfl ?_
    refine ab_iconst (z := 1) (v := (1 : Int32)) (by decide +kernel) (by decide) ?_
    refine ab_bipush (z := 60) (v := (60 : Int32)) (by decide +kernel) (by decide) ?_
    obtain ⟨u2, hu2, H⟩ := ab_bd_of H
    refine ksX12_isIn (D := 0) (ix := 384) (by decide +kernel) tw_1474 (by decide) (Nat.le_of_ble_eq_true rfl) (mX12_isIn_ok hB hu2 ?_)
    change ab_WP l G mX12_will 6 15 [some (.ref 73), some (.int a1), some (.int a2), some (.int a3), none] [.int u2] S I J P 0 0 Q
    refine ab_if_eq (off := 12) (tgt := 27) (by decide +kernel) rfl (fun hc => ?_) (fun hc => ?_)
    · replace H := ab_ifp H hc
      exact ab_wk (ab_le_some (ab_le_some (ab_le_some (ab_le_some (ab_le_none (ab_le_nil)))))) (fX12_will_27_ok hB H  K0)
    · replace H := ab_ifn H hc
      refine ab_iload_n (z := 3) (by decide +kernel) rfl rfl ?_
      refine ab_iconst (z := 0) (v := (0 : Int32)) (by decide +kernel) (by decide) ?_
      refine ab_iconst (z := 1) (v := (1 : Int32)) (by decide +kernel) (by decide) ?_
      obtain ⟨u3, hu3, H⟩ := ab_bd_of H
      refine ksX12_isIn (D := 0) (ix := 384) (by decide +kernel) tw_1474 (by decide) (Nat.le_of_ble_eq_true rfl) (mX12_isIn_ok hB hu3 ?_)
      change ab_WP l G mX12_will 6 24 [some (.ref 73), some (.int a1), some (.int a2), some (.int a3), none] [.int u3] S I J P 0 0 Q
      refine ab_if_ne (off := 6) (tgt := 30) (by decide +kernel) rfl (fun hc => ?_) (fun hc => ?_)
      · replace H := ab_ifn H hc
        refine ab_aload_n (z := 0) (by decide +kernel) rfl rfl ?_
        obtain ⟨u4, hu4, H⟩ := ab_bd_of H
        refine kvX12_fill (D := 0) (ix := 411) (by decide +kernel) tw_1477 (hB.1 73 _ rfl) (by decide) (Nat.le_of_ble_eq_true rfl) (mX12_fill_ok hB hu4 ?_)
        change ab_WP l G mX12_will 6 34 [some (.ref 73), some (.int a1), some (.int a2), some (.int a3), none] [] S u4 J P 0 0 Q
        refine ab_iconst (z := 0) (v := (0 : Int32)) (by decide +kernel) (by decide) ?_
        refine ab_istore (i := 4) (by decide +kernel) (by decide) rfl ?_
        refine ab_ls (ls' := [some (.ref 73), some (.int a1), some (.int a2), some (.int a3), some (.int (0 : Int32))]) rfl ?_
        exact ab_wk (ab_le_some (ab_le_some (ab_le_some (ab_le_some (ab_le_some (ab_le_nil)))))) (ab_iter (body := (fun s => fX12_will_37 a1 a2 a3 s.1 s.2)) (W := fun s => ab_WP l G mX12_will 6 37 [some (.ref 73), some (.int a1), some (.int a2), some (.int a3), some (.int s.1)] [] S s.2 J P 0 0 Q) (fun s y hb h1 h2 => fX12_will_37_ok hB hb h1 (fun r e => by have e2 := h2 _ e; subst e2; exact K0)) 5000 ((0 : Int32), u4) H)
      · replace H := ab_ifp H hc
        exact ab_wk (ab_le_some (ab_le_some (ab_le_some (ab_le_some (ab_le_none (ab_le_nil)))))) (fX12_will_27_ok hB H  K0)
abbrev mX12_purse : ab_M := (yX12_purse, cX12_purse, 4, some .int, 0, 0)
def fX12_purse_43 (a1 : Int32) (a2 : Int32) (I : ab_I) : Option (Int32 × ab_I) :=
  ab_gd (ab_ix a1 45 = true) (
    some ((I 90 a1.toNatClampNeg), I)
  )
set_option maxRecDepth 100000 in
theorem fX12_purse_43_ok {l : Launch} {G : ab_G} {S : ab_S} {I : ab_I} {J : ab_J} {P : ab_P} {Q : ab_Q} {a1 : Int32} {a2 : Int32} (hB : bz_B S P) {x : Int32 × ab_I} (H : fX12_purse_43 a1 a2 I = some x) (K0 : Q (some (.int x.1)) S x.2 J P) : ab_WP l G mX12_purse 6 43 [some (.ref 73), some (.int a1), some (.int a2), none] [] S I J P 0 0 Q := by
  unfold fX12_purse_43 at H
  refine ab_aload_n (z := 0) (by decide +kernel) rfl rfl ?_
  refine gX12_47 (ix := 63) (by decide +kernel) tw_1128 (hB.1 73 _ rfl) (hB.2.1 95 (73, 47, 90) rfl) ?_
  refine ab_iload_n (z := 1) (by decide +kernel) rfl rfl ?_
  obtain ⟨hg, H⟩ := ab_gd_of H
  refine ab_iald (ln := 45) (by decide +kernel) (hB.1 90 _ rfl) (ab_ix_in hg) ?_
  obtain rfl := Option.some.inj H
  exact ab_iret (by decide +kernel) rfl (Nat.le_refl _) (Nat.le_refl _) K0
def fX12_purse_18 (a1 : Int32) (a2 : Int32) (I : ab_I) : Option (Int32 × ab_I) :=
  some ((-1 : Int32), I)
set_option maxRecDepth 100000 in
theorem fX12_purse_18_ok {l : Launch} {G : ab_G} {S : ab_S} {I : ab_I} {J : ab_J} {P : ab_P} {Q : ab_Q} {a1 : Int32} {a2 : Int32} (hB : bz_B S P) {x : Int32 × ab_I} (H : fX12_purse_18 a1 a2 I = some x) (K0 : Q (some (.int x.1)) S x.2 J P) : ab_WP l G mX12_purse 6 18 [some (.ref 73), some (.int a1), some (.int a2), none] [] S I J P 0 0 Q := by
  unfold fX12_purse_18 at H
  refine ab_iconst (z := -1) (v := (-1 : Int32)) (by decide +kernel) (by decide) ?_
  obtain rfl := Option.some.inj H
  exact ab_iret (by decide +kernel) rfl (Nat.le_refl _) (Nat.le_refl _) K0
def fX12_purse_26 (a1 : Int32) (a2 : Int32) (a3 : Int32) (I : ab_I) : Option ((Int32 × ab_I) ⊕ (Int32 × ab_I)) :=
  if a2 ≤ a3 then
    (fX12_purse_43 a1 a2 I).map .inr
  else
    (fX12_goDay (0 : Int32) I).bind fun u5 =>
    some (.inl ((a3 + (1 : Int32)), u5.2))
set_option maxRecDepth 100000 in
theorem fX12_purse_26_ok {l : Launch} {G : ab_G} {S : ab_S} {I : ab_I} {J : ab_J} {P : ab_P} {Q : ab_Q} {a1 : Int32} {a2 : Int32} {a3 : Int32} (hB : bz_B S P) {x : ((Int32 × ab_I) ⊕ (Int32 × ab_I))} (H : fX12_purse_26 a1 a2 a3 I = some x) (K1 : ∀ s, x = (.inl s) → ab_WP l G mX12_purse 6 26 [some (.ref 73), some (.int a1), some (.int a2), some (.int s.1)] [] S s.2 J P 0 0 Q) (K0 : ∀ r, x = (.inr r) → Q (some (.int r.1)) S r.2 J P) : ab_WP l G mX12_purse 6 26 [some (.ref 73), some (.int a1), some (.int a2), some (.int a3)] [] S I J P 0 0 Q := by
  unfold fX12_purse_26 at H
  refine ab_iload_n (z := 3) (by decide +kernel) rfl rfl ?_
  refine ab_iload_n (z := 2) (by decide +kernel) rfl rfl ?_
  refine ab_icmp_ge (off := 15) (tgt := 43) (by decide +kernel) rfl (fun hc => ?_) (fun hc => ?_)
  · replace H := ab_ifp H hc
    obtain ⟨y4, Hy, hx⟩ := ab_mp_of H
    subst hx
    replace H := Hy
    exact ab_wk (ab_le_some (ab_le_some (ab_le_some (ab_le_none (ab_le_nil))))) (fX12_purse_43_ok hB H  (K0 _ rfl))
  · replace H := ab_ifn H hc
    refine ab_aload_n (z := 0) (by decide +kernel) rfl rfl ?_
    refine ab_iconst (z := 0) (v := (0 : Int32)) (by decide +kernel) (by decide) ?_
    obtain ⟨u5, hu5, H⟩ := ab_bd_of H
    refine kvX12_goDay (D := 5) (ix := 417) (by decide +kernel) tw_1496 (hB.1 73 _ rfl) (by decide) (Nat.le_of_ble_eq_true rfl) (mX12_goDay_ok hB hu5 ?_)
    change ab_WP l G mX12_purse 6 36 [some (.ref 73), some (.int a1), some (.int a2), some (.int a3)] [.int u5.1] S u5.2 J P 0 0 Q
    refine ab_pop (by decide +kernel) rfl ?_
    refine ab_iinc (i := 3) (z := 1) (v := (a3 + (1 : Int32))) (by decide +kernel) rfl rfl (by decide) rfl ?_
    refine ab_ls (ls' := [some (.ref 73), some (.int a1), some (.int a2), some (.int (a3 + (1 : Int32)))]) rfl ?_
    refine ab_goto (off := -14) (tgt := 26) (by decide +kernel) rfl ?_
    exact ab_wk (ab_le_some (ab_le_some (ab_le_some (ab_le_some (ab_le_nil))))) (K1 ((a3 + (1 : Int32)), u5.2) (Option.some.inj H).symm)
def fX12_purse (a1 : Int32) (a2 : Int32) (I : ab_I) : Option (Int32 × ab_I) :=
  (fX12_isPerson a1 I).bind fun u1 =>
  if u1 = 0 then
    fX12_purse_18 a1 a2 I
  else
    (fX12_isIn a2 (0 : Int32) (60 : Int32)).bind fun u2 =>
    if u2 = 0 then
      fX12_purse_18 a1 a2 I
    else
      (fX12_fill I).bind fun u3 =>
      ab_it (fun s => fX12_purse_26 a1 a2 s.1 s.2) 5000 ((0 : Int32), u3)
set_option maxRecDepth 100000 in
theorem mX12_purse_ok {l : Launch} {G : ab_G} {S : ab_S} {I : ab_I} {J : ab_J} {P : ab_P} {Q : ab_Q} {a1 : Int32} {a2 : Int32} (hB : bz_B S P) {x : Int32 × ab_I} (H : fX12_purse a1 a2 I = some x) (K0 : Q (some (.int x.1)) S x.2 J P) : ab_Call l G mX12_purse 6 [.ref 73, .int a1, .int a2] S I J P Q := by
  unfold fX12_purse at H
  refine ab_enter rfl (Nat.le_of_ble_eq_true rfl) (ab_wk (ls' := [some (.ref 73), some (.int a1), some (.int a2), none]) (ab_le_some (ab_le_some (ab_le_some (ab_le_non0 ab_le_nil)))) ?_)
  refine ab_aload_n (z := 0) (by decide +kernel) rfl rfl ?_
  refine ab_iload_n (z := 1) (by decide +kernel) rfl rfl ?_
  obtain ⟨u1, hu1, H⟩ := ab_bd_of H
  refine kvX12_isPerson (D := 1) (ix := 408) (by decide +kernel) tw_1470 (hB.1 73 _ rfl) (by decide) (Nat.le_of_ble_eq_true rfl) (mX12_isPerson_ok hB hu1 ?_)
  change ab_WP l G mX12_purse 6 5 [some (.ref 73), some (.int a1), some (.int a2), none] [.int u1] S I J P 0 0 Q
  refine ab_if_eq (off := 13) (tgt := 18) (by decide +kernel) rfl (fun hc => ?_) (fun hc => ?_)
  · replace H := ab_ifp H hc
    exact ab_wk (ab_le_some (ab_le_some (ab_le_some (ab_le_none (ab_le_nil))))) (fX12_purse_18_ok hB H  K0)
  · replace H := ab_ifn H hc
    refine ab_iload_n (z := 2) (by decide +kernel) rfl rfl ?_
    refine ab_iconst (z := 0) (v := (0 : Int32)) (by decide +kernel) (by decide) ?_
    refine ab_bipush (z := 60) (v := (60 : Int32)) (by decide +kernel) (by decide) ?_
    obtain ⟨u2, hu2, H⟩ := ab_bd_of H
    refine ksX12_isIn (D := 0) (ix := 384) (by decide +kernel) tw_1474 (by decide) (Nat.le_of_ble_eq_true rfl) (mX12_isIn_ok hB hu2 ?_)
    change ab_WP l G mX12_purse 6 15 [some (.ref 73), some (.int a1), some (.int a2), none] [.int u2] S I J P 0 0 Q
    refine ab_if_ne (off := 5) (tgt := 20) (by decide +kernel) rfl (fun hc => ?_) (fun hc => ?_)
    · replace H := ab_ifn H hc
      refine ab_aload_n (z := 0) (by decide +kernel) rfl rfl ?_
      obtain ⟨u3, hu3, H⟩ := ab_bd_of H
      refine kvX12_fill (D := 0) (ix := 411) (by decide +kernel) tw_1477 (hB.1 73 _ rfl) (by decide) (Nat.le_of_ble_eq_true rfl) (mX12_fill_ok hB hu3 ?_)
      change ab_WP l G mX12_purse 6 24 [some (.ref 73), some (.int a1), some (.int a2), none] [] S u3 J P 0 0 Q
      refine ab_iconst (z := 0) (v := (0 : Int32)) (by decide +kernel) (by decide) ?_
      refine ab_istore_n (z := 3) (by decide +kernel) rfl (by decide) rfl ?_
      refine ab_ls (ls' := [some (.ref 73), some (.int a1), some (.int a2), some (.int (0 : Int32))]) rfl ?_
      exact ab_wk (ab_le_some (ab_le_some (ab_le_some (ab_le_some (ab_le_nil))))) (ab_iter (body := (fun s => fX12_purse_26 a1 a2 s.1 s.2)) (W := fun s => ab_WP l G mX12_purse 6 26 [some (.ref 73), some (.int a1), some (.int a2), some (.int s.1)] [] S s.2 J P 0 0 Q) (fun s y hb h1 h2 => fX12_purse_26_ok hB hb h1 (fun r e => by have e2 := h2 _ e; subst e2; exact K0)) 5000 ((0 : Int32), u3) H)
    · replace H := ab_ifp H hc
      exact ab_wk (ab_le_some (ab_le_some (ab_le_some (ab_le_none (ab_le_nil))))) (fX12_purse_18_ok hB H  K0)
abbrev mX12_cost : ab_M := (yX12_cost, cX12_cost, 4, some .int, 0, 0)
def fX12_cost_39 (a1 : Int32) (a2 : Int32) (I : ab_I) : Option (Int32 × ab_I) :=
  some (a2, I)
set_option maxRecDepth 100000 in
theorem fX12_cost_39_ok {l : Launch} {G : ab_G} {S : ab_S} {I : ab_I} {J : ab_J} {P : ab_P} {Q : ab_Q} {a1 : Int32} {a2 : Int32} (hB : bz_B S P) {x : Int32 × ab_I} (H : fX12_cost_39 a1 a2 I = some x) (K0 : Q (some (.int x.1)) S x.2 J P) : ab_WP l G mX12_cost 6 39 [some (.ref 73), some (.int a1), some (.int a2), none] [] S I J P 0 0 Q := by
  unfold fX12_cost_39 at H
  refine ab_iload_n (z := 2) (by decide +kernel) rfl rfl ?_
  obtain rfl := Option.some.inj H
  exact ab_iret (by decide +kernel) rfl (Nat.le_refl _) (Nat.le_refl _) K0
def fX12_cost_20 (a1 : Int32) (a2 : Int32) (a3 : Int32) (I : ab_I) : Option ((Int32 × Int32 × ab_I) ⊕ (Int32 × ab_I)) :=
  if a1 ≤ a3 then
    (fX12_cost_39 a1 a2 I).map .inr
  else
    (fX12_goDay (0 : Int32) I).bind fun u4 =>
    some (.inl ((a2 + u4.1), (a3 + (1 : Int32)), u4.2))
set_option maxRecDepth 100000 in
theorem fX12_cost_20_ok {l : Launch} {G : ab_G} {S : ab_S} {I : ab_I} {J : ab_J} {P : ab_P} {Q : ab_Q} {a1 : Int32} {a2 : Int32} {a3 : Int32} (hB : bz_B S P) {x : ((Int32 × Int32 × ab_I) ⊕ (Int32 × ab_I))} (H : fX12_cost_20 a1 a2 a3 I = some x) (K1 : ∀ s, x = (.inl s) → ab_WP l G mX12_cost 6 20 [some (.ref 73), some (.int a1), some (.int s.1), some (.int s.2.1)] [] S s.2.2 J P 0 0 Q) (K0 : ∀ r, x = (.inr r) → Q (some (.int r.1)) S r.2 J P) : ab_WP l G mX12_cost 6 20 [some (.ref 73), some (.int a1), some (.int a2), some (.int a3)] [] S I J P 0 0 Q := by
  unfold fX12_cost_20 at H
  refine ab_iload_n (z := 3) (by decide +kernel) rfl rfl ?_
  refine ab_iload_n (z := 1) (by decide +kernel) rfl rfl ?_
  refine ab_icmp_ge (off := 17) (tgt := 39) (by decide +kernel) rfl (fun hc => ?_) (fun hc => ?_)
  · replace H := ab_ifp H hc
    obtain ⟨y3, Hy, hx⟩ := ab_mp_of H
    subst hx
    replace H := Hy
    exact ab_wk (ab_le_some (ab_le_some (ab_le_some (ab_le_none (ab_le_nil))))) (fX12_cost_39_ok hB H  (K0 _ rfl))
  · replace H := ab_ifn H hc
    refine ab_iload_n (z := 2) (by decide +kernel) rfl rfl ?_
    refine ab_aload_n (z := 0) (by decide +kernel) rfl rfl ?_
    refine ab_iconst (z := 0) (v := (0 : Int32)) (by decide +kernel) (by decide) ?_
    obtain ⟨u4, hu4, H⟩ := ab_bd_of H
    refine kvX12_goDay (D := 5) (ix := 417) (by decide +kernel) tw_1496 (hB.1 73 _ rfl) (by decide) (Nat.le_of_ble_eq_true rfl) (mX12_goDay_ok hB hu4 ?_)
    change ab_WP l G mX12_cost 6 31 [some (.ref 73), some (.int a1), some (.int a2), some (.int a3)] [.int u4.1, .int a2] S u4.2 J P 0 0 Q
    refine ab_iadd (by decide +kernel) ?_
    refine ab_istore_n (z := 2) (by decide +kernel) rfl (by decide) rfl ?_
    refine ab_ls (ls' := [some (.ref 73), some (.int a1), some (.int (a2 + u4.1)), some (.int a3)]) rfl ?_
    refine ab_iinc (i := 3) (z := 1) (v := (a3 + (1 : Int32))) (by decide +kernel) rfl rfl (by decide) rfl ?_
    refine ab_ls (ls' := [some (.ref 73), some (.int a1), some (.int (a2 + u4.1)), some (.int (a3 + (1 : Int32)))]) rfl ?_
    refine ab_goto (off := -16) (tgt := 20) (by decide +kernel) rfl ?_
    exact ab_wk (ab_le_some (ab_le_some (ab_le_some (ab_le_some (ab_le_nil))))) (K1 ((a2 + u4.1), (a3 + (1 : Int32)), u4.2) (Option.some.inj H).symm)
def fX12_cost (a1 : Int32) (I : ab_I) : Option (Int32 × ab_I) :=
  (fX12_isIn a1 (0 : Int32) (60 : Int32)).bind fun u1 =>
  if u1 = 0 then
    some ((-1 : Int32), I)
  else
    (fX12_fill I).bind fun u2 =>
    ab_it (fun s => fX12_cost_20 a1 s.1 s.2.1 s.2.2) 5000 ((0 : Int32), (0 : Int32), u2)
set_option maxRecDepth 100000 in
theorem mX12_cost_ok {l : Launch} {G : ab_G} {S : ab_S} {I : ab_I} {J : ab_J} {P : ab_P} {Q : ab_Q} {a1 : Int32} (hB : bz_B S P) {x : Int32 × ab_I} (H : fX12_cost a1 I = some x) (K0 : Q (some (.int x.1)) S x.2 J P) : ab_Call l G mX12_cost 6 [.ref 73, .int a1] S I J P Q := by
  unfold fX12_cost at H
  refine ab_enter rfl (Nat.le_of_ble_eq_true rfl) (ab_wk (ls' := [some (.ref 73), some (.int a1), none, none]) (ab_le_some (ab_le_some (ab_le_non0 (ab_le_non0 ab_le_nil)))) ?_)
  refine ab_iload_n (z := 1) (by decide +kernel) rfl rfl ?_
  refine ab_iconst (z := 0) (v := (0 : Int32)) (by decide +kernel) (by decide) ?_
  refine ab_bipush (z := 60) (v := (60 : Int32)) (by decide +kernel) (by decide) ?_
  obtain ⟨u1, hu1, H⟩ := ab_bd_of H
  refine ksX12_isIn (D := 0) (ix := 384) (by decide +kernel) tw_1474 (by decide) (Nat.le_of_ble_eq_true rfl) (mX12_isIn_ok hB hu1 ?_)
  change ab_WP l G mX12_cost 6 7 [some (.ref 73), some (.int a1), none, none] [.int u1] S I J P 0 0 Q
  refine ab_if_ne (off := 5) (tgt := 12) (by decide +kernel) rfl (fun hc => ?_) (fun hc => ?_)
  · replace H := ab_ifn H hc
    refine ab_aload_n (z := 0) (by decide +kernel) rfl rfl ?_
    obtain ⟨u2, hu2, H⟩ := ab_bd_of H
    refine kvX12_fill (D := 0) (ix := 411) (by decide +kernel) tw_1477 (hB.1 73 _ rfl) (by decide) (Nat.le_of_ble_eq_true rfl) (mX12_fill_ok hB hu2 ?_)
    change ab_WP l G mX12_cost 6 16 [some (.ref 73), some (.int a1), none, none] [] S u2 J P 0 0 Q
    refine ab_iconst (z := 0) (v := (0 : Int32)) (by decide +kernel) (by decide) ?_
    refine ab_istore_n (z := 2) (by decide +kernel) rfl (by decide) rfl ?_
    refine ab_ls (ls' := [some (.ref 73), some (.int a1), some (.int (0 : Int32)), none]) rfl ?_
    refine ab_iconst (z := 0) (v := (0 : Int32)) (by decide +kernel) (by decide) ?_
    refine ab_istore_n (z := 3) (by decide +kernel) rfl (by decide) rfl ?_
    refine ab_ls (ls' := [some (.ref 73), some (.int a1), some (.int (0 : Int32)), some (.int (0 : Int32))]) rfl ?_
    exact ab_wk (ab_le_some (ab_le_some (ab_le_some (ab_le_some (ab_le_nil))))) (ab_iter (body := (fun s => fX12_cost_20 a1 s.1 s.2.1 s.2.2)) (W := fun s => ab_WP l G mX12_cost 6 20 [some (.ref 73), some (.int a1), some (.int s.1), some (.int s.2.1)] [] S s.2.2 J P 0 0 Q) (fun s y hb h1 h2 => fX12_cost_20_ok hB hb h1 (fun r e => by have e2 := h2 _ e; subst e2; exact K0)) 5000 ((0 : Int32), (0 : Int32), u2) H)
  · replace H := ab_ifp H hc
    refine ab_iconst (z := -1) (v := (-1 : Int32)) (by decide +kernel) (by decide) ?_
    obtain rfl := Option.some.inj H
    exact ab_iret (by decide +kernel) rfl (Nat.le_refl _) (Nat.le_refl _) K0
abbrev mX12_ruin : ab_M := (yX12_ruin, cX12_ruin, 3, some .int, 0, 0)
def fX12_ruin_45 (a1 : Int32) (I : ab_I) : Option (Int32 × ab_I) :=
  some ((-1 : Int32), I)
set_option maxRecDepth 100000 in
theorem fX12_ruin_45_ok {l : Launch} {G : ab_G} {S : ab_S} {I : ab_I} {J : ab_J} {P : ab_P} {Q : ab_Q} {a1 : Int32} (hB : bz_B S P) {x : Int32 × ab_I} (H : fX12_ruin_45 a1 I = some x) (K0 : Q (some (.int x.1)) S x.2 J P) : ab_WP l G mX12_ruin 6 45 [some (.ref 73), some (.int a1), none] [] S I J P 0 0 Q := by
  unfold fX12_ruin_45 at H
  refine ab_iconst (z := -1) (v := (-1 : Int32)) (by decide +kernel) (by decide) ?_
  obtain rfl := Option.some.inj H
  exact ab_iret (by decide +kernel) rfl (Nat.le_refl _) (Nat.le_refl _) K0
def fX12_ruin_31 (a1 : Int32) (a2 : Int32) (I : ab_I) : Option (Int32 × ab_I) :=
  some (a2, I)
set_option maxRecDepth 100000 in
theorem fX12_ruin_31_ok {l : Launch} {G : ab_G} {S : ab_S} {I : ab_I} {J : ab_J} {P : ab_P} {Q : ab_Q} {a1 : Int32} {a2 : Int32} (hB : bz_B S P) {x : Int32 × ab_I} (H : fX12_ruin_31 a1 a2 I = some x) (K0 : Q (some (.int x.1)) S x.2 J P) : ab_WP l G mX12_ruin 6 31 [some (.ref 73), some (.int a1), some (.int a2)] [] S I J P 0 0 Q := by
  unfold fX12_ruin_31 at H
  refine ab_iload_n (z := 2) (by decide +kernel) rfl rfl ?_
  obtain rfl := Option.some.inj H
  exact ab_iret (by decide +kernel) rfl (Nat.le_refl _) (Nat.le_refl _) K0
def fX12_ruin_16 (a1 : Int32) (a2 : Int32) (I : ab_I) : Option ((Int32 × ab_I) ⊕ (Int32 × ab_I)) :=
  if (60 : Int32) < a2 then
    (fX12_ruin_45 a1 I).map .inr
  else
    ab_gd (ab_ix a1 45 = true) (
      if (I 90 a1.toNatClampNeg) = 0 then
        (fX12_ruin_31 a1 a2 I).map .inr
      else
        (fX12_goDay (0 : Int32) I).bind fun u4 =>
        some (.inl ((a2 + (1 : Int32)), u4.2))
    )
set_option maxRecDepth 100000 in
theorem fX12_ruin_16_ok {l : Launch} {G : ab_G} {S : ab_S} {I : ab_I} {J : ab_J} {P : ab_P} {Q : ab_Q} {a1 : Int32} {a2 : Int32} (hB : bz_B S P) {x : ((Int32 × ab_I) ⊕ (Int32 × ab_I))} (H : fX12_ruin_16 a1 a2 I = some x) (K1 : ∀ s, x = (.inl s) → ab_WP l G mX12_ruin 6 16 [some (.ref 73), some (.int a1), some (.int s.1)] [] S s.2 J P 0 0 Q) (K0 : ∀ r, x = (.inr r) → Q (some (.int r.1)) S r.2 J P) : ab_WP l G mX12_ruin 6 16 [some (.ref 73), some (.int a1), some (.int a2)] [] S I J P 0 0 Q := by
  unfold fX12_ruin_16 at H
  refine ab_iload_n (z := 2) (by decide +kernel) rfl rfl ?_
  refine ab_bipush (z := 60) (v := (60 : Int32)) (by decide +kernel) (by decide) ?_
  refine ab_icmp_gt (off := 26) (tgt := 45) (by decide +kernel) rfl (fun hc => ?_) (fun hc => ?_)
  · replace H := ab_ifp H hc
    obtain ⟨y3, Hy, hx⟩ := ab_mp_of H
    subst hx
    replace H := Hy
    exact ab_wk (ab_le_some (ab_le_some (ab_le_none (ab_le_nil)))) (fX12_ruin_45_ok hB H  (K0 _ rfl))
  · replace H := ab_ifn H hc
    refine ab_aload_n (z := 0) (by decide +kernel) rfl rfl ?_
    refine gX12_47 (ix := 63) (by decide +kernel) tw_1128 (hB.1 73 _ rfl) (hB.2.1 95 (73, 47, 90) rfl) ?_
    refine ab_iload_n (z := 1) (by decide +kernel) rfl rfl ?_
    obtain ⟨hg, H⟩ := ab_gd_of H
    refine ab_iald (ln := 45) (by decide +kernel) (hB.1 90 _ rfl) (ab_ix_in hg) ?_
    refine ab_if_ne (off := 5) (tgt := 33) (by decide +kernel) rfl (fun hc => ?_) (fun hc => ?_)
    · replace H := ab_ifn H hc
      refine ab_aload_n (z := 0) (by decide +kernel) rfl rfl ?_
      refine ab_iconst (z := 0) (v := (0 : Int32)) (by decide +kernel) (by decide) ?_
      obtain ⟨u4, hu4, H⟩ := ab_bd_of H
      refine kvX12_goDay (D := 5) (ix := 417) (by decide +kernel) tw_1496 (hB.1 73 _ rfl) (by decide) (Nat.le_of_ble_eq_true rfl) (mX12_goDay_ok hB hu4 ?_)
      change ab_WP l G mX12_ruin 6 38 [some (.ref 73), some (.int a1), some (.int a2)] [.int u4.1] S u4.2 J P 0 0 Q
      refine ab_pop (by decide +kernel) rfl ?_
      refine ab_iinc (i := 2) (z := 1) (v := (a2 + (1 : Int32))) (by decide +kernel) rfl rfl (by decide) rfl ?_
      refine ab_ls (ls' := [some (.ref 73), some (.int a1), some (.int (a2 + (1 : Int32)))]) rfl ?_
      refine ab_goto (off := -26) (tgt := 16) (by decide +kernel) rfl ?_
      exact ab_wk (ab_le_some (ab_le_some (ab_le_some (ab_le_nil)))) (K1 ((a2 + (1 : Int32)), u4.2) (Option.some.inj H).symm)
    · replace H := ab_ifp H hc
      obtain ⟨y5, Hy, hx⟩ := ab_mp_of H
      subst hx
      replace H := Hy
      exact ab_wk (ab_le_some (ab_le_some (ab_le_some (ab_le_nil)))) (fX12_ruin_31_ok hB H  (K0 _ rfl))
def fX12_ruin (a1 : Int32) (I : ab_I) : Option (Int32 × ab_I) :=
  (fX12_isPerson a1 I).bind fun u1 =>
  if u1 = 0 then
    some ((-1 : Int32), I)
  else
    (fX12_fill I).bind fun u2 =>
    ab_it (fun s => fX12_ruin_16 a1 s.1 s.2) 5000 ((0 : Int32), u2)
set_option maxRecDepth 100000 in
theorem mX12_ruin_ok {l : Launch} {G : ab_G} {S : ab_S} {I : ab_I} {J : ab_J} {P : ab_P} {Q : ab_Q} {a1 : Int32} (hB : bz_B S P) {x : Int32 × ab_I} (H : fX12_ruin a1 I = some x) (K0 : Q (some (.int x.1)) S x.2 J P) : ab_Call l G mX12_ruin 6 [.ref 73, .int a1] S I J P Q := by
  unfold fX12_ruin at H
  refine ab_enter rfl (Nat.le_of_ble_eq_true rfl) (ab_wk (ls' := [some (.ref 73), some (.int a1), none]) (ab_le_some (ab_le_some (ab_le_non0 ab_le_nil))) ?_)
  refine ab_aload_n (z := 0) (by decide +kernel) rfl rfl ?_
  refine ab_iload_n (z := 1) (by decide +kernel) rfl rfl ?_
  obtain ⟨u1, hu1, H⟩ := ab_bd_of H
  refine kvX12_isPerson (D := 1) (ix := 408) (by decide +kernel) tw_1470 (hB.1 73 _ rfl) (by decide) (Nat.le_of_ble_eq_true rfl) (mX12_isPerson_ok hB hu1 ?_)
  change ab_WP l G mX12_ruin 6 5 [some (.ref 73), some (.int a1), none] [.int u1] S I J P 0 0 Q
  refine ab_if_ne (off := 5) (tgt := 10) (by decide +kernel) rfl (fun hc => ?_) (fun hc => ?_)
  · replace H := ab_ifn H hc
    refine ab_aload_n (z := 0) (by decide +kernel) rfl rfl ?_
    obtain ⟨u2, hu2, H⟩ := ab_bd_of H
    refine kvX12_fill (D := 0) (ix := 411) (by decide +kernel) tw_1477 (hB.1 73 _ rfl) (by decide) (Nat.le_of_ble_eq_true rfl) (mX12_fill_ok hB hu2 ?_)
    change ab_WP l G mX12_ruin 6 14 [some (.ref 73), some (.int a1), none] [] S u2 J P 0 0 Q
    refine ab_iconst (z := 0) (v := (0 : Int32)) (by decide +kernel) (by decide) ?_
    refine ab_istore_n (z := 2) (by decide +kernel) rfl (by decide) rfl ?_
    refine ab_ls (ls' := [some (.ref 73), some (.int a1), some (.int (0 : Int32))]) rfl ?_
    exact ab_wk (ab_le_some (ab_le_some (ab_le_some (ab_le_nil)))) (ab_iter (body := (fun s => fX12_ruin_16 a1 s.1 s.2)) (W := fun s => ab_WP l G mX12_ruin 6 16 [some (.ref 73), some (.int a1), some (.int s.1)] [] S s.2 J P 0 0 Q) (fun s y hb h1 h2 => fX12_ruin_16_ok hB hb h1 (fun r e => by have e2 := h2 _ e; subst e2; exact K0)) 5000 ((0 : Int32), u2) H)
  · replace H := ab_ifp H hc
    refine ab_iconst (z := -1) (v := (-1 : Int32)) (by decide +kernel) (by decide) ?_
    obtain rfl := Option.some.inj H
    exact ab_iret (by decide +kernel) rfl (Nat.le_refl _) (Nat.le_refl _) K0
