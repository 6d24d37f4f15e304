abbrev mX1_passDays : ab_M := (yX1_passDays, cX1_passDays, 6, some .int, 0, 0)
theorem kvX1_passDays {l : Launch} {G : ab_G} {M : ab_M} {d pc : Nat} {ls : List (Option Value)} {st : List Value} {S : ab_S} {I : ab_I} {J : ab_J} {P : ab_P} {Q : ab_Q} {v0 v1 v2 : Value} {ix D r ln : Nat} (hd : decode M.2.1 pc = .ok (.invokevirtual ix, 3)) (h1 : Cond.methodLink M.1.cls ix mX1_passDays.1 ∈ ab_good) (hs : S[r]? = some (6, ln)) (hdg : D + 1 ≤ d) (hsum : (st.map fun v => v.category).sum ≤ 8) (kk : ab_Call l G mX1_passDays D (.ref r :: [v0, v1, v2]) S I J P (fun v S' I' J' P' => ab_WP l G M d (pc + 3) ls (ab_psh v st) S' I' J' P' 0 0 Q)) : ab_WP l G M d pc ls (v2 :: v1 :: v0 :: .ref r :: st) S I J P 0 0 Q := bz_kv (g := mX1_passDays) (as := [v0, v1, v2]) (cc := 1) rfl hd h1 tw_783 tw_784 tw_8 tw_785 ⟨by decide +kernel, by decide +kernel, (by decide +kernel : (parseMethodDescriptor mX1_passDays.1.desc).map (fun d => d.parameters.length) = some 3)⟩ (by decide) rfl rfl rfl hdg hsum hs kk
def fX1_passDays_43 (q1 : Nat) (a2 : Int32) (a3 : Int32) (a4 : Int32) (I : ab_I) : Option (Int32 × ab_I) :=
  some (a4, I)
set_option maxRecDepth 100000 in
theorem fX1_passDays_43_ok {l : Launch} {G : ab_G} {S : ab_S} {I : ab_I} {J : ab_J} {P : ab_P} {Q : ab_Q} {q1 : Nat} {a2 : Int32} {a3 : Int32} {a4 : Int32} (hB : bz_B S P) (hq1 : bz_st S P q1) {x : Int32 × ab_I} (H : fX1_passDays_43 q1 a2 a3 a4 I = some x) (K0 : Q (some (.int x.1)) S x.2 J P) : ab_WP l G mX1_passDays 5 43 [some (.ref 25), some (.ref q1), some (.int a2), some (.int a3), some (.int a4), none] [] S I J P 0 0 Q := by
  unfold fX1_passDays_43 at H
  refine ab_iload (i := 4) (by decide +kernel) rfl ?_
  obtain rfl := Option.some.inj H
  exact ab_iret (by decide +kernel) rfl (Nat.le_refl _) (Nat.le_refl _) K0
def fX1_passDays_14 (q1 : Nat) (a2 : Int32) (a3 : Int32) (a4 : Int32) (a5 : Int32) (I : ab_I) : Option ((Int32 × Int32 × ab_I) ⊕ (Int32 × ab_I)) :=
  if a2 ≤ a5 then
    (fX1_passDays_43 q1 a2 a3 a4 I).map .inr
  else
    (fX5_passDay 26 a3 I).bind fun u3 =>
    some (.inl ((a4 + u3.1), (a5 + (1 : Int32)), u3.2))
set_option maxRecDepth 100000 in
theorem fX1_passDays_14_ok {l : Launch} {G : ab_G} {S : ab_S} {I : ab_I} {J : ab_J} {P : ab_P} {Q : ab_Q} {q1 : Nat} {a2 : Int32} {a3 : Int32} {a4 : Int32} {a5 : Int32} (hB : bz_B S P) (hq1 : bz_st S P q1) {x : ((Int32 × Int32 × ab_I) ⊕ (Int32 × ab_I))} (H : fX1_passDays_14 q1 a2 a3 a4 a5 I = some x) (K1 : ∀ s, x = (.inl s) → ab_WP l G mX1_passDays 5 14 [some (.ref 25), some (.ref q1), some (.int a2), some (.int a3), some (.int s.1), some (.int s.2.1)] [] S s.2.2 J P 0 0 Q) (K0 : ∀ r, x = (.inr r) → Q (some (.int r.1)) S r.2 J P) : ab_WP l G mX1_passDays 5 14 [some (.ref 25), some (.ref q1), some (.int a2), some (.int a3), some (.int a4), some (.int a5)] [] S I J P 0 0 Q := by
  unfold fX1_passDays_14 at H
  refine ab_iload (i := 5) (by decide +kernel) rfl ?_
  refine ab_iload_n (z := 2) (by decide +kernel) rfl rfl ?_
  refine ab_icmp_ge (off := 26) (tgt := 43) (by decide +kernel) rfl (fun hc => ?_) (fun hc => ?_)
  · replace H := ab_ifp H hc
    obtain ⟨y2, Hy, hx⟩ := ab_mp_of H
    subst hx
    replace H := Hy
    exact ab_wk (ab_le_some (ab_le_some (ab_le_some (ab_le_some (ab_le_some (ab_le_none (ab_le_nil))))))) (fX1_passDays_43_ok hB hq1 H  (K0 _ rfl))
  · replace H := ab_ifn H hc
    refine ab_iload (i := 4) (by decide +kernel) rfl ?_
    refine ab_aload_n (z := 0) (by decide +kernel) rfl rfl ?_
    refine gX1_1 (ix := 35) (by decide +kernel) tw_282 (hB.1 25 _ rfl) (hB.2.1 33 (25, 1, 23) rfl) ?_
    refine ab_aload_n (z := 0) (by decide +kernel) rfl rfl ?_
    refine gX1_2 (ix := 12) (by decide +kernel) tw_283 (hB.1 25 _ rfl) (hB.2.1 34 (25, 2, 26) rfl) ?_
    refine ab_iload_n (z := 3) (by decide +kernel) rfl rfl ?_
    obtain ⟨u3, hu3, H⟩ := ab_bd_of H
    refine kvX5_passDay (D := 4) (ix := 43) (by decide +kernel) tw_658 (hB.1 23 _ rfl) (by decide) (Nat.le_of_ble_eq_true rfl) (mX5_passDay_ok hB (bz_st_26 hB) hu3 ?_)
    change ab_WP l G mX1_passDays 5 34 [some (.ref 25), some (.ref q1), some (.int a2), some (.int a3), some (.int a4), some (.int a5)] [.int u3.1, .int a4] S u3.2 J P 0 0 Q
    refine ab_iadd (by decide +kernel) ?_
    refine ab_istore (i := 4) (by decide +kernel) (by decide) rfl ?_
    refine ab_ls (ls' := [some (.ref 25), some (.ref q1), some (.int a2), some (.int a3), some (.int (a4 + u3.1)), some (.int a5)]) rfl ?_
    refine ab_iinc (i := 5) (z := 1) (v := (a5 + (1 : Int32))) (by decide +kernel) rfl rfl (by decide) rfl ?_
    refine ab_ls (ls' := [some (.ref 25), some (.ref q1), some (.int a2), some (.int a3), some (.int (a4 + u3.1)), some (.int (a5 + (1 : Int32)))]) rfl ?_
    refine ab_goto (off := -26) (tgt := 14) (by decide +kernel) rfl ?_
    exact ab_wk (ab_le_some (ab_le_some (ab_le_some (ab_le_some (ab_le_some (ab_le_some (ab_le_nil))))))) (K1 ((a4 + u3.1), (a5 + (1 : Int32)), u3.2) (Option.some.inj H).symm)
def fX1_passDays (q1 : Nat) (a2 : Int32) (a3 : Int32) (I : ab_I) : Option (Int32 × ab_I) :=
  (fX6_copyFrom 26 q1 I).bind fun u1 =>
  ab_it (fun s => fX1_passDays_14 q1 a2 a3 s.1 s.2.1 s.2.2) 5000 ((0 : Int32), (0 : Int32), u1)
set_option maxRecDepth 100000 in
theorem mX1_passDays_ok {l : Launch} {G : ab_G} {S : ab_S} {I : ab_I} {J : ab_J} {P : ab_P} {Q : ab_Q} {q1 : Nat} {a2 : Int32} {a3 : Int32} (hB : bz_B S P) (hq1 : bz_st S P q1) {x : Int32 × ab_I} (H : fX1_passDays q1 a2 a3 I = some x) (K0 : Q (some (.int x.1)) S x.2 J P) : ab_Call l G mX1_passDays 5 [.ref 25, .ref q1, .int a2, .int a3] S I J P Q := by
  unfold fX1_passDays at H
  refine ab_enter rfl (Nat.le_of_ble_eq_true rfl) (ab_wk (ls' := [some (.ref 25), some (.ref q1), some (.int a2), some (.int a3), none, none]) (ab_le_some (ab_le_some (ab_le_some (ab_le_some (ab_le_non0 (ab_le_non0 ab_le_nil)))))) ?_)
  refine ab_aload_n (z := 0) (by decide +kernel) rfl rfl ?_
  refine gX1_2 (ix := 12) (by decide +kernel) tw_283 (hB.1 25 _ rfl) (hB.2.1 34 (25, 2, 26) rfl) ?_
  refine ab_aload_n (z := 1) (by decide +kernel) rfl rfl ?_
  obtain ⟨u1, hu1, H⟩ := ab_bd_of H
  refine kvX6_copyFrom (D := 1) (ix := 39) (by decide +kernel) tw_653 (bz_st_26 hB).1 (by decide) (Nat.le_of_ble_eq_true rfl) (mX6_copyFrom_ok hB (bz_st_26 hB) hq1 hu1 ?_)
  change ab_WP l G mX1_passDays 5 8 [some (.ref 25), some (.ref q1), some (.int a2), some (.int a3), none, none] [] S u1 J P 0 0 Q
  refine ab_iconst (z := 0) (v := (0 : Int32)) (by decide +kernel) (by decide) ?_
  refine ab_istore (i := 4) (by decide +kernel) (by decide) rfl ?_
  refine ab_ls (ls' := [some (.ref 25), some (.ref q1), some (.int a2), some (.int a3), some (.int (0 : Int32)), none]) rfl ?_
  refine ab_iconst (z := 0) (v := (0 : Int32)) (by decide +kernel) (by decide) ?_
  refine ab_istore (i := 5) (by decide +kernel) (by decide) rfl ?_
  refine ab_ls (ls' := [some (.ref 25), some (.ref q1), some (.int a2), some (.int a3), some (.int (0 : Int32)), some (.int (0 : Int32))]) rfl ?_
  exact ab_wk (ab_le_some (ab_le_some (ab_le_some (ab_le_some (ab_le_some (ab_le_some (ab_le_nil))))))) (ab_iter (W := fun s => ab_WP l G mX1_passDays 5 14 [some (.ref 25), some (.ref q1), some (.int a2), some (.int a3), some (.int s.1), some (.int s.2.1)] [] S s.2.2 J P 0 0 Q) (fun s y hb h1 h2 => fX1_passDays_14_ok hB hq1 hb h1 (fun r e => by have e2 := h2 _ e; subst e2; exact K0)) 5000 ((0 : Int32), (0 : Int32), u1) H)
abbrev mX11_will : ab_M := (yX11_will, cX11_will, 4, some .int, 0, 0)
def fX11_will_52 (a1 : Int32) (a2 : Int32) (a3 : Int32) (P : ab_P) (s1 : Nat) (s2 : Int32) (s3 : Int32) (I : ab_I) : Option (Int32 × ab_I) :=
  (fX1_passDays s1 s2 s3 I).bind fun u5 =>
  ab_gd (ab_ix a1 5 = true) (
    some ((u5.2 24 a1.toNatClampNeg), u5.2)
  )
set_option maxRecDepth 100000 in
theorem fX11_will_52_ok {l : Launch} {G : ab_G} {S : ab_S} {I : ab_I} {J : ab_J} {P : ab_P} {Q : ab_Q} {a1 : Int32} {a2 : Int32} {a3 : Int32} {s1 : Nat} {s2 : Int32} {s3 : Int32} (hB : bz_B S P) (hs1 : bz_st S P s1) {x : Int32 × ab_I} (H : fX11_will_52 a1 a2 a3 P s1 s2 s3 I = some x) (K0 : Q (some (.int x.1)) S x.2 J P) : ab_WP l G mX11_will 6 52 [some (.ref 0), some (.int a1), some (.int a2), some (.int a3)] [.int s3, .int s2, .ref s1, .ref 25] S I J P 0 0 Q := by
  unfold fX11_will_52 at H
  obtain ⟨u5, hu5, H⟩ := ab_bd_of H
  refine kvX1_passDays (D := 5) (ix := 215) (by decide +kernel) tw_782 (hB.1 25 _ rfl) (by decide) (Nat.le_of_ble_eq_true rfl) (mX1_passDays_ok hB hs1 hu5 ?_)
  change ab_WP l G mX11_will 6 55 [some (.ref 0), some (.int a1), some (.int a2), some (.int a3)] [.int u5.1] S u5.2 J P 0 0 Q
  refine ab_pop (by decide +kernel) rfl ?_
  refine ab_aload_n (z := 0) (by decide +kernel) rfl rfl ?_
  refine gX11_3 (ix := 37) (by decide +kernel) tw_411 (hB.1 0 _ rfl) (hB.2.1 3 (0, 3, 23) rfl) ?_
  refine gX5_1 (ix := 219) (by decide +kernel) tw_215 (hB.1 23 _ rfl) (hB.2.1 31 (23, 1, 24) rfl) ?_
  refine ab_iload_n (z := 1) (by decide +kernel) rfl rfl ?_
  obtain ⟨hg, H⟩ := ab_gd_of H
  refine ab_iald (ln := 5) (by decide +kernel) (hB.1 24 _ rfl) (ab_ix_in hg) ?_
  obtain rfl := Option.some.inj H
  exact ab_iret (by decide +kernel) rfl (Nat.le_refl _) (Nat.le_refl _) K0
def fX11_will_30 (a1 : Int32) (a2 : Int32) (a3 : Int32) (P : ab_P) (I : ab_I) : Option (Int32 × ab_I) :=
  some ((-2 : Int32), I)
set_option maxRecDepth 100000 in
theorem fX11_will_30_ok {l : Launch} {G : ab_G} {S : ab_S} {I : ab_I} {J : ab_J} {P : ab_P} {Q : ab_Q} {a1 : Int32} {a2 : Int32} {a3 : Int32} (hB : bz_B S P) {x : Int32 × ab_I} (H : fX11_will_30 a1 a2 a3 P I = some x) (K0 : Q (some (.int x.1)) S x.2 J P) : ab_WP l G mX11_will 6 30 [some (.ref 0), some (.int a1), some (.int a2), some (.int a3)] [] S I J P 0 0 Q := by
  unfold fX11_will_30 at H
  refine ab_bipush (z := -2) (v := (-2 : Int32)) (by decide +kernel) (by decide) ?_
  obtain rfl := Option.some.inj H
  exact ab_iret (by decide +kernel) rfl (Nat.le_refl _) (Nat.le_refl _) K0
def fX11_will (a1 : Int32) (a2 : Int32) (a3 : Int32) (I : ab_I) (P : ab_P) : Option (Int32 × ab_I) :=
  (fX9_isBell a1 I).bind fun u1 =>
  if u1 = 0 then
    fX11_will_30 a1 a2 a3 P I
  else
    (fX11_within a2 (1 : Int32) (60 : Int32)).bind fun u2 =>
    if u2 = 0 then
      fX11_will_30 a1 a2 a3 P I
    else
      (fX11_within a3 (0 : Int32) (1 : Int32)).bind fun u3 =>
      if u3 = 0 then
        fX11_will_30 a1 a2 a3 P I
      else
        (P 0 12).bind fun z4 =>
        if a3 = (1 : Int32) then
          fX11_will_52 a1 a2 a3 P z4 a2 (1 : Int32) I
        else
          fX11_will_52 a1 a2 a3 P z4 a2 (0 : Int32) I
set_option maxRecDepth 100000 in
theorem mX11_will_ok {l : Launch} {G : ab_G} {S : ab_S} {I : ab_I} {J : ab_J} {P : ab_P} {Q : ab_Q} {a1 : Int32} {a2 : Int32} {a3 : Int32} (hB : bz_B S P) {x : Int32 × ab_I} (H : fX11_will a1 a2 a3 I P = some x) (K0 : Q (some (.int x.1)) S x.2 J P) : ab_Call l G mX11_will 6 [.ref 0, .int a1, .int a2, .int a3] S I J P Q := by
  unfold fX11_will at H
  refine ab_enter rfl (Nat.le_of_ble_eq_true rfl) (ab_wk (ls' := [some (.ref 0), some (.int a1), some (.int a2), some (.int a3)]) (ab_le_some (ab_le_some (ab_le_some (ab_le_some (ab_le_nil))))) ?_)
  refine ab_aload_n (z := 0) (by decide +kernel) rfl rfl ?_
  refine gX11_1 (ix := 19) (by decide +kernel) tw_409 (hB.1 0 _ rfl) (hB.2.1 1 (0, 1, 3) rfl) ?_
  refine ab_iload_n (z := 1) (by decide +kernel) rfl rfl ?_
  obtain ⟨u1, hu1, H⟩ := ab_bd_of H
  refine kvX9_isBell (D := 0) (ix := 175) (by decide +kernel) tw_721 (hB.1 3 _ rfl) (by decide) (Nat.le_of_ble_eq_true rfl) (mX9_isBell_ok hB hu1 ?_)
  change ab_WP l G mX11_will 6 8 [some (.ref 0), some (.int a1), some (.int a2), some (.int a3)] [.int u1] S I J P 0 0 Q
  refine ab_if_eq (off := 22) (tgt := 30) (by decide +kernel) rfl (fun hc => ?_) (fun hc => ?_)
  · replace H := ab_ifp H hc
    exact ab_wk (ab_le_some (ab_le_some (ab_le_some (ab_le_some (ab_le_nil))))) (fX11_will_30_ok hB H  K0)
  · replace H := ab_ifn H hc
    refine ab_iload_n (z := 2) (by decide +kernel) rfl rfl ?_
    refine ab_iconst (z := 1) (v := (1 : Int32)) (by decide +kernel) (by decide) ?_
    refine ab_bipush (z := 60) (v := (60 : Int32)) (by decide +kernel) (by decide) ?_
    obtain ⟨u2, hu2, H⟩ := ab_bd_of H
    refine ksX11_within (D := 0) (ix := 191) (by decide +kernel) tw_746 (by decide) (Nat.le_of_ble_eq_true rfl) (mX11_within_ok hB hu2 ?_)
    change ab_WP l G mX11_will 6 18 [some (.ref 0), some (.int a1), some (.int a2), some (.int a3)] [.int u2] S I J P 0 0 Q
    refine ab_if_eq (off := 12) (tgt := 30) (by decide +kernel) rfl (fun hc => ?_) (fun hc => ?_)
    · replace H := ab_ifp H hc
      exact ab_wk (ab_le_some (ab_le_some (ab_le_some (ab_le_some (ab_le_nil))))) (fX11_will_30_ok hB H  K0)
    · replace H := ab_ifn H hc
      refine ab_iload_n (z := 3) (by decide +kernel) rfl rfl ?_
      refine ab_iconst (z := 0) (v := (0 : Int32)) (by decide +kernel) (by decide) ?_
      refine ab_iconst (z := 1) (v := (1 : Int32)) (by decide +kernel) (by decide) ?_
      obtain ⟨u3, hu3, H⟩ := ab_bd_of H
      refine ksX11_within (D := 0) (ix := 191) (by decide +kernel) tw_746 (by decide) (Nat.le_of_ble_eq_true rfl) (mX11_within_ok hB hu3 ?_)
      change ab_WP l G mX11_will 6 27 [some (.ref 0), some (.int a1), some (.int a2), some (.int a3)] [.int u3] S I J P 0 0 Q
      refine ab_if_ne (off := 6) (tgt := 33) (by decide +kernel) rfl (fun hc => ?_) (fun hc => ?_)
      · replace H := ab_ifn H hc
        refine ab_aload_n (z := 0) (by decide +kernel) rfl rfl ?_
        refine gX11_4 (ix := 46) (by decide +kernel) tw_412 (hB.1 0 _ rfl) (hB.2.1 4 (0, 4, 25) rfl) ?_
        refine ab_aload_n (z := 0) (by decide +kernel) rfl rfl ?_
        obtain ⟨z4, hz4, H⟩ := ab_bd_of H
        refine gX11_12 (ix := 89) (by decide +kernel) tw_420 (hB.1 0 _ rfl) hz4 ?_
        have sz4 := hB.2.2.1 _ hz4
        refine ab_iload_n (z := 2) (by decide +kernel) rfl rfl ?_
        refine ab_iload_n (z := 3) (by decide +kernel) rfl rfl ?_
        refine ab_iconst (z := 1) (v := (1 : Int32)) (by decide +kernel) (by decide) ?_
        refine ab_icmp_ne (off := 7) (tgt := 51) (by decide +kernel) rfl (fun hc => ?_) (fun hc => ?_)
        · replace H := ab_ifn H hc
          refine ab_iconst (z := 0) (v := (0 : Int32)) (by decide +kernel) (by decide) ?_
          exact ab_wk (ab_le_some (ab_le_some (ab_le_some (ab_le_some (ab_le_nil))))) (fX11_will_52_ok hB sz4 H  K0)
        · replace H := ab_ifp H hc
          refine ab_iconst (z := 1) (v := (1 : Int32)) (by decide +kernel) (by decide) ?_
          refine ab_goto (off := 4) (tgt := 52) (by decide +kernel) rfl ?_
          exact ab_wk (ab_le_some (ab_le_some (ab_le_some (ab_le_some (ab_le_nil))))) (fX11_will_52_ok hB sz4 H  K0)
      · replace H := ab_ifp H hc
        exact ab_wk (ab_le_some (ab_le_some (ab_le_some (ab_le_some (ab_le_nil))))) (fX11_will_30_ok hB H  K0)
abbrev mX11_purse : ab_M := (yX11_purse, cX11_purse, 3, some .int, 0, 0)
def fX11_purse_21 (a1 : Int32) (a2 : Int32) (P : ab_P) (I : ab_I) : Option (Int32 × ab_I) :=
  some ((-1 : Int32), I)
set_option maxRecDepth 100000 in
theorem fX11_purse_21_ok {l : Launch} {G : ab_G} {S : ab_S} {I : ab_I} {J : ab_J} {P : ab_P} {Q : ab_Q} {a1 : Int32} {a2 : Int32} (hB : bz_B S P) {x : Int32 × ab_I} (H : fX11_purse_21 a1 a2 P I = some x) (K0 : Q (some (.int x.1)) S x.2 J P) : ab_WP l G mX11_purse 6 21 [some (.ref 0), some (.int a1), some (.int a2)] [] S I J P 0 0 Q := by
  unfold fX11_purse_21 at H
  refine ab_iconst (z := -1) (v := (-1 : Int32)) (by decide +kernel) (by decide) ?_
  obtain rfl := Option.some.inj H
  exact ab_iret (by decide +kernel) rfl (Nat.le_refl _) (Nat.le_refl _) K0
def fX11_purse (a1 : Int32) (a2 : Int32) (I : ab_I) (P : ab_P) : Option (Int32 × ab_I) :=
  (fX9_isPerson a1 I).bind fun u1 =>
  if u1 = 0 then
    fX11_purse_21 a1 a2 P I
  else
    (fX11_within a2 (0 : Int32) (60 : Int32)).bind fun u2 =>
    if u2 = 0 then
      fX11_purse_21 a1 a2 P I
    else
      (P 0 12).bind fun z3 =>
      (fX1_passDays z3 a2 (0 : Int32) I).bind fun u4 =>
      ab_gd (ab_ix a1 6 = true) (
        some ((u4.2 (26 + 1) a1.toNatClampNeg), u4.2)
      )
set_option maxRecDepth 100000 in
theorem mX11_purse_ok {l : Launch} {G : ab_G} {S : ab_S} {I : ab_I} {J : ab_J} {P : ab_P} {Q : ab_Q} {a1 : Int32} {a2 : Int32} (hB : bz_B S P) {x : Int32 × ab_I} (H : fX11_purse a1 a2 I P = some x) (K0 : Q (some (.int x.1)) S x.2 J P) : ab_Call l G mX11_purse 6 [.ref 0, .int a1, .int a2] S I J P Q := by
  unfold fX11_purse at H
  refine ab_enter rfl (Nat.le_of_ble_eq_true rfl) (ab_wk (ls' := [some (.ref 0), some (.int a1), some (.int a2)]) (ab_le_some (ab_le_some (ab_le_some (ab_le_nil)))) ?_)
  refine ab_aload_n (z := 0) (by decide +kernel) rfl rfl ?_
  refine gX11_1 (ix := 19) (by decide +kernel) tw_409 (hB.1 0 _ rfl) (hB.2.1 1 (0, 1, 3) rfl) ?_
  refine ab_iload_n (z := 1) (by decide +kernel) rfl rfl ?_
  obtain ⟨u1, hu1, H⟩ := ab_bd_of H
  refine kvX9_isPerson (D := 0) (ix := 129) (by decide +kernel) tw_636 (hB.1 3 _ rfl) (by decide) (Nat.le_of_ble_eq_true rfl) (mX9_isPerson_ok hB hu1 ?_)
  change ab_WP l G mX11_purse 6 8 [some (.ref 0), some (.int a1), some (.int a2)] [.int u1] S I J P 0 0 Q
  refine ab_if_eq (off := 13) (tgt := 21) (by decide +kernel) rfl (fun hc => ?_) (fun hc => ?_)
  · replace H := ab_ifp H hc
    exact ab_wk (ab_le_some (ab_le_some (ab_le_some (ab_le_nil)))) (fX11_purse_21_ok hB H  K0)
  · replace H := ab_ifn H hc
    refine ab_iload_n (z := 2) (by decide +kernel) rfl rfl ?_
    refine ab_iconst (z := 0) (v := (0 : Int32)) (by decide +kernel) (by decide) ?_
    refine ab_bipush (z := 60) (v := (60 : Int32)) (by decide +kernel) (by decide) ?_
    obtain ⟨u2, hu2, H⟩ := ab_bd_of H
    refine ksX11_within (D := 0) (ix := 191) (by decide +kernel) tw_746 (by decide) (Nat.le_of_ble_eq_true rfl) (mX11_within_ok hB hu2 ?_)
    change ab_WP l G mX11_purse 6 18 [some (.ref 0), some (.int a1), some (.int a2)] [.int u2] S I J P 0 0 Q
    refine ab_if_ne (off := 5) (tgt := 23) (by decide +kernel) rfl (fun hc => ?_) (fun hc => ?_)
    · replace H := ab_ifn H hc
      refine ab_aload_n (z := 0) (by decide +kernel) rfl rfl ?_
      refine gX11_4 (ix := 46) (by decide +kernel) tw_412 (hB.1 0 _ rfl) (hB.2.1 4 (0, 4, 25) rfl) ?_
      refine ab_aload_n (z := 0) (by decide +kernel) rfl rfl ?_
      obtain ⟨z3, hz3, H⟩ := ab_bd_of H
      refine gX11_12 (ix := 89) (by decide +kernel) tw_420 (hB.1 0 _ rfl) hz3 ?_
      have sz3 := hB.2.2.1 _ hz3
      refine ab_iload_n (z := 2) (by decide +kernel) rfl rfl ?_
      refine ab_iconst (z := 0) (v := (0 : Int32)) (by decide +kernel) (by decide) ?_
      obtain ⟨u4, hu4, H⟩ := ab_bd_of H
      refine kvX1_passDays (D := 5) (ix := 215) (by decide +kernel) tw_782 (hB.1 25 _ rfl) (by decide) (Nat.le_of_ble_eq_true rfl) (mX1_passDays_ok hB sz3 hu4 ?_)
      change ab_WP l G mX11_purse 6 36 [some (.ref 0), some (.int a1), some (.int a2)] [.int u4.1] S u4.2 J P 0 0 Q
      refine ab_pop (by decide +kernel) rfl ?_
      refine ab_aload_n (z := 0) (by decide +kernel) rfl rfl ?_
      refine gX11_4 (ix := 46) (by decide +kernel) tw_412 (hB.1 0 _ rfl) (hB.2.1 4 (0, 4, 25) rfl) ?_
      refine gX1_2 (ix := 222) (by decide +kernel) tw_284 (hB.1 25 _ rfl) (hB.2.1 34 (25, 2, 26) rfl) ?_
      refine gX6_0 (ix := 133) (by decide +kernel) tw_237 (bz_st_26 hB).1 (bz_st_26 hB).2.2.2.2.1 ?_
      refine ab_iload_n (z := 1) (by decide +kernel) rfl rfl ?_
      obtain ⟨hg, H⟩ := ab_gd_of H
      refine ab_iald (ln := 6) (by decide +kernel) (bz_st_26 hB).2.1 (ab_ix_in hg) ?_
      obtain rfl := Option.some.inj H
      exact ab_iret (by decide +kernel) rfl (Nat.le_refl _) (Nat.le_refl _) K0
    · replace H := ab_ifp H hc
      exact ab_wk (ab_le_some (ab_le_some (ab_le_some (ab_le_nil)))) (fX11_purse_21_ok hB H  K0)
abbrev mX11_cost : ab_M := (yX11_cost, cX11_cost, 2, some .int, 0, 0)
def fX11_cost_27 (a1 : Int32) (P : ab_P) (s0 : Int32) (I : ab_I) : Option (Int32 × ab_I) :=
  some (s0, I)
set_option maxRecDepth 100000 in
theorem fX11_cost_27_ok {l : Launch} {G : ab_G} {S : ab_S} {I : ab_I} {J : ab_J} {P : ab_P} {Q : ab_Q} {a1 : Int32} {s0 : Int32} (hB : bz_B S P) {x : Int32 × ab_I} (H : fX11_cost_27 a1 P s0 I = some x) (K0 : Q (some (.int x.1)) S x.2 J P) : ab_WP l G mX11_cost 6 27 [some (.ref 0), some (.int a1)] [.int s0] S I J P 0 0 Q := by
  unfold fX11_cost_27 at H
  obtain rfl := Option.some.inj H
  exact ab_iret (by decide +kernel) rfl (Nat.le_refl _) (Nat.le_refl _) K0
def fX11_cost (a1 : Int32) (I : ab_I) (P : ab_P) : Option (Int32 × ab_I) :=
  (fX11_within a1 (0 : Int32) (60 : Int32)).bind fun u1 =>
  if u1 = 0 then
    fX11_cost_27 a1 P (-1 : Int32) I
  else
    (P 0 12).bind fun z2 =>
    (fX1_passDays z2 a1 (0 : Int32) I).bind fun u3 =>
    fX11_cost_27 a1 P u3.1 u3.2
set_option maxRecDepth 100000 in
theorem mX11_cost_ok {l : Launch} {G : ab_G} {S : ab_S} {I : ab_I} {J : ab_J} {P : ab_P} {Q : ab_Q} {a1 : Int32} (hB : bz_B S P) {x : Int32 × ab_I} (H : fX11_cost a1 I P = some x) (K0 : Q (some (.int x.1)) S x.2 J P) : ab_Call l G mX11_cost 6 [.ref 0, .int a1] S I J P Q := by
  unfold fX11_cost at H
  refine ab_enter rfl (Nat.le_of_ble_eq_true rfl) (ab_wk (ls' := [some (.ref 0), some (.int a1)]) (ab_le_some (ab_le_some (ab_le_nil))) ?_)
  refine ab_iload_n (z := 1) (by decide +kernel) rfl rfl ?_
  refine ab_iconst (z := 0) (v := (0 : Int32)) (by decide +kernel) (by decide) ?_
  refine ab_bipush (z := 60) (v := (60 : Int32)) (by decide +kernel) (by decide) ?_
  obtain ⟨u1, hu1, H⟩ := ab_bd_of H
  refine ksX11_within (D := 0) (ix := 191) (by decide +kernel) tw_746 (by decide) (Nat.le_of_ble_eq_true rfl) (mX11_within_ok hB hu1 ?_)
  change ab_WP l G mX11_cost 6 7 [some (.ref 0), some (.int a1)] [.int u1] S I J P 0 0 Q
  refine ab_if_eq (off := 19) (tgt := 26) (by decide +kernel) rfl (fun hc => ?_) (fun hc => ?_)
  · replace H := ab_ifp H hc
    refine ab_iconst (z := -1) (v := (-1 : Int32)) (by decide +kernel) (by decide) ?_
    exact ab_wk (ab_le_some (ab_le_some (ab_le_nil))) (fX11_cost_27_ok hB H  K0)
  · replace H := ab_ifn H hc
    refine ab_aload_n (z := 0) (by decide +kernel) rfl rfl ?_
    refine gX11_4 (ix := 46) (by decide +kernel) tw_412 (hB.1 0 _ rfl) (hB.2.1 4 (0, 4, 25) rfl) ?_
    refine ab_aload_n (z := 0) (by decide +kernel) rfl rfl ?_
    obtain ⟨z2, hz2, H⟩ := ab_bd_of H
    refine gX11_12 (ix := 89) (by decide +kernel) tw_420 (hB.1 0 _ rfl) hz2 ?_
    have sz2 := hB.2.2.1 _ hz2
    refine ab_iload_n (z := 1) (by decide +kernel) rfl rfl ?_
    refine ab_iconst (z := 0) (v := (0 : Int32)) (by decide +kernel) (by decide) ?_
    obtain ⟨u3, hu3, H⟩ := ab_bd_of H
    refine kvX1_passDays (D := 5) (ix := 215) (by decide +kernel) tw_782 (hB.1 25 _ rfl) (by decide) (Nat.le_of_ble_eq_true rfl) (mX1_passDays_ok hB sz2 hu3 ?_)
    change ab_WP l G mX11_cost 6 23 [some (.ref 0), some (.int a1)] [.int u3.1] S u3.2 J P 0 0 Q
    refine ab_goto (off := 4) (tgt := 27) (by decide +kernel) rfl ?_
    exact ab_wk (ab_le_some (ab_le_some (ab_le_nil))) (fX11_cost_27_ok hB H  K0)
abbrev mX3_lostByTried : ab_M := (yX3_lostByTried, cX3_lostByTried, 4, some .int, 0, 0)
theorem kvX3_lostByTried {l : Launch} {G : ab_G} {M : ab_M} {d pc : Nat} {ls : List (Option Value)} {st : List Value} {S : ab_S} {I : ab_I} {J : ab_J} {P : ab_P} {Q : ab_Q} {v0 : Value} {ix D r ln : Nat} (hd : decode M.2.1 pc = .ok (.invokevirtual ix, 3)) (h1 : Cond.methodLink M.1.cls ix mX3_lostByTried.1 ∈ ab_good) (hs : S[r]? = some (8, ln)) (hdg : D + 1 ≤ d) (hsum : (st.map fun v => v.category).sum ≤ 8) (kk : ab_Call l G mX3_lostByTried D (.ref r :: [v0]) S I J P (fun v S' I' J' P' => ab_WP l G M d (pc + 3) ls (ab_psh v st) S' I' J' P' 0 0 Q)) : ab_WP l G M d pc ls (v0 :: .ref r :: st) S I J P 0 0 Q := bz_kv (g := mX3_lostByTried) (as := [v0]) (cc := 3) rfl hd h1 tw_804 tw_p20 tw_10 tw_805 ⟨by decide +kernel, by decide +kernel, (by decide +kernel : (parseMethodDescriptor mX3_lostByTried.1.desc).map (fun d => d.parameters.length) = some 1)⟩ (by decide) rfl rfl rfl hdg hsum hs kk
def fX3_lostByTried_50 (q1 : Nat) (a2 : Int32) (I : ab_I) : Option (Int32 × ab_I) :=
  some (a2, I)
set_option maxRecDepth 100000 in
theorem fX3_lostByTried_50_ok {l : Launch} {G : ab_G} {S : ab_S} {I : ab_I} {J : ab_J} {P : ab_P} {Q : ab_Q} {q1 : Nat} {a2 : Int32} (hB : bz_B S P) (hq1 : bz_st S P q1) {x : Int32 × ab_I} (H : fX3_lostByTried_50 q1 a2 I = some x) (K0 : Q (some (.int x.1)) S x.2 J P) : ab_WP l G mX3_lostByTried 4 50 [some (.ref 34), some (.ref q1), some (.int a2), none] [] S I J P 0 0 Q := by
  unfold fX3_lostByTried_50 at H
  refine ab_iload_n (z := 2) (by decide +kernel) rfl rfl ?_
  obtain rfl := Option.some.inj H
  exact ab_iret (by decide +kernel) rfl (Nat.le_refl _) (Nat.le_refl _) K0
def fX3_lostByTried_12 (q1 : Nat) (a2 : Int32) (a3 : Int32) (I : ab_I) : Option ((Int32 × Int32 × ab_I) ⊕ (Int32 × ab_I)) :=
  if (I 3 5) ≤ a3 then
    (fX3_lostByTried_50 q1 a2 I).map .inr
  else
    ab_gd (ab_ix a3 6 = true) (
      (fX5_ringBell 35 (I 39 a3.toNatClampNeg) (0 : Int32) I).bind fun u3 =>
      some (.inl ((a2 + u3.1), (a3 + (1 : Int32)), u3.2))
    )
set_option maxRecDepth 100000 in
theorem fX3_lostByTried_12_ok {l : Launch} {G : ab_G} {S : ab_S} {I : ab_I} {J : ab_J} {P : ab_P} {Q : ab_Q} {q1 : Nat} {a2 : Int32} {a3 : Int32} (hB : bz_B S P) (hq1 : bz_st S P q1) {x : ((Int32 × Int32 × ab_I) ⊕ (Int32 × ab_I))} (H : fX3_lostByTried_12 q1 a2 a3 I = some x) (K1 : ∀ s, x = (.inl s) → ab_WP l G mX3_lostByTried 4 12 [some (.ref 34), some (.ref q1), some (.int s.1), some (.int s.2.1)] [] S s.2.2 J P 0 0 Q) (K0 : ∀ r, x = (.inr r) → Q (some (.int r.1)) S r.2 J P) : ab_WP l G mX3_lostByTried 4 12 [some (.ref 34), some (.ref q1), some (.int a2), some (.int a3)] [] S I J P 0 0 Q := by
  unfold fX3_lostByTried_12 at H
  refine ab_iload_n (z := 3) (by decide +kernel) rfl rfl ?_
  refine ab_aload_n (z := 0) (by decide +kernel) rfl rfl ?_
  refine gX3_0 (ix := 32) (by decide +kernel) tw_313 (hB.1 34 _ rfl) (hB.2.1 42 (34, 0, 3) rfl) ?_
  refine gX9_5 (ix := 40) (by decide +kernel) tw_93 (hB.1 3 _ rfl) ?_
  refine ab_icmp_ge (off := 30) (tgt := 50) (by decide +kernel) rfl (fun hc => ?_) (fun hc => ?_)
  · replace H := ab_ifp H hc
    obtain ⟨y2, Hy, hx⟩ := ab_mp_of H
    subst hx
    replace H := Hy
    exact ab_wk (ab_le_some (ab_le_some (ab_le_some (ab_le_none (ab_le_nil))))) (fX3_lostByTried_50_ok hB hq1 H  (K0 _ rfl))
  · replace H := ab_ifn H hc
    refine ab_iload_n (z := 2) (by decide +kernel) rfl rfl ?_
    refine ab_aload_n (z := 0) (by decide +kernel) rfl rfl ?_
    refine gX3_1 (ix := 36) (by decide +kernel) tw_314 (hB.1 34 _ rfl) (hB.2.1 43 (34, 1, 23) rfl) ?_
    refine ab_aload_n (z := 0) (by decide +kernel) rfl rfl ?_
    refine gX3_2 (ix := 12) (by decide +kernel) tw_315 (hB.1 34 _ rfl) (hB.2.1 44 (34, 2, 35) rfl) ?_
    refine ab_aload_n (z := 0) (by decide +kernel) rfl rfl ?_
    refine gX3_3 (ix := 18) (by decide +kernel) tw_316 (hB.1 34 _ rfl) (hB.2.1 45 (34, 3, 39) rfl) ?_
    refine ab_iload_n (z := 3) (by decide +kernel) rfl rfl ?_
    obtain ⟨hg, H⟩ := ab_gd_of H
    refine ab_iald (ln := 6) (by decide +kernel) (hB.1 39 _ rfl) (ab_ix_in hg) ?_
    refine ab_iconst (z := 0) (v := (0 : Int32)) (by decide +kernel) (by decide) ?_
    obtain ⟨u3, hu3, H⟩ := ab_bd_of H
    refine kvX5_ringBell (D := 3) (ix := 62) (by decide +kernel) tw_807 (hB.1 23 _ rfl) (by decide) (Nat.le_of_ble_eq_true rfl) (mX5_ringBell_ok hB (bz_st_35 hB) hu3 ?_)
    change ab_WP l G mX3_lostByTried 4 42 [some (.ref 34), some (.ref q1), some (.int a2), some (.int a3)] [.int u3.1, .int a2] S u3.2 J P 0 0 Q
    refine ab_iadd (by decide +kernel) ?_
    refine ab_istore_n (z := 2) (by decide +kernel) rfl (by decide) rfl ?_
    refine ab_ls (ls' := [some (.ref 34), some (.ref q1), some (.int (a2 + u3.1)), some (.int a3)]) rfl ?_
    refine ab_iinc (i := 3) (z := 1) (v := (a3 + (1 : Int32))) (by decide +kernel) rfl rfl (by decide) rfl ?_
    refine ab_ls (ls' := [some (.ref 34), some (.ref q1), some (.int (a2 + u3.1)), some (.int (a3 + (1 : Int32)))]) rfl ?_
    refine ab_goto (off := -35) (tgt := 12) (by decide +kernel) rfl ?_
    exact ab_wk (ab_le_some (ab_le_some (ab_le_some (ab_le_some (ab_le_nil))))) (K1 ((a2 + u3.1), (a3 + (1 : Int32)), u3.2) (Option.some.inj H).symm)
def fX3_lostByTried (q1 : Nat) (I : ab_I) : Option (Int32 × ab_I) :=
  (fX6_copyFrom 35 q1 I).bind fun u1 =>
  ab_it (fun s => fX3_lostByTried_12 q1 s.1 s.2.1 s.2.2) 5000 ((0 : Int32), (0 : Int32), u1)
set_option maxRecDepth 100000 in
theorem mX3_lostByTried_ok {l : Launch} {G : ab_G} {S : ab_S} {I : ab_I} {J : ab_J} {P : ab_P} {Q : ab_Q} {q1 : Nat} (hB : bz_B S P) (hq1 : bz_st S P q1) {x : Int32 × ab_I} (H : fX3_lostByTried q1 I = some x) (K0 : Q (some (.int x.1)) S x.2 J P) : ab_Call l G mX3_lostByTried 4 [.ref 34, .ref q1] S I J P Q := by
  unfold fX3_lostByTried at H
  refine ab_enter rfl (Nat.le_of_ble_eq_true rfl) (ab_wk (ls' := [some (.ref 34), some (.ref q1), none, none]) (ab_le_some (ab_le_some (ab_le_non0 (ab_le_non0 ab_le_nil)))) ?_)
  refine ab_aload_n (z := 0) (by decide +kernel) rfl rfl ?_
  refine gX3_2 (ix := 12) (by decide +kernel) tw_315 (hB.1 34 _ rfl) (hB.2.1 44 (34, 2, 35) rfl) ?_
  refine ab_aload_n (z := 1) (by decide +kernel) rfl rfl ?_
  obtain ⟨u1, hu1, H⟩ := ab_bd_of H
  refine kvX6_copyFrom (D := 1) (ix := 58) (by decide +kernel) tw_806 (bz_st_35 hB).1 (by decide) (Nat.le_of_ble_eq_true rfl) (mX6_copyFrom_ok hB (bz_st_35 hB) hq1 hu1 ?_)
  change ab_WP l G mX3_lostByTried 4 8 [some (.ref 34), some (.ref q1), none, none] [] S u1 J P 0 0 Q
  refine ab_iconst (z := 0) (v := (0 : Int32)) (by decide +kernel) (by decide) ?_
  refine ab_istore_n (z := 2) (by decide +kernel) rfl (by decide) rfl ?_
  refine ab_ls (ls' := [some (.ref 34), some (.ref q1), some (.int (0 : Int32)), none]) rfl ?_
  refine ab_iconst (z := 0) (v := (0 : Int32)) (by decide +kernel) (by decide) ?_
  refine ab_istore_n (z := 3) (by decide +kernel) rfl (by decide) rfl ?_
  refine ab_ls (ls' := [some (.ref 34), some (.ref q1), some (.int (0 : Int32)), some (.int (0 : Int32))]) rfl ?_
  exact ab_wk (ab_le_some (ab_le_some (ab_le_some (ab_le_some (ab_le_nil))))) (ab_iter (W := fun s => ab_WP l G mX3_lostByTried 4 12 [some (.ref 34), some (.ref q1), some (.int s.1), some (.int s.2.1)] [] S s.2.2 J P 0 0 Q) (fun s y hb h1 h2 => fX3_lostByTried_12_ok hB hq1 hb h1 (fun r e => by have e2 := h2 _ e; subst e2; exact K0)) 5000 ((0 : Int32), (0 : Int32), u1) H)
abbrev mX3_swapTried : ab_M := (yX3_swapTried, cX3_swapTried, 4, none, 0, 0)
theorem kvX3_swapTried {l : Launch} {G : ab_G} {M : ab_M} {d pc : Nat} {ls : List (Option Value)} {st : List Value} {S : ab_S} {I : ab_I} {J : ab_J} {P : ab_P} {Q : ab_Q} {v0 v1 : Value} {ix D r ln : Nat} (hd : decode M.2.1 pc = .ok (.invokevirtual ix, 3)) (h1 : Cond.methodLink M.1.cls ix mX3_swapTried.1 ∈ ab_good) (hs : S[r]? = some (8, ln)) (hdg : D + 1 ≤ d) (hsum : (st.map fun v => v.category).sum ≤ 8) (kk : ab_Call l G mX3_swapTried D (.ref r :: [v0, v1]) S I J P (fun v S' I' J' P' => ab_WP l G M d (pc + 3) ls (ab_psh v st) S' I' J' P' 0 0 Q)) : ab_WP l G M d pc ls (v1 :: v0 :: .ref r :: st) S I J P 0 0 Q := bz_kv (g := mX3_swapTried) (as := [v0, v1]) (cc := 3) rfl hd h1 tw_815 tw_p22 tw_10 tw_816 ⟨by decide +kernel, by decide +kernel, (by decide +kernel : (parseMethodDescriptor mX3_swapTried.1.desc).map (fun d => d.parameters.length) = some 2)⟩ (by decide) rfl rfl rfl hdg hsum hs kk
def fX3_swapTried (a1 : Int32) (a2 : Int32) (I : ab_I) : Option ab_I :=
  ab_gd (ab_ix a1 6 = true) (
    ab_gd (ab_ix a2 6 = true) (
      ab_gd (ab_ix a1 6 = true) (
        ab_gd (ab_ix a2 6 = true) (
          some (ab_u (ab_u I 39 a1.toNatClampNeg (I 39 a2.toNatClampNeg)) 39 a2.toNatClampNeg (I 39 a1.toNatClampNeg))
        )
      )
    )
  )
set_option maxRecDepth 100000 in
theorem mX3_swapTried_ok {l : Launch} {G : ab_G} {S : ab_S} {I : ab_I} {J : ab_J} {P : ab_P} {Q : ab_Q} {a1 : Int32} {a2 : Int32} (hB : bz_B S P) {x : ab_I} (H : fX3_swapTried a1 a2 I = some x) (K0 : Q none S x J P) : ab_Call l G mX3_swapTried 0 [.ref 34, .int a1, .int a2] S I J P Q := by
  unfold fX3_swapTried at H
  refine ab_enter rfl (Nat.le_of_ble_eq_true rfl) (ab_wk (ls' := [some (.ref 34), some (.int a1), some (.int a2), none]) (ab_le_some (ab_le_some (ab_le_some (ab_le_non0 ab_le_nil)))) ?_)
  refine ab_aload_n (z := 0) (by decide +kernel) rfl rfl ?_
  refine gX3_3 (ix := 18) (by decide +kernel) tw_316 (hB.1 34 _ rfl) (hB.2.1 45 (34, 3, 39) rfl) ?_
  refine ab_iload_n (z := 1) (by decide +kernel) rfl rfl ?_
  obtain ⟨hg, H⟩ := ab_gd_of H
  refine ab_iald (ln := 6) (by decide +kernel) (hB.1 39 _ rfl) (ab_ix_in hg) ?_
  refine ab_istore_n (z := 3) (by decide +kernel) rfl (by decide) rfl ?_
  refine ab_ls (ls' := [some (.ref 34), some (.int a1), some (.int a2), some (.int (I 39 a1.toNatClampNeg))]) rfl ?_
  refine ab_aload_n (z := 0) (by decide +kernel) rfl rfl ?_
  refine gX3_3 (ix := 18) (by decide +kernel) tw_316 (hB.1 34 _ rfl) (hB.2.1 45 (34, 3, 39) rfl) ?_
  refine ab_iload_n (z := 1) (by decide +kernel) rfl rfl ?_
  refine ab_aload_n (z := 0) (by decide +kernel) rfl rfl ?_
  refine gX3_3 (ix := 18) (by decide +kernel) tw_316 (hB.1 34 _ rfl) (hB.2.1 45 (34, 3, 39) rfl) ?_
  refine ab_iload_n (z := 2) (by decide +kernel) rfl rfl ?_
  obtain ⟨hg, H⟩ := ab_gd_of H
  refine ab_iald (ln := 6) (by decide +kernel) (hB.1 39 _ rfl) (ab_ix_in hg) ?_
  obtain ⟨hg, H⟩ := ab_gd_of H
  refine ab_iast (ln := 6) (by decide +kernel) (hB.1 39 _ rfl) (ab_ix_in hg) ?_
  refine ab_aload_n (z := 0) (by decide +kernel) rfl rfl ?_
  refine gX3_3 (ix := 18) (by decide +kernel) tw_316 (hB.1 34 _ rfl) (hB.2.1 45 (34, 3, 39) rfl) ?_
  refine ab_iload_n (z := 2) (by decide +kernel) rfl rfl ?_
  refine ab_iload_n (z := 3) (by decide +kernel) rfl rfl ?_
  obtain ⟨hg, H⟩ := ab_gd_of H
  refine ab_iast (ln := 6) (by decide +kernel) (hB.1 39 _ rfl) (ab_ix_in hg) ?_
  obtain rfl := Option.some.inj H
  exact ab_vret (by decide +kernel) rfl (Nat.le_refl _) (Nat.le_refl _) K0
abbrev mX3_nextOrder : ab_M := (yX3_nextOrder, cX3_nextOrder, 4, none, 0, 0)
theorem kvX3_nextOrder {l : Launch} {G : ab_G} {M : ab_M} {d pc : Nat} {ls : List (Option Value)} {st : List Value} {S : ab_S} {I : ab_I} {J : ab_J} {P : ab_P} {Q : ab_Q} {ix D r ln : Nat} (hd : decode M.2.1 pc = .ok (.invokevirtual ix, 3)) (h1 : Cond.methodLink M.1.cls ix mX3_nextOrder.1 ∈ ab_good) (hs : S[r]? = some (8, ln)) (hdg : D + 1 ≤ d) (hsum : (st.map fun v => v.category).sum ≤ 8) (kk : ab_Call l G mX3_nextOrder D (.ref r :: []) S I J P (fun v S' I' J' P' => ab_WP l G M d (pc + 3) ls (ab_psh v st) S' I' J' P' 0 0 Q)) : ab_WP l G M d pc ls (.ref r :: st) S I J P 0 0 Q := bz_kv (g := mX3_nextOrder) (as := []) (cc := 3) rfl hd h1 tw_811 tw_p21 tw_10 tw_812 ⟨by decide +kernel, by decide +kernel, (by decide +kernel : (parseMethodDescriptor mX3_nextOrder.1.desc).map (fun d => d.parameters.length) = some 0)⟩ (by decide) rfl rfl rfl hdg hsum hs kk
def fX3_nextOrder_117 (I : ab_I) : Option ab_I :=
  some I
set_option maxRecDepth 100000 in
theorem fX3_nextOrder_117_ok {l : Launch} {G : ab_G} {S : ab_S} {I : ab_I} {J : ab_J} {P : ab_P} {Q : ab_Q} (hB : bz_B S P) {x : ab_I} (H : fX3_nextOrder_117 I = some x) (K0 : Q none S x J P) : ab_WP l G mX3_nextOrder 1 117 [some (.ref 34), none, none, none] [] S I J P 0 0 Q := by
  unfold fX3_nextOrder_117 at H
  obtain rfl := Option.some.inj H
  exact ab_vret (by decide +kernel) rfl (Nat.le_refl _) (Nat.le_refl _) K0
def fX3_nextOrder_97 (a2 : Int32) (a3 : Int32) (I : ab_I) : Option ((Int32 × Int32 × ab_I) ⊕ ab_I) :=
  if a3 ≤ a2 then
    (fX3_nextOrder_117 I).map .inr
  else
    (fX3_swapTried a2 a3 I).bind fun u6 =>
    some (.inl ((a2 + (1 : Int32)), (a3 + (-1 : Int32)), u6))
set_option maxRecDepth 100000 in
theorem fX3_nextOrder_97_ok {l : Launch} {G : ab_G} {S : ab_S} {I : ab_I} {J : ab_J} {P : ab_P} {Q : ab_Q} {a2 : Int32} {a3 : Int32} (hB : bz_B S P) {x : ((Int32 × Int32 × ab_I) ⊕ ab_I)} (H : fX3_nextOrder_97 a2 a3 I = some x) (K1 : ∀ s, x = (.inl s) → ab_WP l G mX3_nextOrder 1 97 [some (.ref 34), none, some (.int s.1), some (.int s.2.1)] [] S s.2.2 J P 0 0 Q) (K0 : ∀ r, x = (.inr r) → Q none S r J P) : ab_WP l G mX3_nextOrder 1 97 [some (.ref 34), none, some (.int a2), some (.int a3)] [] S I J P 0 0 Q := by
  unfold fX3_nextOrder_97 at H
  refine ab_iload_n (z := 3) (by decide +kernel) rfl rfl ?_
  refine ab_iload_n (z := 2) (by decide +kernel) rfl rfl ?_
  refine ab_icmp_le (off := 18) (tgt := 117) (by decide +kernel) rfl (fun hc => ?_) (fun hc => ?_)
  · replace H := ab_ifp H hc
    obtain ⟨y5, Hy, hx⟩ := ab_mp_of H
    subst hx
    replace H := Hy
    exact ab_wk (ab_le_some (ab_le_none (ab_le_none (ab_le_none (ab_le_nil))))) (fX3_nextOrder_117_ok hB H  (K0 _ rfl))
  · replace H := ab_ifn H hc
    refine ab_aload_n (z := 0) (by decide +kernel) rfl rfl ?_
    refine ab_iload_n (z := 2) (by decide +kernel) rfl rfl ?_
    refine ab_iload_n (z := 3) (by decide +kernel) rfl rfl ?_
    obtain ⟨u6, hu6, H⟩ := ab_bd_of H
    refine kvX3_swapTried (D := 0) (ix := 68) (by decide +kernel) tw_813 (hB.1 34 _ rfl) (by decide) (Nat.le_of_ble_eq_true rfl) (mX3_swapTried_ok hB hu6 ?_)
    change ab_WP l G mX3_nextOrder 1 108 [some (.ref 34), none, some (.int a2), some (.int a3)] [] S u6 J P 0 0 Q
    refine ab_iinc (i := 2) (z := 1) (v := (a2 + (1 : Int32))) (by decide +kernel) rfl rfl (by decide) rfl ?_
    refine ab_ls (ls' := [some (.ref 34), none, some (.int (a2 + (1 : Int32))), some (.int a3)]) rfl ?_
    refine ab_iinc (i := 3) (z := -1) (v := (a3 + (-1 : Int32))) (by decide +kernel) rfl rfl (by decide) rfl ?_
    refine ab_ls (ls' := [some (.ref 34), none, some (.int (a2 + (1 : Int32))), some (.int (a3 + (-1 : Int32)))]) rfl ?_
    refine ab_goto (off := -17) (tgt := 97) (by decide +kernel) rfl ?_
    exact ab_wk (ab_le_some (ab_le_none (ab_le_some (ab_le_some (ab_le_nil))))) (K1 ((a2 + (1 : Int32)), (a3 + (-1 : Int32)), u6) (Option.some.inj H).symm)
def fX3_nextOrder_83 (a1 : Int32) (I : ab_I) : Option ab_I :=
  ab_it (fun s => fX3_nextOrder_97 s.1 s.2.1 s.2.2) 5000 ((a1 + (1 : Int32)), ((I 3 5) - (1 : Int32)), I)
set_option maxRecDepth 100000 in
theorem fX3_nextOrder_83_ok {l : Launch} {G : ab_G} {S : ab_S} {I : ab_I} {J : ab_J} {P : ab_P} {Q : ab_Q} {a1 : Int32} (hB : bz_B S P) {x : ab_I} (H : fX3_nextOrder_83 a1 I = some x) (K0 : Q none S x J P) : ab_WP l G mX3_nextOrder 1 83 [some (.ref 34), some (.int a1), none, none] [] S I J P 0 0 Q := by
  unfold fX3_nextOrder_83 at H
  refine ab_iload_n (z := 1) (by decide +kernel) rfl rfl ?_
  refine ab_iconst (z := 1) (v := (1 : Int32)) (by decide +kernel) (by decide) ?_
  refine ab_iadd (by decide +kernel) ?_
  refine ab_istore_n (z := 2) (by decide +kernel) rfl (by decide) rfl ?_
  refine ab_ls (ls' := [some (.ref 34), some (.int a1), some (.int (a1 + (1 : Int32))), none]) rfl ?_
  refine ab_aload_n (z := 0) (by decide +kernel) rfl rfl ?_
  refine gX3_0 (ix := 32) (by decide +kernel) tw_313 (hB.1 34 _ rfl) (hB.2.1 42 (34, 0, 3) rfl) ?_
  refine gX9_5 (ix := 40) (by decide +kernel) tw_93 (hB.1 3 _ rfl) ?_
  refine ab_iconst (z := 1) (v := (1 : Int32)) (by decide +kernel) (by decide) ?_
  refine ab_isub (by decide +kernel) ?_
  refine ab_istore_n (z := 3) (by decide +kernel) rfl (by decide) rfl ?_
  refine ab_ls (ls' := [some (.ref 34), some (.int a1), some (.int (a1 + (1 : Int32))), some (.int ((I 3 5) - (1 : Int32)))]) rfl ?_
  exact ab_wk (ab_le_some (ab_le_none (ab_le_some (ab_le_some (ab_le_nil))))) (ab_iter (W := fun s => ab_WP l G mX3_nextOrder 1 97 [some (.ref 34), none, some (.int s.1), some (.int s.2.1)] [] S s.2.2 J P 0 0 Q) (fun s y hb h1 h2 => fX3_nextOrder_97_ok hB hb h1 (fun r e => by have e2 := h2 _ e; subst e2; exact K0)) 5000 ((a1 + (1 : Int32)), ((I 3 5) - (1 : Int32)), I) H)
def fX3_nextOrder_77 (a1 : Int32) (a2 : Int32) (I : ab_I) : Option ab_I :=
  (fX3_swapTried a1 a2 I).bind fun u7 =>
  fX3_nextOrder_83 a1 u7
set_option maxRecDepth 100000 in
theorem fX3_nextOrder_77_ok {l : Launch} {G : ab_G} {S : ab_S} {I : ab_I} {J : ab_J} {P : ab_P} {Q : ab_Q} {a1 : Int32} {a2 : Int32} (hB : bz_B S P) {x : ab_I} (H : fX3_nextOrder_77 a1 a2 I = some x) (K0 : Q none S x J P) : ab_WP l G mX3_nextOrder 1 77 [some (.ref 34), some (.int a1), some (.int a2), none] [] S I J P 0 0 Q := by
  unfold fX3_nextOrder_77 at H
  refine ab_aload_n (z := 0) (by decide +kernel) rfl rfl ?_
  refine ab_iload_n (z := 1) (by decide +kernel) rfl rfl ?_
  refine ab_iload_n (z := 2) (by decide +kernel) rfl rfl ?_
  obtain ⟨u7, hu7, H⟩ := ab_bd_of H
  refine kvX3_swapTried (D := 0) (ix := 68) (by decide +kernel) tw_813 (hB.1 34 _ rfl) (by decide) (Nat.le_of_ble_eq_true rfl) (mX3_swapTried_ok hB hu7 ?_)
  change ab_WP l G mX3_nextOrder 1 83 [some (.ref 34), some (.int a1), some (.int a2), none] [] S u7 J P 0 0 Q
  exact ab_wk (ab_le_some (ab_le_some (ab_le_none (ab_le_none (ab_le_nil))))) (fX3_nextOrder_83_ok hB H  K0)
def fX3_nextOrder_51 (a1 : Int32) (a2 : Int32) (I : ab_I) : Option ((Int32 × Int32 × ab_I) ⊕ ab_I) :=
  if a2 ≤ a1 then
    (fX3_nextOrder_77 a1 a2 I).map .inr
  else
    ab_gd (ab_ix a2 6 = true) (
      ab_gd (ab_ix a1 6 = true) (
        if (I 39 a1.toNatClampNeg) ≤ (I 39 a2.toNatClampNeg) then
          (fX3_nextOrder_77 a1 a2 I).map .inr
        else
          some (.inl (a1, (a2 + (-1 : Int32)), I))
      )
    )
set_option maxRecDepth 100000 in
theorem fX3_nextOrder_51_ok {l : Launch} {G : ab_G} {S : ab_S} {I : ab_I} {J : ab_J} {P : ab_P} {Q : ab_Q} {a1 : Int32} {a2 : Int32} (hB : bz_B S P) {x : ((Int32 × Int32 × ab_I) ⊕ ab_I)} (H : fX3_nextOrder_51 a1 a2 I = some x) (K1 : ∀ s, x = (.inl s) → ab_WP l G mX3_nextOrder 1 51 [some (.ref 34), some (.int s.1), some (.int s.2.1), none] [] S s.2.2 J P 0 0 Q) (K0 : ∀ r, x = (.inr r) → Q none S r J P) : ab_WP l G mX3_nextOrder 1 51 [some (.ref 34), some (.int a1), some (.int a2), none] [] S I J P 0 0 Q := by
  unfold fX3_nextOrder_51 at H
  refine ab_iload_n (z := 2) (by decide +kernel) rfl rfl ?_
  refine ab_iload_n (z := 1) (by decide +kernel) rfl rfl ?_
  refine ab_icmp_le (off := 24) (tgt := 77) (by decide +kernel) rfl (fun hc => ?_) (fun hc => ?_)
  · replace H := ab_ifp H hc
    obtain ⟨y3, Hy, hx⟩ := ab_mp_of H
    subst hx
    replace H := Hy
    exact ab_wk (ab_le_some (ab_le_some (ab_le_some (ab_le_none (ab_le_nil))))) (fX3_nextOrder_77_ok hB H  (K0 _ rfl))
  · replace H := ab_ifn H hc
    refine ab_aload_n (z := 0) (by decide +kernel) rfl rfl ?_
    refine gX3_3 (ix := 18) (by decide +kernel) tw_316 (hB.1 34 _ rfl) (hB.2.1 45 (34, 3, 39) rfl) ?_
    refine ab_iload_n (z := 2) (by decide +kernel) rfl rfl ?_
    obtain ⟨hg, H⟩ := ab_gd_of H
    refine ab_iald (ln := 6) (by decide +kernel) (hB.1 39 _ rfl) (ab_ix_in hg) ?_
    refine ab_aload_n (z := 0) (by decide +kernel) rfl rfl ?_
    refine gX3_3 (ix := 18) (by decide +kernel) tw_316 (hB.1 34 _ rfl) (hB.2.1 45 (34, 3, 39) rfl) ?_
    refine ab_iload_n (z := 1) (by decide +kernel) rfl rfl ?_
    obtain ⟨hg, H⟩ := ab_gd_of H
    refine ab_iald (ln := 6) (by decide +kernel) (hB.1 39 _ rfl) (ab_ix_in hg) ?_
    refine ab_icmp_ge (off := 9) (tgt := 77) (by decide +kernel) rfl (fun hc => ?_) (fun hc => ?_)
    · replace H := ab_ifp H hc
      obtain ⟨y4, Hy, hx⟩ := ab_mp_of H
      subst hx
      replace H := Hy
      exact ab_wk (ab_le_some (ab_le_some (ab_le_some (ab_le_none (ab_le_nil))))) (fX3_nextOrder_77_ok hB H  (K0 _ rfl))
    · replace H := ab_ifn H hc
      refine ab_iinc (i := 2) (z := -1) (v := (a2 + (-1 : Int32))) (by decide +kernel) rfl rfl (by decide) rfl ?_
      refine ab_ls (ls' := [some (.ref 34), some (.int a1), some (.int (a2 + (-1 : Int32))), none]) rfl ?_
      refine ab_goto (off := -23) (tgt := 51) (by decide +kernel) rfl ?_
      exact ab_wk (ab_le_some (ab_le_some (ab_le_some (ab_le_none (ab_le_nil))))) (K1 (a1, (a2 + (-1 : Int32)), I) (Option.some.inj H).symm)
def fX3_nextOrder_37 (a1 : Int32) (I : ab_I) : Option ab_I :=
  if a1 < 0 then
    fX3_nextOrder_83 a1 I
  else
    ab_it (fun s => fX3_nextOrder_51 s.1 s.2.1 s.2.2) 5000 (a1, ((I 3 5) - (1 : Int32)), I)
set_option maxRecDepth 100000 in
theorem fX3_nextOrder_37_ok {l : Launch} {G : ab_G} {S : ab_S} {I : ab_I} {J : ab_J} {P : ab_P} {Q : ab_Q} {a1 : Int32} (hB : bz_B S P) {x : ab_I} (H : fX3_nextOrder_37 a1 I = some x) (K0 : Q none S x J P) : ab_WP l G mX3_nextOrder 1 37 [some (.ref 34), some (.int a1), none, none] [] S I J P 0 0 Q := by
  unfold fX3_nextOrder_37 at H
  refine ab_iload_n (z := 1) (by decide +kernel) rfl rfl ?_
  refine ab_if_lt (off := 45) (tgt := 83) (by decide +kernel) rfl (fun hc => ?_) (fun hc => ?_)
  · replace H := ab_ifp H hc
    exact ab_wk (ab_le_some (ab_le_some (ab_le_none (ab_le_none (ab_le_nil))))) (fX3_nextOrder_83_ok hB H  K0)
  · replace H := ab_ifn H hc
    refine ab_aload_n (z := 0) (by decide +kernel) rfl rfl ?_
    refine gX3_0 (ix := 32) (by decide +kernel) tw_313 (hB.1 34 _ rfl) (hB.2.1 42 (34, 0, 3) rfl) ?_
    refine gX9_5 (ix := 40) (by decide +kernel) tw_93 (hB.1 3 _ rfl) ?_
    refine ab_iconst (z := 1) (v := (1 : Int32)) (by decide +kernel) (by decide) ?_
    refine ab_isub (by decide +kernel) ?_
    refine ab_istore_n (z := 2) (by decide +kernel) rfl (by decide) rfl ?_
    refine ab_ls (ls' := [some (.ref 34), some (.int a1), some (.int ((I 3 5) - (1 : Int32))), none]) rfl ?_
    exact ab_wk (ab_le_some (ab_le_some (ab_le_some (ab_le_none (ab_le_nil))))) (ab_iter (W := fun s => ab_WP l G mX3_nextOrder 1 51 [some (.ref 34), some (.int s.1), some (.int s.2.1), none] [] S s.2.2 J P 0 0 Q) (fun s y hb h1 h2 => fX3_nextOrder_51_ok hB hb h1 (fun r e => by have e2 := h2 _ e; subst e2; exact K0)) 5000 (a1, ((I 3 5) - (1 : Int32)), I) H)
def fX3_nextOrder_10 (a1 : Int32) (I : ab_I) : Option ((Int32 × ab_I) ⊕ ab_I) :=
  if a1 < 0 then
    (fX3_nextOrder_37 a1 I).map .inr
  else
    ab_gd (ab_ix a1 6 = true) (
      ab_gd (ab_ix (a1 + (1 : Int32)) 6 = true) (
        if (I 39 a1.toNatClampNeg) ≤ (I 39 ((a1 + (1 : Int32)).toNatClampNeg)) then
          (fX3_nextOrder_37 a1 I).map .inr
        else
          some (.inl ((a1 + (-1 : Int32)), I))
      )
    )
set_option maxRecDepth 100000 in
theorem fX3_nextOrder_10_ok {l : Launch} {G : ab_G} {S : ab_S} {I : ab_I} {J : ab_J} {P : ab_P} {Q : ab_Q} {a1 : Int32} (hB : bz_B S P) {x : ((Int32 × ab_I) ⊕ ab_I)} (H : fX3_nextOrder_10 a1 I = some x) (K1 : ∀ s, x = (.inl s) → ab_WP l G mX3_nextOrder 1 10 [some (.ref 34), some (.int s.1), none, none] [] S s.2 J P 0 0 Q) (K0 : ∀ r, x = (.inr r) → Q none S r J P) : ab_WP l G mX3_nextOrder 1 10 [some (.ref 34), some (.int a1), none, none] [] S I J P 0 0 Q := by
  unfold fX3_nextOrder_10 at H
  refine ab_iload_n (z := 1) (by decide +kernel) rfl rfl ?_
  refine ab_if_lt (off := 26) (tgt := 37) (by decide +kernel) rfl (fun hc => ?_) (fun hc => ?_)
  · replace H := ab_ifp H hc
    obtain ⟨y1, Hy, hx⟩ := ab_mp_of H
    subst hx
    replace H := Hy
    exact ab_wk (ab_le_some (ab_le_some (ab_le_none (ab_le_none (ab_le_nil))))) (fX3_nextOrder_37_ok hB H  (K0 _ rfl))
  · replace H := ab_ifn H hc
    refine ab_aload_n (z := 0) (by decide +kernel) rfl rfl ?_
    refine gX3_3 (ix := 18) (by decide +kernel) tw_316 (hB.1 34 _ rfl) (hB.2.1 45 (34, 3, 39) rfl) ?_
    refine ab_iload_n (z := 1) (by decide +kernel) rfl rfl ?_
    obtain ⟨hg, H⟩ := ab_gd_of H
    refine ab_iald (ln := 6) (by decide +kernel) (hB.1 39 _ rfl) (ab_ix_in hg) ?_
    refine ab_aload_n (z := 0) (by decide +kernel) rfl rfl ?_
    refine gX3_3 (ix := 18) (by decide +kernel) tw_316 (hB.1 34 _ rfl) (hB.2.1 45 (34, 3, 39) rfl) ?_
    refine ab_iload_n (z := 1) (by decide +kernel) rfl rfl ?_
    refine ab_iconst (z := 1) (v := (1 : Int32)) (by decide +kernel) (by decide) ?_
    refine ab_iadd (by decide +kernel) ?_
    obtain ⟨hg, H⟩ := ab_gd_of H
    refine ab_iald (ln := 6) (by decide +kernel) (hB.1 39 _ rfl) (ab_ix_in hg) ?_
    refine ab_icmp_le (off := 9) (tgt := 37) (by decide +kernel) rfl (fun hc => ?_) (fun hc => ?_)
    · replace H := ab_ifp H hc
      obtain ⟨y2, Hy, hx⟩ := ab_mp_of H
      subst hx
      replace H := Hy
      exact ab_wk (ab_le_some (ab_le_some (ab_le_none (ab_le_none (ab_le_nil))))) (fX3_nextOrder_37_ok hB H  (K0 _ rfl))
    · replace H := ab_ifn H hc
      refine ab_iinc (i := 1) (z := -1) (v := (a1 + (-1 : Int32))) (by decide +kernel) rfl rfl (by decide) rfl ?_
      refine ab_ls (ls' := [some (.ref 34), some (.int (a1 + (-1 : Int32))), none, none]) rfl ?_
      refine ab_goto (off := -24) (tgt := 10) (by decide +kernel) rfl ?_
      exact ab_wk (ab_le_some (ab_le_some (ab_le_none (ab_le_none (ab_le_nil))))) (K1 ((a1 + (-1 : Int32)), I) (Option.some.inj H).symm)
def fX3_nextOrder (I : ab_I) : Option ab_I :=
  ab_it (fun s => fX3_nextOrder_10 s.1 s.2) 5000 (((I 3 5) - (2 : Int32)), I)
set_option maxRecDepth 100000 in
theorem mX3_nextOrder_ok {l : Launch} {G : ab_G} {S : ab_S} {I : ab_I} {J : ab_J} {P : ab_P} {Q : ab_Q} (hB : bz_B S P) {x : ab_I} (H : fX3_nextOrder I = some x) (K0 : Q none S x J P) : ab_Call l G mX3_nextOrder 1 [.ref 34] S I J P Q := by
  unfold fX3_nextOrder at H
  refine ab_enter rfl (Nat.le_of_ble_eq_true rfl) (ab_wk (ls' := [some (.ref 34), none, none, none]) (ab_le_some (ab_le_non0 (ab_le_non0 (ab_le_non0 ab_le_nil)))) ?_)
  refine ab_aload_n (z := 0) (by decide +kernel) rfl rfl ?_
  refine gX3_0 (ix := 32) (by decide +kernel) tw_313 (hB.1 34 _ rfl) (hB.2.1 42 (34, 0, 3) rfl) ?_
  refine gX9_5 (ix := 40) (by decide +kernel) tw_93 (hB.1 3 _ rfl) ?_
  refine ab_iconst (z := 2) (v := (2 : Int32)) (by decide +kernel) (by decide) ?_
  refine ab_isub (by decide +kernel) ?_
  refine ab_istore_n (z := 1) (by decide +kernel) rfl (by decide) rfl ?_
  refine ab_ls (ls' := [some (.ref 34), some (.int ((I 3 5) - (2 : Int32))), none, none]) rfl ?_
  exact ab_wk (ab_le_some (ab_le_some (ab_le_none (ab_le_none (ab_le_nil))))) (ab_iter (W := fun s => ab_WP l G mX3_nextOrder 1 10 [some (.ref 34), some (.int s.1), none, none] [] S s.2 J P 0 0 Q) (fun s y hb h1 h2 => fX3_nextOrder_10_ok hB hb h1 (fun r e => by have e2 := h2 _ e; subst e2; exact K0)) 5000 (((I 3 5) - (2 : Int32)), I) H)
abbrev mX3_bestOrder : ab_M := (yX3_bestOrder, cX3_bestOrder, 6, some .int, 0, 0)
theorem kvX3_bestOrder {l : Launch} {G : ab_G} {M : ab_M} {d pc : Nat} {ls : List (Option Value)} {st : List Value} {S : ab_S} {I : ab_I} {J : ab_J} {P : ab_P} {Q : ab_Q} {v0 : Value} {ix D r ln : Nat} (hd : decode M.2.1 pc = .ok (.invokevirtual ix, 3)) (h1 : Cond.methodLink M.1.cls ix mX3_bestOrder.1 ∈ ab_good) (hs : S[r]? = some (8, ln)) (hdg : D + 1 ≤ d) (hsum : (st.map fun v => v.category).sum ≤ 8) (kk : ab_Call l G mX3_bestOrder D (.ref r :: [v0]) S I J P (fun v S' I' J' P' => ab_WP l G M d (pc + 3) ls (ab_psh v st) S' I' J' P' 0 0 Q)) : ab_WP l G M d pc ls (v0 :: .ref r :: st) S I J P 0 0 Q := bz_kv (g := mX3_bestOrder) (as := [v0]) (cc := 3) rfl hd h1 tw_799 tw_800 tw_10 tw_801 ⟨by decide +kernel, by decide +kernel, (by decide +kernel : (parseMethodDescriptor mX3_bestOrder.1.desc).map (fun d => d.parameters.length) = some 1)⟩ (by decide) rfl rfl rfl hdg hsum hs kk
def fX3_bestOrder_113 (q1 : Nat) (a3 : Int32) (I : ab_I) : Option (Int32 × ab_I) :=
  some (a3, I)
set_option maxRecDepth 100000 in
theorem fX3_bestOrder_113_ok {l : Launch} {G : ab_G} {S : ab_S} {I : ab_I} {J : ab_J} {P : ab_P} {Q : ab_Q} {q1 : Nat} {a3 : Int32} (hB : bz_B S P) (hq1 : bz_st S P q1) {x : Int32 × ab_I} (H : fX3_bestOrder_113 q1 a3 I = some x) (K0 : Q (some (.int x.1)) S x.2 J P) : ab_WP l G mX3_bestOrder 5 113 [some (.ref 34), some (.ref q1), none, some (.int a3), none, none] [] S I J P 0 0 Q := by
  unfold fX3_bestOrder_113 at H
  refine ab_iload_n (z := 3) (by decide +kernel) rfl rfl ?_
  obtain rfl := Option.some.inj H
  exact ab_iret (by decide +kernel) rfl (Nat.le_refl _) (Nat.le_refl _) K0
def fX3_bestOrder_103 (q1 : Nat) (a2 : Int32) (a3 : Int32) (a4 : Int32) (I : ab_I) : Option ((Int32 × Int32 × Int32 × ab_I) ⊕ (Int32 × ab_I)) :=
  (fX3_nextOrder I).bind fun u5 =>
  some (.inl (a2, a3, (a4 + (1 : Int32)), u5))
set_option maxRecDepth 100000 in
theorem fX3_bestOrder_103_ok {l : Launch} {G : ab_G} {S : ab_S} {I : ab_I} {J : ab_J} {P : ab_P} {Q : ab_Q} {q1 : Nat} {a2 : Int32} {a3 : Int32} {a4 : Int32} (hB : bz_B S P) (hq1 : bz_st S P q1) {x : ((Int32 × Int32 × Int32 × ab_I) ⊕ (Int32 × ab_I))} (H : fX3_bestOrder_103 q1 a2 a3 a4 I = some x) (K1 : ∀ s, x = (.inl s) → ab_WP l G mX3_bestOrder 5 56 [some (.ref 34), some (.ref q1), some (.int s.1), some (.int s.2.1), some (.int s.2.2.1), none] [] S s.2.2.2 J P 0 0 Q) (K0 : ∀ r, x = (.inr r) → Q (some (.int r.1)) S r.2 J P) : ab_WP l G mX3_bestOrder 5 103 [some (.ref 34), some (.ref q1), some (.int a2), some (.int a3), some (.int a4), none] [] S I J P 0 0 Q := by
  unfold fX3_bestOrder_103 at H
  refine ab_aload_n (z := 0) (by decide +kernel) rfl rfl ?_
  obtain ⟨u5, hu5, H⟩ := ab_bd_of H
  refine kvX3_nextOrder (D := 1) (ix := 55) (by decide +kernel) tw_809 (hB.1 34 _ rfl) (by decide) (Nat.le_of_ble_eq_true rfl) (mX3_nextOrder_ok hB hu5 ?_)
  change ab_WP l G mX3_bestOrder 5 107 [some (.ref 34), some (.ref q1), some (.int a2), some (.int a3), some (.int a4), none] [] S u5 J P 0 0 Q
  refine ab_iinc (i := 4) (z := 1) (v := (a4 + (1 : Int32))) (by decide +kernel) rfl rfl (by decide) rfl ?_
  refine ab_ls (ls' := [some (.ref 34), some (.ref q1), some (.int a2), some (.int a3), some (.int (a4 + (1 : Int32))), none]) rfl ?_
  refine ab_goto (off := -54) (tgt := 56) (by decide +kernel) rfl ?_
  exact ab_wk (ab_le_some (ab_le_some (ab_le_some (ab_le_some (ab_le_some (ab_le_none (ab_le_nil))))))) (K1 (a2, a3, (a4 + (1 : Int32)), u5) (Option.some.inj H).symm)
def fX3_bestOrder_80 (q1 : Nat) (a2 : Int32) (a4 : Int32) (a5 : Int32) (I : ab_I) : Option ((Int32 × Int32 × Int32 × ab_I) ⊕ (Int32 × ab_I)) :=
  ab_gd (¬ (I 3 5) < 0 ∧ (I 3 5).toNatClampNeg ≤ 6 ∧ (I 3 5).toNatClampNeg ≤ 6) (
    fX3_bestOrder_103 q1 a2 a5 a4 (ab_r I 40 (va_cpy (I 39) (I 40) (0 : Int32).toNatClampNeg (0 : Int32).toNatClampNeg (I 3 5).toNatClampNeg))
  )
set_option maxRecDepth 100000 in
theorem fX3_bestOrder_80_ok {l : Launch} {G : ab_G} {S : ab_S} {I : ab_I} {J : ab_J} {P : ab_P} {Q : ab_Q} {q1 : Nat} {a2 : Int32} {a4 : Int32} {a5 : Int32} (hB : bz_B S P) (hq1 : bz_st S P q1) {x : ((Int32 × Int32 × Int32 × ab_I) ⊕ (Int32 × ab_I))} (H : fX3_bestOrder_80 q1 a2 a4 a5 I = some x) (K1 : ∀ s, x = (.inl s) → ab_WP l G mX3_bestOrder 5 56 [some (.ref 34), some (.ref q1), some (.int s.1), some (.int s.2.1), some (.int s.2.2.1), none] [] S s.2.2.2 J P 0 0 Q) (K0 : ∀ r, x = (.inr r) → Q (some (.int r.1)) S r.2 J P) : ab_WP l G mX3_bestOrder 5 80 [some (.ref 34), some (.ref q1), some (.int a2), none, some (.int a4), some (.int a5)] [] S I J P 0 0 Q := by
  unfold fX3_bestOrder_80 at H
  refine ab_iload (i := 5) (by decide +kernel) rfl ?_
  refine ab_istore_n (z := 3) (by decide +kernel) rfl (by decide) rfl ?_
  refine ab_ls (ls' := [some (.ref 34), some (.ref q1), some (.int a2), some (.int a5), some (.int a4), some (.int a5)]) rfl ?_
  refine ab_aload_n (z := 0) (by decide +kernel) rfl rfl ?_
  refine gX3_3 (ix := 18) (by decide +kernel) tw_316 (hB.1 34 _ rfl) (hB.2.1 45 (34, 3, 39) rfl) ?_
  refine ab_iconst (z := 0) (v := (0 : Int32)) (by decide +kernel) (by decide) ?_
  refine ab_aload_n (z := 0) (by decide +kernel) rfl rfl ?_
  refine gX3_4 (ix := 22) (by decide +kernel) tw_317 (hB.1 34 _ rfl) (hB.2.1 46 (34, 4, 40) rfl) ?_
  refine ab_iconst (z := 0) (v := (0 : Int32)) (by decide +kernel) (by decide) ?_
  refine ab_aload_n (z := 0) (by decide +kernel) rfl rfl ?_
  refine gX3_0 (ix := 32) (by decide +kernel) tw_313 (hB.1 34 _ rfl) (hB.2.1 42 (34, 0, 3) rfl) ?_
  refine gX9_5 (ix := 40) (by decide +kernel) tw_93 (hB.1 3 _ rfl) ?_
  obtain ⟨hg, H⟩ := ab_gd_of H
  refine ab_copy (ix := 49) (ln0 := 6) (ln1 := 6) (by decide +kernel) tw_808 tw_610 tw_609 tw_15 (hB.1 39 _ rfl) (hB.1 40 _ rfl) (by decide) (by decide) hg.1 (bz_cp hg.2.1) (bz_cp hg.2.2) (by decide) (Nat.le_of_ble_eq_true rfl) ?_
  exact ab_wk (ab_le_some (ab_le_some (ab_le_some (ab_le_some (ab_le_some (ab_le_none (ab_le_nil))))))) (fX3_bestOrder_103_ok hB hq1 H K1 K0)
def fX3_bestOrder_56 (q1 : Nat) (a2 : Int32) (a3 : Int32) (a4 : Int32) (I : ab_I) : Option ((Int32 × Int32 × Int32 × ab_I) ⊕ (Int32 × ab_I)) :=
  if a2 ≤ a4 then
    (fX3_bestOrder_113 q1 a3 I).map .inr
  else
    (fX3_lostByTried q1 I).bind fun u4 =>
    if a4 = 0 then
      fX3_bestOrder_80 q1 a2 a4 u4.1 u4.2
    else
      if a3 ≤ u4.1 then
        fX3_bestOrder_103 q1 a2 a3 a4 u4.2
      else
        fX3_bestOrder_80 q1 a2 a4 u4.1 u4.2
set_option maxRecDepth 100000 in
theorem fX3_bestOrder_56_ok {l : Launch} {G : ab_G} {S : ab_S} {I : ab_I} {J : ab_J} {P : ab_P} {Q : ab_Q} {q1 : Nat} {a2 : Int32} {a3 : Int32} {a4 : Int32} (hB : bz_B S P) (hq1 : bz_st S P q1) {x : ((Int32 × Int32 × Int32 × ab_I) ⊕ (Int32 × ab_I))} (H : fX3_bestOrder_56 q1 a2 a3 a4 I = some x) (K1 : ∀ s, x = (.inl s) → ab_WP l G mX3_bestOrder 5 56 [some (.ref 34), some (.ref q1), some (.int s.1), some (.int s.2.1), some (.int s.2.2.1), none] [] S s.2.2.2 J P 0 0 Q) (K0 : ∀ r, x = (.inr r) → Q (some (.int r.1)) S r.2 J P) : ab_WP l G mX3_bestOrder 5 56 [some (.ref 34), some (.ref q1), some (.int a2), some (.int a3), some (.int a4), none] [] S I J P 0 0 Q := by
  unfold fX3_bestOrder_56 at H
  refine ab_iload (i := 4) (by decide +kernel) rfl ?_
  refine ab_iload_n (z := 2) (by decide +kernel) rfl rfl ?_
  refine ab_icmp_ge (off := 54) (tgt := 113) (by decide +kernel) rfl (fun hc => ?_) (fun hc => ?_)
  · replace H := ab_ifp H hc
    obtain ⟨y3, Hy, hx⟩ := ab_mp_of H
    subst hx
    replace H := Hy
    exact ab_wk (ab_le_some (ab_le_some (ab_le_none (ab_le_some (ab_le_none (ab_le_none (ab_le_nil))))))) (fX3_bestOrder_113_ok hB hq1 H  (K0 _ rfl))
  · replace H := ab_ifn H hc
    refine ab_aload_n (z := 0) (by decide +kernel) rfl rfl ?_
    refine ab_aload_n (z := 1) (by decide +kernel) rfl rfl ?_
    obtain ⟨u4, hu4, H⟩ := ab_bd_of H
    refine kvX3_lostByTried (D := 4) (ix := 45) (by decide +kernel) tw_802 (hB.1 34 _ rfl) (by decide) (Nat.le_of_ble_eq_true rfl) (mX3_lostByTried_ok hB hq1 hu4 ?_)
    change ab_WP l G mX3_bestOrder 5 67 [some (.ref 34), some (.ref q1), some (.int a2), some (.int a3), some (.int a4), none] [.int u4.1] S u4.2 J P 0 0 Q
    refine ab_istore (i := 5) (by decide +kernel) (by decide) rfl ?_
    refine ab_ls (ls' := [some (.ref 34), some (.ref q1), some (.int a2), some (.int a3), some (.int a4), some (.int u4.1)]) rfl ?_
    refine ab_iload (i := 4) (by decide +kernel) rfl ?_
    refine ab_if_eq (off := 9) (tgt := 80) (by decide +kernel) rfl (fun hc => ?_) (fun hc => ?_)
    · replace H := ab_ifp H hc
      exact ab_wk (ab_le_some (ab_le_some (ab_le_some (ab_le_none (ab_le_some (ab_le_some (ab_le_nil))))))) (fX3_bestOrder_80_ok hB hq1 H K1 K0)
    · replace H := ab_ifn H hc
      refine ab_iload (i := 5) (by decide +kernel) rfl ?_
      refine ab_iload_n (z := 3) (by decide +kernel) rfl rfl ?_
      refine ab_icmp_ge (off := 26) (tgt := 103) (by decide +kernel) rfl (fun hc => ?_) (fun hc => ?_)
      · replace H := ab_ifp H hc
        exact ab_wk (ab_le_some (ab_le_some (ab_le_some (ab_le_some (ab_le_some (ab_le_none (ab_le_nil))))))) (fX3_bestOrder_103_ok hB hq1 H K1 K0)
      · replace H := ab_ifn H hc
        exact ab_wk (ab_le_some (ab_le_some (ab_le_some (ab_le_none (ab_le_some (ab_le_some (ab_le_nil))))))) (fX3_bestOrder_80_ok hB hq1 H K1 K0)
def fX3_bestOrder_51 (q1 : Nat) (a2 : Int32) (I : ab_I) : Option (Int32 × ab_I) :=
  ab_it (fun s => fX3_bestOrder_56 q1 s.1 s.2.1 s.2.2.1 s.2.2.2) 5000 (a2, (0 : Int32), (0 : Int32), I)
set_option maxRecDepth 100000 in
theorem fX3_bestOrder_51_ok {l : Launch} {G : ab_G} {S : ab_S} {I : ab_I} {J : ab_J} {P : ab_P} {Q : ab_Q} {q1 : Nat} {a2 : Int32} (hB : bz_B S P) (hq1 : bz_st S P q1) {x : Int32 × ab_I} (H : fX3_bestOrder_51 q1 a2 I = some x) (K0 : Q (some (.int x.1)) S x.2 J P) : ab_WP l G mX3_bestOrder 5 51 [some (.ref 34), some (.ref q1), some (.int a2), none, none, none] [] S I J P 0 0 Q := by
  unfold fX3_bestOrder_51 at H
  refine ab_iconst (z := 0) (v := (0 : Int32)) (by decide +kernel) (by decide) ?_
  refine ab_istore_n (z := 3) (by decide +kernel) rfl (by decide) rfl ?_
  refine ab_ls (ls' := [some (.ref 34), some (.ref q1), some (.int a2), some (.int (0 : Int32)), none, none]) rfl ?_
  refine ab_iconst (z := 0) (v := (0 : Int32)) (by decide +kernel) (by decide) ?_
  refine ab_istore (i := 4) (by decide +kernel) (by decide) rfl ?_
  refine ab_ls (ls' := [some (.ref 34), some (.ref q1), some (.int a2), some (.int (0 : Int32)), some (.int (0 : Int32)), none]) rfl ?_
  exact ab_wk (ab_le_some (ab_le_some (ab_le_some (ab_le_some (ab_le_some (ab_le_none (ab_le_nil))))))) (ab_iter (W := fun s => ab_WP l G mX3_bestOrder 5 56 [some (.ref 34), some (.ref q1), some (.int s.1), some (.int s.2.1), some (.int s.2.2.1), none] [] S s.2.2.2 J P 0 0 Q) (fun s y hb h1 h2 => fX3_bestOrder_56_ok hB hq1 hb h1 (fun r e => by have e2 := h2 _ e; subst e2; exact K0)) 5000 (a2, (0 : Int32), (0 : Int32), I) H)
def fX3_bestOrder_30 (q1 : Nat) (a2 : Int32) (a3 : Int32) (I : ab_I) : Option ((Int32 × Int32 × ab_I) ⊕ (Int32 × ab_I)) :=
  if (I 3 5) < a3 then
    (fX3_bestOrder_51 q1 a2 I).map .inr
  else
    some (.inl ((a2 * a3), (a3 + (1 : Int32)), I))
set_option maxRecDepth 100000 in
theorem fX3_bestOrder_30_ok {l : Launch} {G : ab_G} {S : ab_S} {I : ab_I} {J : ab_J} {P : ab_P} {Q : ab_Q} {q1 : Nat} {a2 : Int32} {a3 : Int32} (hB : bz_B S P) (hq1 : bz_st S P q1) {x : ((Int32 × Int32 × ab_I) ⊕ (Int32 × ab_I))} (H : fX3_bestOrder_30 q1 a2 a3 I = some x) (K1 : ∀ s, x = (.inl s) → ab_WP l G mX3_bestOrder 5 30 [some (.ref 34), some (.ref q1), some (.int s.1), some (.int s.2.1), none, none] [] S s.2.2 J P 0 0 Q) (K0 : ∀ r, x = (.inr r) → Q (some (.int r.1)) S r.2 J P) : ab_WP l G mX3_bestOrder 5 30 [some (.ref 34), some (.ref q1), some (.int a2), some (.int a3), none, none] [] S I J P 0 0 Q := by
  unfold fX3_bestOrder_30 at H
  refine ab_iload_n (z := 3) (by decide +kernel) rfl rfl ?_
  refine ab_aload_n (z := 0) (by decide +kernel) rfl rfl ?_
  refine gX3_0 (ix := 32) (by decide +kernel) tw_313 (hB.1 34 _ rfl) (hB.2.1 42 (34, 0, 3) rfl) ?_
  refine gX9_5 (ix := 40) (by decide +kernel) tw_93 (hB.1 3 _ rfl) ?_
  refine ab_icmp_gt (off := 13) (tgt := 51) (by decide +kernel) rfl (fun hc => ?_) (fun hc => ?_)
  · replace H := ab_ifp H hc
    obtain ⟨y2, Hy, hx⟩ := ab_mp_of H
    subst hx
    replace H := Hy
    exact ab_wk (ab_le_some (ab_le_some (ab_le_some (ab_le_none (ab_le_none (ab_le_none (ab_le_nil))))))) (fX3_bestOrder_51_ok hB hq1 H  (K0 _ rfl))
  · replace H := ab_ifn H hc
    refine ab_iload_n (z := 2) (by decide +kernel) rfl rfl ?_
    refine ab_iload_n (z := 3) (by decide +kernel) rfl rfl ?_
    refine ab_imul (by decide +kernel) ?_
    refine ab_istore_n (z := 2) (by decide +kernel) rfl (by decide) rfl ?_
    refine ab_ls (ls' := [some (.ref 34), some (.ref q1), some (.int (a2 * a3)), some (.int a3), none, none]) rfl ?_
    refine ab_iinc (i := 3) (z := 1) (v := (a3 + (1 : Int32))) (by decide +kernel) rfl rfl (by decide) rfl ?_
    refine ab_ls (ls' := [some (.ref 34), some (.ref q1), some (.int (a2 * a3)), some (.int (a3 + (1 : Int32))), none, none]) rfl ?_
    refine ab_goto (off := -18) (tgt := 30) (by decide +kernel) rfl ?_
    exact ab_wk (ab_le_some (ab_le_some (ab_le_some (ab_le_some (ab_le_none (ab_le_none (ab_le_nil))))))) (K1 ((a2 * a3), (a3 + (1 : Int32)), I) (Option.some.inj H).symm)
def fX3_bestOrder_26 (q1 : Nat) (I : ab_I) : Option (Int32 × ab_I) :=
  ab_it (fun s => fX3_bestOrder_30 q1 s.1 s.2.1 s.2.2) 5000 ((1 : Int32), (2 : Int32), I)
set_option maxRecDepth 100000 in
theorem fX3_bestOrder_26_ok {l : Launch} {G : ab_G} {S : ab_S} {I : ab_I} {J : ab_J} {P : ab_P} {Q : ab_Q} {q1 : Nat} (hB : bz_B S P) (hq1 : bz_st S P q1) {x : Int32 × ab_I} (H : fX3_bestOrder_26 q1 I = some x) (K0 : Q (some (.int x.1)) S x.2 J P) : ab_WP l G mX3_bestOrder 5 26 [some (.ref 34), some (.ref q1), none, none, none, none] [] S I J P 0 0 Q := by
  unfold fX3_bestOrder_26 at H
  refine ab_iconst (z := 1) (v := (1 : Int32)) (by decide +kernel) (by decide) ?_
  refine ab_istore_n (z := 2) (by decide +kernel) rfl (by decide) rfl ?_
  refine ab_ls (ls' := [some (.ref 34), some (.ref q1), some (.int (1 : Int32)), none, none, none]) rfl ?_
  refine ab_iconst (z := 2) (v := (2 : Int32)) (by decide +kernel) (by decide) ?_
  refine ab_istore_n (z := 3) (by decide +kernel) rfl (by decide) rfl ?_
  refine ab_ls (ls' := [some (.ref 34), some (.ref q1), some (.int (1 : Int32)), some (.int (2 : Int32)), none, none]) rfl ?_
  exact ab_wk (ab_le_some (ab_le_some (ab_le_some (ab_le_some (ab_le_none (ab_le_none (ab_le_nil))))))) (ab_iter (W := fun s => ab_WP l G mX3_bestOrder 5 30 [some (.ref 34), some (.ref q1), some (.int s.1), some (.int s.2.1), none, none] [] S s.2.2 J P 0 0 Q) (fun s y hb h1 h2 => fX3_bestOrder_30_ok hB hq1 hb h1 (fun r e => by have e2 := h2 _ e; subst e2; exact K0)) 5000 ((1 : Int32), (2 : Int32), I) H)
def fX3_bestOrder_2 (q1 : Nat) (a2 : Int32) (I : ab_I) : Option ((Int32 × ab_I) ⊕ (Int32 × ab_I)) :=
  if (I 3 5) ≤ a2 then
    (fX3_bestOrder_26 q1 I).map .inr
  else
    ab_gd (ab_ix a2 6 = true) (
      some (.inl ((a2 + (1 : Int32)), (ab_u I 39 a2.toNatClampNeg a2)))
    )
set_option maxRecDepth 100000 in
theorem fX3_bestOrder_2_ok {l : Launch} {G : ab_G} {S : ab_S} {I : ab_I} {J : ab_J} {P : ab_P} {Q : ab_Q} {q1 : Nat} {a2 : Int32} (hB : bz_B S P) (hq1 : bz_st S P q1) {x : ((Int32 × ab_I) ⊕ (Int32 × ab_I))} (H : fX3_bestOrder_2 q1 a2 I = some x) (K1 : ∀ s, x = (.inl s) → ab_WP l G mX3_bestOrder 5 2 [some (.ref 34), some (.ref q1), some (.int s.1), none, none, none] [] S s.2 J P 0 0 Q) (K0 : ∀ r, x = (.inr r) → Q (some (.int r.1)) S r.2 J P) : ab_WP l G mX3_bestOrder 5 2 [some (.ref 34), some (.ref q1), some (.int a2), none, none, none] [] S I J P 0 0 Q := by
  unfold fX3_bestOrder_2 at H
  refine ab_iload_n (z := 2) (by decide +kernel) rfl rfl ?_
  refine ab_aload_n (z := 0) (by decide +kernel) rfl rfl ?_
  refine gX3_0 (ix := 32) (by decide +kernel) tw_313 (hB.1 34 _ rfl) (hB.2.1 42 (34, 0, 3) rfl) ?_
  refine gX9_5 (ix := 40) (by decide +kernel) tw_93 (hB.1 3 _ rfl) ?_
  refine ab_icmp_ge (off := 16) (tgt := 26) (by decide +kernel) rfl (fun hc => ?_) (fun hc => ?_)
  · replace H := ab_ifp H hc
    obtain ⟨y1, Hy, hx⟩ := ab_mp_of H
    subst hx
    replace H := Hy
    exact ab_wk (ab_le_some (ab_le_some (ab_le_none (ab_le_none (ab_le_none (ab_le_none (ab_le_nil))))))) (fX3_bestOrder_26_ok hB hq1 H  (K0 _ rfl))
  · replace H := ab_ifn H hc
    refine ab_aload_n (z := 0) (by decide +kernel) rfl rfl ?_
    refine gX3_3 (ix := 18) (by decide +kernel) tw_316 (hB.1 34 _ rfl) (hB.2.1 45 (34, 3, 39) rfl) ?_
    refine ab_iload_n (z := 2) (by decide +kernel) rfl rfl ?_
    refine ab_iload_n (z := 2) (by decide +kernel) rfl rfl ?_
    obtain ⟨hg, H⟩ := ab_gd_of H
    refine ab_iast (ln := 6) (by decide +kernel) (hB.1 39 _ rfl) (ab_ix_in hg) ?_
    refine ab_iinc (i := 2) (z := 1) (v := (a2 + (1 : Int32))) (by decide +kernel) rfl rfl (by decide) rfl ?_
    refine ab_ls (ls' := [some (.ref 34), some (.ref q1), some (.int (a2 + (1 : Int32))), none, none, none]) rfl ?_
    refine ab_goto (off := -21) (tgt := 2) (by decide +kernel) rfl ?_
    exact ab_wk (ab_le_some (ab_le_some (ab_le_some (ab_le_none (ab_le_none (ab_le_none (ab_le_nil))))))) (K1 ((a2 + (1 : Int32)), (ab_u I 39 a2.toNatClampNeg a2)) (Option.some.inj H).symm)
def fX3_bestOrder (q1 : Nat) (I : ab_I) : Option (Int32 × ab_I) :=
  ab_it (fun s => fX3_bestOrder_2 q1 s.1 s.2) 5000 ((0 : Int32), I)
set_option maxRecDepth 100000 in
theorem mX3_bestOrder_ok {l : Launch} {G : ab_G} {S : ab_S} {I : ab_I} {J : ab_J} {P : ab_P} {Q : ab_Q} {q1 : Nat} (hB : bz_B S P) (hq1 : bz_st S P q1) {x : Int32 × ab_I} (H : fX3_bestOrder q1 I = some x) (K0 : Q (some (.int x.1)) S x.2 J P) : ab_Call l G mX3_bestOrder 5 [.ref 34, .ref q1] S I J P Q := by
  unfold fX3_bestOrder at H
  refine ab_enter rfl (Nat.le_of_ble_eq_true rfl) (ab_wk (ls' := [some (.ref 34), some (.ref q1), none, none, none, none]) (ab_le_some (ab_le_some (ab_le_non0 (ab_le_non0 (ab_le_non0 (ab_le_non0 ab_le_nil)))))) ?_)
  refine ab_iconst (z := 0) (v := (0 : Int32)) (by decide +kernel) (by decide) ?_
  refine ab_istore_n (z := 2) (by decide +kernel) rfl (by decide) rfl ?_
  refine ab_ls (ls' := [some (.ref 34), some (.ref q1), some (.int (0 : Int32)), none, none, none]) rfl ?_
  exact ab_wk (ab_le_some (ab_le_some (ab_le_some (ab_le_none (ab_le_none (ab_le_none (ab_le_nil))))))) (ab_iter (W := fun s => ab_WP l G mX3_bestOrder 5 2 [some (.ref 34), some (.ref q1), some (.int s.1), none, none, none] [] S s.2 J P 0 0 Q) (fun s y hb h1 h2 => fX3_bestOrder_2_ok hB hq1 hb h1 (fun r e => by have e2 := h2 _ e; subst e2; exact K0)) 5000 ((0 : Int32), I) H)
abbrev mX11_layDown : ab_M := (yX11_layDown, cX11_layDown, 3, none, 0, 0)
theorem kvX11_layDown {l : Launch} {G : ab_G} {M : ab_M} {d pc : Nat} {ls : List (Option Value)} {st : List Value} {S : ab_S} {I : ab_I} {J : ab_J} {P : ab_P} {Q : ab_Q} {v0 v1 : Value} {ix D r ln : Nat} (hd : decode M.2.1 pc = .ok (.invokevirtual ix, 3)) (h1 : Cond.methodLink M.1.cls ix mX11_layDown.1 ∈ ab_good) (hs : S[r]? = some (16, ln)) (hdg : D + 1 ≤ d) (hsum : (st.map fun v => v.category).sum ≤ 8) (kk : ab_Call l G mX11_layDown D (.ref r :: [v0, v1]) S I J P (fun v S' I' J' P' => ab_WP l G M d (pc + 3) ls (ab_psh v st) S' I' J' P' 0 0 Q)) : ab_WP l G M d pc ls (v1 :: v0 :: .ref r :: st) S I J P 0 0 Q := bz_kv (g := mX11_layDown) (as := [v0, v1]) (cc := 11) rfl hd h1 tw_819 tw_p23 tw_1 tw_820 ⟨by decide +kernel, by decide +kernel, (by decide +kernel : (parseMethodDescriptor mX11_layDown.1.desc).map (fun d => d.parameters.length) = some 2)⟩ (by decide) rfl rfl rfl hdg hsum hs kk
def fX11_layDown (r1 n1 : Nat) (a2 : Int32) (I : ab_I) : Option ab_I :=
  ab_gd (¬ (if (if (Int32.ofNat n1) < (6 : Int32) then (Int32.ofNat n1) else (6 : Int32)) < a2 then (if (Int32.ofNat n1) < (6 : Int32) then (Int32.ofNat n1) else (6 : Int32)) else a2) < 0 ∧ (if (if (Int32.ofNat n1) < (6 : Int32) then (Int32.ofNat n1) else (6 : Int32)) < a2 then (if (Int32.ofNat n1) < (6 : Int32) then (Int32.ofNat n1) else (6 : Int32)) else a2).toNatClampNeg ≤ n1 ∧ (if (if (Int32.ofNat n1) < (6 : Int32) then (Int32.ofNat n1) else (6 : Int32)) < a2 then (if (Int32.ofNat n1) < (6 : Int32) then (Int32.ofNat n1) else (6 : Int32)) else a2).toNatClampNeg ≤ 6) (
    some (ab_r (ab_u I 0 9 (if (if (Int32.ofNat n1) < (6 : Int32) then (Int32.ofNat n1) else (6 : Int32)) < a2 then (if (Int32.ofNat n1) < (6 : Int32) then (Int32.ofNat n1) else (6 : Int32)) else a2)) 55 (va_cpy ((ab_u I 0 9 (if (if (Int32.ofNat n1) < (6 : Int32) then (Int32.ofNat n1) else (6 : Int32)) < a2 then (if (Int32.ofNat n1) < (6 : Int32) then (Int32.ofNat n1) else (6 : Int32)) else a2)) r1) ((ab_u I 0 9 (if (if (Int32.ofNat n1) < (6 : Int32) then (Int32.ofNat n1) else (6 : Int32)) < a2 then (if (Int32.ofNat n1) < (6 : Int32) then (Int32.ofNat n1) else (6 : Int32)) else a2)) 55) (0 : Int32).toNatClampNeg (0 : Int32).toNatClampNeg (if (if (Int32.ofNat n1) < (6 : Int32) then (Int32.ofNat n1) else (6 : Int32)) < a2 then (if (Int32.ofNat n1) < (6 : Int32) then (Int32.ofNat n1) else (6 : Int32)) else a2).toNatClampNeg))
  )
set_option maxRecDepth 100000 in
theorem mX11_layDown_ok {l : Launch} {G : ab_G} {S : ab_S} {I : ab_I} {J : ab_J} {P : ab_P} {Q : ab_Q} {r1 n1 : Nat} {a2 : Int32} (hB : bz_B S P) (hr1 : S[r1]? = some (0, n1)) {x : ab_I} (H : fX11_layDown r1 n1 a2 I = some x) (K0 : Q none S x J P) : ab_Call l G mX11_layDown 1 [.ref 0, .ref r1, .int a2] S I J P Q := by
  unfold fX11_layDown at H
  refine ab_enter rfl (Nat.le_of_ble_eq_true rfl) (ab_wk (ls' := [some (.ref 0), some (.ref r1), some (.int a2)]) (ab_le_some (ab_le_some (ab_le_some (ab_le_nil)))) ?_)
  refine ab_aload_n (z := 0) (by decide +kernel) rfl rfl ?_
  refine ab_iload_n (z := 2) (by decide +kernel) rfl rfl ?_
  refine ab_aload_n (z := 0) (by decide +kernel) rfl rfl ?_
  refine gX11_8 (ix := 71) (by decide +kernel) tw_416 (hB.1 0 _ rfl) (hB.2.1 8 (0, 8, 55) rfl) ?_
  refine ab_alen (v := (6 : Int32)) (by decide +kernel) (hB.1 55 _ rfl) (by decide) (by decide) ?_
  refine ab_aload_n (z := 1) (by decide +kernel) rfl rfl ?_
  refine ab_alen (by decide +kernel) hr1 (by decide) rfl ?_
  refine ab_mmin (ix := 203) (by decide +kernel) tw_761 tw_691 tw_17 tw_692 (by decide) (Nat.le_of_ble_eq_true rfl) (Nat.le_refl _) (Nat.le_refl _) ?_
  refine ab_mmin (ix := 203) (by decide +kernel) tw_761 tw_691 tw_17 tw_692 (by decide) (Nat.le_of_ble_eq_true rfl) (Nat.le_refl _) (Nat.le_refl _) ?_
  refine pX11_9 (ix := 75) (by decide +kernel) tw_417 (hB.1 0 _ rfl) ?_
  refine ab_aload_n (z := 1) (by decide +kernel) rfl rfl ?_
  refine ab_iconst (z := 0) (v := (0 : Int32)) (by decide +kernel) (by decide) ?_
  refine ab_aload_n (z := 0) (by decide +kernel) rfl rfl ?_
  refine gX11_8 (ix := 71) (by decide +kernel) tw_416 (hB.1 0 _ rfl) (hB.2.1 8 (0, 8, 55) rfl) ?_
  refine ab_iconst (z := 0) (v := (0 : Int32)) (by decide +kernel) (by decide) ?_
  refine ab_aload_n (z := 0) (by decide +kernel) rfl rfl ?_
  refine gX11_9 (ix := 75) (by decide +kernel) tw_417 (hB.1 0 _ rfl) ?_
  refine ab_top (y := (if (if (Int32.ofNat n1) < (6 : Int32) then (Int32.ofNat n1) else (6 : Int32)) < a2 then (if (Int32.ofNat n1) < (6 : Int32) then (Int32.ofNat n1) else (6 : Int32)) else a2)) rfl ?_
  obtain ⟨hg, H⟩ := ab_gd_of H
  refine ab_copy (ix := 354) (ln0 := n1) (ln1 := 6) (by decide +kernel) tw_821 tw_610 tw_609 tw_15 hr1 (hB.1 55 _ rfl) (by decide) (by decide) hg.1 (bz_cp hg.2.1) (bz_cp hg.2.2) (by decide) (Nat.le_of_ble_eq_true rfl) ?_
  obtain rfl := Option.some.inj H
  exact ab_vret (by decide +kernel) rfl (Nat.le_refl _) (Nat.le_refl _) K0
abbrev mX11_order : ab_M := (yX11_order, cX11_order, 2, some .int, 0, 0)
def fX11_order (I : ab_I) (P : ab_P) : Option (Int32 × ab_I) :=
  (P 0 12).bind fun z1 =>
  (fX3_bestOrder z1 I).bind fun u2 =>
  (fX11_layDown 40 6 (u2.2 3 5) u2.2).bind fun u3 =>
  some (u2.1, u3)
set_option maxRecDepth 100000 in
theorem mX11_order_ok {l : Launch} {G : ab_G} {S : ab_S} {I : ab_I} {J : ab_J} {P : ab_P} {Q : ab_Q} (hB : bz_B S P) {x : Int32 × ab_I} (H : fX11_order I P = some x) (K0 : Q (some (.int x.1)) S x.2 J P) : ab_Call l G mX11_order 6 [.ref 0] S I J P Q := by
  unfold fX11_order at H
  refine ab_enter rfl (Nat.le_of_ble_eq_true rfl) (ab_wk (ls' := [some (.ref 0), none]) (ab_le_some (ab_le_non0 ab_le_nil)) ?_)
  refine ab_aload_n (z := 0) (by decide +kernel) rfl rfl ?_
  refine gX11_5 (ix := 53) (by decide +kernel) tw_413 (hB.1 0 _ rfl) (hB.2.1 5 (0, 5, 34) rfl) ?_
  refine ab_aload_n (z := 0) (by decide +kernel) rfl rfl ?_
  obtain ⟨z1, hz1, H⟩ := ab_bd_of H
  refine gX11_12 (ix := 89) (by decide +kernel) tw_420 (hB.1 0 _ rfl) hz1 ?_
  have sz1 := hB.2.2.1 _ hz1
  obtain ⟨u2, hu2, H⟩ := ab_bd_of H
  refine kvX3_bestOrder (D := 5) (ix := 225) (by decide +kernel) tw_798 (hB.1 34 _ rfl) (by decide) (Nat.le_of_ble_eq_true rfl) (mX3_bestOrder_ok hB sz1 hu2 ?_)
  change ab_WP l G mX11_order 6 11 [some (.ref 0), none] [.int u2.1] S u2.2 J P 0 0 Q
  refine ab_istore_n (z := 1) (by decide +kernel) rfl (by decide) rfl ?_
  refine ab_ls (ls' := [some (.ref 0), some (.int u2.1)]) rfl ?_
  refine ab_aload_n (z := 0) (by decide +kernel) rfl rfl ?_
  refine ab_aload_n (z := 0) (by decide +kernel) rfl rfl ?_
  refine gX11_5 (ix := 53) (by decide +kernel) tw_413 (hB.1 0 _ rfl) (hB.2.1 5 (0, 5, 34) rfl) ?_
  refine gX3_4 (ix := 229) (by decide +kernel) tw_318 (hB.1 34 _ rfl) (hB.2.1 46 (34, 4, 40) rfl) ?_
  refine ab_aload_n (z := 0) (by decide +kernel) rfl rfl ?_
  refine gX11_1 (ix := 19) (by decide +kernel) tw_409 (hB.1 0 _ rfl) (hB.2.1 1 (0, 1, 3) rfl) ?_
  refine gX9_5 (ix := 232) (by decide +kernel) tw_98 (hB.1 3 _ rfl) ?_
  obtain ⟨u3, hu3, H⟩ := ab_bd_of H
  refine kvX11_layDown (D := 1) (ix := 235) (by decide +kernel) tw_817 (hB.1 0 _ rfl) (by decide) (Nat.le_of_ble_eq_true rfl) (mX11_layDown_ok hB (hB.1 40 _ rfl) hu3 ?_)
  change ab_WP l G mX11_order 6 30 [some (.ref 0), some (.int u2.1)] [] S u3 J P 0 0 Q
  refine ab_iload_n (z := 1) (by decide +kernel) rfl rfl ?_
  obtain rfl := Option.some.inj H
  exact ab_iret (by decide +kernel) rfl (Nat.le_refl _) (Nat.le_refl _) K0
