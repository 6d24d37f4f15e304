abbrev mX11_odds : ab_M := (yX11_odds, cX11_odds, 7, some .int, 0, 0)
def fX11_odds_84 (a1 : Int32) (a2 : Int32) (I : ab_I) (a5 : Int32) : Option Int32 :=
  some a5
set_option maxRecDepth 100000 in
theorem fX11_odds_84_ok {l : Launch} {G : ab_G} {S : ab_S} {I : ab_I} {J : ab_J} {P : ab_P} {Q : ab_Q} {a1 : Int32} {a2 : Int32} {a5 : Int32} (hB : bz_B S P) {x : Int32} (H : fX11_odds_84 a1 a2 I a5 = some x) (K0 : Q (some (.int x)) S I J P) : ab_WP l G mX11_odds 2 84 [some (.ref 0), some (.int a1), some (.int a2), none, none, some (.int a5), none] [] S I J P 0 0 Q := by
  unfold fX11_odds_84 at H
  refine ab_iload (i := 5) (by decide +kernel) rfl ?_
  obtain rfl := Option.some.inj H
  exact ab_iret (by decide +kernel) rfl (Nat.le_refl _) (Nat.le_refl _) K0
def fX11_odds_18 (a1 : Int32) (a2 : Int32) (I : ab_I) : Option Int32 :=
  some (-1 : Int32)
set_option maxRecDepth 100000 in
theorem fX11_odds_18_ok {l : Launch} {G : ab_G} {S : ab_S} {I : ab_I} {J : ab_J} {P : ab_P} {Q : ab_Q} {a1 : Int32} {a2 : Int32} (hB : bz_B S P) {x : Int32} (H : fX11_odds_18 a1 a2 I = some x) (K0 : Q (some (.int x)) S I J P) : ab_WP l G mX11_odds 2 18 [some (.ref 0), some (.int a1), some (.int a2), none, none, none, none] [] S I J P 0 0 Q := by
  unfold fX11_odds_18 at H
  refine ab_iconst (z := -1) (v := (-1 : Int32)) (by decide +kernel) (by decide) ?_
  obtain rfl := Option.some.inj H
  exact ab_iret (by decide +kernel) rfl (Nat.le_refl _) (Nat.le_refl _) K0
def fX11_odds_65 (a1 : Int32) (a2 : Int32) (I : ab_I) (a4 : Int32) (a5 : Int32) (a6 : Int32) : Option ((Int32 × Int32 × Int32) ⊕ Int32) :=
  if a1 ≤ a6 then
    (fX11_odds_84 a1 a2 I a5).map .inr
  else
    some (.inl (a4, (a5 * a4), (a6 + (1 : Int32))))
set_option maxRecDepth 100000 in
theorem fX11_odds_65_ok {l : Launch} {G : ab_G} {S : ab_S} {I : ab_I} {J : ab_J} {P : ab_P} {Q : ab_Q} {a1 : Int32} {a2 : Int32} {a4 : Int32} {a5 : Int32} {a6 : Int32} (hB : bz_B S P) {x : ((Int32 × Int32 × Int32) ⊕ Int32)} (H : fX11_odds_65 a1 a2 I a4 a5 a6 = some x) (K1 : ∀ s, x = (.inl s) → ab_WP l G mX11_odds 2 65 [some (.ref 0), some (.int a1), some (.int a2), none, some (.int s.1), some (.int s.2.1), some (.int s.2.2)] [] S I J P 0 0 Q) (K0 : ∀ r, x = (.inr r) → Q (some (.int r)) S I J P) : ab_WP l G mX11_odds 2 65 [some (.ref 0), some (.int a1), some (.int a2), none, some (.int a4), some (.int a5), some (.int a6)] [] S I J P 0 0 Q := by
  unfold fX11_odds_65 at H
  refine ab_iload (i := 6) (by decide +kernel) rfl ?_
  refine ab_iload_n (z := 1) (by decide +kernel) rfl rfl ?_
  refine ab_icmp_ge (off := 16) (tgt := 84) (by decide +kernel) rfl (fun hc => ?_) (fun hc => ?_)
  · replace H := ab_ifp H hc
    obtain ⟨y4, Hy, hx⟩ := ab_mp_of H
    subst hx
    replace H := Hy
    exact ab_wk (ab_le_some (ab_le_some (ab_le_some (ab_le_none (ab_le_none (ab_le_some (ab_le_none (ab_le_nil)))))))) (fX11_odds_84_ok hB H  (K0 _ rfl))
  · replace H := ab_ifn H hc
    refine ab_iload (i := 5) (by decide +kernel) rfl ?_
    refine ab_iload (i := 4) (by decide +kernel) rfl ?_
    refine ab_imul (by decide +kernel) ?_
    refine ab_istore (i := 5) (by decide +kernel) (by decide) rfl ?_
    refine ab_ls (ls' := [some (.ref 0), some (.int a1), some (.int a2), none, some (.int a4), some (.int (a5 * a4)), some (.int a6)]) rfl ?_
    refine ab_iinc (i := 6) (z := 1) (v := (a6 + (1 : Int32))) (by decide +kernel) rfl rfl (by decide) rfl ?_
    refine ab_ls (ls' := [some (.ref 0), some (.int a1), some (.int a2), none, some (.int a4), some (.int (a5 * a4)), some (.int (a6 + (1 : Int32)))]) rfl ?_
    refine ab_goto (off := -16) (tgt := 65) (by decide +kernel) rfl ?_
    exact ab_wk (ab_le_some (ab_le_some (ab_le_some (ab_le_none (ab_le_some (ab_le_some (ab_le_some (ab_le_nil)))))))) (K1 (a4, (a5 * a4), (a6 + (1 : Int32))) (Option.some.inj H).symm)
def fX11_odds_55 (a1 : Int32) (a2 : Int32) (I : ab_I) (a3 : Int32) (s0 : Int32) : Option Int32 :=
  ab_gd (¬ a3 = 0) (
    ab_it (fun s => fX11_odds_65 a1 a2 I s.1 s.2.1 s.2.2) 5000 ((s0 / a3), (1 : Int32), (0 : Int32))
  )
set_option maxRecDepth 100000 in
theorem fX11_odds_55_ok {l : Launch} {G : ab_G} {S : ab_S} {I : ab_I} {J : ab_J} {P : ab_P} {Q : ab_Q} {a1 : Int32} {a2 : Int32} {a3 : Int32} {s0 : Int32} (hB : bz_B S P) {x : Int32} (H : fX11_odds_55 a1 a2 I a3 s0 = some x) (K0 : Q (some (.int x)) S I J P) : ab_WP l G mX11_odds 2 55 [some (.ref 0), some (.int a1), some (.int a2), some (.int a3), none, none, none] [.int s0] S I J P 0 0 Q := by
  unfold fX11_odds_55 at H
  refine ab_iload_n (z := 3) (by decide +kernel) rfl rfl ?_
  obtain ⟨hg, H⟩ := ab_gd_of H
  refine ab_idiv (by decide +kernel) hg ?_
  refine ab_istore (i := 4) (by decide +kernel) (by decide) rfl ?_
  refine ab_ls (ls' := [some (.ref 0), some (.int a1), some (.int a2), some (.int a3), some (.int (s0 / a3)), none, none]) rfl ?_
  refine ab_iconst (z := 1) (v := (1 : Int32)) (by decide +kernel) (by decide) ?_
  refine ab_istore (i := 5) (by decide +kernel) (by decide) rfl ?_
  refine ab_ls (ls' := [some (.ref 0), some (.int a1), some (.int a2), some (.int a3), some (.int (s0 / a3)), some (.int (1 : Int32)), none]) rfl ?_
  refine ab_iconst (z := 0) (v := (0 : Int32)) (by decide +kernel) (by decide) ?_
  refine ab_istore (i := 6) (by decide +kernel) (by decide) rfl ?_
  refine ab_ls (ls' := [some (.ref 0), some (.int a1), some (.int a2), some (.int a3), some (.int (s0 / a3)), some (.int (1 : Int32)), some (.int (0 : Int32))]) rfl ?_
  exact ab_wk (ab_le_some (ab_le_some (ab_le_some (ab_le_none (ab_le_some (ab_le_some (ab_le_some (ab_le_nil)))))))) (ab_iter (body := (fun s => fX11_odds_65 a1 a2 I s.1 s.2.1 s.2.2)) (W := fun s => ab_WP l G mX11_odds 2 65 [some (.ref 0), some (.int a1), some (.int a2), none, some (.int s.1), some (.int s.2.1), some (.int s.2.2)] [] S I J P 0 0 Q) (fun s y hb h1 h2 => fX11_odds_65_ok hB hb h1 (fun r e => by have e2 := h2 _ e; subst e2; exact K0)) 5000 ((s0 / a3), (1 : Int32), (0 : Int32)) H)
def fX11_odds (a1 : Int32) (a2 : Int32) (I : ab_I) : Option Int32 :=
  (fX11_within a1 (0 : Int32) (4 : Int32)).bind fun u1 =>
  if u1 = 0 then
    fX11_odds_18 a1 a2 I
  else
    (fX11_within a2 (0 : Int32) (1 : Int32)).bind fun u2 =>
    if u2 = 0 then
      fX11_odds_18 a1 a2 I
    else
      (fX11_commonDivisor ((100 : Int32) - (I 3 8)) (100 : Int32)).bind fun u3 =>
      if a2 = 0 then
        fX11_odds_55 a1 a2 I u3 ((100 : Int32) - (I 3 8))
      else
        fX11_odds_55 a1 a2 I u3 (100 : Int32)
set_option maxRecDepth 100000 in
theorem mX11_odds_ok {l : Launch} {G : ab_G} {S : ab_S} {I : ab_I} {J : ab_J} {P : ab_P} {Q : ab_Q} {a1 : Int32} {a2 : Int32} (hB : bz_B S P) {x : Int32} (H : fX11_odds a1 a2 I = some x) (K0 : Q (some (.int x)) S I J P) : ab_Call l G mX11_odds 2 [.ref 0, .int a1, .int a2] S I J P Q := by
  unfold fX11_odds at H
  refine ab_enter rfl (Nat.le_of_ble_eq_true rfl) (ab_wk (ls' := [some (.ref 0), some (.int a1), some (.int a2), none, none, none, none]) (ab_le_some (ab_le_some (ab_le_some (ab_le_non0 (ab_le_non0 (ab_le_non0 (ab_le_non0 ab_le_nil))))))) ?_)
  refine ab_iload_n (z := 1) (by decide +kernel) rfl rfl ?_
  refine ab_iconst (z := 0) (v := (0 : Int32)) (by decide +kernel) (by decide) ?_
  refine ab_iconst (z := 4) (v := (4 : Int32)) (by decide +kernel) (by decide) ?_
  obtain ⟨u1, hu1, H⟩ := ab_bd_of H
  refine ksX11_within (D := 0) (ix := 191) (by decide +kernel) tw_746 (by decide) (Nat.le_of_ble_eq_true rfl) (mX11_within_ok hB hu1 ?_)
  change ab_WP l G mX11_odds 2 6 [some (.ref 0), some (.int a1), some (.int a2), none, none, none, none] [.int u1] S I J P 0 0 Q
  refine ab_if_eq (off := 12) (tgt := 18) (by decide +kernel) rfl (fun hc => ?_) (fun hc => ?_)
  · replace H := ab_ifp H hc
    exact ab_wk (ab_le_some (ab_le_some (ab_le_some (ab_le_none (ab_le_none (ab_le_none (ab_le_none (ab_le_nil)))))))) (fX11_odds_18_ok hB H  K0)
  · replace H := ab_ifn H hc
    refine ab_iload_n (z := 2) (by decide +kernel) rfl rfl ?_
    refine ab_iconst (z := 0) (v := (0 : Int32)) (by decide +kernel) (by decide) ?_
    refine ab_iconst (z := 1) (v := (1 : Int32)) (by decide +kernel) (by decide) ?_
    obtain ⟨u2, hu2, H⟩ := ab_bd_of H
    refine ksX11_within (D := 0) (ix := 191) (by decide +kernel) tw_746 (by decide) (Nat.le_of_ble_eq_true rfl) (mX11_within_ok hB hu2 ?_)
    change ab_WP l G mX11_odds 2 15 [some (.ref 0), some (.int a1), some (.int a2), none, none, none, none] [.int u2] S I J P 0 0 Q
    refine ab_if_ne (off := 5) (tgt := 20) (by decide +kernel) rfl (fun hc => ?_) (fun hc => ?_)
    · replace H := ab_ifn H hc
      refine ab_bipush (z := 100) (v := (100 : Int32)) (by decide +kernel) (by decide) ?_
      refine ab_aload_n (z := 0) (by decide +kernel) rfl rfl ?_
      refine gX11_1 (ix := 19) (by decide +kernel) tw_409 (hB.1 0 _ rfl) (hB.2.1 1 (0, 1, 3) rfl) ?_
      refine gX9_8 (ix := 297) (by decide +kernel) tw_109 (hB.1 3 _ rfl) ?_
      refine ab_isub (by decide +kernel) ?_
      refine ab_bipush (z := 100) (v := (100 : Int32)) (by decide +kernel) (by decide) ?_
      obtain ⟨u3, hu3, H⟩ := ab_bd_of H
      refine ksX11_commonDivisor (D := 1) (ix := 300) (by decide +kernel) tw_974 (by decide) (Nat.le_of_ble_eq_true rfl) (mX11_commonDivisor_ok hB hu3 ?_)
      change ab_WP l G mX11_odds 2 35 [some (.ref 0), some (.int a1), some (.int a2), none, none, none, none] [.int u3] S I J P 0 0 Q
      refine ab_istore_n (z := 3) (by decide +kernel) rfl (by decide) rfl ?_
      refine ab_ls (ls' := [some (.ref 0), some (.int a1), some (.int a2), some (.int u3), none, none, none]) rfl ?_
      refine ab_iload_n (z := 2) (by decide +kernel) rfl rfl ?_
      refine ab_if_ne (off := 16) (tgt := 53) (by decide +kernel) rfl (fun hc => ?_) (fun hc => ?_)
      · replace H := ab_ifn H hc
        refine ab_bipush (z := 100) (v := (100 : Int32)) (by decide +kernel) (by decide) ?_
        exact ab_wk (ab_le_some (ab_le_some (ab_le_some (ab_le_some (ab_le_none (ab_le_none (ab_le_none (ab_le_nil)))))))) (fX11_odds_55_ok hB H  K0)
      · replace H := ab_ifp H hc
        refine ab_bipush (z := 100) (v := (100 : Int32)) (by decide +kernel) (by decide) ?_
        refine ab_aload_n (z := 0) (by decide +kernel) rfl rfl ?_
        refine gX11_1 (ix := 19) (by decide +kernel) tw_409 (hB.1 0 _ rfl) (hB.2.1 1 (0, 1, 3) rfl) ?_
        refine gX9_8 (ix := 297) (by decide +kernel) tw_109 (hB.1 3 _ rfl) ?_
        refine ab_isub (by decide +kernel) ?_
        refine ab_goto (off := 5) (tgt := 55) (by decide +kernel) rfl ?_
        exact ab_wk (ab_le_some (ab_le_some (ab_le_some (ab_le_some (ab_le_none (ab_le_none (ab_le_none (ab_le_nil)))))))) (fX11_odds_55_ok hB H  K0)
    · replace H := ab_ifp H hc
      exact ab_wk (ab_le_some (ab_le_some (ab_le_some (ab_le_none (ab_le_none (ab_le_none (ab_le_none (ab_le_nil)))))))) (fX11_odds_18_ok hB H  K0)
abbrev mX11_lies : ab_M := (yX11_lies, cX11_lies, 2, some .int, 0, 0)
def fX11_lies_23 (a1 : Int32) (I : ab_I) (s0 : Int32) : Option Int32 :=
  some s0
set_option maxRecDepth 100000 in
theorem fX11_lies_23_ok {l : Launch} {G : ab_G} {S : ab_S} {I : ab_I} {J : ab_J} {P : ab_P} {Q : ab_Q} {a1 : Int32} {s0 : Int32} (hB : bz_B S P) {x : Int32} (H : fX11_lies_23 a1 I s0 = some x) (K0 : Q (some (.int x)) S I J P) : ab_WP l G mX11_lies 0 23 [some (.ref 0), some (.int a1)] [.int s0] S I J P 0 0 Q := by
  unfold fX11_lies_23 at H
  obtain rfl := Option.some.inj H
  exact ab_iret (by decide +kernel) rfl (Nat.le_refl _) (Nat.le_refl _) K0
def fX11_lies_21 (a1 : Int32) (I : ab_I) : Option Int32 :=
  fX11_lies_23 a1 I (-2 : Int32)
set_option maxRecDepth 100000 in
theorem fX11_lies_21_ok {l : Launch} {G : ab_G} {S : ab_S} {I : ab_I} {J : ab_J} {P : ab_P} {Q : ab_Q} {a1 : Int32} (hB : bz_B S P) {x : Int32} (H : fX11_lies_21 a1 I = some x) (K0 : Q (some (.int x)) S I J P) : ab_WP l G mX11_lies 0 21 [some (.ref 0), some (.int a1)] [] S I J P 0 0 Q := by
  unfold fX11_lies_21 at H
  refine ab_bipush (z := -2) (v := (-2 : Int32)) (by decide +kernel) (by decide) ?_
  exact ab_wk (ab_le_some (ab_le_some (ab_le_nil))) (fX11_lies_23_ok hB H  K0)
def fX11_lies (a1 : Int32) (I : ab_I) : Option Int32 :=
  if a1 < 0 then
    fX11_lies_21 a1 I
  else
    if (I 0 9) ≤ a1 then
      fX11_lies_21 a1 I
    else
      ab_gd (ab_ix a1 6 = true) (
        fX11_lies_23 a1 I (I 55 a1.toNatClampNeg)
      )
set_option maxRecDepth 100000 in
theorem mX11_lies_ok {l : Launch} {G : ab_G} {S : ab_S} {I : ab_I} {J : ab_J} {P : ab_P} {Q : ab_Q} {a1 : Int32} (hB : bz_B S P) {x : Int32} (H : fX11_lies a1 I = some x) (K0 : Q (some (.int x)) S I J P) : ab_Call l G mX11_lies 0 [.ref 0, .int a1] S I J P Q := by
  unfold fX11_lies at H
  refine ab_enter rfl (Nat.le_of_ble_eq_true rfl) (ab_wk (ls' := [some (.ref 0), some (.int a1)]) (ab_le_some (ab_le_some (ab_le_nil))) ?_)
  refine ab_iload_n (z := 1) (by decide +kernel) rfl rfl ?_
  refine ab_if_lt (off := 20) (tgt := 21) (by decide +kernel) rfl (fun hc => ?_) (fun hc => ?_)
  · replace H := ab_ifp H hc
    exact ab_wk (ab_le_some (ab_le_some (ab_le_nil))) (fX11_lies_21_ok hB H  K0)
  · replace H := ab_ifn H hc
    refine ab_iload_n (z := 1) (by decide +kernel) rfl rfl ?_
    refine ab_aload_n (z := 0) (by decide +kernel) rfl rfl ?_
    refine gX11_9 (ix := 75) (by decide +kernel) tw_417 (hB.1 0 _ rfl) ?_
    refine ab_icmp_ge (off := 12) (tgt := 21) (by decide +kernel) rfl (fun hc => ?_) (fun hc => ?_)
    · replace H := ab_ifp H hc
      exact ab_wk (ab_le_some (ab_le_some (ab_le_nil))) (fX11_lies_21_ok hB H  K0)
    · replace H := ab_ifn H hc
      refine ab_aload_n (z := 0) (by decide +kernel) rfl rfl ?_
      refine gX11_8 (ix := 71) (by decide +kernel) tw_416 (hB.1 0 _ rfl) (hB.2.1 8 (0, 8, 55) rfl) ?_
      refine ab_iload_n (z := 1) (by decide +kernel) rfl rfl ?_
      obtain ⟨hg, H⟩ := ab_gd_of H
      refine ab_iald (ln := 6) (by decide +kernel) (hB.1 55 _ rfl) (ab_ix_in hg) ?_
      refine ab_goto (off := 5) (tgt := 23) (by decide +kernel) rfl ?_
      exact ab_wk (ab_le_some (ab_le_some (ab_le_nil))) (fX11_lies_23_ok hB H  K0)
abbrev mX10_add : ab_M := (yX10_add, cX10_add, 5, some .int, 0, 0)
theorem kvX10_add {l : Launch} {G : ab_G} {M : ab_M} {d pc : Nat} {ls : List (Option Value)} {st : List Value} {S : ab_S} {I : ab_I} {J : ab_J} {P : ab_P} {Q : ab_Q} {v0 v1 v2 v3 : Value} {ix D r ln : Nat} (hd : decode M.2.1 pc = .ok (.invokevirtual ix, 3)) (h1 : Cond.methodLink M.1.cls ix mX10_add.1 ∈ ab_good) (hs : S[r]? = some (15, ln)) (hdg : D + 1 ≤ d) (hsum : (st.map fun v => v.category).sum ≤ 8) (kk : ab_Call l G mX10_add D (.ref r :: [v0, v1, v2, v3]) S I J P (fun v S' I' J' P' => ab_WP l G M d (pc + 3) ls (ab_psh v st) S' I' J' P' 0 0 Q)) : ab_WP l G M d pc ls (v3 :: v2 :: v1 :: v0 :: .ref r :: st) S I J P 0 0 Q := bz_kv (g := mX10_add) (as := [v0, v1, v2, v3]) (cc := 10) rfl hd h1 tw_989 tw_990 tw_11 tw_991 ⟨by decide +kernel, by decide +kernel, (by decide +kernel : (parseMethodDescriptor mX10_add.1.desc).map (fun d => d.parameters.length) = some 4)⟩ (by decide) rfl rfl rfl hdg hsum hs kk
def fX10_add (a1 : Int32) (a2 : Int32) (a3 : Int32) (a4 : Int32) (I : ab_I) : Option (Int32 × ab_I) :=
  if (I 41 10) < (30 : Int32) then
    ab_gd (ab_ix (I 41 10) 30 = true) (
      ab_gd (ab_ix (I 41 10) 30 = true) (
        ab_gd (ab_ix (I 41 10) 30 = true) (
          ab_gd (ab_ix (I 41 10) 30 = true) (
          ab_gd (a4 = 0 ∨ a4 = 1) (
            ab_gd (ab_ix (I 41 10) 30 = true) (
              ab_gd (ab_ix (I 41 10) 30 = true) (
                some ((((I 41 10) + (1 : Int32)) - (1 : Int32)), (ab_u (ab_u (ab_u (ab_u (ab_u (ab_u (ab_u I 46 ((I 41 10).toNatClampNeg) a1) 47 ((I 41 10).toNatClampNeg) a2) 48 ((I 41 10).toNatClampNeg) a3) 49 ((I 41 10).toNatClampNeg) a4) 50 ((I 41 10).toNatClampNeg) (I 41 11)) 51 ((I 41 10).toNatClampNeg) (100001 : Int32)) 41 10 ((I 41 10) + (1 : Int32))))
              )
            )
          ))
        )
      )
    )
  else
    some ((-1 : Int32), I)
set_option maxRecDepth 100000 in
theorem mX10_add_ok {l : Launch} {G : ab_G} {S : ab_S} {I : ab_I} {J : ab_J} {P : ab_P} {Q : ab_Q} {a1 : Int32} {a2 : Int32} {a3 : Int32} {a4 : Int32} (hB : bz_B S P) {x : Int32 × ab_I} (H : fX10_add a1 a2 a3 a4 I = some x) (K0 : Q (some (.int x.1)) S x.2 J P) : ab_Call l G mX10_add 0 [.ref 41, .int a1, .int a2, .int a3, .int a4] S I J P Q := by
  unfold fX10_add at H
  refine ab_enter rfl (Nat.le_of_ble_eq_true rfl) (ab_wk (ls' := [some (.ref 41), some (.int a1), some (.int a2), some (.int a3), some (.int a4)]) (ab_le_some (ab_le_some (ab_le_some (ab_le_some (ab_le_some (ab_le_nil)))))) ?_)
  refine ab_aload_n (z := 0) (by decide +kernel) rfl rfl ?_
  refine gX10_10 (ix := 41) (by decide +kernel) tw_356 (hB.1 41 _ rfl) ?_
  refine ab_bipush (z := 30) (v := (30 : Int32)) (by decide +kernel) (by decide) ?_
  refine ab_icmp_lt (off := 5) (tgt := 11) (by decide +kernel) rfl (fun hc => ?_) (fun hc => ?_)
  · replace H := ab_ifp H hc
    refine ab_aload_n (z := 0) (by decide +kernel) rfl rfl ?_
    refine gX10_3 (ix := 18) (by decide +kernel) tw_349 (hB.1 41 _ rfl) (hB.2.1 53 (41, 3, 46) rfl) ?_
    refine ab_aload_n (z := 0) (by decide +kernel) rfl rfl ?_
    refine gX10_10 (ix := 41) (by decide +kernel) tw_356 (hB.1 41 _ rfl) ?_
    refine ab_iload_n (z := 1) (by decide +kernel) rfl rfl ?_
    obtain ⟨hg, H⟩ := ab_gd_of H
    refine ab_iast (ln := 30) (by decide +kernel) (hB.1 46 _ rfl) (ab_ix_in hg) ?_
    refine ab_aload_n (z := 0) (by decide +kernel) rfl rfl ?_
    refine gX10_4 (ix := 22) (by decide +kernel) tw_350 (hB.1 41 _ rfl) (hB.2.1 54 (41, 4, 47) rfl) ?_
    refine ab_aload_n (z := 0) (by decide +kernel) rfl rfl ?_
    refine gX10_10 (ix := 41) (by decide +kernel) tw_356 (hB.1 41 _ rfl) ?_
    refine ab_top (y := (I 41 10)) rfl ?_
    refine ab_iload_n (z := 2) (by decide +kernel) rfl rfl ?_
    obtain ⟨hg, H⟩ := ab_gd_of H
    refine ab_iast (ln := 30) (by decide +kernel) (hB.1 47 _ rfl) (ab_ix_in hg) ?_
    refine ab_aload_n (z := 0) (by decide +kernel) rfl rfl ?_
    refine gX10_5 (ix := 25) (by decide +kernel) tw_351 (hB.1 41 _ rfl) (hB.2.1 55 (41, 5, 48) rfl) ?_
    refine ab_aload_n (z := 0) (by decide +kernel) rfl rfl ?_
    refine gX10_10 (ix := 41) (by decide +kernel) tw_356 (hB.1 41 _ rfl) ?_
    refine ab_top (y := (I 41 10)) rfl ?_
    refine ab_iload_n (z := 3) (by decide +kernel) rfl rfl ?_
    obtain ⟨hg, H⟩ := ab_gd_of H
    refine ab_iast (ln := 30) (by decide +kernel) (hB.1 48 _ rfl) (ab_ix_in hg) ?_
    refine ab_aload_n (z := 0) (by decide +kernel) rfl rfl ?_
    refine gX10_6 (ix := 28) (by decide +kernel) tw_352 (hB.1 41 _ rfl) (hB.2.1 56 (41, 6, 49) rfl) ?_
    refine ab_aload_n (z := 0) (by decide +kernel) rfl rfl ?_
    refine gX10_10 (ix := 41) (by decide +kernel) tw_356 (hB.1 41 _ rfl) ?_
    refine ab_top (y := (I 41 10)) rfl ?_
    refine ab_iload (i := 4) (by decide +kernel) rfl ?_
    obtain ⟨hg, H⟩ := ab_gd_of H
    obtain ⟨hg2, H⟩ := ab_gd_of H
    refine ab_zast (ln := 30) (by decide +kernel) (hB.1 49 _ rfl) (ab_ix_in hg) hg2 ?_
    refine ab_aload_n (z := 0) (by decide +kernel) rfl rfl ?_
    refine gX10_7 (ix := 32) (by decide +kernel) tw_353 (hB.1 41 _ rfl) (hB.2.1 57 (41, 7, 50) rfl) ?_
    refine ab_aload_n (z := 0) (by decide +kernel) rfl rfl ?_
    refine gX10_10 (ix := 41) (by decide +kernel) tw_356 (hB.1 41 _ rfl) ?_
    refine ab_top (y := (I 41 10)) rfl ?_
    refine ab_aload_n (z := 0) (by decide +kernel) rfl rfl ?_
    refine gX10_11 (ix := 45) (by decide +kernel) tw_358 (hB.1 41 _ rfl) ?_
    refine ab_top (y := (I 41 11)) rfl ?_
    obtain ⟨hg, H⟩ := ab_gd_of H
    refine ab_iast (ln := 30) (by decide +kernel) (hB.1 50 _ rfl) (ab_ix_in hg) ?_
    refine ab_aload_n (z := 0) (by decide +kernel) rfl rfl ?_
    refine gX10_8 (ix := 35) (by decide +kernel) tw_354 (hB.1 41 _ rfl) (hB.2.1 58 (41, 8, 51) rfl) ?_
    refine ab_aload_n (z := 0) (by decide +kernel) rfl rfl ?_
    refine gX10_10 (ix := 41) (by decide +kernel) tw_356 (hB.1 41 _ rfl) ?_
    refine ab_top (y := (I 41 10)) rfl ?_
    refine ab_ldc (ix := 56) (v := (100001 : Int32)) (by decide +kernel) tw_992 ?_
    obtain ⟨hg, H⟩ := ab_gd_of H
    refine ab_iast (ln := 30) (by decide +kernel) (hB.1 51 _ rfl) (ab_ix_in hg) ?_
    refine ab_aload_n (z := 0) (by decide +kernel) rfl rfl ?_
    refine ab_dup (by decide +kernel) rfl ?_
    refine gX10_10 (ix := 41) (by decide +kernel) tw_356 (hB.1 41 _ rfl) ?_
    refine ab_top (y := (I 41 10)) rfl ?_
    refine ab_iconst (z := 1) (v := (1 : Int32)) (by decide +kernel) (by decide) ?_
    refine ab_iadd (by decide +kernel) ?_
    refine pX10_10 (ix := 41) (by decide +kernel) tw_356 (hB.1 41 _ rfl) ?_
    refine ab_aload_n (z := 0) (by decide +kernel) rfl rfl ?_
    refine gX10_10 (ix := 41) (by decide +kernel) tw_356 (hB.1 41 _ rfl) ?_
    refine ab_top (y := ((I 41 10) + (1 : Int32))) rfl ?_
    refine ab_iconst (z := 1) (v := (1 : Int32)) (by decide +kernel) (by decide) ?_
    refine ab_isub (by decide +kernel) ?_
    obtain rfl := Option.some.inj H
    exact ab_iret (by decide +kernel) rfl (Nat.le_refl _) (Nat.le_refl _) K0
  · replace H := ab_ifn H hc
    refine ab_iconst (z := -1) (v := (-1 : Int32)) (by decide +kernel) (by decide) ?_
    obtain rfl := Option.some.inj H
    exact ab_iret (by decide +kernel) rfl (Nat.le_refl _) (Nat.le_refl _) K0
abbrev mX11_seen : ab_M := (yX11_seen, cX11_seen, 5, some .int, 0, 0)
def fX11_seen_32 (a1 : Int32) (a2 : Int32) (a3 : Int32) (a4 : Int32) (I : ab_I) : Option (Int32 × ab_I) :=
  some ((-1 : Int32), I)
set_option maxRecDepth 100000 in
theorem fX11_seen_32_ok {l : Launch} {G : ab_G} {S : ab_S} {I : ab_I} {J : ab_J} {P : ab_P} {Q : ab_Q} {a1 : Int32} {a2 : Int32} {a3 : Int32} {a4 : Int32} (hB : bz_B S P) {x : Int32 × ab_I} (H : fX11_seen_32 a1 a2 a3 a4 I = some x) (K0 : Q (some (.int x.1)) S x.2 J P) : ab_WP l G mX11_seen 2 32 [some (.ref 0), some (.int a1), some (.int a2), some (.int a3), some (.int a4)] [] S I J P 0 0 Q := by
  unfold fX11_seen_32 at H
  refine ab_iconst (z := -1) (v := (-1 : Int32)) (by decide +kernel) (by decide) ?_
  obtain rfl := Option.some.inj H
  exact ab_iret (by decide +kernel) rfl (Nat.le_refl _) (Nat.le_refl _) K0
def fX11_seen (a1 : Int32) (a2 : Int32) (a3 : Int32) (a4 : Int32) (I : ab_I) : Option (Int32 × ab_I) :=
  (fX11_within a1 (1 : Int32) (12 : Int32)).bind fun u1 =>
  if u1 = 0 then
    fX11_seen_32 a1 a2 a3 a4 I
  else
    (fX9_isPair a3 a2 I).bind fun u2 =>
    if u2 = 0 then
      fX11_seen_32 a1 a2 a3 a4 I
    else
      if (I 3 6) = 0 then
        fX11_seen_32 a1 a2 a3 a4 I
      else
        (fX10_add a1 a2 a3 a4 I).bind fun u3 =>
        some (u3.1, u3.2)
set_option maxRecDepth 100000 in
theorem mX11_seen_ok {l : Launch} {G : ab_G} {S : ab_S} {I : ab_I} {J : ab_J} {P : ab_P} {Q : ab_Q} {a1 : Int32} {a2 : Int32} {a3 : Int32} {a4 : Int32} (hB : bz_B S P) {x : Int32 × ab_I} (H : fX11_seen a1 a2 a3 a4 I = some x) (K0 : Q (some (.int x.1)) S x.2 J P) : ab_Call l G mX11_seen 2 [.ref 0, .int a1, .int a2, .int a3, .int a4] S I J P Q := by
  unfold fX11_seen at H
  refine ab_enter rfl (Nat.le_of_ble_eq_true rfl) (ab_wk (ls' := [some (.ref 0), some (.int a1), some (.int a2), some (.int a3), some (.int a4)]) (ab_le_some (ab_le_some (ab_le_some (ab_le_some (ab_le_some (ab_le_nil)))))) ?_)
  refine ab_iload_n (z := 1) (by decide +kernel) rfl rfl ?_
  refine ab_iconst (z := 1) (v := (1 : Int32)) (by decide +kernel) (by decide) ?_
  refine ab_bipush (z := 12) (v := (12 : Int32)) (by decide +kernel) (by decide) ?_
  obtain ⟨u1, hu1, H⟩ := ab_bd_of H
  refine ksX11_within (D := 0) (ix := 191) (by decide +kernel) tw_746 (by decide) (Nat.le_of_ble_eq_true rfl) (mX11_within_ok hB hu1 ?_)
  change ab_WP l G mX11_seen 2 7 [some (.ref 0), some (.int a1), some (.int a2), some (.int a3), some (.int a4)] [.int u1] S I J P 0 0 Q
  refine ab_if_eq (off := 25) (tgt := 32) (by decide +kernel) rfl (fun hc => ?_) (fun hc => ?_)
  · replace H := ab_ifp H hc
    exact ab_wk (ab_le_some (ab_le_some (ab_le_some (ab_le_some (ab_le_some (ab_le_nil)))))) (fX11_seen_32_ok hB H  K0)
  · replace H := ab_ifn H hc
    refine ab_aload_n (z := 0) (by decide +kernel) rfl rfl ?_
    refine gX11_1 (ix := 19) (by decide +kernel) tw_409 (hB.1 0 _ rfl) (hB.2.1 1 (0, 1, 3) rfl) ?_
    refine ab_iload_n (z := 3) (by decide +kernel) rfl rfl ?_
    refine ab_iload_n (z := 2) (by decide +kernel) rfl rfl ?_
    obtain ⟨u2, hu2, H⟩ := ab_bd_of H
    refine kvX9_isPair (D := 1) (ix := 150) (by decide +kernel) tw_701 (hB.1 3 _ rfl) (by decide) (Nat.le_of_ble_eq_true rfl) (mX9_isPair_ok hB hu2 ?_)
    change ab_WP l G mX11_seen 2 19 [some (.ref 0), some (.int a1), some (.int a2), some (.int a3), some (.int a4)] [.int u2] S I J P 0 0 Q
    refine ab_if_eq (off := 13) (tgt := 32) (by decide +kernel) rfl (fun hc => ?_) (fun hc => ?_)
    · replace H := ab_ifp H hc
      exact ab_wk (ab_le_some (ab_le_some (ab_le_some (ab_le_some (ab_le_some (ab_le_nil)))))) (fX11_seen_32_ok hB H  K0)
    · replace H := ab_ifn H hc
      refine ab_aload_n (z := 0) (by decide +kernel) rfl rfl ?_
      refine gX11_1 (ix := 19) (by decide +kernel) tw_409 (hB.1 0 _ rfl) (hB.2.1 1 (0, 1, 3) rfl) ?_
      refine gX9_6 (ix := 303) (by decide +kernel) tw_102 (hB.1 3 _ rfl) ?_
      refine ab_if_ne (off := 5) (tgt := 34) (by decide +kernel) rfl (fun hc => ?_) (fun hc => ?_)
      · replace H := ab_ifn H hc
        refine ab_aload_n (z := 0) (by decide +kernel) rfl rfl ?_
        refine gX11_6 (ix := 60) (by decide +kernel) tw_414 (hB.1 0 _ rfl) (hB.2.1 6 (0, 6, 41) rfl) ?_
        refine ab_iload_n (z := 1) (by decide +kernel) rfl rfl ?_
        refine ab_iload_n (z := 2) (by decide +kernel) rfl rfl ?_
        refine ab_iload_n (z := 3) (by decide +kernel) rfl rfl ?_
        refine ab_iload (i := 4) (by decide +kernel) rfl ?_
        obtain ⟨u3, hu3, H⟩ := ab_bd_of H
        refine kvX10_add (D := 0) (ix := 306) (by decide +kernel) tw_988 (hB.1 41 _ rfl) (by decide) (Nat.le_of_ble_eq_true rfl) (mX10_add_ok hB hu3 ?_)
        change ab_WP l G mX11_seen 2 46 [some (.ref 0), some (.int a1), some (.int a2), some (.int a3), some (.int a4)] [.int u3.1] S u3.2 J P 0 0 Q
        obtain rfl := Option.some.inj H
        exact ab_iret (by decide +kernel) rfl (Nat.le_refl _) (Nat.le_refl _) K0
      · replace H := ab_ifp H hc
        exact ab_wk (ab_le_some (ab_le_some (ab_le_some (ab_le_some (ab_le_some (ab_le_nil)))))) (fX11_seen_32_ok hB H  K0)
abbrev mX10_takeOut : ab_M := (yX10_takeOut, cX10_takeOut, 2, some .boolean, 0, 0)
theorem kvX10_takeOut {l : Launch} {G : ab_G} {M : ab_M} {d pc : Nat} {ls : List (Option Value)} {st : List Value} {S : ab_S} {I : ab_I} {J : ab_J} {P : ab_P} {Q : ab_Q} {v0 : Value} {ix D r ln : Nat} (hd : decode M.2.1 pc = .ok (.invokevirtual ix, 3)) (h1 : Cond.methodLink M.1.cls ix mX10_takeOut.1 ∈ ab_good) (hs : S[r]? = some (15, ln)) (hdg : D + 1 ≤ d) (hsum : (st.map fun v => v.category).sum ≤ 8) (kk : ab_Call l G mX10_takeOut D (.ref r :: [v0]) S I J P (fun v S' I' J' P' => ab_WP l G M d (pc + 3) ls (ab_psh v st) S' I' J' P' 0 0 Q)) : ab_WP l G M d pc ls (v0 :: .ref r :: st) S I J P 0 0 Q := bz_kv (g := mX10_takeOut) (as := [v0]) (cc := 10) rfl hd h1 tw_998 tw_999 tw_11 tw_1000 ⟨by decide +kernel, by decide +kernel, (by decide +kernel : (parseMethodDescriptor mX10_takeOut.1.desc).map (fun d => d.parameters.length) = some 1)⟩ (by decide) rfl rfl rfl hdg hsum hs kk
def fX10_takeOut_23 (a1 : Int32) (I : ab_I) : Option (Int32 × ab_I) :=
  some ((0 : Int32), I)
set_option maxRecDepth 100000 in
theorem fX10_takeOut_23_ok {l : Launch} {G : ab_G} {S : ab_S} {I : ab_I} {J : ab_J} {P : ab_P} {Q : ab_Q} {a1 : Int32} (hB : bz_B S P) {x : Int32 × ab_I} (H : fX10_takeOut_23 a1 I = some x) (K0 : Q (some (.int x.1)) S x.2 J P) : ab_WP l G mX10_takeOut 0 23 [some (.ref 41), some (.int a1)] [] S I J P 0 0 Q := by
  unfold fX10_takeOut_23 at H
  refine ab_iconst (z := 0) (v := (0 : Int32)) (by decide +kernel) (by decide) ?_
  obtain rfl := Option.some.inj H
  exact ab_zret (by decide +kernel) rfl (Nat.le_refl _) (Nat.le_refl _) (by decide) K0
def fX10_takeOut (a1 : Int32) (I : ab_I) : Option (Int32 × ab_I) :=
  if a1 < 0 then
    fX10_takeOut_23 a1 I
  else
    if (I 41 10) ≤ a1 then
      fX10_takeOut_23 a1 I
    else
      ab_gd (ab_ix a1 30 = true) (
        if (I 51 a1.toNatClampNeg) = (100001 : Int32) then
          ab_gd (ab_ix a1 30 = true) (
            some ((1 : Int32), (ab_u I 51 a1.toNatClampNeg (I 41 11)))
          )
        else
          fX10_takeOut_23 a1 I
      )
set_option maxRecDepth 100000 in
theorem mX10_takeOut_ok {l : Launch} {G : ab_G} {S : ab_S} {I : ab_I} {J : ab_J} {P : ab_P} {Q : ab_Q} {a1 : Int32} (hB : bz_B S P) {x : Int32 × ab_I} (H : fX10_takeOut a1 I = some x) (K0 : Q (some (.int x.1)) S x.2 J P) : ab_Call l G mX10_takeOut 0 [.ref 41, .int a1] S I J P Q := by
  unfold fX10_takeOut at H
  refine ab_enter rfl (Nat.le_of_ble_eq_true rfl) (ab_wk (ls' := [some (.ref 41), some (.int a1)]) (ab_le_some (ab_le_some (ab_le_nil))) ?_)
  refine ab_iload_n (z := 1) (by decide +kernel) rfl rfl ?_
  refine ab_if_lt (off := 22) (tgt := 23) (by decide +kernel) rfl (fun hc => ?_) (fun hc => ?_)
  · replace H := ab_ifp H hc
    exact ab_wk (ab_le_some (ab_le_some (ab_le_nil))) (fX10_takeOut_23_ok hB H  K0)
  · replace H := ab_ifn H hc
    refine ab_iload_n (z := 1) (by decide +kernel) rfl rfl ?_
    refine ab_aload_n (z := 0) (by decide +kernel) rfl rfl ?_
    refine gX10_10 (ix := 41) (by decide +kernel) tw_356 (hB.1 41 _ rfl) ?_
    refine ab_icmp_ge (off := 14) (tgt := 23) (by decide +kernel) rfl (fun hc => ?_) (fun hc => ?_)
    · replace H := ab_ifp H hc
      exact ab_wk (ab_le_some (ab_le_some (ab_le_nil))) (fX10_takeOut_23_ok hB H  K0)
    · replace H := ab_ifn H hc
      refine ab_aload_n (z := 0) (by decide +kernel) rfl rfl ?_
      refine gX10_8 (ix := 35) (by decide +kernel) tw_354 (hB.1 41 _ rfl) (hB.2.1 58 (41, 8, 51) rfl) ?_
      refine ab_iload_n (z := 1) (by decide +kernel) rfl rfl ?_
      obtain ⟨hg, H⟩ := ab_gd_of H
      refine ab_iald (ln := 30) (by decide +kernel) (hB.1 51 _ rfl) (ab_ix_in hg) ?_
      refine ab_ldc (ix := 56) (v := (100001 : Int32)) (by decide +kernel) tw_992 ?_
      refine ab_icmp_eq (off := 5) (tgt := 25) (by decide +kernel) rfl (fun hc => ?_) (fun hc => ?_)
      · replace H := ab_ifp H hc
        refine ab_aload_n (z := 0) (by decide +kernel) rfl rfl ?_
        refine gX10_8 (ix := 35) (by decide +kernel) tw_354 (hB.1 41 _ rfl) (hB.2.1 58 (41, 8, 51) rfl) ?_
        refine ab_iload_n (z := 1) (by decide +kernel) rfl rfl ?_
        refine ab_aload_n (z := 0) (by decide +kernel) rfl rfl ?_
        refine gX10_11 (ix := 45) (by decide +kernel) tw_358 (hB.1 41 _ rfl) ?_
        obtain ⟨hg, H⟩ := ab_gd_of H
        refine ab_iast (ln := 30) (by decide +kernel) (hB.1 51 _ rfl) (ab_ix_in hg) ?_
        refine ab_iconst (z := 1) (v := (1 : Int32)) (by decide +kernel) (by decide) ?_
        obtain rfl := Option.some.inj H
        exact ab_zret (by decide +kernel) rfl (Nat.le_refl _) (Nat.le_refl _) (by decide) K0
      · replace H := ab_ifn H hc
        exact ab_wk (ab_le_some (ab_le_some (ab_le_nil))) (fX10_takeOut_23_ok hB H  K0)
abbrev mX11_untell : ab_M := (yX11_untell, cX11_untell, 2, some .boolean, 0, 0)
def fX11_untell (a1 : Int32) (I : ab_I) : Option (Int32 × ab_I) :=
  (fX10_takeOut a1 I).bind fun u1 =>
  ab_gd (u1.1 = 0 ∨ u1.1 = 1) (some (u1.1, u1.2))
set_option maxRecDepth 100000 in
theorem mX11_untell_ok {l : Launch} {G : ab_G} {S : ab_S} {I : ab_I} {J : ab_J} {P : ab_P} {Q : ab_Q} {a1 : Int32} (hB : bz_B S P) {x : Int32 × ab_I} (H : fX11_untell a1 I = some x) (K0 : Q (some (.int x.1)) S x.2 J P) : ab_Call l G mX11_untell 1 [.ref 0, .int a1] S I J P Q := by
  unfold fX11_untell at H
  refine ab_enter rfl (Nat.le_of_ble_eq_true rfl) (ab_wk (ls' := [some (.ref 0), some (.int a1)]) (ab_le_some (ab_le_some (ab_le_nil))) ?_)
  refine ab_aload_n (z := 0) (by decide +kernel) rfl rfl ?_
  refine gX11_6 (ix := 60) (by decide +kernel) tw_414 (hB.1 0 _ rfl) (hB.2.1 6 (0, 6, 41) rfl) ?_
  refine ab_iload_n (z := 1) (by decide +kernel) rfl rfl ?_
  obtain ⟨u1, hu1, H⟩ := ab_bd_of H
  refine kvX10_takeOut (D := 0) (ix := 310) (by decide +kernel) tw_997 (hB.1 41 _ rfl) (by decide) (Nat.le_of_ble_eq_true rfl) (mX10_takeOut_ok hB hu1 ?_)
  change ab_WP l G mX11_untell 1 8 [some (.ref 0), some (.int a1)] [.int u1.1] S u1.2 J P 0 0 Q
  obtain ⟨hg, H⟩ := ab_gd_of H
  obtain rfl := Option.some.inj H
  exact ab_zret (by decide +kernel) rfl (Nat.le_refl _) (Nat.le_refl _) hg K0
abbrev mX11_later : ab_M := (yX11_later, cX11_later, 2, some .int, 0, 0)
def fX11_later_26 (a1 : Int32) (I : ab_I) : Option (Int32 × ab_I) :=
  some ((-1 : Int32), I)
set_option maxRecDepth 100000 in
theorem fX11_later_26_ok {l : Launch} {G : ab_G} {S : ab_S} {I : ab_I} {J : ab_J} {P : ab_P} {Q : ab_Q} {a1 : Int32} (hB : bz_B S P) {x : Int32 × ab_I} (H : fX11_later_26 a1 I = some x) (K0 : Q (some (.int x.1)) S x.2 J P) : ab_WP l G mX11_later 1 26 [some (.ref 0), some (.int a1)] [] S I J P 0 0 Q := by
  unfold fX11_later_26 at H
  refine ab_iconst (z := -1) (v := (-1 : Int32)) (by decide +kernel) (by decide) ?_
  obtain rfl := Option.some.inj H
  exact ab_iret (by decide +kernel) rfl (Nat.le_refl _) (Nat.le_refl _) K0
def fX11_later (a1 : Int32) (I : ab_I) : Option (Int32 × ab_I) :=
  (fX11_within a1 (0 : Int32) (1000 : Int32)).bind fun u1 =>
  if u1 = 0 then
    fX11_later_26 a1 I
  else
    if ((I 41 11) + a1) ≤ (100000 : Int32) then
      some (((I 41 11) + a1), (ab_u I 41 11 ((I 41 11) + a1)))
    else
      fX11_later_26 a1 I
set_option maxRecDepth 100000 in
theorem mX11_later_ok {l : Launch} {G : ab_G} {S : ab_S} {I : ab_I} {J : ab_J} {P : ab_P} {Q : ab_Q} {a1 : Int32} (hB : bz_B S P) {x : Int32 × ab_I} (H : fX11_later a1 I = some x) (K0 : Q (some (.int x.1)) S x.2 J P) : ab_Call l G mX11_later 1 [.ref 0, .int a1] S I J P Q := by
  unfold fX11_later at H
  refine ab_enter rfl (Nat.le_of_ble_eq_true rfl) (ab_wk (ls' := [some (.ref 0), some (.int a1)]) (ab_le_some (ab_le_some (ab_le_nil))) ?_)
  refine ab_iload_n (z := 1) (by decide +kernel) rfl rfl ?_
  refine ab_iconst (z := 0) (v := (0 : Int32)) (by decide +kernel) (by decide) ?_
  refine ab_sipush (z := 1000) (v := (1000 : Int32)) (by decide +kernel) (by decide) ?_
  obtain ⟨u1, hu1, H⟩ := ab_bd_of H
  refine ksX11_within (D := 0) (ix := 191) (by decide +kernel) tw_746 (by decide) (Nat.le_of_ble_eq_true rfl) (mX11_within_ok hB hu1 ?_)
  change ab_WP l G mX11_later 1 8 [some (.ref 0), some (.int a1)] [.int u1] S I J P 0 0 Q
  refine ab_if_eq (off := 18) (tgt := 26) (by decide +kernel) rfl (fun hc => ?_) (fun hc => ?_)
  · replace H := ab_ifp H hc
    exact ab_wk (ab_le_some (ab_le_some (ab_le_nil))) (fX11_later_26_ok hB H  K0)
  · replace H := ab_ifn H hc
    refine ab_aload_n (z := 0) (by decide +kernel) rfl rfl ?_
    refine gX11_6 (ix := 60) (by decide +kernel) tw_414 (hB.1 0 _ rfl) (hB.2.1 6 (0, 6, 41) rfl) ?_
    refine gX10_11 (ix := 313) (by decide +kernel) tw_359 (hB.1 41 _ rfl) ?_
    refine ab_iload_n (z := 1) (by decide +kernel) rfl rfl ?_
    refine ab_iadd (by decide +kernel) ?_
    refine ab_ldcw (ix := 316) (v := (100000 : Int32)) (by decide +kernel) tw_1005 ?_
    refine ab_icmp_le (off := 5) (tgt := 28) (by decide +kernel) rfl (fun hc => ?_) (fun hc => ?_)
    · replace H := ab_ifp H hc
      refine ab_aload_n (z := 0) (by decide +kernel) rfl rfl ?_
      refine gX11_6 (ix := 60) (by decide +kernel) tw_414 (hB.1 0 _ rfl) (hB.2.1 6 (0, 6, 41) rfl) ?_
      refine ab_dup (by decide +kernel) rfl ?_
      refine gX10_11 (ix := 313) (by decide +kernel) tw_359 (hB.1 41 _ rfl) ?_
      refine ab_iload_n (z := 1) (by decide +kernel) rfl rfl ?_
      refine ab_iadd (by decide +kernel) ?_
      refine pX10_11 (ix := 313) (by decide +kernel) tw_359 (hB.1 41 _ rfl) ?_
      refine ab_aload_n (z := 0) (by decide +kernel) rfl rfl ?_
      refine gX11_6 (ix := 60) (by decide +kernel) tw_414 (hB.1 0 _ rfl) (hB.2.1 6 (0, 6, 41) rfl) ?_
      refine gX10_11 (ix := 313) (by decide +kernel) tw_359 (hB.1 41 _ rfl) ?_
      refine ab_top (y := ((I 41 11) + a1)) rfl ?_
      obtain rfl := Option.some.inj H
      exact ab_iret (by decide +kernel) rfl (Nat.le_refl _) (Nat.le_refl _) K0
    · replace H := ab_ifn H hc
      exact ab_wk (ab_le_some (ab_le_some (ab_le_nil))) (fX11_later_26_ok hB H  K0)
abbrev mX10_counts : ab_M := (yX10_counts, cX10_counts, 3, some .boolean, 0, 0)
theorem kvX10_counts {l : Launch} {G : ab_G} {M : ab_M} {d pc : Nat} {ls : List (Option Value)} {st : List Value} {S : ab_S} {I : ab_I} {J : ab_J} {P : ab_P} {Q : ab_Q} {v0 v1 : Value} {ix D r ln : Nat} (hd : decode M.2.1 pc = .ok (.invokevirtual ix, 3)) (h1 : Cond.methodLink M.1.cls ix mX10_counts.1 ∈ ab_good) (hs : S[r]? = some (15, ln)) (hdg : D + 1 ≤ d) (hsum : (st.map fun v => v.category).sum ≤ 8) (kk : ab_Call l G mX10_counts D (.ref r :: [v0, v1]) S I J P (fun v S' I' J' P' => ab_WP l G M d (pc + 3) ls (ab_psh v st) S' I' J' P' 0 0 Q)) : ab_WP l G M d pc ls (v1 :: v0 :: .ref r :: st) S I J P 0 0 Q := bz_kv (g := mX10_counts) (as := [v0, v1]) (cc := 10) rfl hd h1 tw_1016 tw_p27 tw_11 tw_1017 ⟨by decide +kernel, by decide +kernel, (by decide +kernel : (parseMethodDescriptor mX10_counts.1.desc).map (fun d => d.parameters.length) = some 2)⟩ (by decide) rfl rfl rfl hdg hsum hs kk
def fX10_counts_36 (a1 : Int32) (a2 : Int32) (I : ab_I) (s0 : Int32) : Option Int32 :=
  ab_gd (s0 = 0 ∨ s0 = 1) (some s0)
set_option maxRecDepth 100000 in
theorem fX10_counts_36_ok {l : Launch} {G : ab_G} {S : ab_S} {I : ab_I} {J : ab_J} {P : ab_P} {Q : ab_Q} {a1 : Int32} {a2 : Int32} {s0 : Int32} (hB : bz_B S P) {x : Int32} (H : fX10_counts_36 a1 a2 I s0 = some x) (K0 : Q (some (.int x)) S I J P) : ab_WP l G mX10_counts 0 36 [some (.ref 41), some (.int a1), some (.int a2)] [.int s0] S I J P 0 0 Q := by
  unfold fX10_counts_36 at H
  obtain ⟨hg, H⟩ := ab_gd_of H
  obtain rfl := Option.some.inj H
  exact ab_zret (by decide +kernel) rfl (Nat.le_refl _) (Nat.le_refl _) hg K0
def fX10_counts_35 (a1 : Int32) (a2 : Int32) (I : ab_I) : Option Int32 :=
  fX10_counts_36 a1 a2 I (0 : Int32)
set_option maxRecDepth 100000 in
theorem fX10_counts_35_ok {l : Launch} {G : ab_G} {S : ab_S} {I : ab_I} {J : ab_J} {P : ab_P} {Q : ab_Q} {a1 : Int32} {a2 : Int32} (hB : bz_B S P) {x : Int32} (H : fX10_counts_35 a1 a2 I = some x) (K0 : Q (some (.int x)) S I J P) : ab_WP l G mX10_counts 0 35 [some (.ref 41), some (.int a1), some (.int a2)] [] S I J P 0 0 Q := by
  unfold fX10_counts_35 at H
  refine ab_iconst (z := 0) (v := (0 : Int32)) (by decide +kernel) (by decide) ?_
  exact ab_wk (ab_le_some (ab_le_some (ab_le_some (ab_le_nil)))) (fX10_counts_36_ok hB H  K0)
def fX10_counts_31 (a1 : Int32) (a2 : Int32) (I : ab_I) : Option Int32 :=
  fX10_counts_36 a1 a2 I (1 : Int32)
set_option maxRecDepth 100000 in
theorem fX10_counts_31_ok {l : Launch} {G : ab_G} {S : ab_S} {I : ab_I} {J : ab_J} {P : ab_P} {Q : ab_Q} {a1 : Int32} {a2 : Int32} (hB : bz_B S P) {x : Int32} (H : fX10_counts_31 a1 a2 I = some x) (K0 : Q (some (.int x)) S I J P) : ab_WP l G mX10_counts 0 31 [some (.ref 41), some (.int a1), some (.int a2)] [] S I J P 0 0 Q := by
  unfold fX10_counts_31 at H
  refine ab_iconst (z := 1) (v := (1 : Int32)) (by decide +kernel) (by decide) ?_
  refine ab_goto (off := 4) (tgt := 36) (by decide +kernel) rfl ?_
  exact ab_wk (ab_le_some (ab_le_some (ab_le_some (ab_le_nil)))) (fX10_counts_36_ok hB H  K0)
def fX10_counts (a1 : Int32) (a2 : Int32) (I : ab_I) : Option Int32 :=
  ab_gd (ab_ix a1 30 = true) (
    if a2 < (I 50 a1.toNatClampNeg) then
      fX10_counts_35 a1 a2 I
    else
      ab_gd (ab_ix a1 30 = true) (
        if (I 51 a1.toNatClampNeg) = (100001 : Int32) then
          fX10_counts_31 a1 a2 I
        else
          ab_gd (ab_ix a1 30 = true) (
            if (I 51 a1.toNatClampNeg) ≤ a2 then
              fX10_counts_35 a1 a2 I
            else
              fX10_counts_31 a1 a2 I
          )
      )
  )
set_option maxRecDepth 100000 in
theorem mX10_counts_ok {l : Launch} {G : ab_G} {S : ab_S} {I : ab_I} {J : ab_J} {P : ab_P} {Q : ab_Q} {a1 : Int32} {a2 : Int32} (hB : bz_B S P) {x : Int32} (H : fX10_counts a1 a2 I = some x) (K0 : Q (some (.int x)) S I J P) : ab_Call l G mX10_counts 0 [.ref 41, .int a1, .int a2] S I J P Q := by
  unfold fX10_counts at H
  refine ab_enter rfl (Nat.le_of_ble_eq_true rfl) (ab_wk (ls' := [some (.ref 41), some (.int a1), some (.int a2)]) (ab_le_some (ab_le_some (ab_le_some (ab_le_nil)))) ?_)
  refine ab_aload_n (z := 0) (by decide +kernel) rfl rfl ?_
  refine gX10_7 (ix := 32) (by decide +kernel) tw_353 (hB.1 41 _ rfl) (hB.2.1 57 (41, 7, 50) rfl) ?_
  refine ab_iload_n (z := 1) (by decide +kernel) rfl rfl ?_
  obtain ⟨hg, H⟩ := ab_gd_of H
  refine ab_iald (ln := 30) (by decide +kernel) (hB.1 50 _ rfl) (ab_ix_in hg) ?_
  refine ab_iload_n (z := 2) (by decide +kernel) rfl rfl ?_
  refine ab_icmp_gt (off := 28) (tgt := 35) (by decide +kernel) rfl (fun hc => ?_) (fun hc => ?_)
  · replace H := ab_ifp H hc
    exact ab_wk (ab_le_some (ab_le_some (ab_le_some (ab_le_nil)))) (fX10_counts_35_ok hB H  K0)
  · replace H := ab_ifn H hc
    refine ab_aload_n (z := 0) (by decide +kernel) rfl rfl ?_
    refine gX10_8 (ix := 35) (by decide +kernel) tw_354 (hB.1 41 _ rfl) (hB.2.1 58 (41, 8, 51) rfl) ?_
    refine ab_iload_n (z := 1) (by decide +kernel) rfl rfl ?_
    obtain ⟨hg, H⟩ := ab_gd_of H
    refine ab_iald (ln := 30) (by decide +kernel) (hB.1 51 _ rfl) (ab_ix_in hg) ?_
    refine ab_ldc (ix := 56) (v := (100001 : Int32)) (by decide +kernel) tw_992 ?_
    refine ab_icmp_eq (off := 13) (tgt := 31) (by decide +kernel) rfl (fun hc => ?_) (fun hc => ?_)
    · replace H := ab_ifp H hc
      exact ab_wk (ab_le_some (ab_le_some (ab_le_some (ab_le_nil)))) (fX10_counts_31_ok hB H  K0)
    · replace H := ab_ifn H hc
      refine ab_aload_n (z := 0) (by decide +kernel) rfl rfl ?_
      refine gX10_8 (ix := 35) (by decide +kernel) tw_354 (hB.1 41 _ rfl) (hB.2.1 58 (41, 8, 51) rfl) ?_
      refine ab_iload_n (z := 1) (by decide +kernel) rfl rfl ?_
      obtain ⟨hg, H⟩ := ab_gd_of H
      refine ab_iald (ln := 30) (by decide +kernel) (hB.1 51 _ rfl) (ab_ix_in hg) ?_
      refine ab_iload_n (z := 2) (by decide +kernel) rfl rfl ?_
      refine ab_icmp_le (off := 7) (tgt := 35) (by decide +kernel) rfl (fun hc => ?_) (fun hc => ?_)
      · replace H := ab_ifp H hc
        exact ab_wk (ab_le_some (ab_le_some (ab_le_some (ab_le_nil)))) (fX10_counts_35_ok hB H  K0)
      · replace H := ab_ifn H hc
        exact ab_wk (ab_le_some (ab_le_some (ab_le_some (ab_le_nil)))) (fX10_counts_31_ok hB H  K0)
abbrev mX10_beginWith : ab_M := (yX10_beginWith, cX10_beginWith, 2, none, 0, 0)
theorem kvX10_beginWith {l : Launch} {G : ab_G} {M : ab_M} {d pc : Nat} {ls : List (Option Value)} {st : List Value} {S : ab_S} {I : ab_I} {J : ab_J} {P : ab_P} {Q : ab_Q} {v0 : Value} {ix D r ln : Nat} (hd : decode M.2.1 pc = .ok (.invokevirtual ix, 3)) (h1 : Cond.methodLink M.1.cls ix mX10_beginWith.1 ∈ ab_good) (hs : S[r]? = some (15, ln)) (hdg : D + 1 ≤ d) (hsum : (st.map fun v => v.category).sum ≤ 8) (kk : ab_Call l G mX10_beginWith D (.ref r :: [v0]) S I J P (fun v S' I' J' P' => ab_WP l G M d (pc + 3) ls (ab_psh v st) S' I' J' P' 0 0 Q)) : ab_WP l G M d pc ls (v0 :: .ref r :: st) S I J P 0 0 Q := bz_kv (g := mX10_beginWith) (as := [v0]) (cc := 10) rfl hd h1 tw_1025 tw_p29 tw_11 tw_1026 ⟨by decide +kernel, by decide +kernel, (by decide +kernel : (parseMethodDescriptor mX10_beginWith.1.desc).map (fun d => d.parameters.length) = some 1)⟩ (by decide) rfl rfl rfl hdg hsum hs kk
def fX10_beginWith_38 (a1 : Int32) (I : ab_I) : Option ab_I :=
  some I
set_option maxRecDepth 100000 in
theorem fX10_beginWith_38_ok {l : Launch} {G : ab_G} {S : ab_S} {I : ab_I} {J : ab_J} {P : ab_P} {Q : ab_Q} {a1 : Int32} (hB : bz_B S P) {x : ab_I} (H : fX10_beginWith_38 a1 I = some x) (K0 : Q none S x J P) : ab_WP l G mX10_beginWith 2 38 [some (.ref 41), some (.int a1)] [] S I J P 0 0 Q := by
  unfold fX10_beginWith_38 at H
  obtain rfl := Option.some.inj H
  exact ab_vret (by decide +kernel) rfl (Nat.le_refl _) (Nat.le_refl _) K0
def fX10_beginWith (a1 : Int32) (I : ab_I) : Option ab_I :=
  (fX9_begin 42 I).bind fun u1 =>
  if (u1 3 7) = (-1 : Int32) then
    fX10_beginWith_38 a1 u1
  else
    ab_gd (ab_ix (u1 3 7) 30 = true) (
      fX10_beginWith_38 a1 (ab_u u1 (42 + 3) ((u1 3 7).toNatClampNeg) a1)
    )
set_option maxRecDepth 100000 in
theorem mX10_beginWith_ok {l : Launch} {G : ab_G} {S : ab_S} {I : ab_I} {J : ab_J} {P : ab_P} {Q : ab_Q} {a1 : Int32} (hB : bz_B S P) {x : ab_I} (H : fX10_beginWith a1 I = some x) (K0 : Q none S x J P) : ab_Call l G mX10_beginWith 2 [.ref 41, .int a1] S I J P Q := by
  unfold fX10_beginWith at H
  refine ab_enter rfl (Nat.le_of_ble_eq_true rfl) (ab_wk (ls' := [some (.ref 41), some (.int a1)]) (ab_le_some (ab_le_some (ab_le_nil))) ?_)
  refine ab_aload_n (z := 0) (by decide +kernel) rfl rfl ?_
  refine gX10_0 (ix := 48) (by decide +kernel) tw_346 (hB.1 41 _ rfl) (hB.2.1 50 (41, 0, 3) rfl) ?_
  refine ab_aload_n (z := 0) (by decide +kernel) rfl rfl ?_
  refine gX10_2 (ix := 12) (by decide +kernel) tw_348 (hB.1 41 _ rfl) (hB.2.1 52 (41, 2, 42) rfl) ?_
  obtain ⟨u1, hu1, H⟩ := ab_bd_of H
  refine kvX9_begin (D := 1) (ix := 89) (by decide +kernel) tw_1027 (hB.1 3 _ rfl) (by decide) (Nat.le_of_ble_eq_true rfl) (mX9_begin_ok hB (bz_st_42 hB) hu1 ?_)
  change ab_WP l G mX10_beginWith 2 11 [some (.ref 41), some (.int a1)] [] S u1 J P 0 0 Q
  refine ab_aload_n (z := 0) (by decide +kernel) rfl rfl ?_
  refine gX10_0 (ix := 48) (by decide +kernel) tw_346 (hB.1 41 _ rfl) (hB.2.1 50 (41, 0, 3) rfl) ?_
  refine gX9_7 (ix := 93) (by decide +kernel) tw_105 (hB.1 3 _ rfl) ?_
  refine ab_iconst (z := -1) (v := (-1 : Int32)) (by decide +kernel) (by decide) ?_
  refine ab_icmp_eq (off := 19) (tgt := 38) (by decide +kernel) rfl (fun hc => ?_) (fun hc => ?_)
  · replace H := ab_ifp H hc
    exact ab_wk (ab_le_some (ab_le_some (ab_le_nil))) (fX10_beginWith_38_ok hB H  K0)
  · replace H := ab_ifn H hc
    refine ab_aload_n (z := 0) (by decide +kernel) rfl rfl ?_
    refine gX10_2 (ix := 12) (by decide +kernel) tw_348 (hB.1 41 _ rfl) (hB.2.1 52 (41, 2, 42) rfl) ?_
    refine gX6_2 (ix := 96) (by decide +kernel) tw_252 (bz_st_42 hB).1 (bz_st_42 hB).2.2.2.2.2.2 ?_
    refine ab_aload_n (z := 0) (by decide +kernel) rfl rfl ?_
    refine gX10_0 (ix := 48) (by decide +kernel) tw_346 (hB.1 41 _ rfl) (hB.2.1 50 (41, 0, 3) rfl) ?_
    refine gX9_7 (ix := 93) (by decide +kernel) tw_105 (hB.1 3 _ rfl) ?_
    refine ab_iload_n (z := 1) (by decide +kernel) rfl rfl ?_
    obtain ⟨hg, H⟩ := ab_gd_of H
    refine ab_iast (ln := 30) (by decide +kernel) (bz_st_42 hB).2.2.2.1 (ab_ix_in hg) ?_
    exact ab_wk (ab_le_some (ab_le_some (ab_le_nil))) (fX10_beginWith_38_ok hB H  K0)
abbrev mX10_holds : ab_M := (yX10_holds, cX10_holds, 7, some .boolean, 0, 0)
theorem kvX10_holds {l : Launch} {G : ab_G} {M : ab_M} {d pc : Nat} {ls : List (Option Value)} {st : List Value} {S : ab_S} {I : ab_I} {J : ab_J} {P : ab_P} {Q : ab_Q} {v0 v1 v2 : Value} {ix D r ln : Nat} (hd : decode M.2.1 pc = .ok (.invokevirtual ix, 3)) (h1 : Cond.methodLink M.1.cls ix mX10_holds.1 ∈ ab_good) (hs : S[r]? = some (15, ln)) (hdg : D + 1 ≤ d) (hsum : (st.map fun v => v.category).sum ≤ 8) (kk : ab_Call l G mX10_holds D (.ref r :: [v0, v1, v2]) S I J P (fun v S' I' J' P' => ab_WP l G M d (pc + 3) ls (ab_psh v st) S' I' J' P' 0 0 Q)) : ab_WP l G M d pc ls (v2 :: v1 :: v0 :: .ref r :: st) S I J P 0 0 Q := bz_kv (g := mX10_holds) (as := [v0, v1, v2]) (cc := 10) rfl hd h1 tw_1021 tw_p28 tw_11 tw_1022 ⟨by decide +kernel, by decide +kernel, (by decide +kernel : (parseMethodDescriptor mX10_holds.1.desc).map (fun d => d.parameters.length) = some 3)⟩ (by decide) rfl rfl rfl hdg hsum hs kk
def fX10_holds_127 (a1 : Int32) (a2 : Int32) (a3 : Int32) (I : ab_I) : Option (Int32 × ab_I) :=
  some ((1 : Int32), I)
set_option maxRecDepth 100000 in
theorem fX10_holds_127_ok {l : Launch} {G : ab_G} {S : ab_S} {I : ab_I} {J : ab_J} {P : ab_P} {Q : ab_Q} {a1 : Int32} {a2 : Int32} {a3 : Int32} (hB : bz_B S P) {x : Int32 × ab_I} (H : fX10_holds_127 a1 a2 a3 I = some x) (K0 : Q (some (.int x.1)) S x.2 J P) : ab_WP l G mX10_holds 5 127 [some (.ref 41), some (.int a1), some (.int a2), some (.int a3), none, none, none] [] S I J P 0 0 Q := by
  unfold fX10_holds_127 at H
  refine ab_iconst (z := 1) (v := (1 : Int32)) (by decide +kernel) (by decide) ?_
  obtain rfl := Option.some.inj H
  exact ab_zret (by decide +kernel) rfl (Nat.le_refl _) (Nat.le_refl _) (by decide) K0
def fX10_holds_121 (a1 : Int32) (a2 : Int32) (a3 : Int32) (a4 : Int32) (I : ab_I) : Option ((Int32 × ab_I) ⊕ (Int32 × ab_I)) :=
  some (.inl ((a4 + (1 : Int32)), I))
set_option maxRecDepth 100000 in
theorem fX10_holds_121_ok {l : Launch} {G : ab_G} {S : ab_S} {I : ab_I} {J : ab_J} {P : ab_P} {Q : ab_Q} {a1 : Int32} {a2 : Int32} {a3 : Int32} {a4 : Int32} (hB : bz_B S P) {x : ((Int32 × ab_I) ⊕ (Int32 × ab_I))} (H : fX10_holds_121 a1 a2 a3 a4 I = some x) (K1 : ∀ s, x = (.inl s) → ab_WP l G mX10_holds 5 8 [some (.ref 41), some (.int a1), some (.int a2), some (.int a3), some (.int s.1), none, none] [] S s.2 J P 0 0 Q) (K0 : ∀ r, x = (.inr r) → Q (some (.int r.1)) S r.2 J P) : ab_WP l G mX10_holds 5 121 [some (.ref 41), some (.int a1), some (.int a2), some (.int a3), some (.int a4), none, none] [] S I J P 0 0 Q := by
  unfold fX10_holds_121 at H
  refine ab_iinc (i := 4) (z := 1) (v := (a4 + (1 : Int32))) (by decide +kernel) rfl rfl (by decide) rfl ?_
  refine ab_ls (ls' := [some (.ref 41), some (.int a1), some (.int a2), some (.int a3), some (.int (a4 + (1 : Int32))), none, none]) rfl ?_
  refine ab_goto (off := -116) (tgt := 8) (by decide +kernel) rfl ?_
  exact ab_wk (ab_le_some (ab_le_some (ab_le_some (ab_le_some (ab_le_some (ab_le_none (ab_le_none (ab_le_nil)))))))) (K1 ((a4 + (1 : Int32)), I) (Option.some.inj H).symm)
def fX10_holds_115 (a1 : Int32) (a2 : Int32) (a3 : Int32) (a4 : Int32) (a5 : Int32) (I : ab_I) : Option ((Int32 × Int32 × ab_I) ⊕ ((Int32 × ab_I) ⊕ (Int32 × ab_I))) :=
  some (.inl (a4, (a5 + (1 : Int32)), I))
set_option maxRecDepth 100000 in
theorem fX10_holds_115_ok {l : Launch} {G : ab_G} {S : ab_S} {I : ab_I} {J : ab_J} {P : ab_P} {Q : ab_Q} {a1 : Int32} {a2 : Int32} {a3 : Int32} {a4 : Int32} {a5 : Int32} (hB : bz_B S P) {x : ((Int32 × Int32 × ab_I) ⊕ ((Int32 × ab_I) ⊕ (Int32 × ab_I)))} (H : fX10_holds_115 a1 a2 a3 a4 a5 I = some x) (K2 : ∀ s, x = (.inl s) → ab_WP l G mX10_holds 5 30 [some (.ref 41), some (.int a1), some (.int a2), some (.int a3), some (.int s.1), some (.int s.2.1), none] [] S s.2.2 J P 0 0 Q) (K1 : ∀ s, x = (.inr (.inl s)) → ab_WP l G mX10_holds 5 8 [some (.ref 41), some (.int a1), some (.int a2), some (.int a3), some (.int s.1), none, none] [] S s.2 J P 0 0 Q) (K0 : ∀ r, x = (.inr (.inr r)) → Q (some (.int r.1)) S r.2 J P) : ab_WP l G mX10_holds 5 115 [some (.ref 41), some (.int a1), some (.int a2), some (.int a3), some (.int a4), some (.int a5), none] [] S I J P 0 0 Q := by
  unfold fX10_holds_115 at H
  refine ab_iinc (i := 5) (z := 1) (v := (a5 + (1 : Int32))) (by decide +kernel) rfl rfl (by decide) rfl ?_
  refine ab_ls (ls' := [some (.ref 41), some (.int a1), some (.int a2), some (.int a3), some (.int a4), some (.int (a5 + (1 : Int32))), none]) rfl ?_
  refine ab_goto (off := -88) (tgt := 30) (by decide +kernel) rfl ?_
  exact ab_wk (ab_le_some (ab_le_some (ab_le_some (ab_le_some (ab_le_some (ab_le_some (ab_le_none (ab_le_nil)))))))) (K2 (a4, (a5 + (1 : Int32)), I) (Option.some.inj H).symm)
def fX10_holds_113 (a1 : Int32) (a2 : Int32) (a3 : Int32) (I : ab_I) : Option (Int32 × ab_I) :=
  some ((0 : Int32), I)
set_option maxRecDepth 100000 in
theorem fX10_holds_113_ok {l : Launch} {G : ab_G} {S : ab_S} {I : ab_I} {J : ab_J} {P : ab_P} {Q : ab_Q} {a1 : Int32} {a2 : Int32} {a3 : Int32} (hB : bz_B S P) {x : Int32 × ab_I} (H : fX10_holds_113 a1 a2 a3 I = some x) (K0 : Q (some (.int x.1)) S x.2 J P) : ab_WP l G mX10_holds 5 113 [some (.ref 41), some (.int a1), some (.int a2), some (.int a3), none, none, none] [] S I J P 0 0 Q := by
  unfold fX10_holds_113 at H
  refine ab_iconst (z := 0) (v := (0 : Int32)) (by decide +kernel) (by decide) ?_
  obtain rfl := Option.some.inj H
  exact ab_zret (by decide +kernel) rfl (Nat.le_refl _) (Nat.le_refl _) (by decide) K0
def fX10_holds_103 (a1 : Int32) (a2 : Int32) (a3 : Int32) (a4 : Int32) (a5 : Int32) (s0 : Int32) (I : ab_I) : Option ((Int32 × Int32 × ab_I) ⊕ ((Int32 × ab_I) ⊕ (Int32 × ab_I))) :=
  ab_gd (ab_ix a5 30 = true) (
    if s0 = (I 49 a5.toNatClampNeg) then
      fX10_holds_115 a1 a2 a3 a4 a5 I
    else
      ((fX10_holds_113 a1 a2 a3 I).map .inr).map .inr
  )
set_option maxRecDepth 100000 in
theorem fX10_holds_103_ok {l : Launch} {G : ab_G} {S : ab_S} {I : ab_I} {J : ab_J} {P : ab_P} {Q : ab_Q} {a1 : Int32} {a2 : Int32} {a3 : Int32} {a4 : Int32} {a5 : Int32} {s0 : Int32} (hB : bz_B S P) {x : ((Int32 × Int32 × ab_I) ⊕ ((Int32 × ab_I) ⊕ (Int32 × ab_I)))} (H : fX10_holds_103 a1 a2 a3 a4 a5 s0 I = some x) (K2 : ∀ s, x = (.inl s) → ab_WP l G mX10_holds 5 30 [some (.ref 41), some (.int a1), some (.int a2), some (.int a3), some (.int s.1), some (.int s.2.1), none] [] S s.2.2 J P 0 0 Q) (K1 : ∀ s, x = (.inr (.inl s)) → ab_WP l G mX10_holds 5 8 [some (.ref 41), some (.int a1), some (.int a2), some (.int a3), some (.int s.1), none, none] [] S s.2 J P 0 0 Q) (K0 : ∀ r, x = (.inr (.inr r)) → Q (some (.int r.1)) S r.2 J P) : ab_WP l G mX10_holds 5 103 [some (.ref 41), some (.int a1), some (.int a2), some (.int a3), some (.int a4), some (.int a5), none] [.int s0] S I J P 0 0 Q := by
  unfold fX10_holds_103 at H
  refine ab_aload_n (z := 0) (by decide +kernel) rfl rfl ?_
  refine gX10_6 (ix := 28) (by decide +kernel) tw_352 (hB.1 41 _ rfl) (hB.2.1 56 (41, 6, 49) rfl) ?_
  refine ab_iload (i := 5) (by decide +kernel) rfl ?_
  obtain ⟨hg, H⟩ := ab_gd_of H
  refine ab_zald (ln := 30) (by decide +kernel) (hB.1 49 _ rfl) (ab_ix_in hg) ?_
  refine ab_icmp_eq (off := 5) (tgt := 115) (by decide +kernel) rfl (fun hc => ?_) (fun hc => ?_)
  · replace H := ab_ifp H hc
    exact ab_wk (ab_le_some (ab_le_some (ab_le_some (ab_le_some (ab_le_some (ab_le_some (ab_le_none (ab_le_nil)))))))) (fX10_holds_115_ok hB H K2 K1 K0)
  · replace H := ab_ifn H hc
    obtain ⟨y6, Hy, hx⟩ := ab_mp_of H
    subst hx
    replace H := Hy
    obtain ⟨y7, Hz1, hx⟩ := ab_mp_of H
    subst hx
    replace H := Hz1
    exact ab_wk (ab_le_some (ab_le_some (ab_le_some (ab_le_some (ab_le_none (ab_le_none (ab_le_none (ab_le_nil)))))))) (fX10_holds_113_ok hB H  (K0 _ rfl))
def fX10_holds_66 (a1 : Int32) (a2 : Int32) (a3 : Int32) (a4 : Int32) (a5 : Int32) (s0 : Int32) (I : ab_I) : Option ((Int32 × Int32 × ab_I) ⊕ ((Int32 × ab_I) ⊕ (Int32 × ab_I))) :=
  if s0 = 0 then
    fX10_holds_115 a1 a2 a3 a4 a5 I
  else
    ab_gd (ab_ix a5 30 = true) (
      ab_gd (ab_ix (I 47 a5.toNatClampNeg) 5 = true) (
        ab_gd (ab_ix a5 30 = true) (
          if (I 24 ((I 47 a5.toNatClampNeg).toNatClampNeg)) = (I 48 a5.toNatClampNeg) then
            fX10_holds_103 a1 a2 a3 a4 a5 (1 : Int32) I
          else
            fX10_holds_103 a1 a2 a3 a4 a5 (0 : Int32) I
        )
      )
    )
set_option maxRecDepth 100000 in
theorem fX10_holds_66_ok {l : Launch} {G : ab_G} {S : ab_S} {I : ab_I} {J : ab_J} {P : ab_P} {Q : ab_Q} {a1 : Int32} {a2 : Int32} {a3 : Int32} {a4 : Int32} {a5 : Int32} {s0 : Int32} (hB : bz_B S P) {x : ((Int32 × Int32 × ab_I) ⊕ ((Int32 × ab_I) ⊕ (Int32 × ab_I)))} (H : fX10_holds_66 a1 a2 a3 a4 a5 s0 I = some x) (K2 : ∀ s, x = (.inl s) → ab_WP l G mX10_holds 5 30 [some (.ref 41), some (.int a1), some (.int a2), some (.int a3), some (.int s.1), some (.int s.2.1), none] [] S s.2.2 J P 0 0 Q) (K1 : ∀ s, x = (.inr (.inl s)) → ab_WP l G mX10_holds 5 8 [some (.ref 41), some (.int a1), some (.int a2), some (.int a3), some (.int s.1), none, none] [] S s.2 J P 0 0 Q) (K0 : ∀ r, x = (.inr (.inr r)) → Q (some (.int r.1)) S r.2 J P) : ab_WP l G mX10_holds 5 66 [some (.ref 41), some (.int a1), some (.int a2), some (.int a3), some (.int a4), some (.int a5), none] [.int s0] S I J P 0 0 Q := by
  unfold fX10_holds_66 at H
  refine ab_istore (i := 6) (by decide +kernel) (by decide) rfl ?_
  refine ab_ls (ls' := [some (.ref 41), some (.int a1), some (.int a2), some (.int a3), some (.int a4), some (.int a5), some (.int s0)]) rfl ?_
  refine ab_iload (i := 6) (by decide +kernel) rfl ?_
  refine ab_if_eq (off := 45) (tgt := 115) (by decide +kernel) rfl (fun hc => ?_) (fun hc => ?_)
  · replace H := ab_ifp H hc
    exact ab_wk (ab_le_some (ab_le_some (ab_le_some (ab_le_some (ab_le_some (ab_le_some (ab_le_none (ab_le_nil)))))))) (fX10_holds_115_ok hB H K2 K1 K0)
  · replace H := ab_ifn H hc
    refine ab_aload_n (z := 0) (by decide +kernel) rfl rfl ?_
    refine gX10_1 (ix := 52) (by decide +kernel) tw_347 (hB.1 41 _ rfl) (hB.2.1 51 (41, 1, 23) rfl) ?_
    refine gX5_1 (ix := 86) (by decide +kernel) tw_214 (hB.1 23 _ rfl) (hB.2.1 31 (23, 1, 24) rfl) ?_
    refine ab_aload_n (z := 0) (by decide +kernel) rfl rfl ?_
    refine gX10_4 (ix := 22) (by decide +kernel) tw_350 (hB.1 41 _ rfl) (hB.2.1 54 (41, 4, 47) rfl) ?_
    refine ab_iload (i := 5) (by decide +kernel) rfl ?_
    obtain ⟨hg, H⟩ := ab_gd_of H
    refine ab_iald (ln := 30) (by decide +kernel) (hB.1 47 _ rfl) (ab_ix_in hg) ?_
    obtain ⟨hg, H⟩ := ab_gd_of H
    refine ab_iald (ln := 5) (by decide +kernel) (hB.1 24 _ rfl) (ab_ix_in hg) ?_
    refine ab_aload_n (z := 0) (by decide +kernel) rfl rfl ?_
    refine gX10_5 (ix := 25) (by decide +kernel) tw_351 (hB.1 41 _ rfl) (hB.2.1 55 (41, 5, 48) rfl) ?_
    refine ab_iload (i := 5) (by decide +kernel) rfl ?_
    obtain ⟨hg, H⟩ := ab_gd_of H
    refine ab_iald (ln := 30) (by decide +kernel) (hB.1 48 _ rfl) (ab_ix_in hg) ?_
    refine ab_icmp_ne (off := 7) (tgt := 102) (by decide +kernel) rfl (fun hc => ?_) (fun hc => ?_)
    · replace H := ab_ifn H hc
      refine ab_iconst (z := 0) (v := (0 : Int32)) (by decide +kernel) (by decide) ?_
      exact ab_wk (ab_le_some (ab_le_some (ab_le_some (ab_le_some (ab_le_some (ab_le_some (ab_le_none (ab_le_nil)))))))) (fX10_holds_103_ok hB H K2 K1 K0)
    · replace H := ab_ifp H hc
      refine ab_iconst (z := 1) (v := (1 : Int32)) (by decide +kernel) (by decide) ?_
      refine ab_goto (off := 4) (tgt := 103) (by decide +kernel) rfl ?_
      exact ab_wk (ab_le_some (ab_le_some (ab_le_some (ab_le_some (ab_le_some (ab_le_some (ab_le_none (ab_le_nil)))))))) (fX10_holds_103_ok hB H K2 K1 K0)
def fX10_holds_65 (a1 : Int32) (a2 : Int32) (a3 : Int32) (a4 : Int32) (a5 : Int32) (I : ab_I) : Option ((Int32 × Int32 × ab_I) ⊕ ((Int32 × ab_I) ⊕ (Int32 × ab_I))) :=
  fX10_holds_66 a1 a2 a3 a4 a5 (0 : Int32) I
set_option maxRecDepth 100000 in
theorem fX10_holds_65_ok {l : Launch} {G : ab_G} {S : ab_S} {I : ab_I} {J : ab_J} {P : ab_P} {Q : ab_Q} {a1 : Int32} {a2 : Int32} {a3 : Int32} {a4 : Int32} {a5 : Int32} (hB : bz_B S P) {x : ((Int32 × Int32 × ab_I) ⊕ ((Int32 × ab_I) ⊕ (Int32 × ab_I)))} (H : fX10_holds_65 a1 a2 a3 a4 a5 I = some x) (K2 : ∀ s, x = (.inl s) → ab_WP l G mX10_holds 5 30 [some (.ref 41), some (.int a1), some (.int a2), some (.int a3), some (.int s.1), some (.int s.2.1), none] [] S s.2.2 J P 0 0 Q) (K1 : ∀ s, x = (.inr (.inl s)) → ab_WP l G mX10_holds 5 8 [some (.ref 41), some (.int a1), some (.int a2), some (.int a3), some (.int s.1), none, none] [] S s.2 J P 0 0 Q) (K0 : ∀ r, x = (.inr (.inr r)) → Q (some (.int r.1)) S r.2 J P) : ab_WP l G mX10_holds 5 65 [some (.ref 41), some (.int a1), some (.int a2), some (.int a3), some (.int a4), some (.int a5), none] [] S I J P 0 0 Q := by
  unfold fX10_holds_65 at H
  refine ab_iconst (z := 0) (v := (0 : Int32)) (by decide +kernel) (by decide) ?_
  exact ab_wk (ab_le_some (ab_le_some (ab_le_some (ab_le_some (ab_le_some (ab_le_some (ab_le_none (ab_le_nil)))))))) (fX10_holds_66_ok hB H K2 K1 K0)
def fX10_holds_30 (a1 : Int32) (a2 : Int32) (a3 : Int32) (a4 : Int32) (a5 : Int32) (I : ab_I) : Option ((Int32 × Int32 × ab_I) ⊕ ((Int32 × ab_I) ⊕ (Int32 × ab_I))) :=
  if (I 41 10) ≤ a5 then
    (fX10_holds_121 a1 a2 a3 a4 I).map .inr
  else
    ab_gd (ab_ix a5 30 = true) (
      if (I 46 a5.toNatClampNeg) = a4 then
        (fX10_counts a5 a3 I).bind fun u5 =>
        if u5 = 0 then
          fX10_holds_65 a1 a2 a3 a4 a5 I
        else
          fX10_holds_66 a1 a2 a3 a4 a5 (1 : Int32) I
      else
        fX10_holds_65 a1 a2 a3 a4 a5 I
    )
set_option maxRecDepth 100000 in
theorem fX10_holds_30_ok {l : Launch} {G : ab_G} {S : ab_S} {I : ab_I} {J : ab_J} {P : ab_P} {Q : ab_Q} {a1 : Int32} {a2 : Int32} {a3 : Int32} {a4 : Int32} {a5 : Int32} (hB : bz_B S P) {x : ((Int32 × Int32 × ab_I) ⊕ ((Int32 × ab_I) ⊕ (Int32 × ab_I)))} (H : fX10_holds_30 a1 a2 a3 a4 a5 I = some x) (K2 : ∀ s, x = (.inl s) → ab_WP l G mX10_holds 5 30 [some (.ref 41), some (.int a1), some (.int a2), some (.int a3), some (.int s.1), some (.int s.2.1), none] [] S s.2.2 J P 0 0 Q) (K1 : ∀ s, x = (.inr (.inl s)) → ab_WP l G mX10_holds 5 8 [some (.ref 41), some (.int a1), some (.int a2), some (.int a3), some (.int s.1), none, none] [] S s.2 J P 0 0 Q) (K0 : ∀ r, x = (.inr (.inr r)) → Q (some (.int r.1)) S r.2 J P) : ab_WP l G mX10_holds 5 30 [some (.ref 41), some (.int a1), some (.int a2), some (.int a3), some (.int a4), some (.int a5), none] [] S I J P 0 0 Q := by
  unfold fX10_holds_30 at H
  refine ab_iload (i := 5) (by decide +kernel) rfl ?_
  refine ab_aload_n (z := 0) (by decide +kernel) rfl rfl ?_
  refine gX10_10 (ix := 41) (by decide +kernel) tw_356 (hB.1 41 _ rfl) ?_
  refine ab_icmp_ge (off := 85) (tgt := 121) (by decide +kernel) rfl (fun hc => ?_) (fun hc => ?_)
  · replace H := ab_ifp H hc
    obtain ⟨y4, Hy, hx⟩ := ab_mp_of H
    subst hx
    replace H := Hy
    exact ab_wk (ab_le_some (ab_le_some (ab_le_some (ab_le_some (ab_le_some (ab_le_none (ab_le_none (ab_le_nil)))))))) (fX10_holds_121_ok hB H (fun s e => K1 s (by rw [e])) (fun r e => K0 r (by rw [e])))
  · replace H := ab_ifn H hc
    refine ab_aload_n (z := 0) (by decide +kernel) rfl rfl ?_
    refine gX10_3 (ix := 18) (by decide +kernel) tw_349 (hB.1 41 _ rfl) (hB.2.1 53 (41, 3, 46) rfl) ?_
    refine ab_iload (i := 5) (by decide +kernel) rfl ?_
    obtain ⟨hg, H⟩ := ab_gd_of H
    refine ab_iald (ln := 30) (by decide +kernel) (hB.1 46 _ rfl) (ab_ix_in hg) ?_
    refine ab_iload (i := 4) (by decide +kernel) rfl ?_
    refine ab_icmp_ne (off := 17) (tgt := 65) (by decide +kernel) rfl (fun hc => ?_) (fun hc => ?_)
    · replace H := ab_ifn H hc
      exact ab_wk (ab_le_some (ab_le_some (ab_le_some (ab_le_some (ab_le_some (ab_le_some (ab_le_none (ab_le_nil)))))))) (fX10_holds_65_ok hB H K2 K1 K0)
    · replace H := ab_ifp H hc
      refine ab_aload_n (z := 0) (by decide +kernel) rfl rfl ?_
      refine ab_iload (i := 5) (by decide +kernel) rfl ?_
      refine ab_iload_n (z := 3) (by decide +kernel) rfl rfl ?_
      obtain ⟨u5, hu5, H⟩ := ab_bd_of H
      refine kvX10_counts (D := 0) (ix := 62) (by decide +kernel) tw_1014 (hB.1 41 _ rfl) (by decide) (Nat.le_of_ble_eq_true rfl) (mX10_counts_ok hB hu5 ?_)
      change ab_WP l G mX10_holds 5 58 [some (.ref 41), some (.int a1), some (.int a2), some (.int a3), some (.int a4), some (.int a5), none] [.int u5] S I J P 0 0 Q
      refine ab_if_eq (off := 7) (tgt := 65) (by decide +kernel) rfl (fun hc => ?_) (fun hc => ?_)
      · replace H := ab_ifp H hc
        exact ab_wk (ab_le_some (ab_le_some (ab_le_some (ab_le_some (ab_le_some (ab_le_some (ab_le_none (ab_le_nil)))))))) (fX10_holds_65_ok hB H K2 K1 K0)
      · replace H := ab_ifn H hc
        refine ab_iconst (z := 1) (v := (1 : Int32)) (by decide +kernel) (by decide) ?_
        refine ab_goto (off := 4) (tgt := 66) (by decide +kernel) rfl ?_
        exact ab_wk (ab_le_some (ab_le_some (ab_le_some (ab_le_some (ab_le_some (ab_le_some (ab_le_none (ab_le_nil)))))))) (fX10_holds_66_ok hB H K2 K1 K0)
def fX10_holds_8 (a1 : Int32) (a2 : Int32) (a3 : Int32) (a4 : Int32) (I : ab_I) : Option ((Int32 × ab_I) ⊕ (Int32 × ab_I)) :=
  if a2 < a4 then
    (fX10_holds_127 a1 a2 a3 I).map .inr
  else
    (fX5_passDay 42 (0 : Int32) I).bind fun u3 =>
    ab_it (fun s => fX10_holds_30 a1 a2 a3 s.1 s.2.1 s.2.2) 5000 (a4, (0 : Int32), u3.2)
set_option maxRecDepth 100000 in
theorem fX10_holds_8_ok {l : Launch} {G : ab_G} {S : ab_S} {I : ab_I} {J : ab_J} {P : ab_P} {Q : ab_Q} {a1 : Int32} {a2 : Int32} {a3 : Int32} {a4 : Int32} (hB : bz_B S P) {x : ((Int32 × ab_I) ⊕ (Int32 × ab_I))} (H : fX10_holds_8 a1 a2 a3 a4 I = some x) (K1 : ∀ s, x = (.inl s) → ab_WP l G mX10_holds 5 8 [some (.ref 41), some (.int a1), some (.int a2), some (.int a3), some (.int s.1), none, none] [] S s.2 J P 0 0 Q) (K0 : ∀ r, x = (.inr r) → Q (some (.int r.1)) S r.2 J P) : ab_WP l G mX10_holds 5 8 [some (.ref 41), some (.int a1), some (.int a2), some (.int a3), some (.int a4), none, none] [] S I J P 0 0 Q := by
  unfold fX10_holds_8 at H
  refine ab_iload (i := 4) (by decide +kernel) rfl ?_
  refine ab_iload_n (z := 2) (by decide +kernel) rfl rfl ?_
  refine ab_icmp_gt (off := 116) (tgt := 127) (by decide +kernel) rfl (fun hc => ?_) (fun hc => ?_)
  · replace H := ab_ifp H hc
    obtain ⟨y2, Hy, hx⟩ := ab_mp_of H
    subst hx
    replace H := Hy
    exact ab_wk (ab_le_some (ab_le_some (ab_le_some (ab_le_some (ab_le_none (ab_le_none (ab_le_none (ab_le_nil)))))))) (fX10_holds_127_ok hB H  (K0 _ rfl))
  · replace H := ab_ifn H hc
    refine ab_aload_n (z := 0) (by decide +kernel) rfl rfl ?_
    refine gX10_1 (ix := 52) (by decide +kernel) tw_347 (hB.1 41 _ rfl) (hB.2.1 51 (41, 1, 23) rfl) ?_
    refine ab_aload_n (z := 0) (by decide +kernel) rfl rfl ?_
    refine gX10_2 (ix := 12) (by decide +kernel) tw_348 (hB.1 41 _ rfl) (hB.2.1 52 (41, 2, 42) rfl) ?_
    refine ab_iconst (z := 0) (v := (0 : Int32)) (by decide +kernel) (by decide) ?_
    obtain ⟨u3, hu3, H⟩ := ab_bd_of H
    refine kvX5_passDay (D := 4) (ix := 80) (by decide +kernel) tw_1028 (hB.1 23 _ rfl) (by decide) (Nat.le_of_ble_eq_true rfl) (mX5_passDay_ok hB (bz_st_42 hB) hu3 ?_)
    change ab_WP l G mX10_holds 5 26 [some (.ref 41), some (.int a1), some (.int a2), some (.int a3), some (.int a4), none, none] [.int u3.1] S u3.2 J P 0 0 Q
    refine ab_pop (by decide +kernel) rfl ?_
    refine ab_iconst (z := 0) (v := (0 : Int32)) (by decide +kernel) (by decide) ?_
    refine ab_istore (i := 5) (by decide +kernel) (by decide) rfl ?_
    refine ab_ls (ls' := [some (.ref 41), some (.int a1), some (.int a2), some (.int a3), some (.int a4), some (.int (0 : Int32)), none]) rfl ?_
    exact ab_wk (ab_le_some (ab_le_some (ab_le_some (ab_le_some (ab_le_some (ab_le_some (ab_le_none (ab_le_nil)))))))) (ab_iter (body := (fun s => fX10_holds_30 a1 a2 a3 s.1 s.2.1 s.2.2)) (W := fun s => ab_WP l G mX10_holds 5 30 [some (.ref 41), some (.int a1), some (.int a2), some (.int a3), some (.int s.1), some (.int s.2.1), none] [] S s.2.2 J P 0 0 Q) (fun s y hb h1 h2 => fX10_holds_30_ok hB hb h1 (fun s e => K1 s (h2 _ e).symm) (fun r e => K0 r (h2 _ e).symm)) 5000 (a4, (0 : Int32), u3.2) H)
def fX10_holds (a1 : Int32) (a2 : Int32) (a3 : Int32) (I : ab_I) : Option (Int32 × ab_I) :=
  (fX10_beginWith a1 I).bind fun u1 =>
  ab_it (fun s => fX10_holds_8 a1 a2 a3 s.1 s.2) 5000 ((1 : Int32), u1)
set_option maxRecDepth 100000 in
theorem mX10_holds_ok {l : Launch} {G : ab_G} {S : ab_S} {I : ab_I} {J : ab_J} {P : ab_P} {Q : ab_Q} {a1 : Int32} {a2 : Int32} {a3 : Int32} (hB : bz_B S P) {x : Int32 × ab_I} (H : fX10_holds a1 a2 a3 I = some x) (K0 : Q (some (.int x.1)) S x.2 J P) : ab_Call l G mX10_holds 5 [.ref 41, .int a1, .int a2, .int a3] S I J P Q := by
  unfold fX10_holds at H
  refine ab_enter rfl (Nat.le_of_ble_eq_true rfl) (ab_wk (ls' := [some (.ref 41), some (.int a1), some (.int a2), some (.int a3), none, none, none]) (ab_le_some (ab_le_some (ab_le_some (ab_le_some (ab_le_non0 (ab_le_non0 (ab_le_non0 ab_le_nil))))))) ?_)
  refine ab_aload_n (z := 0) (by decide +kernel) rfl rfl ?_
  refine ab_iload_n (z := 1) (by decide +kernel) rfl rfl ?_
  obtain ⟨u1, hu1, H⟩ := ab_bd_of H
  refine kvX10_beginWith (D := 2) (ix := 76) (by decide +kernel) tw_1023 (hB.1 41 _ rfl) (by decide) (Nat.le_of_ble_eq_true rfl) (mX10_beginWith_ok hB hu1 ?_)
  change ab_WP l G mX10_holds 5 5 [some (.ref 41), some (.int a1), some (.int a2), some (.int a3), none, none, none] [] S u1 J P 0 0 Q
  refine ab_iconst (z := 1) (v := (1 : Int32)) (by decide +kernel) (by decide) ?_
  refine ab_istore (i := 4) (by decide +kernel) (by decide) rfl ?_
  refine ab_ls (ls' := [some (.ref 41), some (.int a1), some (.int a2), some (.int a3), some (.int (1 : Int32)), none, none]) rfl ?_
  exact ab_wk (ab_le_some (ab_le_some (ab_le_some (ab_le_some (ab_le_some (ab_le_none (ab_le_none (ab_le_nil)))))))) (ab_iter (body := (fun s => fX10_holds_8 a1 a2 a3 s.1 s.2)) (W := fun s => ab_WP l G mX10_holds 5 8 [some (.ref 41), some (.int a1), some (.int a2), some (.int a3), some (.int s.1), none, none] [] S s.2 J P 0 0 Q) (fun s y hb h1 h2 => fX10_holds_8_ok hB hb h1 (fun r e => by have e2 := h2 _ e; subst e2; exact K0)) 5000 ((1 : Int32), u1) H)
