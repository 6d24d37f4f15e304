abbrev mX3_shareFrom : ab_M := (yX3_shareFrom, cX3_shareFrom, 8, none, 0, 0)
theorem kvX3_shareFrom {l : Launch} {G : ab_G} {M : ab_M} {d pc : Nat} {ls : List (Option Value)} {st : List Value} {S : ab_S} {I : ab_I} {J : ab_J} {P : ab_P} {Q : ab_Q} {v0 v1 v2 v3 v4 : Value} {ix D r ln : Nat} (hd : decode M.2.1 pc = .ok (.invokevirtual ix, 3)) (h1 : Cond.methodLink M.1.cls ix mX3_shareFrom.1 ∈ ab_good) (hs : S[r]? = some (8, ln)) (hdg : D + 1 ≤ d) (hsum : (st.map fun v => v.category).sum ≤ 8) (kk : ab_Call l G mX3_shareFrom D (.ref r :: [v0, v1, v2, v3, v4]) S I J P (fun v S' I' J' P' => ab_WP l G M d (pc + 3) ls (ab_psh v st) S' I' J' P' 0 0 Q)) : ab_WP l G M d pc ls (v4 :: v3 :: v2 :: v1 :: v0 :: .ref r :: st) S I J P 0 0 Q := bz_kv (g := mX3_shareFrom) (as := [v0, v1, v2, v3, v4]) (cc := 3) rfl hd h1 tw_832 tw_p24 tw_10 tw_833 ⟨by decide +kernel, by decide +kernel, (by decide +kernel : (parseMethodDescriptor mX3_shareFrom.1.desc).map (fun d => d.parameters.length) = some 5)⟩ (by decide) rfl rfl rfl hdg hsum hs kk
def fX3_shareFrom_153 (rec : Nat → Int32 → Int32 → Int32 → Int32 → ab_I → Option (ab_I)) (q1 : Nat) (a2 : Int32) (a3 : Int32) (a4 : Int32) (a5 : Int32) (I : ab_I) : Option ab_I :=
  ab_gd (ab_ix a2 6 = true) (
    (rec q1 (a2 + (1 : Int32)) a3 a4 a5 (ab_u I 39 a2.toNatClampNeg (-1 : Int32))).bind fun u4 =>
    some u4
  )
set_option maxRecDepth 100000 in
theorem fX3_shareFrom_153_ok {l : Launch} {G : ab_G} {S : ab_S} {I : ab_I} {J : ab_J} {P : ab_P} {Q : ab_Q} {q1 : Nat} {a2 : Int32} {a3 : Int32} {a4 : Int32} {a5 : Int32} (hB : bz_B S P) (hq1 : bz_st S P q1) {rec : Nat → Int32 → Int32 → Int32 → Int32 → ab_I → Option (ab_I)} {d0 : Nat} (hd0 : 3 ≤ d0) (hrec : ∀ {q1 : Nat} {a2 : Int32} {a3 : Int32} {a4 : Int32} {a5 : Int32} {I : ab_I} {J : ab_J} {r : ab_I} {Q : ab_Q} (hq1 : bz_st S P q1), rec q1 a2 a3 a4 a5 I = some r → Q none S r J P → ab_Call l G mX3_shareFrom d0 [.ref 34, .ref q1, .int a2, .int a3, .int a4, .int a5] S I J P Q) {x : ab_I} (H : fX3_shareFrom_153 rec q1 a2 a3 a4 a5 I = some x) (K0 : Q none S x J P) : ab_WP l G mX3_shareFrom (d0 + 2) 153 [some (.ref 34), some (.ref q1), some (.int a2), some (.int a3), some (.int a4), some (.int a5), none, none] [] S I J P 0 0 Q := by
  unfold fX3_shareFrom_153 at H
  refine ab_aload_n (z := 0) (by decide +kernel) rfl rfl ?_
  refine gX3_3 (ix := 18) (by decide +kernel) tw_316 (hB.1 34 _ rfl) (hB.2.1 45 (34, 3, 39) rfl) ?_
  refine ab_iload_n (z := 2) (by decide +kernel) rfl rfl ?_
  refine ab_iconst (z := -1) (v := (-1 : Int32)) (by decide +kernel) (by decide) ?_
  obtain ⟨hg, H⟩ := ab_gd_of H
  refine ab_iast (ln := 6) (by decide +kernel) (hB.1 39 _ rfl) (ab_ix_in hg) ?_
  refine ab_aload_n (z := 0) (by decide +kernel) rfl rfl ?_
  refine ab_aload_n (z := 1) (by decide +kernel) rfl rfl ?_
  refine ab_iload_n (z := 2) (by decide +kernel) rfl rfl ?_
  refine ab_iconst (z := 1) (v := (1 : Int32)) (by decide +kernel) (by decide) ?_
  refine ab_iadd (by decide +kernel) ?_
  refine ab_iload_n (z := 3) (by decide +kernel) rfl rfl ?_
  refine ab_iload (i := 4) (by decide +kernel) rfl ?_
  refine ab_iload (i := 5) (by decide +kernel) rfl ?_
  obtain ⟨u4, hu4, H⟩ := ab_bd_of H
  refine kvX3_shareFrom (D := d0) (ix := 75) (by decide +kernel) tw_830 (hB.1 34 _ rfl) (by omega) (Nat.le_of_ble_eq_true rfl) (hrec hq1 hu4 ?_)
  change ab_WP l G mX3_shareFrom (d0 + 2) 173 [some (.ref 34), some (.ref q1), some (.int a2), some (.int a3), some (.int a4), some (.int a5), none, none] [] S u4 J P 0 0 Q
  obtain rfl := Option.some.inj H
  exact ab_vret (by decide +kernel) rfl (Nat.le_refl _) (Nat.le_refl _) K0
def fX3_shareFrom_147 (rec : Nat → Int32 → Int32 → Int32 → Int32 → ab_I → Option (ab_I)) (q1 : Nat) (a2 : Int32) (a3 : Int32) (a4 : Int32) (a5 : Int32) (a6 : Int32) (I : ab_I) : Option ((Int32 × ab_I) ⊕ ab_I) :=
  some (.inl ((a6 + (1 : Int32)), I))
set_option maxRecDepth 100000 in
theorem fX3_shareFrom_147_ok {l : Launch} {G : ab_G} {S : ab_S} {I : ab_I} {J : ab_J} {P : ab_P} {Q : ab_Q} {q1 : Nat} {a2 : Int32} {a3 : Int32} {a4 : Int32} {a5 : Int32} {a6 : Int32} (hB : bz_B S P) (hq1 : bz_st S P q1) {rec : Nat → Int32 → Int32 → Int32 → Int32 → ab_I → Option (ab_I)} {d0 : Nat} (hd0 : 3 ≤ d0) (hrec : ∀ {q1 : Nat} {a2 : Int32} {a3 : Int32} {a4 : Int32} {a5 : Int32} {I : ab_I} {J : ab_J} {r : ab_I} {Q : ab_Q} (hq1 : bz_st S P q1), rec q1 a2 a3 a4 a5 I = some r → Q none S r J P → ab_Call l G mX3_shareFrom d0 [.ref 34, .ref q1, .int a2, .int a3, .int a4, .int a5] S I J P Q) {x : ((Int32 × ab_I) ⊕ ab_I)} (H : fX3_shareFrom_147 rec q1 a2 a3 a4 a5 a6 I = some x) (K1 : ∀ s, x = (.inl s) → ab_WP l G mX3_shareFrom (d0 + 2) 74 [some (.ref 34), some (.ref q1), some (.int a2), some (.int a3), some (.int a4), some (.int a5), some (.int s.1), none] [] S s.2 J P 0 0 Q) (K0 : ∀ r, x = (.inr r) → Q none S r J P) : ab_WP l G mX3_shareFrom (d0 + 2) 147 [some (.ref 34), some (.ref q1), some (.int a2), some (.int a3), some (.int a4), some (.int a5), some (.int a6), none] [] S I J P 0 0 Q := by
  unfold fX3_shareFrom_147 at H
  refine ab_iinc (i := 6) (z := 1) (v := (a6 + (1 : Int32))) (by decide +kernel) rfl rfl (by decide) rfl ?_
  refine ab_ls (ls' := [some (.ref 34), some (.ref q1), some (.int a2), some (.int a3), some (.int a4), some (.int a5), some (.int (a6 + (1 : Int32))), none]) rfl ?_
  refine ab_goto (off := -76) (tgt := 74) (by decide +kernel) rfl ?_
  exact ab_wk (ab_le_some (ab_le_some (ab_le_some (ab_le_some (ab_le_some (ab_le_some (ab_le_some (ab_le_none (ab_le_nil))))))))) (K1 ((a6 + (1 : Int32)), I) (Option.some.inj H).symm)
def fX3_shareFrom_70 (rec : Nat → Int32 → Int32 → Int32 → Int32 → ab_I → Option (ab_I)) (q1 : Nat) (a2 : Int32) (a3 : Int32) (a4 : Int32) (a5 : Int32) (I : ab_I) : Option ab_I :=
  some I
set_option maxRecDepth 100000 in
theorem fX3_shareFrom_70_ok {l : Launch} {G : ab_G} {S : ab_S} {I : ab_I} {J : ab_J} {P : ab_P} {Q : ab_Q} {q1 : Nat} {a2 : Int32} {a3 : Int32} {a4 : Int32} {a5 : Int32} (hB : bz_B S P) (hq1 : bz_st S P q1) {rec : Nat → Int32 → Int32 → Int32 → Int32 → ab_I → Option (ab_I)} {d0 : Nat} (hd0 : 3 ≤ d0) (hrec : ∀ {q1 : Nat} {a2 : Int32} {a3 : Int32} {a4 : Int32} {a5 : Int32} {I : ab_I} {J : ab_J} {r : ab_I} {Q : ab_Q} (hq1 : bz_st S P q1), rec q1 a2 a3 a4 a5 I = some r → Q none S r J P → ab_Call l G mX3_shareFrom d0 [.ref 34, .ref q1, .int a2, .int a3, .int a4, .int a5] S I J P Q) {x : ab_I} (H : fX3_shareFrom_70 rec q1 a2 a3 a4 a5 I = some x) (K0 : Q none S x J P) : ab_WP l G mX3_shareFrom (d0 + 2) 70 [some (.ref 34), some (.ref q1), some (.int a2), some (.int a3), some (.int a4), some (.int a5), none, none] [] S I J P 0 0 Q := by
  unfold fX3_shareFrom_70 at H
  obtain rfl := Option.some.inj H
  exact ab_vret (by decide +kernel) rfl (Nat.le_refl _) (Nat.le_refl _) K0
def fX3_shareFrom_74 (rec : Nat → Int32 → Int32 → Int32 → Int32 → ab_I → Option (ab_I)) (q1 : Nat) (a2 : Int32) (a3 : Int32) (a4 : Int32) (a5 : Int32) (a6 : Int32) (I : ab_I) : Option ((Int32 × ab_I) ⊕ ab_I) :=
  if (I 3 4) ≤ a6 then
    (fX3_shareFrom_153 rec q1 a2 a3 a4 a5 I).map .inr
  else
    (fX11_cell a6 a2).bind fun u2 =>
    ab_gd (ab_ix u2 30 = true) (
      if ((a3 >>> (a6 &&& 31)) &&& (1 : Int32)) = (1 : Int32) then
        if (I (q1 + 3) u2.toNatClampNeg) ≤ 0 then
          fX3_shareFrom_147 rec q1 a2 a3 a4 a5 a6 I
        else
          ab_gd (ab_ix a2 6 = true) (
            (rec q1 (a2 + (1 : Int32)) (a3 &&& (((1 : Int32) <<< (a6 &&& 31)) ^^^ (-1 : Int32))) (a4 + (1 : Int32)) (a5 + (I (q1 + 3) u2.toNatClampNeg)) (ab_u I 39 a2.toNatClampNeg a6)).bind fun u3 =>
            fX3_shareFrom_147 rec q1 a2 a3 a4 a5 a6 u3
          )
      else
        fX3_shareFrom_147 rec q1 a2 a3 a4 a5 a6 I
    )
set_option maxRecDepth 100000 in
theorem fX3_shareFrom_74_ok {l : Launch} {G : ab_G} {S : ab_S} {I : ab_I} {J : ab_J} {P : ab_P} {Q : ab_Q} {q1 : Nat} {a2 : Int32} {a3 : Int32} {a4 : Int32} {a5 : Int32} {a6 : Int32} (hB : bz_B S P) (hq1 : bz_st S P q1) {rec : Nat → Int32 → Int32 → Int32 → Int32 → ab_I → Option (ab_I)} {d0 : Nat} (hd0 : 3 ≤ d0) (hrec : ∀ {q1 : Nat} {a2 : Int32} {a3 : Int32} {a4 : Int32} {a5 : Int32} {I : ab_I} {J : ab_J} {r : ab_I} {Q : ab_Q} (hq1 : bz_st S P q1), rec q1 a2 a3 a4 a5 I = some r → Q none S r J P → ab_Call l G mX3_shareFrom d0 [.ref 34, .ref q1, .int a2, .int a3, .int a4, .int a5] S I J P Q) {x : ((Int32 × ab_I) ⊕ ab_I)} (H : fX3_shareFrom_74 rec q1 a2 a3 a4 a5 a6 I = some x) (K1 : ∀ s, x = (.inl s) → ab_WP l G mX3_shareFrom (d0 + 2) 74 [some (.ref 34), some (.ref q1), some (.int a2), some (.int a3), some (.int a4), some (.int a5), some (.int s.1), none] [] S s.2 J P 0 0 Q) (K0 : ∀ r, x = (.inr r) → Q none S r J P) : ab_WP l G mX3_shareFrom (d0 + 2) 74 [some (.ref 34), some (.ref q1), some (.int a2), some (.int a3), some (.int a4), some (.int a5), some (.int a6), none] [] S I J P 0 0 Q := by
  unfold fX3_shareFrom_74 at H
  refine ab_iload (i := 6) (by decide +kernel) rfl ?_
  refine ab_aload_n (z := 0) (by decide +kernel) rfl rfl ?_
  refine gX3_0 (ix := 32) (by decide +kernel) tw_313 (hB.1 34 _ rfl) (hB.2.1 42 (34, 0, 3) rfl) ?_
  refine gX9_4 (ix := 79) (by decide +kernel) tw_90 (hB.1 3 _ rfl) ?_
  refine ab_icmp_ge (off := 70) (tgt := 153) (by decide +kernel) rfl (fun hc => ?_) (fun hc => ?_)
  · replace H := ab_ifp H hc
    obtain ⟨y1, Hy, hx⟩ := ab_mp_of H
    subst hx
    replace H := Hy
    exact ab_wk (ab_le_some (ab_le_some (ab_le_some (ab_le_some (ab_le_some (ab_le_some (ab_le_none (ab_le_none (ab_le_nil))))))))) (fX3_shareFrom_153_ok hB hq1 hd0 hrec H  (K0 _ rfl))
  · replace H := ab_ifn H hc
    refine ab_aload_n (z := 1) (by decide +kernel) rfl rfl ?_
    refine gX6_2 (ix := 82) (by decide +kernel) tw_250 hq1.1 hq1.2.2.2.2.2.2 ?_
    refine ab_iload (i := 6) (by decide +kernel) rfl ?_
    refine ab_iload_n (z := 2) (by decide +kernel) rfl rfl ?_
    obtain ⟨u2, hu2, H⟩ := ab_bd_of H
    refine knX11_cell (D := 0) (ix := 85) (host := "BellRingers") (by decide +kernel) tn_834 (by omega) (Nat.le_of_ble_eq_true rfl) (mX11_cell_ok hB hu2 ?_)
    change ab_WP l G mX3_shareFrom (d0 + 2) 96 [some (.ref 34), some (.ref q1), some (.int a2), some (.int a3), some (.int a4), some (.int a5), some (.int a6), none] [.int u2, .ref (q1 + 3)] S I J P 0 0 Q
    obtain ⟨hg, H⟩ := ab_gd_of H
    refine ab_iald (ln := 30) (by decide +kernel) hq1.2.2.2.1 (ab_ix_in hg) ?_
    refine ab_istore (i := 7) (by decide +kernel) (by decide) rfl ?_
    refine ab_ls (ls' := [some (.ref 34), some (.ref q1), some (.int a2), some (.int a3), some (.int a4), some (.int a5), some (.int a6), some (.int (I (q1 + 3) u2.toNatClampNeg))]) rfl ?_
    refine ab_iload_n (z := 3) (by decide +kernel) rfl rfl ?_
    refine ab_iload (i := 6) (by decide +kernel) rfl ?_
    refine ab_ishr (by decide +kernel) ?_
    refine ab_iconst (z := 1) (v := (1 : Int32)) (by decide +kernel) (by decide) ?_
    refine ab_iand (by decide +kernel) ?_
    refine ab_iconst (z := 1) (v := (1 : Int32)) (by decide +kernel) (by decide) ?_
    refine ab_icmp_ne (off := 41) (tgt := 147) (by decide +kernel) rfl (fun hc => ?_) (fun hc => ?_)
    · replace H := ab_ifn H hc
      exact ab_wk (ab_le_some (ab_le_some (ab_le_some (ab_le_some (ab_le_some (ab_le_some (ab_le_some (ab_le_none (ab_le_nil))))))))) (fX3_shareFrom_147_ok hB hq1 hd0 hrec H K1 K0)
    · replace H := ab_ifp H hc
      refine ab_iload (i := 7) (by decide +kernel) rfl ?_
      refine ab_if_le (off := 36) (tgt := 147) (by decide +kernel) rfl (fun hc => ?_) (fun hc => ?_)
      · replace H := ab_ifp H hc
        exact ab_wk (ab_le_some (ab_le_some (ab_le_some (ab_le_some (ab_le_some (ab_le_some (ab_le_some (ab_le_none (ab_le_nil))))))))) (fX3_shareFrom_147_ok hB hq1 hd0 hrec H K1 K0)
      · replace H := ab_ifn H hc
        refine ab_aload_n (z := 0) (by decide +kernel) rfl rfl ?_
        refine gX3_3 (ix := 18) (by decide +kernel) tw_316 (hB.1 34 _ rfl) (hB.2.1 45 (34, 3, 39) rfl) ?_
        refine ab_iload_n (z := 2) (by decide +kernel) rfl rfl ?_
        refine ab_iload (i := 6) (by decide +kernel) rfl ?_
        obtain ⟨hg, H⟩ := ab_gd_of H
        refine ab_iast (ln := 6) (by decide +kernel) (hB.1 39 _ rfl) (ab_ix_in hg) ?_
        refine ab_aload_n (z := 0) (by decide +kernel) rfl rfl ?_
        refine ab_aload_n (z := 1) (by decide +kernel) rfl rfl ?_
        refine ab_iload_n (z := 2) (by decide +kernel) rfl rfl ?_
        refine ab_iconst (z := 1) (v := (1 : Int32)) (by decide +kernel) (by decide) ?_
        refine ab_iadd (by decide +kernel) ?_
        refine ab_iload_n (z := 3) (by decide +kernel) rfl rfl ?_
        refine ab_iconst (z := 1) (v := (1 : Int32)) (by decide +kernel) (by decide) ?_
        refine ab_iload (i := 6) (by decide +kernel) rfl ?_
        refine ab_ishl (by decide +kernel) ?_
        refine ab_iconst (z := -1) (v := (-1 : Int32)) (by decide +kernel) (by decide) ?_
        refine ab_ixor (by decide +kernel) ?_
        refine ab_iand (by decide +kernel) ?_
        refine ab_iload (i := 4) (by decide +kernel) rfl ?_
        refine ab_iconst (z := 1) (v := (1 : Int32)) (by decide +kernel) (by decide) ?_
        refine ab_iadd (by decide +kernel) ?_
        refine ab_iload (i := 5) (by decide +kernel) rfl ?_
        refine ab_iload (i := 7) (by decide +kernel) rfl ?_
        refine ab_iadd (by decide +kernel) ?_
        obtain ⟨u3, hu3, H⟩ := ab_bd_of H
        refine kvX3_shareFrom (D := d0) (ix := 75) (by decide +kernel) tw_830 (hB.1 34 _ rfl) (by omega) (Nat.le_of_ble_eq_true rfl) (hrec hq1 hu3 ?_)
        change ab_WP l G mX3_shareFrom (d0 + 2) 147 [some (.ref 34), some (.ref q1), some (.int a2), some (.int a3), some (.int a4), some (.int a5), some (.int a6), some (.int (I (q1 + 3) u2.toNatClampNeg))] [] S u3 J P 0 0 Q
        exact ab_wk (ab_le_some (ab_le_some (ab_le_some (ab_le_some (ab_le_some (ab_le_some (ab_le_some (ab_le_none (ab_le_nil))))))))) (fX3_shareFrom_147_ok hB hq1 hd0 hrec H K1 K0)
def fX3_shareFrom_38 (rec : Nat → Int32 → Int32 → Int32 → Int32 → ab_I → Option (ab_I)) (q1 : Nat) (a2 : Int32) (a3 : Int32) (a4 : Int32) (a5 : Int32) (I : ab_I) : Option ab_I :=
  ab_gd (¬ (I 3 5) < 0 ∧ (I 3 5).toNatClampNeg ≤ 6 ∧ (I 3 5).toNatClampNeg ≤ 6) (
    fX3_shareFrom_70 rec q1 a2 a3 a4 a5 (ab_r (ab_u (ab_u I 34 5 a4) 34 6 a5) 40 (va_cpy ((ab_u (ab_u I 34 5 a4) 34 6 a5) 39) ((ab_u (ab_u I 34 5 a4) 34 6 a5) 40) (0 : Int32).toNatClampNeg (0 : Int32).toNatClampNeg (I 3 5).toNatClampNeg))
  )
set_option maxRecDepth 100000 in
theorem fX3_shareFrom_38_ok {l : Launch} {G : ab_G} {S : ab_S} {I : ab_I} {J : ab_J} {P : ab_P} {Q : ab_Q} {q1 : Nat} {a2 : Int32} {a3 : Int32} {a4 : Int32} {a5 : Int32} (hB : bz_B S P) (hq1 : bz_st S P q1) {rec : Nat → Int32 → Int32 → Int32 → Int32 → ab_I → Option (ab_I)} {d0 : Nat} (hd0 : 3 ≤ d0) (hrec : ∀ {q1 : Nat} {a2 : Int32} {a3 : Int32} {a4 : Int32} {a5 : Int32} {I : ab_I} {J : ab_J} {r : ab_I} {Q : ab_Q} (hq1 : bz_st S P q1), rec q1 a2 a3 a4 a5 I = some r → Q none S r J P → ab_Call l G mX3_shareFrom d0 [.ref 34, .ref q1, .int a2, .int a3, .int a4, .int a5] S I J P Q) {x : ab_I} (H : fX3_shareFrom_38 rec q1 a2 a3 a4 a5 I = some x) (K0 : Q none S x J P) : ab_WP l G mX3_shareFrom (d0 + 2) 38 [some (.ref 34), some (.ref q1), some (.int a2), some (.int a3), some (.int a4), some (.int a5), none, none] [] S I J P 0 0 Q := by
  unfold fX3_shareFrom_38 at H
  refine ab_aload_n (z := 0) (by decide +kernel) rfl rfl ?_
  refine ab_iload (i := 4) (by decide +kernel) rfl ?_
  refine pX3_5 (ix := 25) (by decide +kernel) tw_319 (hB.1 34 _ rfl) ?_
  refine ab_aload_n (z := 0) (by decide +kernel) rfl rfl ?_
  refine ab_iload (i := 5) (by decide +kernel) rfl ?_
  refine pX3_6 (ix := 29) (by decide +kernel) tw_321 (hB.1 34 _ rfl) ?_
  refine ab_aload_n (z := 0) (by decide +kernel) rfl rfl ?_
  refine gX3_3 (ix := 18) (by decide +kernel) tw_316 (hB.1 34 _ rfl) (hB.2.1 45 (34, 3, 39) rfl) ?_
  refine ab_iconst (z := 0) (v := (0 : Int32)) (by decide +kernel) (by decide) ?_
  refine ab_aload_n (z := 0) (by decide +kernel) rfl rfl ?_
  refine gX3_4 (ix := 22) (by decide +kernel) tw_317 (hB.1 34 _ rfl) (hB.2.1 46 (34, 4, 40) rfl) ?_
  refine ab_iconst (z := 0) (v := (0 : Int32)) (by decide +kernel) (by decide) ?_
  refine ab_aload_n (z := 0) (by decide +kernel) rfl rfl ?_
  refine gX3_0 (ix := 32) (by decide +kernel) tw_313 (hB.1 34 _ rfl) (hB.2.1 42 (34, 0, 3) rfl) ?_
  refine gX9_5 (ix := 40) (by decide +kernel) tw_93 (hB.1 3 _ rfl) ?_
  refine ab_top (y := (I 3 5)) rfl ?_
  obtain ⟨hg, H⟩ := ab_gd_of H
  refine ab_copy (ix := 49) (ln0 := 6) (ln1 := 6) (by decide +kernel) tw_808 tw_610 tw_609 tw_15 (hB.1 39 _ rfl) (hB.1 40 _ rfl) (by decide) (by decide) hg.1 (bz_cp hg.2.1) (bz_cp hg.2.2) (by omega) (Nat.le_of_ble_eq_true rfl) ?_
  exact ab_wk (ab_le_some (ab_le_some (ab_le_some (ab_le_some (ab_le_some (ab_le_some (ab_le_none (ab_le_none (ab_le_nil))))))))) (fX3_shareFrom_70_ok hB hq1 hd0 hrec H  K0)
def fX3_shareFrom_b (rec : Nat → Int32 → Int32 → Int32 → Int32 → ab_I → Option (ab_I)) (q1 : Nat) (a2 : Int32) (a3 : Int32) (a4 : Int32) (a5 : Int32) (I : ab_I) : Option ab_I :=
  if a2 < (I 3 5) then
    ab_it (fun s => fX3_shareFrom_74 rec q1 a2 a3 a4 a5 s.1 s.2) 5000 ((0 : Int32), I)
  else
    if (I 34 5) < a4 then
      fX3_shareFrom_38 rec q1 a2 a3 a4 a5 I
    else
      if a4 = (I 34 5) then
        if (I 34 6) ≤ a5 then
          fX3_shareFrom_70 rec q1 a2 a3 a4 a5 I
        else
          fX3_shareFrom_38 rec q1 a2 a3 a4 a5 I
      else
        fX3_shareFrom_70 rec q1 a2 a3 a4 a5 I
set_option maxRecDepth 100000 in
theorem mX3_shareFrom_okb {l : Launch} {G : ab_G} {S : ab_S} {I : ab_I} {J : ab_J} {P : ab_P} {Q : ab_Q} {q1 : Nat} {a2 : Int32} {a3 : Int32} {a4 : Int32} {a5 : Int32} (hB : bz_B S P) (hq1 : bz_st S P q1) {rec : Nat → Int32 → Int32 → Int32 → Int32 → ab_I → Option (ab_I)} {d0 : Nat} (hd0 : 3 ≤ d0) (hrec : ∀ {q1 : Nat} {a2 : Int32} {a3 : Int32} {a4 : Int32} {a5 : Int32} {I : ab_I} {J : ab_J} {r : ab_I} {Q : ab_Q} (hq1 : bz_st S P q1), rec q1 a2 a3 a4 a5 I = some r → Q none S r J P → ab_Call l G mX3_shareFrom d0 [.ref 34, .ref q1, .int a2, .int a3, .int a4, .int a5] S I J P Q) {x : ab_I} (H : fX3_shareFrom_b rec q1 a2 a3 a4 a5 I = some x) (K0 : Q none S x J P) : ab_Call l G mX3_shareFrom (d0 + 2) [.ref 34, .ref q1, .int a2, .int a3, .int a4, .int a5] S I J P Q := by
  unfold fX3_shareFrom_b at H
  refine ab_enter rfl (Nat.le_of_ble_eq_true rfl) (ab_wk (ls' := [some (.ref 34), some (.ref q1), some (.int a2), some (.int a3), some (.int a4), some (.int a5), none, none]) (ab_le_some (ab_le_some (ab_le_some (ab_le_some (ab_le_some (ab_le_some (ab_le_non0 (ab_le_non0 ab_le_nil)))))))) ?_)
  refine ab_iload_n (z := 2) (by decide +kernel) rfl rfl ?_
  refine ab_aload_n (z := 0) (by decide +kernel) rfl rfl ?_
  refine gX3_0 (ix := 32) (by decide +kernel) tw_313 (hB.1 34 _ rfl) (hB.2.1 42 (34, 0, 3) rfl) ?_
  refine gX9_5 (ix := 40) (by decide +kernel) tw_93 (hB.1 3 _ rfl) ?_
  refine ab_icmp_lt (off := 63) (tgt := 71) (by decide +kernel) rfl (fun hc => ?_) (fun hc => ?_)
  · replace H := ab_ifp H hc
    refine ab_iconst (z := 0) (v := (0 : Int32)) (by decide +kernel) (by decide) ?_
    refine ab_istore (i := 6) (by decide +kernel) (by decide) rfl ?_
    refine ab_ls (ls' := [some (.ref 34), some (.ref q1), some (.int a2), some (.int a3), some (.int a4), some (.int a5), some (.int (0 : Int32)), none]) rfl ?_
    exact ab_wk (ab_le_some (ab_le_some (ab_le_some (ab_le_some (ab_le_some (ab_le_some (ab_le_some (ab_le_none (ab_le_nil))))))))) (ab_iter (W := fun s => ab_WP l G mX3_shareFrom (d0 + 2) 74 [some (.ref 34), some (.ref q1), some (.int a2), some (.int a3), some (.int a4), some (.int a5), some (.int s.1), none] [] S s.2 J P 0 0 Q) (fun s y hb h1 h2 => fX3_shareFrom_74_ok hB hq1 hd0 hrec hb h1 (fun r e => by have e2 := h2 _ e; subst e2; exact K0)) 5000 ((0 : Int32), I) H)
  · replace H := ab_ifn H hc
    refine ab_iload (i := 4) (by decide +kernel) rfl ?_
    refine ab_aload_n (z := 0) (by decide +kernel) rfl rfl ?_
    refine gX3_5 (ix := 25) (by decide +kernel) tw_319 (hB.1 34 _ rfl) ?_
    refine ab_icmp_gt (off := 21) (tgt := 38) (by decide +kernel) rfl (fun hc => ?_) (fun hc => ?_)
    · replace H := ab_ifp H hc
      exact ab_wk (ab_le_some (ab_le_some (ab_le_some (ab_le_some (ab_le_some (ab_le_some (ab_le_none (ab_le_none (ab_le_nil))))))))) (fX3_shareFrom_38_ok hB hq1 hd0 hrec H  K0)
    · replace H := ab_ifn H hc
      refine ab_iload (i := 4) (by decide +kernel) rfl ?_
      refine ab_aload_n (z := 0) (by decide +kernel) rfl rfl ?_
      refine gX3_5 (ix := 25) (by decide +kernel) tw_319 (hB.1 34 _ rfl) ?_
      refine ab_icmp_ne (off := 44) (tgt := 70) (by decide +kernel) rfl (fun hc => ?_) (fun hc => ?_)
      · replace H := ab_ifn H hc
        exact ab_wk (ab_le_some (ab_le_some (ab_le_some (ab_le_some (ab_le_some (ab_le_some (ab_le_none (ab_le_none (ab_le_nil))))))))) (fX3_shareFrom_70_ok hB hq1 hd0 hrec H  K0)
      · replace H := ab_ifp H hc
        refine ab_iload (i := 5) (by decide +kernel) rfl ?_
        refine ab_aload_n (z := 0) (by decide +kernel) rfl rfl ?_
        refine gX3_6 (ix := 29) (by decide +kernel) tw_321 (hB.1 34 _ rfl) ?_
        refine ab_icmp_ge (off := 35) (tgt := 70) (by decide +kernel) rfl (fun hc => ?_) (fun hc => ?_)
        · replace H := ab_ifp H hc
          exact ab_wk (ab_le_some (ab_le_some (ab_le_some (ab_le_some (ab_le_some (ab_le_some (ab_le_none (ab_le_none (ab_le_nil))))))))) (fX3_shareFrom_70_ok hB hq1 hd0 hrec H  K0)
        · replace H := ab_ifn H hc
          exact ab_wk (ab_le_some (ab_le_some (ab_le_some (ab_le_some (ab_le_some (ab_le_some (ab_le_none (ab_le_none (ab_le_nil))))))))) (fX3_shareFrom_38_ok hB hq1 hd0 hrec H  K0)
def fX3_shareFrom : Nat → Nat → Int32 → Int32 → Int32 → Int32 → ab_I → Option ab_I
  | 0 => fun _ _ _ _ _ _ => none
  | n + 1 => fX3_shareFrom_b (fX3_shareFrom n)
theorem mX3_shareFrom_okr {l : Launch} {G : ab_G} {S : ab_S} {P : ab_P} (hB : bz_B S P) : ∀ (n : Nat) {q1 : Nat} {a2 : Int32} {a3 : Int32} {a4 : Int32} {a5 : Int32} {I : ab_I} {J : ab_J} {x : ab_I} {Q : ab_Q} (hq1 : bz_st S P q1), fX3_shareFrom n q1 a2 a3 a4 a5 I = some x → Q none S x J P → ab_Call l G mX3_shareFrom (3 + 2 * n) [.ref 34, .ref q1, .int a2, .int a3, .int a4, .int a5] S I J P Q
  | 0, _, _, _, _, _, _, _, _, _, _, H, _ => by cases H
  | n + 1, _, _, _, _, _, _, _, _, _, hq1, H, K => mX3_shareFrom_okb hB hq1 (d0 := 3 + 2 * n) (by omega) (fun hq1 H K => mX3_shareFrom_okr hB n hq1 H K) H K
theorem mX3_shareFrom_ok (n : Nat) {l : Launch} {G : ab_G} {S : ab_S} {I : ab_I} {J : ab_J} {P : ab_P} {Q : ab_Q} {q1 : Nat} {a2 : Int32} {a3 : Int32} {a4 : Int32} {a5 : Int32} (hB : bz_B S P) (hq1 : bz_st S P q1) {x : ab_I} (H : fX3_shareFrom n q1 a2 a3 a4 a5 I = some x) (K0 : Q none S x J P) : ab_Call l G mX3_shareFrom (3 + 2 * n) [.ref 34, .ref q1, .int a2, .int a3, .int a4, .int a5] S I J P Q := mX3_shareFrom_okr hB n hq1 H K0
abbrev mX3_shareOut : ab_M := (yX3_shareOut, cX3_shareOut, 2, none, 0, 0)
theorem kvX3_shareOut {l : Launch} {G : ab_G} {M : ab_M} {d pc : Nat} {ls : List (Option Value)} {st : List Value} {S : ab_S} {I : ab_I} {J : ab_J} {P : ab_P} {Q : ab_Q} {v0 : Value} {ix D r ln : Nat} (hd : decode M.2.1 pc = .ok (.invokevirtual ix, 3)) (h1 : Cond.methodLink M.1.cls ix mX3_shareOut.1 ∈ ab_good) (hs : S[r]? = some (8, ln)) (hdg : D + 1 ≤ d) (hsum : (st.map fun v => v.category).sum ≤ 8) (kk : ab_Call l G mX3_shareOut D (.ref r :: [v0]) S I J P (fun v S' I' J' P' => ab_WP l G M d (pc + 3) ls (ab_psh v st) S' I' J' P' 0 0 Q)) : ab_WP l G M d pc ls (v0 :: .ref r :: st) S I J P 0 0 Q := bz_kv (g := mX3_shareOut) (as := [v0]) (cc := 3) rfl hd h1 tw_827 tw_828 tw_10 tw_829 ⟨by decide +kernel, by decide +kernel, (by decide +kernel : (parseMethodDescriptor mX3_shareOut.1.desc).map (fun d => d.parameters.length) = some 1)⟩ (by decide) rfl rfl rfl hdg hsum hs kk
def fX3_shareOut (q1 : Nat) (I : ab_I) : Option ab_I :=
  (fX3_shareFrom 10 q1 (0 : Int32) ((ab_u (ab_u I 34 5 (-1 : Int32)) 34 6 (0 : Int32)) q1 3) (0 : Int32) (0 : Int32) (ab_u (ab_u I 34 5 (-1 : Int32)) 34 6 (0 : Int32))).bind fun u1 =>
  some u1
set_option maxRecDepth 100000 in
theorem mX3_shareOut_ok {l : Launch} {G : ab_G} {S : ab_S} {I : ab_I} {J : ab_J} {P : ab_P} {Q : ab_Q} {q1 : Nat} (hB : bz_B S P) (hq1 : bz_st S P q1) {x : ab_I} (H : fX3_shareOut q1 I = some x) (K0 : Q none S x J P) : ab_Call l G mX3_shareOut 24 [.ref 34, .ref q1] S I J P Q := by
  unfold fX3_shareOut at H
  refine ab_enter rfl (Nat.le_of_ble_eq_true rfl) (ab_wk (ls' := [some (.ref 34), some (.ref q1)]) (ab_le_some (ab_le_some (ab_le_nil))) ?_)
  refine ab_aload_n (z := 0) (by decide +kernel) rfl rfl ?_
  refine ab_iconst (z := -1) (v := (-1 : Int32)) (by decide +kernel) (by decide) ?_
  refine pX3_5 (ix := 25) (by decide +kernel) tw_319 (hB.1 34 _ rfl) ?_
  refine ab_aload_n (z := 0) (by decide +kernel) rfl rfl ?_
  refine ab_iconst (z := 0) (v := (0 : Int32)) (by decide +kernel) (by decide) ?_
  refine pX3_6 (ix := 29) (by decide +kernel) tw_321 (hB.1 34 _ rfl) ?_
  refine ab_aload_n (z := 0) (by decide +kernel) rfl rfl ?_
  refine ab_aload_n (z := 1) (by decide +kernel) rfl rfl ?_
  refine ab_iconst (z := 0) (v := (0 : Int32)) (by decide +kernel) (by decide) ?_
  refine ab_aload_n (z := 1) (by decide +kernel) rfl rfl ?_
  refine gX6_3 (ix := 72) (by decide +kernel) tw_257 hq1.1 ?_
  refine ab_iconst (z := 0) (v := (0 : Int32)) (by decide +kernel) (by decide) ?_
  refine ab_iconst (z := 0) (v := (0 : Int32)) (by decide +kernel) (by decide) ?_
  obtain ⟨u1, hu1, H⟩ := ab_bd_of H
  refine kvX3_shareFrom (D := 23) (ix := 75) (by decide +kernel) tw_830 (hB.1 34 _ rfl) (by decide) (Nat.le_of_ble_eq_true rfl) (mX3_shareFrom_ok 10 hB hq1 hu1 ?_)
  change ab_WP l G mX3_shareOut 24 22 [some (.ref 34), some (.ref q1)] [] S u1 J P 0 0 Q
  obtain rfl := Option.some.inj H
  exact ab_vret (by decide +kernel) rfl (Nat.le_refl _) (Nat.le_refl _) K0
abbrev mX11_duties : ab_M := (yX11_duties, cX11_duties, 2, some .int, 0, 0)
def fX11_duties_61 (a1 : Int32) (P : ab_P) (s0 : Int32) (I : ab_I) : Option (Int32 × ab_I) :=
  some (s0, I)
set_option maxRecDepth 100000 in
theorem fX11_duties_61_ok {l : Launch} {G : ab_G} {S : ab_S} {I : ab_I} {J : ab_J} {P : ab_P} {Q : ab_Q} {a1 : Int32} {s0 : Int32} (hB : bz_B S P) {x : Int32 × ab_I} (H : fX11_duties_61 a1 P s0 I = some x) (K0 : Q (some (.int x.1)) S x.2 J P) : ab_WP l G mX11_duties 25 61 [some (.ref 0), some (.int a1)] [.int s0] S I J P 0 0 Q := by
  unfold fX11_duties_61 at H
  obtain rfl := Option.some.inj H
  exact ab_iret (by decide +kernel) rfl (Nat.le_refl _) (Nat.le_refl _) K0
def fX11_duties (a1 : Int32) (I : ab_I) (P : ab_P) : Option (Int32 × ab_I) :=
  (fX11_within a1 (0 : Int32) (1 : Int32)).bind fun u1 =>
  if u1 = 0 then
    some ((-1 : Int32), I)
  else
    (P 0 12).bind fun z2 =>
    (fX3_shareOut z2 I).bind fun u3 =>
    (fX11_layDown 40 6 (u3 3 5) u3).bind fun u4 =>
    if a1 = 0 then
      fX11_duties_61 a1 P (u4 34 5) u4
    else
      fX11_duties_61 a1 P (u4 34 6) u4
set_option maxRecDepth 100000 in
theorem mX11_duties_ok {l : Launch} {G : ab_G} {S : ab_S} {I : ab_I} {J : ab_J} {P : ab_P} {Q : ab_Q} {a1 : Int32} (hB : bz_B S P) {x : Int32 × ab_I} (H : fX11_duties a1 I P = some x) (K0 : Q (some (.int x.1)) S x.2 J P) : ab_Call l G mX11_duties 25 [.ref 0, .int a1] S I J P Q := by
  unfold fX11_duties at H
  refine ab_enter rfl (Nat.le_of_ble_eq_true rfl) (ab_wk (ls' := [some (.ref 0), some (.int a1)]) (ab_le_some (ab_le_some (ab_le_nil))) ?_)
  refine ab_iload_n (z := 1) (by decide +kernel) rfl rfl ?_
  refine ab_iconst (z := 0) (v := (0 : Int32)) (by decide +kernel) (by decide) ?_
  refine ab_iconst (z := 1) (v := (1 : Int32)) (by decide +kernel) (by decide) ?_
  obtain ⟨u1, hu1, H⟩ := ab_bd_of H
  refine ksX11_within (D := 0) (ix := 191) (by decide +kernel) tw_746 (by decide) (Nat.le_of_ble_eq_true rfl) (mX11_within_ok hB hu1 ?_)
  change ab_WP l G mX11_duties 25 6 [some (.ref 0), some (.int a1)] [.int u1] S I J P 0 0 Q
  refine ab_if_ne (off := 5) (tgt := 11) (by decide +kernel) rfl (fun hc => ?_) (fun hc => ?_)
  · replace H := ab_ifn H hc
    refine ab_aload_n (z := 0) (by decide +kernel) rfl rfl ?_
    refine gX11_5 (ix := 53) (by decide +kernel) tw_413 (hB.1 0 _ rfl) (hB.2.1 5 (0, 5, 34) rfl) ?_
    refine ab_aload_n (z := 0) (by decide +kernel) rfl rfl ?_
    obtain ⟨z2, hz2, H⟩ := ab_bd_of H
    refine gX11_12 (ix := 89) (by decide +kernel) tw_420 (hB.1 0 _ rfl) hz2 ?_
    have sz2 := hB.2.2.1 _ hz2
    obtain ⟨u3, hu3, H⟩ := ab_bd_of H
    refine kvX3_shareOut (D := 24) (ix := 239) (by decide +kernel) tw_826 (hB.1 34 _ rfl) (by decide) (Nat.le_of_ble_eq_true rfl) (mX3_shareOut_ok hB sz2 hu3 ?_)
    change ab_WP l G mX11_duties 25 22 [some (.ref 0), some (.int a1)] [] S u3 J P 0 0 Q
    refine ab_aload_n (z := 0) (by decide +kernel) rfl rfl ?_
    refine ab_aload_n (z := 0) (by decide +kernel) rfl rfl ?_
    refine gX11_5 (ix := 53) (by decide +kernel) tw_413 (hB.1 0 _ rfl) (hB.2.1 5 (0, 5, 34) rfl) ?_
    refine gX3_4 (ix := 229) (by decide +kernel) tw_318 (hB.1 34 _ rfl) (hB.2.1 46 (34, 4, 40) rfl) ?_
    refine ab_aload_n (z := 0) (by decide +kernel) rfl rfl ?_
    refine gX11_1 (ix := 19) (by decide +kernel) tw_409 (hB.1 0 _ rfl) (hB.2.1 1 (0, 1, 3) rfl) ?_
    refine gX9_5 (ix := 232) (by decide +kernel) tw_98 (hB.1 3 _ rfl) ?_
    obtain ⟨u4, hu4, H⟩ := ab_bd_of H
    refine kvX11_layDown (D := 1) (ix := 235) (by decide +kernel) tw_817 (hB.1 0 _ rfl) (by decide) (Nat.le_of_ble_eq_true rfl) (mX11_layDown_ok hB (hB.1 40 _ rfl) hu4 ?_)
    change ab_WP l G mX11_duties 25 40 [some (.ref 0), some (.int a1)] [] S u4 J P 0 0 Q
    refine ab_iload_n (z := 1) (by decide +kernel) rfl rfl ?_
    refine ab_if_ne (off := 13) (tgt := 54) (by decide +kernel) rfl (fun hc => ?_) (fun hc => ?_)
    · replace H := ab_ifn H hc
      refine ab_aload_n (z := 0) (by decide +kernel) rfl rfl ?_
      refine gX11_5 (ix := 53) (by decide +kernel) tw_413 (hB.1 0 _ rfl) (hB.2.1 5 (0, 5, 34) rfl) ?_
      refine gX3_6 (ix := 245) (by decide +kernel) tw_322 (hB.1 34 _ rfl) ?_
      exact ab_wk (ab_le_some (ab_le_some (ab_le_nil))) (fX11_duties_61_ok hB H  K0)
    · replace H := ab_ifp H hc
      refine ab_aload_n (z := 0) (by decide +kernel) rfl rfl ?_
      refine gX11_5 (ix := 53) (by decide +kernel) tw_413 (hB.1 0 _ rfl) (hB.2.1 5 (0, 5, 34) rfl) ?_
      refine gX3_5 (ix := 242) (by decide +kernel) tw_320 (hB.1 34 _ rfl) ?_
      refine ab_goto (off := 10) (tgt := 61) (by decide +kernel) rfl ?_
      exact ab_wk (ab_le_some (ab_le_some (ab_le_nil))) (fX11_duties_61_ok hB H  K0)
  · replace H := ab_ifp H hc
    refine ab_iconst (z := -1) (v := (-1 : Int32)) (by decide +kernel) (by decide) ?_
    obtain rfl := Option.some.inj H
    exact ab_iret (by decide +kernel) rfl (Nat.le_refl _) (Nat.le_refl _) K0
abbrev mX1_sentToHush : ab_M := (yX1_sentToHush, cX1_sentToHush, 6, some .int, 0, 0)
theorem kvX1_sentToHush {l : Launch} {G : ab_G} {M : ab_M} {d pc : Nat} {ls : List (Option Value)} {st : List Value} {S : ab_S} {I : ab_I} {J : ab_J} {P : ab_P} {Q : ab_Q} {v0 : Value} {ix D r ln : Nat} (hd : decode M.2.1 pc = .ok (.invokevirtual ix, 3)) (h1 : Cond.methodLink M.1.cls ix mX1_sentToHush.1 ∈ ab_good) (hs : S[r]? = some (6, ln)) (hdg : D + 1 ≤ d) (hsum : (st.map fun v => v.category).sum ≤ 8) (kk : ab_Call l G mX1_sentToHush D (.ref r :: [v0]) S I J P (fun v S' I' J' P' => ab_WP l G M d (pc + 3) ls (ab_psh v st) S' I' J' P' 0 0 Q)) : ab_WP l G M d pc ls (v0 :: .ref r :: st) S I J P 0 0 Q := bz_kv (g := mX1_sentToHush) (as := [v0]) (cc := 1) rfl hd h1 tw_840 tw_841 tw_8 tw_842 ⟨by decide +kernel, by decide +kernel, (by decide +kernel : (parseMethodDescriptor mX1_sentToHush.1.desc).map (fun d => d.parameters.length) = some 1)⟩ (by decide) rfl rfl rfl hdg hsum hs kk
def fX1_sentToHush_99 (q1 : Nat) (a3 : Int32) (I : ab_I) : Option (Int32 × ab_I) :=
  some (a3, I)
set_option maxRecDepth 100000 in
theorem fX1_sentToHush_99_ok {l : Launch} {G : ab_G} {S : ab_S} {I : ab_I} {J : ab_J} {P : ab_P} {Q : ab_Q} {q1 : Nat} {a3 : Int32} (hB : bz_B S P) (hq1 : bz_st S P q1) {x : Int32 × ab_I} (H : fX1_sentToHush_99 q1 a3 I = some x) (K0 : Q (some (.int x.1)) S x.2 J P) : ab_WP l G mX1_sentToHush 6 99 [some (.ref 25), some (.ref q1), none, some (.int a3), none, none] [] S I J P 0 0 Q := by
  unfold fX1_sentToHush_99 at H
  refine ab_iload_n (z := 3) (by decide +kernel) rfl rfl ?_
  obtain rfl := Option.some.inj H
  exact ab_iret (by decide +kernel) rfl (Nat.le_refl _) (Nat.le_refl _) K0
def fX1_sentToHush_93 (q1 : Nat) (a2 : Int32) (a3 : Int32) (a4 : Int32) (I : ab_I) : Option ((Int32 × Int32 × Int32 × ab_I) ⊕ (Int32 × ab_I)) :=
  some (.inl (a2, a3, (a4 + (1 : Int32)), I))
set_option maxRecDepth 100000 in
theorem fX1_sentToHush_93_ok {l : Launch} {G : ab_G} {S : ab_S} {I : ab_I} {J : ab_J} {P : ab_P} {Q : ab_Q} {q1 : Nat} {a2 : Int32} {a3 : Int32} {a4 : Int32} (hB : bz_B S P) (hq1 : bz_st S P q1) {x : ((Int32 × Int32 × Int32 × ab_I) ⊕ (Int32 × ab_I))} (H : fX1_sentToHush_93 q1 a2 a3 a4 I = some x) (K1 : ∀ s, x = (.inl s) → ab_WP l G mX1_sentToHush 6 20 [some (.ref 25), some (.ref q1), some (.int s.1), some (.int s.2.1), some (.int s.2.2.1), none] [] S s.2.2.2 J P 0 0 Q) (K0 : ∀ r, x = (.inr r) → Q (some (.int r.1)) S r.2 J P) : ab_WP l G mX1_sentToHush 6 93 [some (.ref 25), some (.ref q1), some (.int a2), some (.int a3), some (.int a4), none] [] S I J P 0 0 Q := by
  unfold fX1_sentToHush_93 at H
  refine ab_iinc (i := 4) (z := 1) (v := (a4 + (1 : Int32))) (by decide +kernel) rfl rfl (by decide) rfl ?_
  refine ab_ls (ls' := [some (.ref 25), some (.ref q1), some (.int a2), some (.int a3), some (.int (a4 + (1 : Int32))), none]) rfl ?_
  refine ab_goto (off := -76) (tgt := 20) (by decide +kernel) rfl ?_
  exact ab_wk (ab_le_some (ab_le_some (ab_le_some (ab_le_some (ab_le_some (ab_le_none (ab_le_nil))))))) (K1 (a2, a3, (a4 + (1 : Int32)), I) (Option.some.inj H).symm)
def fX1_sentToHush_51 (q1 : Nat) (a2 : Int32) (a3 : Int32) (a4 : Int32) (s0 : Int32) (I : ab_I) : Option ((Int32 × Int32 × Int32 × ab_I) ⊕ (Int32 × ab_I)) :=
  if s0 = 0 then
    fX1_sentToHush_93 q1 a2 a3 a4 I
  else
    if (a4 &&& ((I q1 3) ^^^ (-1 : Int32))) = 0 then
      (fX1_passWithout q1 a4 I).bind fun u4 =>
      (fX5_rungBy (-1 : Int32) u4.2).bind fun u5 =>
      if u5 = a2 then
        fX1_sentToHush_93 q1 a2 a4 a4 u4.2
      else
        fX1_sentToHush_93 q1 a2 a3 a4 u4.2
    else
      fX1_sentToHush_93 q1 a2 a3 a4 I
set_option maxRecDepth 100000 in
theorem fX1_sentToHush_51_ok {l : Launch} {G : ab_G} {S : ab_S} {I : ab_I} {J : ab_J} {P : ab_P} {Q : ab_Q} {q1 : Nat} {a2 : Int32} {a3 : Int32} {a4 : Int32} {s0 : Int32} (hB : bz_B S P) (hq1 : bz_st S P q1) {x : ((Int32 × Int32 × Int32 × ab_I) ⊕ (Int32 × ab_I))} (H : fX1_sentToHush_51 q1 a2 a3 a4 s0 I = some x) (K1 : ∀ s, x = (.inl s) → ab_WP l G mX1_sentToHush 6 20 [some (.ref 25), some (.ref q1), some (.int s.1), some (.int s.2.1), some (.int s.2.2.1), none] [] S s.2.2.2 J P 0 0 Q) (K0 : ∀ r, x = (.inr r) → Q (some (.int r.1)) S r.2 J P) : ab_WP l G mX1_sentToHush 6 51 [some (.ref 25), some (.ref q1), some (.int a2), some (.int a3), some (.int a4), none] [.int s0] S I J P 0 0 Q := by
  unfold fX1_sentToHush_51 at H
  refine ab_istore (i := 5) (by decide +kernel) (by decide) rfl ?_
  refine ab_ls (ls' := [some (.ref 25), some (.ref q1), some (.int a2), some (.int a3), some (.int a4), some (.int s0)]) rfl ?_
  refine ab_iload (i := 5) (by decide +kernel) rfl ?_
  refine ab_if_eq (off := 38) (tgt := 93) (by decide +kernel) rfl (fun hc => ?_) (fun hc => ?_)
  · replace H := ab_ifp H hc
    exact ab_wk (ab_le_some (ab_le_some (ab_le_some (ab_le_some (ab_le_some (ab_le_none (ab_le_nil))))))) (fX1_sentToHush_93_ok hB hq1 H K1 K0)
  · replace H := ab_ifn H hc
    refine ab_iload (i := 4) (by decide +kernel) rfl ?_
    refine ab_aload_n (z := 1) (by decide +kernel) rfl rfl ?_
    refine gX6_3 (ix := 49) (by decide +kernel) tw_254 hq1.1 ?_
    refine ab_iconst (z := -1) (v := (-1 : Int32)) (by decide +kernel) (by decide) ?_
    refine ab_ixor (by decide +kernel) ?_
    refine ab_iand (by decide +kernel) ?_
    refine ab_if_ne (off := 26) (tgt := 93) (by decide +kernel) rfl (fun hc => ?_) (fun hc => ?_)
    · replace H := ab_ifn H hc
      exact ab_wk (ab_le_some (ab_le_some (ab_le_some (ab_le_some (ab_le_some (ab_le_none (ab_le_nil))))))) (fX1_sentToHush_93_ok hB hq1 H K1 K0)
    · replace H := ab_ifp H hc
      refine ab_aload_n (z := 0) (by decide +kernel) rfl rfl ?_
      refine ab_aload_n (z := 1) (by decide +kernel) rfl rfl ?_
      refine ab_iload (i := 4) (by decide +kernel) rfl ?_
      obtain ⟨u4, hu4, H⟩ := ab_bd_of H
      refine kvX1_passWithout (D := 5) (ix := 53) (by decide +kernel) tw_649 (hB.1 25 _ rfl) (by decide) (Nat.le_of_ble_eq_true rfl) (mX1_passWithout_ok hB hq1 hu4 ?_)
      change ab_WP l G mX1_sentToHush 6 77 [some (.ref 25), some (.ref q1), some (.int a2), some (.int a3), some (.int a4), some (.int s0)] [.int u4.1] S u4.2 J P 0 0 Q
      refine ab_pop (by decide +kernel) rfl ?_
      refine ab_aload_n (z := 0) (by decide +kernel) rfl rfl ?_
      refine gX1_1 (ix := 35) (by decide +kernel) tw_282 (hB.1 25 _ rfl) (hB.2.1 33 (25, 1, 23) rfl) ?_
      refine ab_iconst (z := -1) (v := (-1 : Int32)) (by decide +kernel) (by decide) ?_
      obtain ⟨u5, hu5, H⟩ := ab_bd_of H
      refine kvX5_rungBy (D := 0) (ix := 57) (by decide +kernel) tw_693 (hB.1 23 _ rfl) (by decide) (Nat.le_of_ble_eq_true rfl) (mX5_rungBy_ok hB hu5 ?_)
      change ab_WP l G mX1_sentToHush 6 86 [some (.ref 25), some (.ref q1), some (.int a2), some (.int a3), some (.int a4), some (.int s0)] [.int u5] S u4.2 J P 0 0 Q
      refine ab_iload_n (z := 2) (by decide +kernel) rfl rfl ?_
      refine ab_icmp_ne (off := 6) (tgt := 93) (by decide +kernel) rfl (fun hc => ?_) (fun hc => ?_)
      · replace H := ab_ifn H hc
        exact ab_wk (ab_le_some (ab_le_some (ab_le_some (ab_le_some (ab_le_some (ab_le_none (ab_le_nil))))))) (fX1_sentToHush_93_ok hB hq1 H K1 K0)
      · replace H := ab_ifp H hc
        refine ab_iload (i := 4) (by decide +kernel) rfl ?_
        refine ab_istore_n (z := 3) (by decide +kernel) rfl (by decide) rfl ?_
        refine ab_ls (ls' := [some (.ref 25), some (.ref q1), some (.int a2), some (.int a4), some (.int a4), some (.int s0)]) rfl ?_
        exact ab_wk (ab_le_some (ab_le_some (ab_le_some (ab_le_some (ab_le_some (ab_le_none (ab_le_nil))))))) (fX1_sentToHush_93_ok hB hq1 H K1 K0)
def fX1_sentToHush_20 (q1 : Nat) (a2 : Int32) (a3 : Int32) (a4 : Int32) (I : ab_I) : Option ((Int32 × Int32 × Int32 × ab_I) ⊕ (Int32 × ab_I)) :=
  if ((1 : Int32) <<< ((I 3 4) &&& 31)) ≤ a4 then
    (fX1_sentToHush_99 q1 a3 I).map .inr
  else
    (fJ6_bitCount_0f7a4 a4).bind fun u2 =>
    (fJ6_bitCount_0f7a4 a3).bind fun u3 =>
    if u3 ≤ u2 then
      fX1_sentToHush_51 q1 a2 a3 a4 (0 : Int32) I
    else
      fX1_sentToHush_51 q1 a2 a3 a4 (1 : Int32) I
set_option maxRecDepth 100000 in
theorem fX1_sentToHush_20_ok {l : Launch} {G : ab_G} {S : ab_S} {I : ab_I} {J : ab_J} {P : ab_P} {Q : ab_Q} {q1 : Nat} {a2 : Int32} {a3 : Int32} {a4 : Int32} (hB : bz_B S P) (hq1 : bz_st S P q1) {x : ((Int32 × Int32 × Int32 × ab_I) ⊕ (Int32 × ab_I))} (H : fX1_sentToHush_20 q1 a2 a3 a4 I = some x) (K1 : ∀ s, x = (.inl s) → ab_WP l G mX1_sentToHush 6 20 [some (.ref 25), some (.ref q1), some (.int s.1), some (.int s.2.1), some (.int s.2.2.1), none] [] S s.2.2.2 J P 0 0 Q) (K0 : ∀ r, x = (.inr r) → Q (some (.int r.1)) S r.2 J P) : ab_WP l G mX1_sentToHush 6 20 [some (.ref 25), some (.ref q1), some (.int a2), some (.int a3), some (.int a4), none] [] S I J P 0 0 Q := by
  unfold fX1_sentToHush_20 at H
  refine ab_iload (i := 4) (by decide +kernel) rfl ?_
  refine ab_iconst (z := 1) (v := (1 : Int32)) (by decide +kernel) (by decide) ?_
  refine ab_aload_n (z := 0) (by decide +kernel) rfl rfl ?_
  refine gX1_0 (ix := 31) (by decide +kernel) tw_281 (hB.1 25 _ rfl) (hB.2.1 32 (25, 0, 3) rfl) ?_
  refine gX9_4 (ix := 61) (by decide +kernel) tw_89 (hB.1 3 _ rfl) ?_
  refine ab_ishl (by decide +kernel) ?_
  refine ab_icmp_ge (off := 68) (tgt := 99) (by decide +kernel) rfl (fun hc => ?_) (fun hc => ?_)
  · replace H := ab_ifp H hc
    obtain ⟨y1, Hy, hx⟩ := ab_mp_of H
    subst hx
    replace H := Hy
    exact ab_wk (ab_le_some (ab_le_some (ab_le_none (ab_le_some (ab_le_none (ab_le_none (ab_le_nil))))))) (fX1_sentToHush_99_ok hB hq1 H  (K0 _ rfl))
  · replace H := ab_ifn H hc
    refine ab_iload (i := 4) (by decide +kernel) rfl ?_
    obtain ⟨u2, hu2, H⟩ := ab_bd_of H
    refine ksJ6_bitCount_0f7a4 (D := 0) (ix := 66) (by decide +kernel) tw_843 (by decide) (Nat.le_of_ble_eq_true rfl) (mJ6_bitCount_0f7a4_ok hB hu2 ?_)
    change ab_WP l G mX1_sentToHush 6 39 [some (.ref 25), some (.ref q1), some (.int a2), some (.int a3), some (.int a4), none] [.int u2] S I J P 0 0 Q
    refine ab_iload_n (z := 3) (by decide +kernel) rfl rfl ?_
    obtain ⟨u3, hu3, H⟩ := ab_bd_of H
    refine ksJ6_bitCount_0f7a4 (D := 0) (ix := 66) (by decide +kernel) tw_843 (by decide) (Nat.le_of_ble_eq_true rfl) (mJ6_bitCount_0f7a4_ok hB hu3 ?_)
    change ab_WP l G mX1_sentToHush 6 43 [some (.ref 25), some (.ref q1), some (.int a2), some (.int a3), some (.int a4), none] [.int u3, .int u2] S I J P 0 0 Q
    refine ab_icmp_ge (off := 7) (tgt := 50) (by decide +kernel) rfl (fun hc => ?_) (fun hc => ?_)
    · replace H := ab_ifp H hc
      refine ab_iconst (z := 0) (v := (0 : Int32)) (by decide +kernel) (by decide) ?_
      exact ab_wk (ab_le_some (ab_le_some (ab_le_some (ab_le_some (ab_le_some (ab_le_none (ab_le_nil))))))) (fX1_sentToHush_51_ok hB hq1 H K1 K0)
    · replace H := ab_ifn H hc
      refine ab_iconst (z := 1) (v := (1 : Int32)) (by decide +kernel) (by decide) ?_
      refine ab_goto (off := 4) (tgt := 51) (by decide +kernel) rfl ?_
      exact ab_wk (ab_le_some (ab_le_some (ab_le_some (ab_le_some (ab_le_some (ab_le_none (ab_le_nil))))))) (fX1_sentToHush_51_ok hB hq1 H K1 K0)
def fX1_sentToHush (q1 : Nat) (I : ab_I) : Option (Int32 × ab_I) :=
  ab_it (fun s => fX1_sentToHush_20 q1 s.1 s.2.1 s.2.2.1 s.2.2.2) 5000 ((((1 : Int32) <<< ((I 3 5) &&& 31)) - (1 : Int32)), (I q1 3), (0 : Int32), I)
set_option maxRecDepth 100000 in
theorem mX1_sentToHush_ok {l : Launch} {G : ab_G} {S : ab_S} {I : ab_I} {J : ab_J} {P : ab_P} {Q : ab_Q} {q1 : Nat} (hB : bz_B S P) (hq1 : bz_st S P q1) {x : Int32 × ab_I} (H : fX1_sentToHush q1 I = some x) (K0 : Q (some (.int x.1)) S x.2 J P) : ab_Call l G mX1_sentToHush 6 [.ref 25, .ref q1] S I J P Q := by
  unfold fX1_sentToHush at H
  refine ab_enter rfl (Nat.le_of_ble_eq_true rfl) (ab_wk (ls' := [some (.ref 25), some (.ref q1), none, none, none, none]) (ab_le_some (ab_le_some (ab_le_non0 (ab_le_non0 (ab_le_non0 (ab_le_non0 ab_le_nil)))))) ?_)
  refine ab_iconst (z := 1) (v := (1 : Int32)) (by decide +kernel) (by decide) ?_
  refine ab_aload_n (z := 0) (by decide +kernel) rfl rfl ?_
  refine gX1_0 (ix := 31) (by decide +kernel) tw_281 (hB.1 25 _ rfl) (hB.2.1 32 (25, 0, 3) rfl) ?_
  refine gX9_5 (ix := 71) (by decide +kernel) tw_96 (hB.1 3 _ rfl) ?_
  refine ab_ishl (by decide +kernel) ?_
  refine ab_iconst (z := 1) (v := (1 : Int32)) (by decide +kernel) (by decide) ?_
  refine ab_isub (by decide +kernel) ?_
  refine ab_istore_n (z := 2) (by decide +kernel) rfl (by decide) rfl ?_
  refine ab_ls (ls' := [some (.ref 25), some (.ref q1), some (.int (((1 : Int32) <<< ((I 3 5) &&& 31)) - (1 : Int32))), none, none, none]) rfl ?_
  refine ab_aload_n (z := 1) (by decide +kernel) rfl rfl ?_
  refine gX6_3 (ix := 49) (by decide +kernel) tw_254 hq1.1 ?_
  refine ab_istore_n (z := 3) (by decide +kernel) rfl (by decide) rfl ?_
  refine ab_ls (ls' := [some (.ref 25), some (.ref q1), some (.int (((1 : Int32) <<< ((I 3 5) &&& 31)) - (1 : Int32))), some (.int (I q1 3)), none, none]) rfl ?_
  refine ab_iconst (z := 0) (v := (0 : Int32)) (by decide +kernel) (by decide) ?_
  refine ab_istore (i := 4) (by decide +kernel) (by decide) rfl ?_
  refine ab_ls (ls' := [some (.ref 25), some (.ref q1), some (.int (((1 : Int32) <<< ((I 3 5) &&& 31)) - (1 : Int32))), some (.int (I q1 3)), some (.int (0 : Int32)), none]) rfl ?_
  exact ab_wk (ab_le_some (ab_le_some (ab_le_some (ab_le_some (ab_le_some (ab_le_none (ab_le_nil))))))) (ab_iter (W := fun s => ab_WP l G mX1_sentToHush 6 20 [some (.ref 25), some (.ref q1), some (.int s.1), some (.int s.2.1), some (.int s.2.2.1), none] [] S s.2.2.2 J P 0 0 Q) (fun s y hb h1 h2 => fX1_sentToHush_20_ok hB hq1 hb h1 (fun r e => by have e2 := h2 _ e; subst e2; exact K0)) 5000 ((((1 : Int32) <<< ((I 3 5) &&& 31)) - (1 : Int32)), (I q1 3), (0 : Int32), I) H)
abbrev mX11_hush : ab_M := (yX11_hush, cX11_hush, 3, some .int, 0, 0)
def fX11_hush_35 (a1 : Int32) (P : ab_P) (s0 : Int32) (I : ab_I) : Option (Int32 × ab_I) :=
  some (s0, I)
set_option maxRecDepth 100000 in
theorem fX11_hush_35_ok {l : Launch} {G : ab_G} {S : ab_S} {I : ab_I} {J : ab_J} {P : ab_P} {Q : ab_Q} {a1 : Int32} {s0 : Int32} (hB : bz_B S P) {x : Int32 × ab_I} (H : fX11_hush_35 a1 P s0 I = some x) (K0 : Q (some (.int x.1)) S x.2 J P) : ab_WP l G mX11_hush 7 35 [some (.ref 0), some (.int a1), none] [.int s0] S I J P 0 0 Q := by
  unfold fX11_hush_35 at H
  obtain rfl := Option.some.inj H
  exact ab_iret (by decide +kernel) rfl (Nat.le_refl _) (Nat.le_refl _) K0
def fX11_hush (a1 : Int32) (I : ab_I) (P : ab_P) : Option (Int32 × ab_I) :=
  (fX11_within a1 (0 : Int32) (1 : Int32)).bind fun u1 =>
  if u1 = 0 then
    some ((-1 : Int32), I)
  else
    (P 0 12).bind fun z2 =>
    (fX1_sentToHush z2 I).bind fun u3 =>
    if a1 = 0 then
      (fJ6_bitCount_0f7a4 u3.1).bind fun u4 =>
      fX11_hush_35 a1 P u4 u3.2
    else
      fX11_hush_35 a1 P u3.1 u3.2
set_option maxRecDepth 100000 in
theorem mX11_hush_ok {l : Launch} {G : ab_G} {S : ab_S} {I : ab_I} {J : ab_J} {P : ab_P} {Q : ab_Q} {a1 : Int32} (hB : bz_B S P) {x : Int32 × ab_I} (H : fX11_hush a1 I P = some x) (K0 : Q (some (.int x.1)) S x.2 J P) : ab_Call l G mX11_hush 7 [.ref 0, .int a1] S I J P Q := by
  unfold fX11_hush at H
  refine ab_enter rfl (Nat.le_of_ble_eq_true rfl) (ab_wk (ls' := [some (.ref 0), some (.int a1), none]) (ab_le_some (ab_le_some (ab_le_non0 ab_le_nil))) ?_)
  refine ab_iload_n (z := 1) (by decide +kernel) rfl rfl ?_
  refine ab_iconst (z := 0) (v := (0 : Int32)) (by decide +kernel) (by decide) ?_
  refine ab_iconst (z := 1) (v := (1 : Int32)) (by decide +kernel) (by decide) ?_
  obtain ⟨u1, hu1, H⟩ := ab_bd_of H
  refine ksX11_within (D := 0) (ix := 191) (by decide +kernel) tw_746 (by decide) (Nat.le_of_ble_eq_true rfl) (mX11_within_ok hB hu1 ?_)
  change ab_WP l G mX11_hush 7 6 [some (.ref 0), some (.int a1), none] [.int u1] S I J P 0 0 Q
  refine ab_if_ne (off := 5) (tgt := 11) (by decide +kernel) rfl (fun hc => ?_) (fun hc => ?_)
  · replace H := ab_ifn H hc
    refine ab_aload_n (z := 0) (by decide +kernel) rfl rfl ?_
    refine gX11_4 (ix := 46) (by decide +kernel) tw_412 (hB.1 0 _ rfl) (hB.2.1 4 (0, 4, 25) rfl) ?_
    refine ab_aload_n (z := 0) (by decide +kernel) rfl rfl ?_
    obtain ⟨z2, hz2, H⟩ := ab_bd_of H
    refine gX11_12 (ix := 89) (by decide +kernel) tw_420 (hB.1 0 _ rfl) hz2 ?_
    have sz2 := hB.2.2.1 _ hz2
    obtain ⟨u3, hu3, H⟩ := ab_bd_of H
    refine kvX1_sentToHush (D := 6) (ix := 248) (by decide +kernel) tw_839 (hB.1 25 _ rfl) (by decide) (Nat.le_of_ble_eq_true rfl) (mX1_sentToHush_ok hB sz2 hu3 ?_)
    change ab_WP l G mX11_hush 7 22 [some (.ref 0), some (.int a1), none] [.int u3.1] S u3.2 J P 0 0 Q
    refine ab_istore_n (z := 2) (by decide +kernel) rfl (by decide) rfl ?_
    refine ab_ls (ls' := [some (.ref 0), some (.int a1), some (.int u3.1)]) rfl ?_
    refine ab_iload_n (z := 1) (by decide +kernel) rfl rfl ?_
    refine ab_if_ne (off := 10) (tgt := 34) (by decide +kernel) rfl (fun hc => ?_) (fun hc => ?_)
    · replace H := ab_ifn H hc
      refine ab_iload_n (z := 2) (by decide +kernel) rfl rfl ?_
      exact ab_wk (ab_le_some (ab_le_some (ab_le_none (ab_le_nil)))) (fX11_hush_35_ok hB H  K0)
    · replace H := ab_ifp H hc
      refine ab_iload_n (z := 2) (by decide +kernel) rfl rfl ?_
      obtain ⟨u4, hu4, H⟩ := ab_bd_of H
      refine ksJ6_bitCount_0f7a4 (D := 0) (ix := 198) (by decide +kernel) tw_752 (by decide) (Nat.le_of_ble_eq_true rfl) (mJ6_bitCount_0f7a4_ok hB hu4 ?_)
      change ab_WP l G mX11_hush 7 31 [some (.ref 0), some (.int a1), some (.int u3.1)] [.int u4] S u3.2 J P 0 0 Q
      refine ab_goto (off := 4) (tgt := 35) (by decide +kernel) rfl ?_
      exact ab_wk (ab_le_some (ab_le_some (ab_le_none (ab_le_nil)))) (fX11_hush_35_ok hB H  K0)
  · replace H := ab_ifp H hc
    refine ab_iconst (z := -1) (v := (-1 : Int32)) (by decide +kernel) (by decide) ?_
    obtain rfl := Option.some.inj H
    exact ab_iret (by decide +kernel) rfl (Nat.le_refl _) (Nat.le_refl _) K0
abbrev mX1_bestSpared : ab_M := (yX1_bestSpared, cX1_bestSpared, 6, some .int, 0, 0)
theorem kvX1_bestSpared {l : Launch} {G : ab_G} {M : ab_M} {d pc : Nat} {ls : List (Option Value)} {st : List Value} {S : ab_S} {I : ab_I} {J : ab_J} {P : ab_P} {Q : ab_Q} {v0 : Value} {ix D r ln : Nat} (hd : decode M.2.1 pc = .ok (.invokevirtual ix, 3)) (h1 : Cond.methodLink M.1.cls ix mX1_bestSpared.1 ∈ ab_good) (hs : S[r]? = some (6, ln)) (hdg : D + 1 ≤ d) (hsum : (st.map fun v => v.category).sum ≤ 8) (kk : ab_Call l G mX1_bestSpared D (.ref r :: [v0]) S I J P (fun v S' I' J' P' => ab_WP l G M d (pc + 3) ls (ab_psh v st) S' I' J' P' 0 0 Q)) : ab_WP l G M d pc ls (v0 :: .ref r :: st) S I J P 0 0 Q := bz_kv (g := mX1_bestSpared) (as := [v0]) (cc := 1) rfl hd h1 tw_849 tw_850 tw_8 tw_851 ⟨by decide +kernel, by decide +kernel, (by decide +kernel : (parseMethodDescriptor mX1_bestSpared.1.desc).map (fun d => d.parameters.length) = some 1)⟩ (by decide) rfl rfl rfl hdg hsum hs kk
def fX1_bestSpared_62 (q1 : Nat) (a2 : Int32) (I : ab_I) : Option (Int32 × ab_I) :=
  some (a2, I)
set_option maxRecDepth 100000 in
theorem fX1_bestSpared_62_ok {l : Launch} {G : ab_G} {S : ab_S} {I : ab_I} {J : ab_J} {P : ab_P} {Q : ab_Q} {q1 : Nat} {a2 : Int32} (hB : bz_B S P) (hq1 : bz_st S P q1) {x : Int32 × ab_I} (H : fX1_bestSpared_62 q1 a2 I = some x) (K0 : Q (some (.int x.1)) S x.2 J P) : ab_WP l G mX1_bestSpared 6 62 [some (.ref 25), some (.ref q1), some (.int a2), none, none, none] [] S I J P 0 0 Q := by
  unfold fX1_bestSpared_62 at H
  refine ab_iload_n (z := 2) (by decide +kernel) rfl rfl ?_
  obtain rfl := Option.some.inj H
  exact ab_iret (by decide +kernel) rfl (Nat.le_refl _) (Nat.le_refl _) K0
def fX1_bestSpared_56 (q1 : Nat) (a2 : Int32) (a3 : Int32) (a4 : Int32) (I : ab_I) : Option ((Int32 × Int32 × Int32 × ab_I) ⊕ (Int32 × ab_I)) :=
  some (.inl (a2, a3, (a4 + (1 : Int32)), I))
set_option maxRecDepth 100000 in
theorem fX1_bestSpared_56_ok {l : Launch} {G : ab_G} {S : ab_S} {I : ab_I} {J : ab_J} {P : ab_P} {Q : ab_Q} {q1 : Nat} {a2 : Int32} {a3 : Int32} {a4 : Int32} (hB : bz_B S P) (hq1 : bz_st S P q1) {x : ((Int32 × Int32 × Int32 × ab_I) ⊕ (Int32 × ab_I))} (H : fX1_bestSpared_56 q1 a2 a3 a4 I = some x) (K1 : ∀ s, x = (.inl s) → ab_WP l G mX1_bestSpared 6 7 [some (.ref 25), some (.ref q1), some (.int s.1), some (.int s.2.1), some (.int s.2.2.1), none] [] S s.2.2.2 J P 0 0 Q) (K0 : ∀ r, x = (.inr r) → Q (some (.int r.1)) S r.2 J P) : ab_WP l G mX1_bestSpared 6 56 [some (.ref 25), some (.ref q1), some (.int a2), some (.int a3), some (.int a4), none] [] S I J P 0 0 Q := by
  unfold fX1_bestSpared_56 at H
  refine ab_iinc (i := 4) (z := 1) (v := (a4 + (1 : Int32))) (by decide +kernel) rfl rfl (by decide) rfl ?_
  refine ab_ls (ls' := [some (.ref 25), some (.ref q1), some (.int a2), some (.int a3), some (.int (a4 + (1 : Int32))), none]) rfl ?_
  refine ab_goto (off := -52) (tgt := 7) (by decide +kernel) rfl ?_
  exact ab_wk (ab_le_some (ab_le_some (ab_le_some (ab_le_some (ab_le_some (ab_le_none (ab_le_nil))))))) (K1 (a2, a3, (a4 + (1 : Int32)), I) (Option.some.inj H).symm)
def fX1_bestSpared_50 (q1 : Nat) (a4 : Int32) (a5 : Int32) (I : ab_I) : Option ((Int32 × Int32 × Int32 × ab_I) ⊕ (Int32 × ab_I)) :=
  fX1_bestSpared_56 q1 a4 a5 a4 I
set_option maxRecDepth 100000 in
theorem fX1_bestSpared_50_ok {l : Launch} {G : ab_G} {S : ab_S} {I : ab_I} {J : ab_J} {P : ab_P} {Q : ab_Q} {q1 : Nat} {a4 : Int32} {a5 : Int32} (hB : bz_B S P) (hq1 : bz_st S P q1) {x : ((Int32 × Int32 × Int32 × ab_I) ⊕ (Int32 × ab_I))} (H : fX1_bestSpared_50 q1 a4 a5 I = some x) (K1 : ∀ s, x = (.inl s) → ab_WP l G mX1_bestSpared 6 7 [some (.ref 25), some (.ref q1), some (.int s.1), some (.int s.2.1), some (.int s.2.2.1), none] [] S s.2.2.2 J P 0 0 Q) (K0 : ∀ r, x = (.inr r) → Q (some (.int r.1)) S r.2 J P) : ab_WP l G mX1_bestSpared 6 50 [some (.ref 25), some (.ref q1), none, none, some (.int a4), some (.int a5)] [] S I J P 0 0 Q := by
  unfold fX1_bestSpared_50 at H
  refine ab_iload (i := 4) (by decide +kernel) rfl ?_
  refine ab_istore_n (z := 2) (by decide +kernel) rfl (by decide) rfl ?_
  refine ab_ls (ls' := [some (.ref 25), some (.ref q1), some (.int a4), none, some (.int a4), some (.int a5)]) rfl ?_
  refine ab_iload (i := 5) (by decide +kernel) rfl ?_
  refine ab_istore_n (z := 3) (by decide +kernel) rfl (by decide) rfl ?_
  refine ab_ls (ls' := [some (.ref 25), some (.ref q1), some (.int a4), some (.int a5), some (.int a4), some (.int a5)]) rfl ?_
  exact ab_wk (ab_le_some (ab_le_some (ab_le_some (ab_le_some (ab_le_some (ab_le_none (ab_le_nil))))))) (fX1_bestSpared_56_ok hB hq1 H K1 K0)
def fX1_bestSpared_7 (q1 : Nat) (a2 : Int32) (a3 : Int32) (a4 : Int32) (I : ab_I) : Option ((Int32 × Int32 × Int32 × ab_I) ⊕ (Int32 × ab_I)) :=
  if (I 3 4) ≤ a4 then
    (fX1_bestSpared_62 q1 a2 I).map .inr
  else
    (fX6_isHere q1 a4 I).bind fun u2 =>
    if u2 = 0 then
      fX1_bestSpared_56 q1 a2 a3 a4 I
    else
      (fX1_passWithout q1 ((1 : Int32) <<< (a4 &&& 31)) I).bind fun u3 =>
      if a2 = (-1 : Int32) then
        fX1_bestSpared_50 q1 a4 u3.1 u3.2
      else
        if a3 ≤ u3.1 then
          fX1_bestSpared_56 q1 a2 a3 a4 u3.2
        else
          fX1_bestSpared_50 q1 a4 u3.1 u3.2
set_option maxRecDepth 100000 in
theorem fX1_bestSpared_7_ok {l : Launch} {G : ab_G} {S : ab_S} {I : ab_I} {J : ab_J} {P : ab_P} {Q : ab_Q} {q1 : Nat} {a2 : Int32} {a3 : Int32} {a4 : Int32} (hB : bz_B S P) (hq1 : bz_st S P q1) {x : ((Int32 × Int32 × Int32 × ab_I) ⊕ (Int32 × ab_I))} (H : fX1_bestSpared_7 q1 a2 a3 a4 I = some x) (K1 : ∀ s, x = (.inl s) → ab_WP l G mX1_bestSpared 6 7 [some (.ref 25), some (.ref q1), some (.int s.1), some (.int s.2.1), some (.int s.2.2.1), none] [] S s.2.2.2 J P 0 0 Q) (K0 : ∀ r, x = (.inr r) → Q (some (.int r.1)) S r.2 J P) : ab_WP l G mX1_bestSpared 6 7 [some (.ref 25), some (.ref q1), some (.int a2), some (.int a3), some (.int a4), none] [] S I J P 0 0 Q := by
  unfold fX1_bestSpared_7 at H
  refine ab_iload (i := 4) (by decide +kernel) rfl ?_
  refine ab_aload_n (z := 0) (by decide +kernel) rfl rfl ?_
  refine gX1_0 (ix := 31) (by decide +kernel) tw_281 (hB.1 25 _ rfl) (hB.2.1 32 (25, 0, 3) rfl) ?_
  refine gX9_4 (ix := 61) (by decide +kernel) tw_89 (hB.1 3 _ rfl) ?_
  refine ab_icmp_ge (off := 46) (tgt := 62) (by decide +kernel) rfl (fun hc => ?_) (fun hc => ?_)
  · replace H := ab_ifp H hc
    obtain ⟨y1, Hy, hx⟩ := ab_mp_of H
    subst hx
    replace H := Hy
    exact ab_wk (ab_le_some (ab_le_some (ab_le_some (ab_le_none (ab_le_none (ab_le_none (ab_le_nil))))))) (fX1_bestSpared_62_ok hB hq1 H  (K0 _ rfl))
  · replace H := ab_ifn H hc
    refine ab_aload_n (z := 1) (by decide +kernel) rfl rfl ?_
    refine ab_iload (i := 4) (by decide +kernel) rfl ?_
    obtain ⟨u2, hu2, H⟩ := ab_bd_of H
    refine kvX6_isHere (D := 0) (ix := 74) (by decide +kernel) tw_852 hq1.1 (by decide) (Nat.le_of_ble_eq_true rfl) (mX6_isHere_ok hB hq1 hu2 ?_)
    change ab_WP l G mX1_bestSpared 6 25 [some (.ref 25), some (.ref q1), some (.int a2), some (.int a3), some (.int a4), none] [.int u2] S I J P 0 0 Q
    refine ab_if_eq (off := 31) (tgt := 56) (by decide +kernel) rfl (fun hc => ?_) (fun hc => ?_)
    · replace H := ab_ifp H hc
      exact ab_wk (ab_le_some (ab_le_some (ab_le_some (ab_le_some (ab_le_some (ab_le_none (ab_le_nil))))))) (fX1_bestSpared_56_ok hB hq1 H K1 K0)
    · replace H := ab_ifn H hc
      refine ab_aload_n (z := 0) (by decide +kernel) rfl rfl ?_
      refine ab_aload_n (z := 1) (by decide +kernel) rfl rfl ?_
      refine ab_iconst (z := 1) (v := (1 : Int32)) (by decide +kernel) (by decide) ?_
      refine ab_iload (i := 4) (by decide +kernel) rfl ?_
      refine ab_ishl (by decide +kernel) ?_
      obtain ⟨u3, hu3, H⟩ := ab_bd_of H
      refine kvX1_passWithout (D := 5) (ix := 53) (by decide +kernel) tw_649 (hB.1 25 _ rfl) (by decide) (Nat.le_of_ble_eq_true rfl) (mX1_passWithout_ok hB hq1 hu3 ?_)
      change ab_WP l G mX1_bestSpared 6 37 [some (.ref 25), some (.ref q1), some (.int a2), some (.int a3), some (.int a4), none] [.int u3.1] S u3.2 J P 0 0 Q
      refine ab_istore (i := 5) (by decide +kernel) (by decide) rfl ?_
      refine ab_ls (ls' := [some (.ref 25), some (.ref q1), some (.int a2), some (.int a3), some (.int a4), some (.int u3.1)]) rfl ?_
      refine ab_iload_n (z := 2) (by decide +kernel) rfl rfl ?_
      refine ab_iconst (z := -1) (v := (-1 : Int32)) (by decide +kernel) (by decide) ?_
      refine ab_icmp_eq (off := 9) (tgt := 50) (by decide +kernel) rfl (fun hc => ?_) (fun hc => ?_)
      · replace H := ab_ifp H hc
        exact ab_wk (ab_le_some (ab_le_some (ab_le_none (ab_le_none (ab_le_some (ab_le_some (ab_le_nil))))))) (fX1_bestSpared_50_ok hB hq1 H K1 K0)
      · replace H := ab_ifn H hc
        refine ab_iload (i := 5) (by decide +kernel) rfl ?_
        refine ab_iload_n (z := 3) (by decide +kernel) rfl rfl ?_
        refine ab_icmp_ge (off := 9) (tgt := 56) (by decide +kernel) rfl (fun hc => ?_) (fun hc => ?_)
        · replace H := ab_ifp H hc
          exact ab_wk (ab_le_some (ab_le_some (ab_le_some (ab_le_some (ab_le_some (ab_le_none (ab_le_nil))))))) (fX1_bestSpared_56_ok hB hq1 H K1 K0)
        · replace H := ab_ifn H hc
          exact ab_wk (ab_le_some (ab_le_some (ab_le_none (ab_le_none (ab_le_some (ab_le_some (ab_le_nil))))))) (fX1_bestSpared_50_ok hB hq1 H K1 K0)
def fX1_bestSpared (q1 : Nat) (I : ab_I) : Option (Int32 × ab_I) :=
  ab_it (fun s => fX1_bestSpared_7 q1 s.1 s.2.1 s.2.2.1 s.2.2.2) 5000 ((-1 : Int32), (0 : Int32), (0 : Int32), I)
set_option maxRecDepth 100000 in
theorem mX1_bestSpared_ok {l : Launch} {G : ab_G} {S : ab_S} {I : ab_I} {J : ab_J} {P : ab_P} {Q : ab_Q} {q1 : Nat} (hB : bz_B S P) (hq1 : bz_st S P q1) {x : Int32 × ab_I} (H : fX1_bestSpared q1 I = some x) (K0 : Q (some (.int x.1)) S x.2 J P) : ab_Call l G mX1_bestSpared 6 [.ref 25, .ref q1] S I J P Q := by
  unfold fX1_bestSpared at H
  refine ab_enter rfl (Nat.le_of_ble_eq_true rfl) (ab_wk (ls' := [some (.ref 25), some (.ref q1), none, none, none, none]) (ab_le_some (ab_le_some (ab_le_non0 (ab_le_non0 (ab_le_non0 (ab_le_non0 ab_le_nil)))))) ?_)
  refine ab_iconst (z := -1) (v := (-1 : Int32)) (by decide +kernel) (by decide) ?_
  refine ab_istore_n (z := 2) (by decide +kernel) rfl (by decide) rfl ?_
  refine ab_ls (ls' := [some (.ref 25), some (.ref q1), some (.int (-1 : Int32)), none, none, none]) rfl ?_
  refine ab_iconst (z := 0) (v := (0 : Int32)) (by decide +kernel) (by decide) ?_
  refine ab_istore_n (z := 3) (by decide +kernel) rfl (by decide) rfl ?_
  refine ab_ls (ls' := [some (.ref 25), some (.ref q1), some (.int (-1 : Int32)), some (.int (0 : Int32)), none, none]) rfl ?_
  refine ab_iconst (z := 0) (v := (0 : Int32)) (by decide +kernel) (by decide) ?_
  refine ab_istore (i := 4) (by decide +kernel) (by decide) rfl ?_
  refine ab_ls (ls' := [some (.ref 25), some (.ref q1), some (.int (-1 : Int32)), some (.int (0 : Int32)), some (.int (0 : Int32)), none]) rfl ?_
  exact ab_wk (ab_le_some (ab_le_some (ab_le_some (ab_le_some (ab_le_some (ab_le_none (ab_le_nil))))))) (ab_iter (W := fun s => ab_WP l G mX1_bestSpared 6 7 [some (.ref 25), some (.ref q1), some (.int s.1), some (.int s.2.1), some (.int s.2.2.1), none] [] S s.2.2.2 J P 0 0 Q) (fun s y hb h1 h2 => fX1_bestSpared_7_ok hB hq1 hb h1 (fun r e => by have e2 := h2 _ e; subst e2; exact K0)) 5000 ((-1 : Int32), (0 : Int32), (0 : Int32), I) H)
abbrev mX11_spare : ab_M := (yX11_spare, cX11_spare, 3, some .int, 0, 0)
def fX11_spare_50 (a1 : Int32) (P : ab_P) (s0 : Int32) (I : ab_I) : Option (Int32 × ab_I) :=
  some (s0, I)
set_option maxRecDepth 100000 in
theorem fX11_spare_50_ok {l : Launch} {G : ab_G} {S : ab_S} {I : ab_I} {J : ab_J} {P : ab_P} {Q : ab_Q} {a1 : Int32} {s0 : Int32} (hB : bz_B S P) {x : Int32 × ab_I} (H : fX11_spare_50 a1 P s0 I = some x) (K0 : Q (some (.int x.1)) S x.2 J P) : ab_WP l G mX11_spare 7 50 [some (.ref 0), some (.int a1), none] [.int s0] S I J P 0 0 Q := by
  unfold fX11_spare_50 at H
  obtain rfl := Option.some.inj H
  exact ab_iret (by decide +kernel) rfl (Nat.le_refl _) (Nat.le_refl _) K0
def fX11_spare_32 (a1 : Int32) (P : ab_P) (a2 : Int32) (I : ab_I) : Option (Int32 × ab_I) :=
  fX11_spare_50 a1 P a2 I
set_option maxRecDepth 100000 in
theorem fX11_spare_32_ok {l : Launch} {G : ab_G} {S : ab_S} {I : ab_I} {J : ab_J} {P : ab_P} {Q : ab_Q} {a1 : Int32} {a2 : Int32} (hB : bz_B S P) {x : Int32 × ab_I} (H : fX11_spare_32 a1 P a2 I = some x) (K0 : Q (some (.int x.1)) S x.2 J P) : ab_WP l G mX11_spare 7 32 [some (.ref 0), some (.int a1), some (.int a2)] [] S I J P 0 0 Q := by
  unfold fX11_spare_32 at H
  refine ab_iload_n (z := 2) (by decide +kernel) rfl rfl ?_
  refine ab_goto (off := 17) (tgt := 50) (by decide +kernel) rfl ?_
  exact ab_wk (ab_le_some (ab_le_some (ab_le_none (ab_le_nil)))) (fX11_spare_50_ok hB H  K0)
def fX11_spare (a1 : Int32) (I : ab_I) (P : ab_P) : Option (Int32 × ab_I) :=
  (fX11_within a1 (0 : Int32) (1 : Int32)).bind fun u1 =>
  if u1 = 0 then
    some ((-1 : Int32), I)
  else
    (P 0 12).bind fun z2 =>
    (fX1_bestSpared z2 I).bind fun u3 =>
    if a1 = 0 then
      fX11_spare_32 a1 P u3.1 u3.2
    else
      if u3.1 = (-1 : Int32) then
        fX11_spare_32 a1 P u3.1 u3.2
      else
        (P 0 12).bind fun z4 =>
        (fX1_passWithout z4 ((1 : Int32) <<< (u3.1 &&& 31)) u3.2).bind fun u5 =>
        fX11_spare_50 a1 P u5.1 u5.2
set_option maxRecDepth 100000 in
theorem mX11_spare_ok {l : Launch} {G : ab_G} {S : ab_S} {I : ab_I} {J : ab_J} {P : ab_P} {Q : ab_Q} {a1 : Int32} (hB : bz_B S P) {x : Int32 × ab_I} (H : fX11_spare a1 I P = some x) (K0 : Q (some (.int x.1)) S x.2 J P) : ab_Call l G mX11_spare 7 [.ref 0, .int a1] S I J P Q := by
  unfold fX11_spare at H
  refine ab_enter rfl (Nat.le_of_ble_eq_true rfl) (ab_wk (ls' := [some (.ref 0), some (.int a1), none]) (ab_le_some (ab_le_some (ab_le_non0 ab_le_nil))) ?_)
  refine ab_iload_n (z := 1) (by decide +kernel) rfl rfl ?_
  refine ab_iconst (z := 0) (v := (0 : Int32)) (by decide +kernel) (by decide) ?_
  refine ab_iconst (z := 1) (v := (1 : Int32)) (by decide +kernel) (by decide) ?_
  obtain ⟨u1, hu1, H⟩ := ab_bd_of H
  refine ksX11_within (D := 0) (ix := 191) (by decide +kernel) tw_746 (by decide) (Nat.le_of_ble_eq_true rfl) (mX11_within_ok hB hu1 ?_)
  change ab_WP l G mX11_spare 7 6 [some (.ref 0), some (.int a1), none] [.int u1] S I J P 0 0 Q
  refine ab_if_ne (off := 5) (tgt := 11) (by decide +kernel) rfl (fun hc => ?_) (fun hc => ?_)
  · replace H := ab_ifn H hc
    refine ab_aload_n (z := 0) (by decide +kernel) rfl rfl ?_
    refine gX11_4 (ix := 46) (by decide +kernel) tw_412 (hB.1 0 _ rfl) (hB.2.1 4 (0, 4, 25) rfl) ?_
    refine ab_aload_n (z := 0) (by decide +kernel) rfl rfl ?_
    obtain ⟨z2, hz2, H⟩ := ab_bd_of H
    refine gX11_12 (ix := 89) (by decide +kernel) tw_420 (hB.1 0 _ rfl) hz2 ?_
    have sz2 := hB.2.2.1 _ hz2
    obtain ⟨u3, hu3, H⟩ := ab_bd_of H
    refine kvX1_bestSpared (D := 6) (ix := 251) (by decide +kernel) tw_848 (hB.1 25 _ rfl) (by decide) (Nat.le_of_ble_eq_true rfl) (mX1_bestSpared_ok hB sz2 hu3 ?_)
    change ab_WP l G mX11_spare 7 22 [some (.ref 0), some (.int a1), none] [.int u3.1] S u3.2 J P 0 0 Q
    refine ab_istore_n (z := 2) (by decide +kernel) rfl (by decide) rfl ?_
    refine ab_ls (ls' := [some (.ref 0), some (.int a1), some (.int u3.1)]) rfl ?_
    refine ab_iload_n (z := 1) (by decide +kernel) rfl rfl ?_
    refine ab_if_eq (off := 8) (tgt := 32) (by decide +kernel) rfl (fun hc => ?_) (fun hc => ?_)
    · replace H := ab_ifp H hc
      exact ab_wk (ab_le_some (ab_le_some (ab_le_some (ab_le_nil)))) (fX11_spare_32_ok hB H  K0)
    · replace H := ab_ifn H hc
      refine ab_iload_n (z := 2) (by decide +kernel) rfl rfl ?_
      refine ab_iconst (z := -1) (v := (-1 : Int32)) (by decide +kernel) (by decide) ?_
      refine ab_icmp_ne (off := 7) (tgt := 36) (by decide +kernel) rfl (fun hc => ?_) (fun hc => ?_)
      · replace H := ab_ifn H hc
        refine ab_aload_n (z := 0) (by decide +kernel) rfl rfl ?_
        refine gX11_4 (ix := 46) (by decide +kernel) tw_412 (hB.1 0 _ rfl) (hB.2.1 4 (0, 4, 25) rfl) ?_
        refine ab_aload_n (z := 0) (by decide +kernel) rfl rfl ?_
        obtain ⟨z4, hz4, H⟩ := ab_bd_of H
        refine gX11_12 (ix := 89) (by decide +kernel) tw_420 (hB.1 0 _ rfl) hz4 ?_
        have sz4 := hB.2.2.1 _ hz4
        refine ab_iconst (z := 1) (v := (1 : Int32)) (by decide +kernel) (by decide) ?_
        refine ab_iload_n (z := 2) (by decide +kernel) rfl rfl ?_
        refine ab_ishl (by decide +kernel) ?_
        obtain ⟨u5, hu5, H⟩ := ab_bd_of H
        refine kvX1_passWithout (D := 5) (ix := 254) (by decide +kernel) tw_853 (hB.1 25 _ rfl) (by decide) (Nat.le_of_ble_eq_true rfl) (mX1_passWithout_ok hB sz4 hu5 ?_)
        change ab_WP l G mX11_spare 7 50 [some (.ref 0), some (.int a1), some (.int u3.1)] [.int u5.1] S u5.2 J P 0 0 Q
        exact ab_wk (ab_le_some (ab_le_some (ab_le_none (ab_le_nil)))) (fX11_spare_50_ok hB H  K0)
      · replace H := ab_ifp H hc
        exact ab_wk (ab_le_some (ab_le_some (ab_le_some (ab_le_nil)))) (fX11_spare_32_ok hB H  K0)
  · replace H := ab_ifp H hc
    refine ab_iconst (z := -1) (v := (-1 : Int32)) (by decide +kernel) (by decide) ?_
    obtain rfl := Option.some.inj H
    exact ab_iret (by decide +kernel) rfl (Nat.le_refl _) (Nat.le_refl _) K0
abbrev mX3_fearedBy : ab_M := (yX3_fearedBy, cX3_fearedBy, 5, some .int, 0, 0)
theorem kvX3_fearedBy {l : Launch} {G : ab_G} {M : ab_M} {d pc : Nat} {ls : List (Option Value)} {st : List Value} {S : ab_S} {I : ab_I} {J : ab_J} {P : ab_P} {Q : ab_Q} {v0 v1 : Value} {ix D r ln : Nat} (hd : decode M.2.1 pc = .ok (.invokevirtual ix, 3)) (h1 : Cond.methodLink M.1.cls ix mX3_fearedBy.1 ∈ ab_good) (hs : S[r]? = some (8, ln)) (hdg : D + 1 ≤ d) (hsum : (st.map fun v => v.category).sum ≤ 8) (kk : ab_Call l G mX3_fearedBy D (.ref r :: [v0, v1]) S I J P (fun v S' I' J' P' => ab_WP l G M d (pc + 3) ls (ab_psh v st) S' I' J' P' 0 0 Q)) : ab_WP l G M d pc ls (v1 :: v0 :: .ref r :: st) S I J P 0 0 Q := bz_kv (g := mX3_fearedBy) (as := [v0, v1]) (cc := 3) rfl hd h1 tw_864 tw_p25 tw_10 tw_865 ⟨by decide +kernel, by decide +kernel, (by decide +kernel : (parseMethodDescriptor mX3_fearedBy.1.desc).map (fun d => d.parameters.length) = some 2)⟩ (by decide) rfl rfl rfl hdg hsum hs kk
def fX3_fearedBy_42 (q1 : Nat) (a2 : Int32) (I : ab_I) (a3 : Int32) : Option Int32 :=
  some a3
set_option maxRecDepth 100000 in
theorem fX3_fearedBy_42_ok {l : Launch} {G : ab_G} {S : ab_S} {I : ab_I} {J : ab_J} {P : ab_P} {Q : ab_Q} {q1 : Nat} {a2 : Int32} {a3 : Int32} (hB : bz_B S P) (hq1 : bz_st S P q1) {x : Int32} (H : fX3_fearedBy_42 q1 a2 I a3 = some x) (K0 : Q (some (.int x)) S I J P) : ab_WP l G mX3_fearedBy 2 42 [some (.ref 34), some (.ref q1), some (.int a2), some (.int a3), none] [] S I J P 0 0 Q := by
  unfold fX3_fearedBy_42 at H
  refine ab_iload_n (z := 3) (by decide +kernel) rfl rfl ?_
  obtain rfl := Option.some.inj H
  exact ab_iret (by decide +kernel) rfl (Nat.le_refl _) (Nat.le_refl _) K0
def fX3_fearedBy_36 (q1 : Nat) (a2 : Int32) (I : ab_I) (a3 : Int32) (a4 : Int32) : Option ((Int32 × Int32) ⊕ Int32) :=
  some (.inl (a3, (a4 + (1 : Int32))))
set_option maxRecDepth 100000 in
theorem fX3_fearedBy_36_ok {l : Launch} {G : ab_G} {S : ab_S} {I : ab_I} {J : ab_J} {P : ab_P} {Q : ab_Q} {q1 : Nat} {a2 : Int32} {a3 : Int32} {a4 : Int32} (hB : bz_B S P) (hq1 : bz_st S P q1) {x : ((Int32 × Int32) ⊕ Int32)} (H : fX3_fearedBy_36 q1 a2 I a3 a4 = some x) (K1 : ∀ s, x = (.inl s) → ab_WP l G mX3_fearedBy 2 5 [some (.ref 34), some (.ref q1), some (.int a2), some (.int s.1), some (.int s.2)] [] S I J P 0 0 Q) (K0 : ∀ r, x = (.inr r) → Q (some (.int r)) S I J P) : ab_WP l G mX3_fearedBy 2 36 [some (.ref 34), some (.ref q1), some (.int a2), some (.int a3), some (.int a4)] [] S I J P 0 0 Q := by
  unfold fX3_fearedBy_36 at H
  refine ab_iinc (i := 4) (z := 1) (v := (a4 + (1 : Int32))) (by decide +kernel) rfl rfl (by decide) rfl ?_
  refine ab_ls (ls' := [some (.ref 34), some (.ref q1), some (.int a2), some (.int a3), some (.int (a4 + (1 : Int32)))]) rfl ?_
  refine ab_goto (off := -34) (tgt := 5) (by decide +kernel) rfl ?_
  exact ab_wk (ab_le_some (ab_le_some (ab_le_some (ab_le_some (ab_le_some (ab_le_nil)))))) (K1 (a3, (a4 + (1 : Int32))) (Option.some.inj H).symm)
def fX3_fearedBy_5 (q1 : Nat) (a2 : Int32) (I : ab_I) (a3 : Int32) (a4 : Int32) : Option ((Int32 × Int32) ⊕ Int32) :=
  if (I 3 4) ≤ a4 then
    (fX3_fearedBy_42 q1 a2 I a3).map .inr
  else
    if ((a2 >>> (a4 &&& 31)) &&& (1 : Int32)) = (1 : Int32) then
      (fX6_fears q1 a4 I).bind fun u2 =>
      fX3_fearedBy_36 q1 a2 I (a3 ||| u2) a4
    else
      fX3_fearedBy_36 q1 a2 I a3 a4
set_option maxRecDepth 100000 in
theorem fX3_fearedBy_5_ok {l : Launch} {G : ab_G} {S : ab_S} {I : ab_I} {J : ab_J} {P : ab_P} {Q : ab_Q} {q1 : Nat} {a2 : Int32} {a3 : Int32} {a4 : Int32} (hB : bz_B S P) (hq1 : bz_st S P q1) {x : ((Int32 × Int32) ⊕ Int32)} (H : fX3_fearedBy_5 q1 a2 I a3 a4 = some x) (K1 : ∀ s, x = (.inl s) → ab_WP l G mX3_fearedBy 2 5 [some (.ref 34), some (.ref q1), some (.int a2), some (.int s.1), some (.int s.2)] [] S I J P 0 0 Q) (K0 : ∀ r, x = (.inr r) → Q (some (.int r)) S I J P) : ab_WP l G mX3_fearedBy 2 5 [some (.ref 34), some (.ref q1), some (.int a2), some (.int a3), some (.int a4)] [] S I J P 0 0 Q := by
  unfold fX3_fearedBy_5 at H
  refine ab_iload (i := 4) (by decide +kernel) rfl ?_
  refine ab_aload_n (z := 0) (by decide +kernel) rfl rfl ?_
  refine gX3_0 (ix := 32) (by decide +kernel) tw_313 (hB.1 34 _ rfl) (hB.2.1 42 (34, 0, 3) rfl) ?_
  refine gX9_4 (ix := 79) (by decide +kernel) tw_90 (hB.1 3 _ rfl) ?_
  refine ab_icmp_ge (off := 28) (tgt := 42) (by decide +kernel) rfl (fun hc => ?_) (fun hc => ?_)
  · replace H := ab_ifp H hc
    obtain ⟨y1, Hy, hx⟩ := ab_mp_of H
    subst hx
    replace H := Hy
    exact ab_wk (ab_le_some (ab_le_some (ab_le_some (ab_le_some (ab_le_none (ab_le_nil)))))) (fX3_fearedBy_42_ok hB hq1 H  (K0 _ rfl))
  · replace H := ab_ifn H hc
    refine ab_iload_n (z := 2) (by decide +kernel) rfl rfl ?_
    refine ab_iload (i := 4) (by decide +kernel) rfl ?_
    refine ab_ishr (by decide +kernel) ?_
    refine ab_iconst (z := 1) (v := (1 : Int32)) (by decide +kernel) (by decide) ?_
    refine ab_iand (by decide +kernel) ?_
    refine ab_iconst (z := 1) (v := (1 : Int32)) (by decide +kernel) (by decide) ?_
    refine ab_icmp_ne (off := 12) (tgt := 36) (by decide +kernel) rfl (fun hc => ?_) (fun hc => ?_)
    · replace H := ab_ifn H hc
      exact ab_wk (ab_le_some (ab_le_some (ab_le_some (ab_le_some (ab_le_some (ab_le_nil)))))) (fX3_fearedBy_36_ok hB hq1 H K1 K0)
    · replace H := ab_ifp H hc
      refine ab_iload_n (z := 3) (by decide +kernel) rfl rfl ?_
      refine ab_aload_n (z := 1) (by decide +kernel) rfl rfl ?_
      refine ab_iload (i := 4) (by decide +kernel) rfl ?_
      obtain ⟨u2, hu2, H⟩ := ab_bd_of H
      refine kvX6_fears (D := 1) (ix := 99) (by decide +kernel) tw_866 hq1.1 (by decide) (Nat.le_of_ble_eq_true rfl) (mX6_fears_ok hB hq1 hu2 ?_)
      change ab_WP l G mX3_fearedBy 2 34 [some (.ref 34), some (.ref q1), some (.int a2), some (.int a3), some (.int a4)] [.int u2, .int a3] S I J P 0 0 Q
      refine ab_ior (by decide +kernel) ?_
      refine ab_istore_n (z := 3) (by decide +kernel) rfl (by decide) rfl ?_
      refine ab_ls (ls' := [some (.ref 34), some (.ref q1), some (.int a2), some (.int (a3 ||| u2)), some (.int a4)]) rfl ?_
      exact ab_wk (ab_le_some (ab_le_some (ab_le_some (ab_le_some (ab_le_some (ab_le_nil)))))) (fX3_fearedBy_36_ok hB hq1 H K1 K0)
def fX3_fearedBy (q1 : Nat) (a2 : Int32) (I : ab_I) : Option Int32 :=
  ab_it (fun s => fX3_fearedBy_5 q1 a2 I s.1 s.2) 5000 ((0 : Int32), (0 : Int32))
set_option maxRecDepth 100000 in
theorem mX3_fearedBy_ok {l : Launch} {G : ab_G} {S : ab_S} {I : ab_I} {J : ab_J} {P : ab_P} {Q : ab_Q} {q1 : Nat} {a2 : Int32} (hB : bz_B S P) (hq1 : bz_st S P q1) {x : Int32} (H : fX3_fearedBy q1 a2 I = some x) (K0 : Q (some (.int x)) S I J P) : ab_Call l G mX3_fearedBy 2 [.ref 34, .ref q1, .int a2] S I J P Q := by
  unfold fX3_fearedBy at H
  refine ab_enter rfl (Nat.le_of_ble_eq_true rfl) (ab_wk (ls' := [some (.ref 34), some (.ref q1), some (.int a2), none, none]) (ab_le_some (ab_le_some (ab_le_some (ab_le_non0 (ab_le_non0 ab_le_nil))))) ?_)
  refine ab_iconst (z := 0) (v := (0 : Int32)) (by decide +kernel) (by decide) ?_
  refine ab_istore_n (z := 3) (by decide +kernel) rfl (by decide) rfl ?_
  refine ab_ls (ls' := [some (.ref 34), some (.ref q1), some (.int a2), some (.int (0 : Int32)), none]) rfl ?_
  refine ab_iconst (z := 0) (v := (0 : Int32)) (by decide +kernel) (by decide) ?_
  refine ab_istore (i := 4) (by decide +kernel) (by decide) rfl ?_
  refine ab_ls (ls' := [some (.ref 34), some (.ref q1), some (.int a2), some (.int (0 : Int32)), some (.int (0 : Int32))]) rfl ?_
  exact ab_wk (ab_le_some (ab_le_some (ab_le_some (ab_le_some (ab_le_some (ab_le_nil)))))) (ab_iter (W := fun s => ab_WP l G mX3_fearedBy 2 5 [some (.ref 34), some (.ref q1), some (.int a2), some (.int s.1), some (.int s.2)] [] S I J P 0 0 Q) (fun s y hb h1 h2 => fX3_fearedBy_5_ok hB hq1 hb h1 (fun r e => by have e2 := h2 _ e; subst e2; exact K0)) 5000 ((0 : Int32), (0 : Int32)) H)
