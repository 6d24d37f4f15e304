abbrev mX1_restsOfTwo : ab_M := (yX1_restsOfTwo, cX1_restsOfTwo, 8, some .int, 0, 0)
theorem kvX1_restsOfTwo {l : Launch} {G : ab_G} {M : ab_M} {d pc : Nat} {ls : List (Option Value)} {st : List Value} {S : ab_S} {I : ab_I} {J : ab_J} {P : ab_P} {Q : ab_Q} {v0 v1 v2 : Value} {ix D r ln : Nat} (hd : decode M.2.1 pc = .ok (.invokevirtual ix, 3)) (h1 : Cond.methodLink M.1.cls ix mX1_restsOfTwo.1 ∈ ab_good) (hs : S[r]? = some (6, ln)) (hdg : D + 1 ≤ d) (hsum : (st.map fun v => v.category).sum ≤ 8) (kk : ab_Call l G mX1_restsOfTwo D (.ref r :: [v0, v1, v2]) S I J P (fun v S' I' J' P' => ab_WP l G M d (pc + 3) ls (ab_psh v st) S' I' J' P' 0 0 Q)) : ab_WP l G M d pc ls (v2 :: v1 :: v0 :: .ref r :: st) S I J P 0 0 Q := bz_kv (g := mX1_restsOfTwo) (as := [v0, v1, v2]) (cc := 1) rfl hd h1 tw_898 tw_899 tw_8 tw_900 ⟨by decide +kernel, by decide +kernel, (by decide +kernel : (parseMethodDescriptor mX1_restsOfTwo.1.desc).map (fun d => d.parameters.length) = some 3)⟩ (by decide) rfl rfl rfl hdg hsum hs kk
def fX1_restsOfTwo_186 (q1 : Nat) (a2 : Int32) (a3 : Int32) (a4 : Int32) (I : ab_I) : Option (Int32 × ab_I) :=
  some (a4, I)
set_option maxRecDepth 100000 in
theorem fX1_restsOfTwo_186_ok {l : Launch} {G : ab_G} {S : ab_S} {I : ab_I} {J : ab_J} {P : ab_P} {Q : ab_Q} {q1 : Nat} {a2 : Int32} {a3 : Int32} {a4 : Int32} (hB : bz_B S P) (hq1 : bz_st S P q1) {x : Int32 × ab_I} (H : fX1_restsOfTwo_186 q1 a2 a3 a4 I = some x) (K0 : Q (some (.int x.1)) S x.2 J P) : ab_WP l G mX1_restsOfTwo 6 186 [some (.ref 25), some (.ref q1), some (.int a2), some (.int a3), some (.int a4), none, none, none] [] S I J P 0 0 Q := by
  unfold fX1_restsOfTwo_186 at H
  refine ab_iload (i := 4) (by decide +kernel) rfl ?_
  obtain rfl := Option.some.inj H
  exact ab_iret (by decide +kernel) rfl (Nat.le_refl _) (Nat.le_refl _) K0
def fX1_restsOfTwo_180 (q1 : Nat) (a2 : Int32) (a3 : Int32) (a4 : Int32) (a5 : Int32) (I : ab_I) : Option ((Int32 × Int32 × ab_I) ⊕ (Int32 × ab_I)) :=
  some (.inl (a4, (a5 + (-1 : Int32)), I))
set_option maxRecDepth 100000 in
theorem fX1_restsOfTwo_180_ok {l : Launch} {G : ab_G} {S : ab_S} {I : ab_I} {J : ab_J} {P : ab_P} {Q : ab_Q} {q1 : Nat} {a2 : Int32} {a3 : Int32} {a4 : Int32} {a5 : Int32} (hB : bz_B S P) (hq1 : bz_st S P q1) {x : ((Int32 × Int32 × ab_I) ⊕ (Int32 × ab_I))} (H : fX1_restsOfTwo_180 q1 a2 a3 a4 a5 I = some x) (K1 : ∀ s, x = (.inl s) → ab_WP l G mX1_restsOfTwo 6 90 [some (.ref 25), some (.ref q1), some (.int a2), some (.int a3), some (.int s.1), some (.int s.2.1), none, none] [] S s.2.2 J P 0 0 Q) (K0 : ∀ r, x = (.inr r) → Q (some (.int r.1)) S r.2 J P) : ab_WP l G mX1_restsOfTwo 6 180 [some (.ref 25), some (.ref q1), some (.int a2), some (.int a3), some (.int a4), some (.int a5), none, none] [] S I J P 0 0 Q := by
  unfold fX1_restsOfTwo_180 at H
  refine ab_iinc (i := 5) (z := -1) (v := (a5 + (-1 : Int32))) (by decide +kernel) rfl rfl (by decide) rfl ?_
  refine ab_ls (ls' := [some (.ref 25), some (.ref q1), some (.int a2), some (.int a3), some (.int a4), some (.int (a5 + (-1 : Int32))), none, none]) rfl ?_
  refine ab_goto (off := -93) (tgt := 90) (by decide +kernel) rfl ?_
  exact ab_wk (ab_le_some (ab_le_some (ab_le_some (ab_le_some (ab_le_some (ab_le_some (ab_le_none (ab_le_none (ab_le_nil))))))))) (K1 (a4, (a5 + (-1 : Int32)), I) (Option.some.inj H).symm)
def fX1_restsOfTwo_41 (q1 : Nat) (a2 : Int32) (a3 : Int32) (a4 : Int32) (s0 : Int32) (s1 : Int32) (I : ab_I) : Option ((Int32 × ab_I) ⊕ (Int32 × ab_I)) :=
  (fX1_passWithout q1 (s0 ||| s1) I).bind fun u3 =>
  (fX1_lostBy q1 a2 u3.2).bind fun u4 =>
  ab_gd (ab_ix a4 4 = true) (
    (fX1_lostBy q1 a3 (ab_u u3.2 31 a4.toNatClampNeg u4)).bind fun u5 =>
    ab_gd (ab_ix a4 4 = true) (
      some (.inl ((a4 + (1 : Int32)), (ab_u (ab_u u3.2 31 a4.toNatClampNeg u4) 32 a4.toNatClampNeg u5)))
    )
  )
set_option maxRecDepth 100000 in
theorem fX1_restsOfTwo_41_ok {l : Launch} {G : ab_G} {S : ab_S} {I : ab_I} {J : ab_J} {P : ab_P} {Q : ab_Q} {q1 : Nat} {a2 : Int32} {a3 : Int32} {a4 : Int32} {s0 : Int32} {s1 : Int32} (hB : bz_B S P) (hq1 : bz_st S P q1) {x : ((Int32 × ab_I) ⊕ (Int32 × ab_I))} (H : fX1_restsOfTwo_41 q1 a2 a3 a4 s0 s1 I = some x) (K1 : ∀ s, x = (.inl s) → ab_WP l G mX1_restsOfTwo 6 3 [some (.ref 25), some (.ref q1), some (.int a2), some (.int a3), some (.int s.1), none, none, none] [] S s.2 J P 0 0 Q) (K0 : ∀ r, x = (.inr r) → Q (some (.int r.1)) S r.2 J P) : ab_WP l G mX1_restsOfTwo 6 41 [some (.ref 25), some (.ref q1), some (.int a2), some (.int a3), some (.int a4), none, none, none] [.int s1, .int s0] S I J P 0 0 Q := by
  unfold fX1_restsOfTwo_41 at H
  refine ab_ior (by decide +kernel) ?_
  refine ab_istore (i := 5) (by decide +kernel) (by decide) rfl ?_
  refine ab_ls (ls' := [some (.ref 25), some (.ref q1), some (.int a2), some (.int a3), some (.int a4), some (.int (s0 ||| s1)), none, none]) rfl ?_
  refine ab_aload_n (z := 0) (by decide +kernel) rfl rfl ?_
  refine ab_aload_n (z := 1) (by decide +kernel) rfl rfl ?_
  refine ab_iload (i := 5) (by decide +kernel) rfl ?_
  obtain ⟨u3, hu3, H⟩ := ab_bd_of H
  refine kvX1_passWithout (D := 5) (ix := 53) (by decide +kernel) tw_649 (hB.1 25 _ rfl) (by decide) (Nat.le_of_ble_eq_true rfl) (mX1_passWithout_ok hB hq1 hu3 ?_)
  change ab_WP l G mX1_restsOfTwo 6 51 [some (.ref 25), some (.ref q1), some (.int a2), some (.int a3), some (.int a4), some (.int (s0 ||| s1)), none, none] [.int u3.1] S u3.2 J P 0 0 Q
  refine ab_pop (by decide +kernel) rfl ?_
  refine ab_aload_n (z := 0) (by decide +kernel) rfl rfl ?_
  refine gX1_4 (ix := 22) (by decide +kernel) tw_286 (hB.1 25 _ rfl) (hB.2.1 36 (25, 4, 31) rfl) ?_
  refine ab_iload (i := 4) (by decide +kernel) rfl ?_
  refine ab_aload_n (z := 0) (by decide +kernel) rfl rfl ?_
  refine ab_aload_n (z := 1) (by decide +kernel) rfl rfl ?_
  refine ab_iload_n (z := 2) (by decide +kernel) rfl rfl ?_
  obtain ⟨u4, hu4, H⟩ := ab_bd_of H
  refine kvX1_lostBy (D := 1) (ix := 91) (by decide +kernel) tw_901 (hB.1 25 _ rfl) (by decide) (Nat.le_of_ble_eq_true rfl) (mX1_lostBy_ok hB hq1 hu4 ?_)
  change ab_WP l G mX1_restsOfTwo 6 64 [some (.ref 25), some (.ref q1), some (.int a2), some (.int a3), some (.int a4), some (.int (s0 ||| s1)), none, none] [.int u4, .int a4, .ref 31] S u3.2 J P 0 0 Q
  obtain ⟨hg, H⟩ := ab_gd_of H
  refine ab_iast (ln := 4) (by decide +kernel) (hB.1 31 _ rfl) (ab_ix_in hg) ?_
  refine ab_aload_n (z := 0) (by decide +kernel) rfl rfl ?_
  refine gX1_5 (ix := 25) (by decide +kernel) tw_287 (hB.1 25 _ rfl) (hB.2.1 37 (25, 5, 32) rfl) ?_
  refine ab_iload (i := 4) (by decide +kernel) rfl ?_
  refine ab_aload_n (z := 0) (by decide +kernel) rfl rfl ?_
  refine ab_aload_n (z := 1) (by decide +kernel) rfl rfl ?_
  refine ab_iload_n (z := 3) (by decide +kernel) rfl rfl ?_
  obtain ⟨u5, hu5, H⟩ := ab_bd_of H
  refine kvX1_lostBy (D := 1) (ix := 91) (by decide +kernel) tw_901 (hB.1 25 _ rfl) (by decide) (Nat.le_of_ble_eq_true rfl) (mX1_lostBy_ok hB hq1 hu5 ?_)
  change ab_WP l G mX1_restsOfTwo 6 77 [some (.ref 25), some (.ref q1), some (.int a2), some (.int a3), some (.int a4), some (.int (s0 ||| s1)), none, none] [.int u5, .int a4, .ref 32] S (ab_u u3.2 31 a4.toNatClampNeg u4) J P 0 0 Q
  obtain ⟨hg, H⟩ := ab_gd_of H
  refine ab_iast (ln := 4) (by decide +kernel) (hB.1 32 _ rfl) (ab_ix_in hg) ?_
  refine ab_iinc (i := 4) (z := 1) (v := (a4 + (1 : Int32))) (by decide +kernel) rfl rfl (by decide) rfl ?_
  refine ab_ls (ls' := [some (.ref 25), some (.ref q1), some (.int a2), some (.int a3), some (.int (a4 + (1 : Int32))), some (.int (s0 ||| s1)), none, none]) rfl ?_
  refine ab_goto (off := -78) (tgt := 3) (by decide +kernel) rfl ?_
  exact ab_wk (ab_le_some (ab_le_some (ab_le_some (ab_le_some (ab_le_some (ab_le_none (ab_le_none (ab_le_none (ab_le_nil))))))))) (K1 ((a4 + (1 : Int32)), (ab_u (ab_u u3.2 31 a4.toNatClampNeg u4) 32 a4.toNatClampNeg u5)) (Option.some.inj H).symm)
def fX1_restsOfTwo_145 (q1 : Nat) (a2 : Int32) (a3 : Int32) (a4 : Int32) (a5 : Int32) (a6 : Int32) (s0 : Int32) (I : ab_I) : Option ((Int32 × Int32 × ab_I) ⊕ (Int32 × ab_I)) :=
  if a6 = 0 then
    fX1_restsOfTwo_180 q1 a2 a3 a4 a5 I
  else
    if s0 = 0 then
      fX1_restsOfTwo_180 q1 a2 a3 a4 a5 I
    else
      ab_gd (ab_ix (0 : Int32) 2 = true) (
        ab_gd (ab_ix (1 : Int32) 2 = true) (
          fX1_restsOfTwo_180 q1 a2 a3 (a4 + (1 : Int32)) a5 (ab_u (ab_u I 33 ((0 : Int32).toNatClampNeg) (a5 >>> ((1 : Int32) &&& 31))) 33 ((1 : Int32).toNatClampNeg) (a5 &&& (1 : Int32)))
        )
      )
set_option maxRecDepth 100000 in
theorem fX1_restsOfTwo_145_ok {l : Launch} {G : ab_G} {S : ab_S} {I : ab_I} {J : ab_J} {P : ab_P} {Q : ab_Q} {q1 : Nat} {a2 : Int32} {a3 : Int32} {a4 : Int32} {a5 : Int32} {a6 : Int32} {s0 : Int32} (hB : bz_B S P) (hq1 : bz_st S P q1) {x : ((Int32 × Int32 × ab_I) ⊕ (Int32 × ab_I))} (H : fX1_restsOfTwo_145 q1 a2 a3 a4 a5 a6 s0 I = some x) (K1 : ∀ s, x = (.inl s) → ab_WP l G mX1_restsOfTwo 6 90 [some (.ref 25), some (.ref q1), some (.int a2), some (.int a3), some (.int s.1), some (.int s.2.1), none, none] [] S s.2.2 J P 0 0 Q) (K0 : ∀ r, x = (.inr r) → Q (some (.int r.1)) S r.2 J P) : ab_WP l G mX1_restsOfTwo 6 145 [some (.ref 25), some (.ref q1), some (.int a2), some (.int a3), some (.int a4), some (.int a5), some (.int a6), none] [.int s0] S I J P 0 0 Q := by
  unfold fX1_restsOfTwo_145 at H
  refine ab_istore (i := 7) (by decide +kernel) (by decide) rfl ?_
  refine ab_ls (ls' := [some (.ref 25), some (.ref q1), some (.int a2), some (.int a3), some (.int a4), some (.int a5), some (.int a6), some (.int s0)]) rfl ?_
  refine ab_iload (i := 6) (by decide +kernel) rfl ?_
  refine ab_if_eq (off := 31) (tgt := 180) (by decide +kernel) rfl (fun hc => ?_) (fun hc => ?_)
  · replace H := ab_ifp H hc
    exact ab_wk (ab_le_some (ab_le_some (ab_le_some (ab_le_some (ab_le_some (ab_le_some (ab_le_none (ab_le_none (ab_le_nil))))))))) (fX1_restsOfTwo_180_ok hB hq1 H K1 K0)
  · replace H := ab_ifn H hc
    refine ab_iload (i := 7) (by decide +kernel) rfl ?_
    refine ab_if_eq (off := 26) (tgt := 180) (by decide +kernel) rfl (fun hc => ?_) (fun hc => ?_)
    · replace H := ab_ifp H hc
      exact ab_wk (ab_le_some (ab_le_some (ab_le_some (ab_le_some (ab_le_some (ab_le_some (ab_le_none (ab_le_none (ab_le_nil))))))))) (fX1_restsOfTwo_180_ok hB hq1 H K1 K0)
    · replace H := ab_ifn H hc
      refine ab_iinc (i := 4) (z := 1) (v := (a4 + (1 : Int32))) (by decide +kernel) rfl rfl (by decide) rfl ?_
      refine ab_ls (ls' := [some (.ref 25), some (.ref q1), some (.int a2), some (.int a3), some (.int (a4 + (1 : Int32))), some (.int a5), some (.int a6), some (.int s0)]) rfl ?_
      refine ab_aload_n (z := 0) (by decide +kernel) rfl rfl ?_
      refine gX1_6 (ix := 28) (by decide +kernel) tw_288 (hB.1 25 _ rfl) (hB.2.1 38 (25, 6, 33) rfl) ?_
      refine ab_iconst (z := 0) (v := (0 : Int32)) (by decide +kernel) (by decide) ?_
      refine ab_iload (i := 5) (by decide +kernel) rfl ?_
      refine ab_iconst (z := 1) (v := (1 : Int32)) (by decide +kernel) (by decide) ?_
      refine ab_ishr (by decide +kernel) ?_
      obtain ⟨hg, H⟩ := ab_gd_of H
      refine ab_iast (ln := 2) (by decide +kernel) (hB.1 33 _ rfl) (ab_ix_in hg) ?_
      refine ab_aload_n (z := 0) (by decide +kernel) rfl rfl ?_
      refine gX1_6 (ix := 28) (by decide +kernel) tw_288 (hB.1 25 _ rfl) (hB.2.1 38 (25, 6, 33) rfl) ?_
      refine ab_iconst (z := 1) (v := (1 : Int32)) (by decide +kernel) (by decide) ?_
      refine ab_iload (i := 5) (by decide +kernel) rfl ?_
      refine ab_iconst (z := 1) (v := (1 : Int32)) (by decide +kernel) (by decide) ?_
      refine ab_iand (by decide +kernel) ?_
      obtain ⟨hg, H⟩ := ab_gd_of H
      refine ab_iast (ln := 2) (by decide +kernel) (hB.1 33 _ rfl) (ab_ix_in hg) ?_
      exact ab_wk (ab_le_some (ab_le_some (ab_le_some (ab_le_some (ab_le_some (ab_le_some (ab_le_none (ab_le_none (ab_le_nil))))))))) (fX1_restsOfTwo_180_ok hB hq1 H K1 K0)
def fX1_restsOfTwo_23 (q1 : Nat) (a2 : Int32) (a3 : Int32) (a4 : Int32) (s0 : Int32) (I : ab_I) : Option ((Int32 × ab_I) ⊕ (Int32 × ab_I)) :=
  if (a4 &&& (1 : Int32)) = 0 then
    fX1_restsOfTwo_41 q1 a2 a3 a4 s0 ((1 : Int32) <<< (a3 &&& 31)) I
  else
    fX1_restsOfTwo_41 q1 a2 a3 a4 s0 (0 : Int32) I
set_option maxRecDepth 100000 in
theorem fX1_restsOfTwo_23_ok {l : Launch} {G : ab_G} {S : ab_S} {I : ab_I} {J : ab_J} {P : ab_P} {Q : ab_Q} {q1 : Nat} {a2 : Int32} {a3 : Int32} {a4 : Int32} {s0 : Int32} (hB : bz_B S P) (hq1 : bz_st S P q1) {x : ((Int32 × ab_I) ⊕ (Int32 × ab_I))} (H : fX1_restsOfTwo_23 q1 a2 a3 a4 s0 I = some x) (K1 : ∀ s, x = (.inl s) → ab_WP l G mX1_restsOfTwo 6 3 [some (.ref 25), some (.ref q1), some (.int a2), some (.int a3), some (.int s.1), none, none, none] [] S s.2 J P 0 0 Q) (K0 : ∀ r, x = (.inr r) → Q (some (.int r.1)) S r.2 J P) : ab_WP l G mX1_restsOfTwo 6 23 [some (.ref 25), some (.ref q1), some (.int a2), some (.int a3), some (.int a4), none, none, none] [.int s0] S I J P 0 0 Q := by
  unfold fX1_restsOfTwo_23 at H
  refine ab_istore (i := 5) (by decide +kernel) (by decide) rfl ?_
  refine ab_ls (ls' := [some (.ref 25), some (.ref q1), some (.int a2), some (.int a3), some (.int a4), some (.int s0), none, none]) rfl ?_
  refine ab_iload (i := 5) (by decide +kernel) rfl ?_
  refine ab_iload (i := 4) (by decide +kernel) rfl ?_
  refine ab_iconst (z := 1) (v := (1 : Int32)) (by decide +kernel) (by decide) ?_
  refine ab_iand (by decide +kernel) ?_
  refine ab_if_ne (off := 9) (tgt := 40) (by decide +kernel) rfl (fun hc => ?_) (fun hc => ?_)
  · replace H := ab_ifn H hc
    refine ab_iconst (z := 0) (v := (0 : Int32)) (by decide +kernel) (by decide) ?_
    exact ab_wk (ab_le_some (ab_le_some (ab_le_some (ab_le_some (ab_le_some (ab_le_none (ab_le_none (ab_le_none (ab_le_nil))))))))) (fX1_restsOfTwo_41_ok hB hq1 H K1 K0)
  · replace H := ab_ifp H hc
    refine ab_iconst (z := 1) (v := (1 : Int32)) (by decide +kernel) (by decide) ?_
    refine ab_iload_n (z := 3) (by decide +kernel) rfl rfl ?_
    refine ab_ishl (by decide +kernel) ?_
    refine ab_goto (off := 4) (tgt := 41) (by decide +kernel) rfl ?_
    exact ab_wk (ab_le_some (ab_le_some (ab_le_some (ab_le_some (ab_le_some (ab_le_none (ab_le_none (ab_le_none (ab_le_nil))))))))) (fX1_restsOfTwo_41_ok hB hq1 H K1 K0)
def fX1_restsOfTwo_119 (q1 : Nat) (a2 : Int32) (a3 : Int32) (a4 : Int32) (a5 : Int32) (s0 : Int32) (I : ab_I) : Option ((Int32 × Int32 × ab_I) ⊕ (Int32 × ab_I)) :=
  ab_gd (ab_ix (a5 ^^^ (1 : Int32)) 4 = true) (
    ab_gd (ab_ix a5 4 = true) (
      if (I 32 ((a5 ^^^ (1 : Int32)).toNatClampNeg)) < (I 32 a5.toNatClampNeg) then
        fX1_restsOfTwo_145 q1 a2 a3 a4 a5 s0 (0 : Int32) I
      else
        fX1_restsOfTwo_145 q1 a2 a3 a4 a5 s0 (1 : Int32) I
    )
  )
set_option maxRecDepth 100000 in
theorem fX1_restsOfTwo_119_ok {l : Launch} {G : ab_G} {S : ab_S} {I : ab_I} {J : ab_J} {P : ab_P} {Q : ab_Q} {q1 : Nat} {a2 : Int32} {a3 : Int32} {a4 : Int32} {a5 : Int32} {s0 : Int32} (hB : bz_B S P) (hq1 : bz_st S P q1) {x : ((Int32 × Int32 × ab_I) ⊕ (Int32 × ab_I))} (H : fX1_restsOfTwo_119 q1 a2 a3 a4 a5 s0 I = some x) (K1 : ∀ s, x = (.inl s) → ab_WP l G mX1_restsOfTwo 6 90 [some (.ref 25), some (.ref q1), some (.int a2), some (.int a3), some (.int s.1), some (.int s.2.1), none, none] [] S s.2.2 J P 0 0 Q) (K0 : ∀ r, x = (.inr r) → Q (some (.int r.1)) S r.2 J P) : ab_WP l G mX1_restsOfTwo 6 119 [some (.ref 25), some (.ref q1), some (.int a2), some (.int a3), some (.int a4), some (.int a5), none, none] [.int s0] S I J P 0 0 Q := by
  unfold fX1_restsOfTwo_119 at H
  refine ab_istore (i := 6) (by decide +kernel) (by decide) rfl ?_
  refine ab_ls (ls' := [some (.ref 25), some (.ref q1), some (.int a2), some (.int a3), some (.int a4), some (.int a5), some (.int s0), none]) rfl ?_
  refine ab_aload_n (z := 0) (by decide +kernel) rfl rfl ?_
  refine gX1_5 (ix := 25) (by decide +kernel) tw_287 (hB.1 25 _ rfl) (hB.2.1 37 (25, 5, 32) rfl) ?_
  refine ab_iload (i := 5) (by decide +kernel) rfl ?_
  refine ab_iconst (z := 1) (v := (1 : Int32)) (by decide +kernel) (by decide) ?_
  refine ab_ixor (by decide +kernel) ?_
  obtain ⟨hg, H⟩ := ab_gd_of H
  refine ab_iald (ln := 4) (by decide +kernel) (hB.1 32 _ rfl) (ab_ix_in hg) ?_
  refine ab_aload_n (z := 0) (by decide +kernel) rfl rfl ?_
  refine gX1_5 (ix := 25) (by decide +kernel) tw_287 (hB.1 25 _ rfl) (hB.2.1 37 (25, 5, 32) rfl) ?_
  refine ab_iload (i := 5) (by decide +kernel) rfl ?_
  obtain ⟨hg, H⟩ := ab_gd_of H
  refine ab_iald (ln := 4) (by decide +kernel) (hB.1 32 _ rfl) (ab_ix_in hg) ?_
  refine ab_icmp_lt (off := 7) (tgt := 144) (by decide +kernel) rfl (fun hc => ?_) (fun hc => ?_)
  · replace H := ab_ifp H hc
    refine ab_iconst (z := 0) (v := (0 : Int32)) (by decide +kernel) (by decide) ?_
    exact ab_wk (ab_le_some (ab_le_some (ab_le_some (ab_le_some (ab_le_some (ab_le_some (ab_le_some (ab_le_none (ab_le_nil))))))))) (fX1_restsOfTwo_145_ok hB hq1 H K1 K0)
  · replace H := ab_ifn H hc
    refine ab_iconst (z := 1) (v := (1 : Int32)) (by decide +kernel) (by decide) ?_
    refine ab_goto (off := 4) (tgt := 145) (by decide +kernel) rfl ?_
    exact ab_wk (ab_le_some (ab_le_some (ab_le_some (ab_le_some (ab_le_some (ab_le_some (ab_le_some (ab_le_none (ab_le_nil))))))))) (fX1_restsOfTwo_145_ok hB hq1 H K1 K0)
def fX1_restsOfTwo_90 (q1 : Nat) (a2 : Int32) (a3 : Int32) (a4 : Int32) (a5 : Int32) (I : ab_I) : Option ((Int32 × Int32 × ab_I) ⊕ (Int32 × ab_I)) :=
  if a5 < 0 then
    (fX1_restsOfTwo_186 q1 a2 a3 a4 I).map .inr
  else
    ab_gd (ab_ix (a5 ^^^ (2 : Int32)) 4 = true) (
      ab_gd (ab_ix a5 4 = true) (
        if (I 31 ((a5 ^^^ (2 : Int32)).toNatClampNeg)) < (I 31 a5.toNatClampNeg) then
          fX1_restsOfTwo_119 q1 a2 a3 a4 a5 (0 : Int32) I
        else
          fX1_restsOfTwo_119 q1 a2 a3 a4 a5 (1 : Int32) I
      )
    )
set_option maxRecDepth 100000 in
theorem fX1_restsOfTwo_90_ok {l : Launch} {G : ab_G} {S : ab_S} {I : ab_I} {J : ab_J} {P : ab_P} {Q : ab_Q} {q1 : Nat} {a2 : Int32} {a3 : Int32} {a4 : Int32} {a5 : Int32} (hB : bz_B S P) (hq1 : bz_st S P q1) {x : ((Int32 × Int32 × ab_I) ⊕ (Int32 × ab_I))} (H : fX1_restsOfTwo_90 q1 a2 a3 a4 a5 I = some x) (K1 : ∀ s, x = (.inl s) → ab_WP l G mX1_restsOfTwo 6 90 [some (.ref 25), some (.ref q1), some (.int a2), some (.int a3), some (.int s.1), some (.int s.2.1), none, none] [] S s.2.2 J P 0 0 Q) (K0 : ∀ r, x = (.inr r) → Q (some (.int r.1)) S r.2 J P) : ab_WP l G mX1_restsOfTwo 6 90 [some (.ref 25), some (.ref q1), some (.int a2), some (.int a3), some (.int a4), some (.int a5), none, none] [] S I J P 0 0 Q := by
  unfold fX1_restsOfTwo_90 at H
  refine ab_iload (i := 5) (by decide +kernel) rfl ?_
  refine ab_if_lt (off := 94) (tgt := 186) (by decide +kernel) rfl (fun hc => ?_) (fun hc => ?_)
  · replace H := ab_ifp H hc
    obtain ⟨y2, Hy, hx⟩ := ab_mp_of H
    subst hx
    replace H := Hy
    exact ab_wk (ab_le_some (ab_le_some (ab_le_some (ab_le_some (ab_le_some (ab_le_none (ab_le_none (ab_le_none (ab_le_nil))))))))) (fX1_restsOfTwo_186_ok hB hq1 H  (K0 _ rfl))
  · replace H := ab_ifn H hc
    refine ab_aload_n (z := 0) (by decide +kernel) rfl rfl ?_
    refine gX1_4 (ix := 22) (by decide +kernel) tw_286 (hB.1 25 _ rfl) (hB.2.1 36 (25, 4, 31) rfl) ?_
    refine ab_iload (i := 5) (by decide +kernel) rfl ?_
    refine ab_iconst (z := 2) (v := (2 : Int32)) (by decide +kernel) (by decide) ?_
    refine ab_ixor (by decide +kernel) ?_
    obtain ⟨hg, H⟩ := ab_gd_of H
    refine ab_iald (ln := 4) (by decide +kernel) (hB.1 31 _ rfl) (ab_ix_in hg) ?_
    refine ab_aload_n (z := 0) (by decide +kernel) rfl rfl ?_
    refine gX1_4 (ix := 22) (by decide +kernel) tw_286 (hB.1 25 _ rfl) (hB.2.1 36 (25, 4, 31) rfl) ?_
    refine ab_iload (i := 5) (by decide +kernel) rfl ?_
    obtain ⟨hg, H⟩ := ab_gd_of H
    refine ab_iald (ln := 4) (by decide +kernel) (hB.1 31 _ rfl) (ab_ix_in hg) ?_
    refine ab_icmp_lt (off := 7) (tgt := 118) (by decide +kernel) rfl (fun hc => ?_) (fun hc => ?_)
    · replace H := ab_ifp H hc
      refine ab_iconst (z := 0) (v := (0 : Int32)) (by decide +kernel) (by decide) ?_
      exact ab_wk (ab_le_some (ab_le_some (ab_le_some (ab_le_some (ab_le_some (ab_le_some (ab_le_none (ab_le_none (ab_le_nil))))))))) (fX1_restsOfTwo_119_ok hB hq1 H K1 K0)
    · replace H := ab_ifn H hc
      refine ab_iconst (z := 1) (v := (1 : Int32)) (by decide +kernel) (by decide) ?_
      refine ab_goto (off := 4) (tgt := 119) (by decide +kernel) rfl ?_
      exact ab_wk (ab_le_some (ab_le_some (ab_le_some (ab_le_some (ab_le_some (ab_le_some (ab_le_none (ab_le_none (ab_le_nil))))))))) (fX1_restsOfTwo_119_ok hB hq1 H K1 K0)
def fX1_restsOfTwo_84 (q1 : Nat) (a2 : Int32) (a3 : Int32) (I : ab_I) : Option (Int32 × ab_I) :=
  ab_it (fun s => fX1_restsOfTwo_90 q1 a2 a3 s.1 s.2.1 s.2.2) 5000 ((0 : Int32), (3 : Int32), I)
set_option maxRecDepth 100000 in
theorem fX1_restsOfTwo_84_ok {l : Launch} {G : ab_G} {S : ab_S} {I : ab_I} {J : ab_J} {P : ab_P} {Q : ab_Q} {q1 : Nat} {a2 : Int32} {a3 : Int32} (hB : bz_B S P) (hq1 : bz_st S P q1) {x : Int32 × ab_I} (H : fX1_restsOfTwo_84 q1 a2 a3 I = some x) (K0 : Q (some (.int x.1)) S x.2 J P) : ab_WP l G mX1_restsOfTwo 6 84 [some (.ref 25), some (.ref q1), some (.int a2), some (.int a3), none, none, none, none] [] S I J P 0 0 Q := by
  unfold fX1_restsOfTwo_84 at H
  refine ab_iconst (z := 0) (v := (0 : Int32)) (by decide +kernel) (by decide) ?_
  refine ab_istore (i := 4) (by decide +kernel) (by decide) rfl ?_
  refine ab_ls (ls' := [some (.ref 25), some (.ref q1), some (.int a2), some (.int a3), some (.int (0 : Int32)), none, none, none]) rfl ?_
  refine ab_iconst (z := 3) (v := (3 : Int32)) (by decide +kernel) (by decide) ?_
  refine ab_istore (i := 5) (by decide +kernel) (by decide) rfl ?_
  refine ab_ls (ls' := [some (.ref 25), some (.ref q1), some (.int a2), some (.int a3), some (.int (0 : Int32)), some (.int (3 : Int32)), none, none]) rfl ?_
  exact ab_wk (ab_le_some (ab_le_some (ab_le_some (ab_le_some (ab_le_some (ab_le_some (ab_le_none (ab_le_none (ab_le_nil))))))))) (ab_iter (body := (fun s => fX1_restsOfTwo_90 q1 a2 a3 s.1 s.2.1 s.2.2)) (W := fun s => ab_WP l G mX1_restsOfTwo 6 90 [some (.ref 25), some (.ref q1), some (.int a2), some (.int a3), some (.int s.1), some (.int s.2.1), none, none] [] S s.2.2 J P 0 0 Q) (fun s y hb h1 h2 => fX1_restsOfTwo_90_ok hB hq1 hb h1 (fun r e => by have e2 := h2 _ e; subst e2; exact K0)) 5000 ((0 : Int32), (3 : Int32), I) H)
def fX1_restsOfTwo_3 (q1 : Nat) (a2 : Int32) (a3 : Int32) (a4 : Int32) (I : ab_I) : Option ((Int32 × ab_I) ⊕ (Int32 × ab_I)) :=
  if (4 : Int32) ≤ a4 then
    (fX1_restsOfTwo_84 q1 a2 a3 I).map .inr
  else
    if (a4 &&& (2 : Int32)) = 0 then
      fX1_restsOfTwo_23 q1 a2 a3 a4 ((1 : Int32) <<< (a2 &&& 31)) I
    else
      fX1_restsOfTwo_23 q1 a2 a3 a4 (0 : Int32) I
set_option maxRecDepth 100000 in
theorem fX1_restsOfTwo_3_ok {l : Launch} {G : ab_G} {S : ab_S} {I : ab_I} {J : ab_J} {P : ab_P} {Q : ab_Q} {q1 : Nat} {a2 : Int32} {a3 : Int32} {a4 : Int32} (hB : bz_B S P) (hq1 : bz_st S P q1) {x : ((Int32 × ab_I) ⊕ (Int32 × ab_I))} (H : fX1_restsOfTwo_3 q1 a2 a3 a4 I = some x) (K1 : ∀ s, x = (.inl s) → ab_WP l G mX1_restsOfTwo 6 3 [some (.ref 25), some (.ref q1), some (.int a2), some (.int a3), some (.int s.1), none, none, none] [] S s.2 J P 0 0 Q) (K0 : ∀ r, x = (.inr r) → Q (some (.int r.1)) S r.2 J P) : ab_WP l G mX1_restsOfTwo 6 3 [some (.ref 25), some (.ref q1), some (.int a2), some (.int a3), some (.int a4), none, none, none] [] S I J P 0 0 Q := by
  unfold fX1_restsOfTwo_3 at H
  refine ab_iload (i := 4) (by decide +kernel) rfl ?_
  refine ab_iconst (z := 4) (v := (4 : Int32)) (by decide +kernel) (by decide) ?_
  refine ab_icmp_ge (off := 78) (tgt := 84) (by decide +kernel) rfl (fun hc => ?_) (fun hc => ?_)
  · replace H := ab_ifp H hc
    obtain ⟨y1, Hy, hx⟩ := ab_mp_of H
    subst hx
    replace H := Hy
    exact ab_wk (ab_le_some (ab_le_some (ab_le_some (ab_le_some (ab_le_none (ab_le_none (ab_le_none (ab_le_none (ab_le_nil))))))))) (fX1_restsOfTwo_84_ok hB hq1 H  (K0 _ rfl))
  · replace H := ab_ifn H hc
    refine ab_iload (i := 4) (by decide +kernel) rfl ?_
    refine ab_iconst (z := 2) (v := (2 : Int32)) (by decide +kernel) (by decide) ?_
    refine ab_iand (by decide +kernel) ?_
    refine ab_if_ne (off := 9) (tgt := 22) (by decide +kernel) rfl (fun hc => ?_) (fun hc => ?_)
    · replace H := ab_ifn H hc
      refine ab_iconst (z := 0) (v := (0 : Int32)) (by decide +kernel) (by decide) ?_
      exact ab_wk (ab_le_some (ab_le_some (ab_le_some (ab_le_some (ab_le_some (ab_le_none (ab_le_none (ab_le_none (ab_le_nil))))))))) (fX1_restsOfTwo_23_ok hB hq1 H K1 K0)
    · replace H := ab_ifp H hc
      refine ab_iconst (z := 1) (v := (1 : Int32)) (by decide +kernel) (by decide) ?_
      refine ab_iload_n (z := 2) (by decide +kernel) rfl rfl ?_
      refine ab_ishl (by decide +kernel) ?_
      refine ab_goto (off := 4) (tgt := 23) (by decide +kernel) rfl ?_
      exact ab_wk (ab_le_some (ab_le_some (ab_le_some (ab_le_some (ab_le_some (ab_le_none (ab_le_none (ab_le_none (ab_le_nil))))))))) (fX1_restsOfTwo_23_ok hB hq1 H K1 K0)
def fX1_restsOfTwo (q1 : Nat) (a2 : Int32) (a3 : Int32) (I : ab_I) : Option (Int32 × ab_I) :=
  ab_it (fun s => fX1_restsOfTwo_3 q1 a2 a3 s.1 s.2) 5000 ((0 : Int32), I)
set_option maxRecDepth 100000 in
theorem mX1_restsOfTwo_ok {l : Launch} {G : ab_G} {S : ab_S} {I : ab_I} {J : ab_J} {P : ab_P} {Q : ab_Q} {q1 : Nat} {a2 : Int32} {a3 : Int32} (hB : bz_B S P) (hq1 : bz_st S P q1) {x : Int32 × ab_I} (H : fX1_restsOfTwo q1 a2 a3 I = some x) (K0 : Q (some (.int x.1)) S x.2 J P) : ab_Call l G mX1_restsOfTwo 6 [.ref 25, .ref q1, .int a2, .int a3] S I J P Q := by
  unfold fX1_restsOfTwo at H
  refine ab_enter rfl (Nat.le_of_ble_eq_true rfl) (ab_wk (ls' := [some (.ref 25), some (.ref q1), some (.int a2), some (.int a3), none, none, none, none]) (ab_le_some (ab_le_some (ab_le_some (ab_le_some (ab_le_non0 (ab_le_non0 (ab_le_non0 (ab_le_non0 ab_le_nil)))))))) ?_)
  refine ab_iconst (z := 0) (v := (0 : Int32)) (by decide +kernel) (by decide) ?_
  refine ab_istore (i := 4) (by decide +kernel) (by decide) rfl ?_
  refine ab_ls (ls' := [some (.ref 25), some (.ref q1), some (.int a2), some (.int a3), some (.int (0 : Int32)), none, none, none]) rfl ?_
  exact ab_wk (ab_le_some (ab_le_some (ab_le_some (ab_le_some (ab_le_some (ab_le_none (ab_le_none (ab_le_none (ab_le_nil))))))))) (ab_iter (body := (fun s => fX1_restsOfTwo_3 q1 a2 a3 s.1 s.2)) (W := fun s => ab_WP l G mX1_restsOfTwo 6 3 [some (.ref 25), some (.ref q1), some (.int a2), some (.int a3), some (.int s.1), none, none, none] [] S s.2 J P 0 0 Q) (fun s y hb h1 h2 => fX1_restsOfTwo_3_ok hB hq1 hb h1 (fun r e => by have e2 := h2 _ e; subst e2; exact K0)) 5000 ((0 : Int32), I) H)
abbrev mX11_staying : ab_M := (yX11_staying, cX11_staying, 4, some .int, 0, 0)
def fX11_staying_88 (a1 : Int32) (a2 : Int32) (P : ab_P) (a3 : Int32) (I : ab_I) : Option (Int32 × ab_I) :=
  some (a3, I)
set_option maxRecDepth 100000 in
theorem fX11_staying_88_ok {l : Launch} {G : ab_G} {S : ab_S} {I : ab_I} {J : ab_J} {P : ab_P} {Q : ab_Q} {a1 : Int32} {a2 : Int32} {a3 : Int32} (hB : bz_B S P) {x : Int32 × ab_I} (H : fX11_staying_88 a1 a2 P a3 I = some x) (K0 : Q (some (.int x.1)) S x.2 J P) : ab_WP l G mX11_staying 7 88 [some (.ref 0), some (.int a1), some (.int a2), some (.int a3)] [] S I J P 0 0 Q := by
  unfold fX11_staying_88 at H
  refine ab_iload_n (z := 3) (by decide +kernel) rfl rfl ?_
  obtain rfl := Option.some.inj H
  exact ab_iret (by decide +kernel) rfl (Nat.le_refl _) (Nat.le_refl _) K0
def fX11_staying_56 (a1 : Int32) (a2 : Int32) (P : ab_P) (I : ab_I) : Option (Int32 × ab_I) :=
  some ((-1 : Int32), I)
set_option maxRecDepth 100000 in
theorem fX11_staying_56_ok {l : Launch} {G : ab_G} {S : ab_S} {I : ab_I} {J : ab_J} {P : ab_P} {Q : ab_Q} {a1 : Int32} {a2 : Int32} (hB : bz_B S P) {x : Int32 × ab_I} (H : fX11_staying_56 a1 a2 P I = some x) (K0 : Q (some (.int x.1)) S x.2 J P) : ab_WP l G mX11_staying 7 56 [some (.ref 0), some (.int a1), some (.int a2), none] [] S I J P 0 0 Q := by
  unfold fX11_staying_56 at H
  refine ab_iconst (z := -1) (v := (-1 : Int32)) (by decide +kernel) (by decide) ?_
  obtain rfl := Option.some.inj H
  exact ab_iret (by decide +kernel) rfl (Nat.le_refl _) (Nat.le_refl _) K0
def fX11_staying_32 (a1 : Int32) (a2 : Int32) (P : ab_P) (I : ab_I) : Option (Int32 × ab_I) :=
  some ((-1 : Int32), I)
set_option maxRecDepth 100000 in
theorem fX11_staying_32_ok {l : Launch} {G : ab_G} {S : ab_S} {I : ab_I} {J : ab_J} {P : ab_P} {Q : ab_Q} {a1 : Int32} {a2 : Int32} (hB : bz_B S P) {x : Int32 × ab_I} (H : fX11_staying_32 a1 a2 P I = some x) (K0 : Q (some (.int x.1)) S x.2 J P) : ab_WP l G mX11_staying 7 32 [some (.ref 0), some (.int a1), some (.int a2), none] [] S I J P 0 0 Q := by
  unfold fX11_staying_32 at H
  refine ab_iconst (z := -1) (v := (-1 : Int32)) (by decide +kernel) (by decide) ?_
  obtain rfl := Option.some.inj H
  exact ab_iret (by decide +kernel) rfl (Nat.le_refl _) (Nat.le_refl _) K0
def fX11_staying (a1 : Int32) (a2 : Int32) (I : ab_I) (P : ab_P) : Option (Int32 × ab_I) :=
  (fX9_isPerson a1 (ab_u I 0 9 (0 : Int32))).bind fun u1 =>
  if u1 = 0 then
    fX11_staying_32 a1 a2 P (ab_u I 0 9 (0 : Int32))
  else
    (fX9_isPerson a2 (ab_u I 0 9 (0 : Int32))).bind fun u2 =>
    if u2 = 0 then
      fX11_staying_32 a1 a2 P (ab_u I 0 9 (0 : Int32))
    else
      if a1 = a2 then
        fX11_staying_32 a1 a2 P (ab_u I 0 9 (0 : Int32))
      else
        (P 0 12).bind fun z3 =>
        (fX6_isHere z3 a1 (ab_u I 0 9 (0 : Int32))).bind fun u4 =>
        if u4 = 0 then
          fX11_staying_56 a1 a2 P (ab_u I 0 9 (0 : Int32))
        else
          (P 0 12).bind fun z5 =>
          (fX6_isHere z5 a2 (ab_u I 0 9 (0 : Int32))).bind fun u6 =>
          if u6 = 0 then
            fX11_staying_56 a1 a2 P (ab_u I 0 9 (0 : Int32))
          else
            (P 0 12).bind fun z7 =>
            (fX1_restsOfTwo z7 a1 a2 (ab_u I 0 9 (0 : Int32))).bind fun u8 =>
            if u8.1 ≤ 0 then
              fX11_staying_88 a1 a2 P u8.1 u8.2
            else
              (fX11_layDown 33 2 (2 : Int32) u8.2).bind fun u9 =>
              fX11_staying_88 a1 a2 P u8.1 u9
set_option maxRecDepth 100000 in
theorem mX11_staying_ok {l : Launch} {G : ab_G} {S : ab_S} {I : ab_I} {J : ab_J} {P : ab_P} {Q : ab_Q} {a1 : Int32} {a2 : Int32} (hB : bz_B S P) {x : Int32 × ab_I} (H : fX11_staying a1 a2 I P = some x) (K0 : Q (some (.int x.1)) S x.2 J P) : ab_Call l G mX11_staying 7 [.ref 0, .int a1, .int a2] S I J P Q := by
  unfold fX11_staying at H
  refine ab_enter rfl (Nat.le_of_ble_eq_true rfl) (ab_wk (ls' := [some (.ref 0), some (.int a1), some (.int a2), none]) (ab_le_some (ab_le_some (ab_le_some (ab_le_non0 ab_le_nil)))) ?_)
  refine ab_aload_n (z := 0) (by decide +kernel) rfl rfl ?_
  refine ab_iconst (z := 0) (v := (0 : Int32)) (by decide +kernel) (by decide) ?_
  refine pX11_9 (ix := 75) (by decide +kernel) tw_417 (hB.1 0 _ rfl) ?_
  refine ab_aload_n (z := 0) (by decide +kernel) rfl rfl ?_
  refine gX11_1 (ix := 19) (by decide +kernel) tw_409 (hB.1 0 _ rfl) (hB.2.1 1 (0, 1, 3) rfl) ?_
  refine ab_iload_n (z := 1) (by decide +kernel) rfl rfl ?_
  obtain ⟨u1, hu1, H⟩ := ab_bd_of H
  refine kvX9_isPerson (D := 0) (ix := 129) (by decide +kernel) tw_636 (hB.1 3 _ rfl) (by decide) (Nat.le_of_ble_eq_true rfl) (mX9_isPerson_ok hB hu1 ?_)
  change ab_WP l G mX11_staying 7 13 [some (.ref 0), some (.int a1), some (.int a2), none] [.int u1] S (ab_u I 0 9 (0 : Int32)) J P 0 0 Q
  refine ab_if_eq (off := 19) (tgt := 32) (by decide +kernel) rfl (fun hc => ?_) (fun hc => ?_)
  · replace H := ab_ifp H hc
    exact ab_wk (ab_le_some (ab_le_some (ab_le_some (ab_le_none (ab_le_nil))))) (fX11_staying_32_ok hB H  K0)
  · replace H := ab_ifn H hc
    refine ab_aload_n (z := 0) (by decide +kernel) rfl rfl ?_
    refine gX11_1 (ix := 19) (by decide +kernel) tw_409 (hB.1 0 _ rfl) (hB.2.1 1 (0, 1, 3) rfl) ?_
    refine ab_iload_n (z := 2) (by decide +kernel) rfl rfl ?_
    obtain ⟨u2, hu2, H⟩ := ab_bd_of H
    refine kvX9_isPerson (D := 0) (ix := 129) (by decide +kernel) tw_636 (hB.1 3 _ rfl) (by decide) (Nat.le_of_ble_eq_true rfl) (mX9_isPerson_ok hB hu2 ?_)
    change ab_WP l G mX11_staying 7 24 [some (.ref 0), some (.int a1), some (.int a2), none] [.int u2] S (ab_u I 0 9 (0 : Int32)) J P 0 0 Q
    refine ab_if_eq (off := 8) (tgt := 32) (by decide +kernel) rfl (fun hc => ?_) (fun hc => ?_)
    · replace H := ab_ifp H hc
      exact ab_wk (ab_le_some (ab_le_some (ab_le_some (ab_le_none (ab_le_nil))))) (fX11_staying_32_ok hB H  K0)
    · replace H := ab_ifn H hc
      refine ab_iload_n (z := 1) (by decide +kernel) rfl rfl ?_
      refine ab_iload_n (z := 2) (by decide +kernel) rfl rfl ?_
      refine ab_icmp_ne (off := 5) (tgt := 34) (by decide +kernel) rfl (fun hc => ?_) (fun hc => ?_)
      · replace H := ab_ifn H hc
        refine ab_aload_n (z := 0) (by decide +kernel) rfl rfl ?_
        obtain ⟨z3, hz3, H⟩ := ab_bd_of H
        refine gX11_12 (ix := 89) (by decide +kernel) tw_420 (hB.1 0 _ rfl) hz3 ?_
        have sz3 := hB.2.2.1 _ hz3
        refine ab_iload_n (z := 1) (by decide +kernel) rfl rfl ?_
        obtain ⟨u4, hu4, H⟩ := ab_bd_of H
        refine kvX6_isHere (D := 0) (ix := 195) (by decide +kernel) tw_751 sz3.1 (by decide) (Nat.le_of_ble_eq_true rfl) (mX6_isHere_ok hB sz3 hu4 ?_)
        change ab_WP l G mX11_staying 7 42 [some (.ref 0), some (.int a1), some (.int a2), none] [.int u4] S (ab_u I 0 9 (0 : Int32)) J P 0 0 Q
        refine ab_if_eq (off := 14) (tgt := 56) (by decide +kernel) rfl (fun hc => ?_) (fun hc => ?_)
        · replace H := ab_ifp H hc
          exact ab_wk (ab_le_some (ab_le_some (ab_le_some (ab_le_none (ab_le_nil))))) (fX11_staying_56_ok hB H  K0)
        · replace H := ab_ifn H hc
          refine ab_aload_n (z := 0) (by decide +kernel) rfl rfl ?_
          obtain ⟨z5, hz5, H⟩ := ab_bd_of H
          refine gX11_12 (ix := 89) (by decide +kernel) tw_420 (hB.1 0 _ rfl) hz5 ?_
          have sz5 := hB.2.2.1 _ hz5
          refine ab_iload_n (z := 2) (by decide +kernel) rfl rfl ?_
          obtain ⟨u6, hu6, H⟩ := ab_bd_of H
          refine kvX6_isHere (D := 0) (ix := 195) (by decide +kernel) tw_751 sz5.1 (by decide) (Nat.le_of_ble_eq_true rfl) (mX6_isHere_ok hB sz5 hu6 ?_)
          change ab_WP l G mX11_staying 7 53 [some (.ref 0), some (.int a1), some (.int a2), none] [.int u6] S (ab_u I 0 9 (0 : Int32)) J P 0 0 Q
          refine ab_if_ne (off := 5) (tgt := 58) (by decide +kernel) rfl (fun hc => ?_) (fun hc => ?_)
          · replace H := ab_ifn H hc
            refine ab_aload_n (z := 0) (by decide +kernel) rfl rfl ?_
            refine gX11_4 (ix := 46) (by decide +kernel) tw_412 (hB.1 0 _ rfl) (hB.2.1 4 (0, 4, 25) rfl) ?_
            refine ab_aload_n (z := 0) (by decide +kernel) rfl rfl ?_
            obtain ⟨z7, hz7, H⟩ := ab_bd_of H
            refine gX11_12 (ix := 89) (by decide +kernel) tw_420 (hB.1 0 _ rfl) hz7 ?_
            have sz7 := hB.2.2.1 _ hz7
            refine ab_iload_n (z := 1) (by decide +kernel) rfl rfl ?_
            refine ab_iload_n (z := 2) (by decide +kernel) rfl rfl ?_
            obtain ⟨u8, hu8, H⟩ := ab_bd_of H
            refine kvX1_restsOfTwo (D := 6) (ix := 270) (by decide +kernel) tw_897 (hB.1 25 _ rfl) (by decide) (Nat.le_of_ble_eq_true rfl) (mX1_restsOfTwo_ok hB sz7 hu8 ?_)
            change ab_WP l G mX11_staying 7 71 [some (.ref 0), some (.int a1), some (.int a2), none] [.int u8.1] S u8.2 J P 0 0 Q
            refine ab_istore_n (z := 3) (by decide +kernel) rfl (by decide) rfl ?_
            refine ab_ls (ls' := [some (.ref 0), some (.int a1), some (.int a2), some (.int u8.1)]) rfl ?_
            refine ab_iload_n (z := 3) (by decide +kernel) rfl rfl ?_
            refine ab_if_le (off := 15) (tgt := 88) (by decide +kernel) rfl (fun hc => ?_) (fun hc => ?_)
            · replace H := ab_ifp H hc
              exact ab_wk (ab_le_some (ab_le_some (ab_le_some (ab_le_some (ab_le_nil))))) (fX11_staying_88_ok hB H  K0)
            · replace H := ab_ifn H hc
              refine ab_aload_n (z := 0) (by decide +kernel) rfl rfl ?_
              refine ab_aload_n (z := 0) (by decide +kernel) rfl rfl ?_
              refine gX11_4 (ix := 46) (by decide +kernel) tw_412 (hB.1 0 _ rfl) (hB.2.1 4 (0, 4, 25) rfl) ?_
              refine gX1_6 (ix := 273) (by decide +kernel) tw_289 (hB.1 25 _ rfl) (hB.2.1 38 (25, 6, 33) rfl) ?_
              refine ab_iconst (z := 2) (v := (2 : Int32)) (by decide +kernel) (by decide) ?_
              obtain ⟨u9, hu9, H⟩ := ab_bd_of H
              refine kvX11_layDown (D := 1) (ix := 235) (by decide +kernel) tw_817 (hB.1 0 _ rfl) (by decide) (Nat.le_of_ble_eq_true rfl) (mX11_layDown_ok hB (hB.1 33 _ rfl) hu9 ?_)
              change ab_WP l G mX11_staying 7 88 [some (.ref 0), some (.int a1), some (.int a2), some (.int u8.1)] [] S u9 J P 0 0 Q
              exact ab_wk (ab_le_some (ab_le_some (ab_le_some (ab_le_some (ab_le_nil))))) (fX11_staying_88_ok hB H  K0)
          · replace H := ab_ifp H hc
            exact ab_wk (ab_le_some (ab_le_some (ab_le_some (ab_le_none (ab_le_nil))))) (fX11_staying_56_ok hB H  K0)
      · replace H := ab_ifp H hc
        exact ab_wk (ab_le_some (ab_le_some (ab_le_some (ab_le_none (ab_le_nil))))) (fX11_staying_32_ok hB H  K0)
abbrev mX1_idleFor : ab_M := (yX1_idleFor, cX1_idleFor, 6, some .int, 0, 0)
theorem kvX1_idleFor {l : Launch} {G : ab_G} {M : ab_M} {d pc : Nat} {ls : List (Option Value)} {st : List Value} {S : ab_S} {I : ab_I} {J : ab_J} {P : ab_P} {Q : ab_Q} {v0 v1 : Value} {ix D r ln : Nat} (hd : decode M.2.1 pc = .ok (.invokevirtual ix, 3)) (h1 : Cond.methodLink M.1.cls ix mX1_idleFor.1 ∈ ab_good) (hs : S[r]? = some (6, ln)) (hdg : D + 1 ≤ d) (hsum : (st.map fun v => v.category).sum ≤ 8) (kk : ab_Call l G mX1_idleFor D (.ref r :: [v0, v1]) S I J P (fun v S' I' J' P' => ab_WP l G M d (pc + 3) ls (ab_psh v st) S' I' J' P' 0 0 Q)) : ab_WP l G M d pc ls (v1 :: v0 :: .ref r :: st) S I J P 0 0 Q := bz_kv (g := mX1_idleFor) (as := [v0, v1]) (cc := 1) rfl hd h1 tw_910 tw_911 tw_8 tw_912 ⟨by decide +kernel, by decide +kernel, (by decide +kernel : (parseMethodDescriptor mX1_idleFor.1.desc).map (fun d => d.parameters.length) = some 2)⟩ (by decide) rfl rfl rfl hdg hsum hs kk
def fX1_idleFor_93 (q1 : Nat) (a2 : Int32) (a3 : Int32) (I : ab_I) : Option (Int32 × ab_I) :=
  some (a3, I)
set_option maxRecDepth 100000 in
theorem fX1_idleFor_93_ok {l : Launch} {G : ab_G} {S : ab_S} {I : ab_I} {J : ab_J} {P : ab_P} {Q : ab_Q} {q1 : Nat} {a2 : Int32} {a3 : Int32} (hB : bz_B S P) (hq1 : bz_st S P q1) {x : Int32 × ab_I} (H : fX1_idleFor_93 q1 a2 a3 I = some x) (K0 : Q (some (.int x.1)) S x.2 J P) : ab_WP l G mX1_idleFor 5 93 [some (.ref 25), some (.ref q1), some (.int a2), some (.int a3), none, none] [] S I J P 0 0 Q := by
  unfold fX1_idleFor_93 at H
  refine ab_iload_n (z := 3) (by decide +kernel) rfl rfl ?_
  obtain rfl := Option.some.inj H
  exact ab_iret (by decide +kernel) rfl (Nat.le_refl _) (Nat.le_refl _) K0
def fX1_idleFor_87 (q1 : Nat) (a2 : Int32) (a3 : Int32) (a4 : Int32) (I : ab_I) : Option ((Int32 × Int32 × ab_I) ⊕ (Int32 × ab_I)) :=
  some (.inl (a3, (a4 + (1 : Int32)), I))
set_option maxRecDepth 100000 in
theorem fX1_idleFor_87_ok {l : Launch} {G : ab_G} {S : ab_S} {I : ab_I} {J : ab_J} {P : ab_P} {Q : ab_Q} {q1 : Nat} {a2 : Int32} {a3 : Int32} {a4 : Int32} (hB : bz_B S P) (hq1 : bz_st S P q1) {x : ((Int32 × Int32 × ab_I) ⊕ (Int32 × ab_I))} (H : fX1_idleFor_87 q1 a2 a3 a4 I = some x) (K1 : ∀ s, x = (.inl s) → ab_WP l G mX1_idleFor 5 16 [some (.ref 25), some (.ref q1), some (.int a2), some (.int s.1), some (.int s.2.1), none] [] S s.2.2 J P 0 0 Q) (K0 : ∀ r, x = (.inr r) → Q (some (.int r.1)) S r.2 J P) : ab_WP l G mX1_idleFor 5 87 [some (.ref 25), some (.ref q1), some (.int a2), some (.int a3), some (.int a4), none] [] S I J P 0 0 Q := by
  unfold fX1_idleFor_87 at H
  refine ab_iinc (i := 4) (z := 1) (v := (a4 + (1 : Int32))) (by decide +kernel) rfl rfl (by decide) rfl ?_
  refine ab_ls (ls' := [some (.ref 25), some (.ref q1), some (.int a2), some (.int a3), some (.int (a4 + (1 : Int32))), none]) rfl ?_
  refine ab_goto (off := -74) (tgt := 16) (by decide +kernel) rfl ?_
  exact ab_wk (ab_le_some (ab_le_some (ab_le_some (ab_le_some (ab_le_some (ab_le_none (ab_le_nil))))))) (K1 (a3, (a4 + (1 : Int32)), I) (Option.some.inj H).symm)
def fX1_idleFor_81 (q1 : Nat) (a2 : Int32) (a3 : Int32) (a4 : Int32) (a5 : Int32) (I : ab_I) : Option ((Int32 × Int32 × Int32 × ab_I) ⊕ ((Int32 × Int32 × ab_I) ⊕ (Int32 × ab_I))) :=
  some (.inl (a3, a4, (a5 + (1 : Int32)), I))
set_option maxRecDepth 100000 in
theorem fX1_idleFor_81_ok {l : Launch} {G : ab_G} {S : ab_S} {I : ab_I} {J : ab_J} {P : ab_P} {Q : ab_Q} {q1 : Nat} {a2 : Int32} {a3 : Int32} {a4 : Int32} {a5 : Int32} (hB : bz_B S P) (hq1 : bz_st S P q1) {x : ((Int32 × Int32 × Int32 × ab_I) ⊕ ((Int32 × Int32 × ab_I) ⊕ (Int32 × ab_I)))} (H : fX1_idleFor_81 q1 a2 a3 a4 a5 I = some x) (K2 : ∀ s, x = (.inl s) → ab_WP l G mX1_idleFor 5 38 [some (.ref 25), some (.ref q1), some (.int a2), some (.int s.1), some (.int s.2.1), some (.int s.2.2.1)] [] S s.2.2.2 J P 0 0 Q) (K1 : ∀ s, x = (.inr (.inl s)) → ab_WP l G mX1_idleFor 5 16 [some (.ref 25), some (.ref q1), some (.int a2), some (.int s.1), some (.int s.2.1), none] [] S s.2.2 J P 0 0 Q) (K0 : ∀ r, x = (.inr (.inr r)) → Q (some (.int r.1)) S r.2 J P) : ab_WP l G mX1_idleFor 5 81 [some (.ref 25), some (.ref q1), some (.int a2), some (.int a3), some (.int a4), some (.int a5)] [] S I J P 0 0 Q := by
  unfold fX1_idleFor_81 at H
  refine ab_iinc (i := 5) (z := 1) (v := (a5 + (1 : Int32))) (by decide +kernel) rfl rfl (by decide) rfl ?_
  refine ab_ls (ls' := [some (.ref 25), some (.ref q1), some (.int a2), some (.int a3), some (.int a4), some (.int (a5 + (1 : Int32)))]) rfl ?_
  refine ab_goto (off := -46) (tgt := 38) (by decide +kernel) rfl ?_
  exact ab_wk (ab_le_some (ab_le_some (ab_le_some (ab_le_some (ab_le_some (ab_le_some (ab_le_nil))))))) (K2 (a3, a4, (a5 + (1 : Int32)), I) (Option.some.inj H).symm)
def fX1_idleFor_38 (q1 : Nat) (a2 : Int32) (a3 : Int32) (a4 : Int32) (a5 : Int32) (I : ab_I) : Option ((Int32 × Int32 × Int32 × ab_I) ⊕ ((Int32 × Int32 × ab_I) ⊕ (Int32 × ab_I))) :=
  if (I 3 5) ≤ a5 then
    (fX1_idleFor_87 q1 a2 a3 a4 I).map .inr
  else
    ab_gd (ab_ix a5 5 = true) (
      if (I 24 a5.toNatClampNeg) = (-1 : Int32) then
        fX1_idleFor_81 q1 a2 a3 a4 a5 I
      else
        ab_gd (ab_ix a5 5 = true) (
          fX1_idleFor_81 q1 a2 (a3 &&& (((1 : Int32) <<< ((I 24 a5.toNatClampNeg) &&& 31)) ^^^ (-1 : Int32))) a4 a5 I
        )
    )
set_option maxRecDepth 100000 in
theorem fX1_idleFor_38_ok {l : Launch} {G : ab_G} {S : ab_S} {I : ab_I} {J : ab_J} {P : ab_P} {Q : ab_Q} {q1 : Nat} {a2 : Int32} {a3 : Int32} {a4 : Int32} {a5 : Int32} (hB : bz_B S P) (hq1 : bz_st S P q1) {x : ((Int32 × Int32 × Int32 × ab_I) ⊕ ((Int32 × Int32 × ab_I) ⊕ (Int32 × ab_I)))} (H : fX1_idleFor_38 q1 a2 a3 a4 a5 I = some x) (K2 : ∀ s, x = (.inl s) → ab_WP l G mX1_idleFor 5 38 [some (.ref 25), some (.ref q1), some (.int a2), some (.int s.1), some (.int s.2.1), some (.int s.2.2.1)] [] S s.2.2.2 J P 0 0 Q) (K1 : ∀ s, x = (.inr (.inl s)) → ab_WP l G mX1_idleFor 5 16 [some (.ref 25), some (.ref q1), some (.int a2), some (.int s.1), some (.int s.2.1), none] [] S s.2.2 J P 0 0 Q) (K0 : ∀ r, x = (.inr (.inr r)) → Q (some (.int r.1)) S r.2 J P) : ab_WP l G mX1_idleFor 5 38 [some (.ref 25), some (.ref q1), some (.int a2), some (.int a3), some (.int a4), some (.int a5)] [] S I J P 0 0 Q := by
  unfold fX1_idleFor_38 at H
  refine ab_iload (i := 5) (by decide +kernel) rfl ?_
  refine ab_aload_n (z := 0) (by decide +kernel) rfl rfl ?_
  refine gX1_0 (ix := 31) (by decide +kernel) tw_281 (hB.1 25 _ rfl) (hB.2.1 32 (25, 0, 3) rfl) ?_
  refine gX9_5 (ix := 71) (by decide +kernel) tw_96 (hB.1 3 _ rfl) ?_
  refine ab_icmp_ge (off := 40) (tgt := 87) (by decide +kernel) rfl (fun hc => ?_) (fun hc => ?_)
  · replace H := ab_ifp H hc
    obtain ⟨y4, Hy, hx⟩ := ab_mp_of H
    subst hx
    replace H := Hy
    exact ab_wk (ab_le_some (ab_le_some (ab_le_some (ab_le_some (ab_le_some (ab_le_none (ab_le_nil))))))) (fX1_idleFor_87_ok hB hq1 H (fun s e => K1 s (by rw [e])) (fun r e => K0 r (by rw [e])))
  · replace H := ab_ifn H hc
    refine ab_aload_n (z := 0) (by decide +kernel) rfl rfl ?_
    refine gX1_1 (ix := 35) (by decide +kernel) tw_282 (hB.1 25 _ rfl) (hB.2.1 33 (25, 1, 23) rfl) ?_
    refine gX5_1 (ix := 85) (by decide +kernel) tw_213 (hB.1 23 _ rfl) (hB.2.1 31 (23, 1, 24) rfl) ?_
    refine ab_iload (i := 5) (by decide +kernel) rfl ?_
    obtain ⟨hg, H⟩ := ab_gd_of H
    refine ab_iald (ln := 5) (by decide +kernel) (hB.1 24 _ rfl) (ab_ix_in hg) ?_
    refine ab_iconst (z := -1) (v := (-1 : Int32)) (by decide +kernel) (by decide) ?_
    refine ab_icmp_eq (off := 20) (tgt := 81) (by decide +kernel) rfl (fun hc => ?_) (fun hc => ?_)
    · replace H := ab_ifp H hc
      exact ab_wk (ab_le_some (ab_le_some (ab_le_some (ab_le_some (ab_le_some (ab_le_some (ab_le_nil))))))) (fX1_idleFor_81_ok hB hq1 H K2 K1 K0)
    · replace H := ab_ifn H hc
      refine ab_iload_n (z := 3) (by decide +kernel) rfl rfl ?_
      refine ab_iconst (z := 1) (v := (1 : Int32)) (by decide +kernel) (by decide) ?_
      refine ab_aload_n (z := 0) (by decide +kernel) rfl rfl ?_
      refine gX1_1 (ix := 35) (by decide +kernel) tw_282 (hB.1 25 _ rfl) (hB.2.1 33 (25, 1, 23) rfl) ?_
      refine gX5_1 (ix := 85) (by decide +kernel) tw_213 (hB.1 23 _ rfl) (hB.2.1 31 (23, 1, 24) rfl) ?_
      refine ab_iload (i := 5) (by decide +kernel) rfl ?_
      obtain ⟨hg, H⟩ := ab_gd_of H
      refine ab_iald (ln := 5) (by decide +kernel) (hB.1 24 _ rfl) (ab_ix_in hg) ?_
      refine ab_ishl (by decide +kernel) ?_
      refine ab_iconst (z := -1) (v := (-1 : Int32)) (by decide +kernel) (by decide) ?_
      refine ab_ixor (by decide +kernel) ?_
      refine ab_iand (by decide +kernel) ?_
      refine ab_istore_n (z := 3) (by decide +kernel) rfl (by decide) rfl ?_
      refine ab_ls (ls' := [some (.ref 25), some (.ref q1), some (.int a2), some (.int (a3 &&& (((1 : Int32) <<< ((I 24 a5.toNatClampNeg) &&& 31)) ^^^ (-1 : Int32)))), some (.int a4), some (.int a5)]) rfl ?_
      exact ab_wk (ab_le_some (ab_le_some (ab_le_some (ab_le_some (ab_le_some (ab_le_some (ab_le_nil))))))) (fX1_idleFor_81_ok hB hq1 H K2 K1 K0)
def fX1_idleFor_16 (q1 : Nat) (a2 : Int32) (a3 : Int32) (a4 : Int32) (I : ab_I) : Option ((Int32 × Int32 × ab_I) ⊕ (Int32 × ab_I)) :=
  if a2 ≤ a4 then
    (fX1_idleFor_93 q1 a2 a3 I).map .inr
  else
    (fX5_passDay 26 (0 : Int32) I).bind fun u3 =>
    ab_it (fun s => fX1_idleFor_38 q1 a2 s.1 s.2.1 s.2.2.1 s.2.2.2) 5000 (a3, a4, (0 : Int32), u3.2)
set_option maxRecDepth 100000 in
theorem fX1_idleFor_16_ok {l : Launch} {G : ab_G} {S : ab_S} {I : ab_I} {J : ab_J} {P : ab_P} {Q : ab_Q} {q1 : Nat} {a2 : Int32} {a3 : Int32} {a4 : Int32} (hB : bz_B S P) (hq1 : bz_st S P q1) {x : ((Int32 × Int32 × ab_I) ⊕ (Int32 × ab_I))} (H : fX1_idleFor_16 q1 a2 a3 a4 I = some x) (K1 : ∀ s, x = (.inl s) → ab_WP l G mX1_idleFor 5 16 [some (.ref 25), some (.ref q1), some (.int a2), some (.int s.1), some (.int s.2.1), none] [] S s.2.2 J P 0 0 Q) (K0 : ∀ r, x = (.inr r) → Q (some (.int r.1)) S r.2 J P) : ab_WP l G mX1_idleFor 5 16 [some (.ref 25), some (.ref q1), some (.int a2), some (.int a3), some (.int a4), none] [] S I J P 0 0 Q := by
  unfold fX1_idleFor_16 at H
  refine ab_iload (i := 4) (by decide +kernel) rfl ?_
  refine ab_iload_n (z := 2) (by decide +kernel) rfl rfl ?_
  refine ab_icmp_ge (off := 74) (tgt := 93) (by decide +kernel) rfl (fun hc => ?_) (fun hc => ?_)
  · replace H := ab_ifp H hc
    obtain ⟨y2, Hy, hx⟩ := ab_mp_of H
    subst hx
    replace H := Hy
    exact ab_wk (ab_le_some (ab_le_some (ab_le_some (ab_le_some (ab_le_none (ab_le_none (ab_le_nil))))))) (fX1_idleFor_93_ok hB hq1 H  (K0 _ rfl))
  · replace H := ab_ifn H hc
    refine ab_aload_n (z := 0) (by decide +kernel) rfl rfl ?_
    refine gX1_1 (ix := 35) (by decide +kernel) tw_282 (hB.1 25 _ rfl) (hB.2.1 33 (25, 1, 23) rfl) ?_
    refine ab_aload_n (z := 0) (by decide +kernel) rfl rfl ?_
    refine gX1_2 (ix := 12) (by decide +kernel) tw_283 (hB.1 25 _ rfl) (hB.2.1 34 (25, 2, 26) rfl) ?_
    refine ab_iconst (z := 0) (v := (0 : Int32)) (by decide +kernel) (by decide) ?_
    obtain ⟨u3, hu3, H⟩ := ab_bd_of H
    refine kvX5_passDay (D := 4) (ix := 43) (by decide +kernel) tw_658 (hB.1 23 _ rfl) (by decide) (Nat.le_of_ble_eq_true rfl) (mX5_passDay_ok hB (bz_st_26 hB) hu3 ?_)
    change ab_WP l G mX1_idleFor 5 34 [some (.ref 25), some (.ref q1), some (.int a2), some (.int a3), some (.int a4), none] [.int u3.1] S u3.2 J P 0 0 Q
    refine ab_pop (by decide +kernel) rfl ?_
    refine ab_iconst (z := 0) (v := (0 : Int32)) (by decide +kernel) (by decide) ?_
    refine ab_istore (i := 5) (by decide +kernel) (by decide) rfl ?_
    refine ab_ls (ls' := [some (.ref 25), some (.ref q1), some (.int a2), some (.int a3), some (.int a4), some (.int (0 : Int32))]) rfl ?_
    exact ab_wk (ab_le_some (ab_le_some (ab_le_some (ab_le_some (ab_le_some (ab_le_some (ab_le_nil))))))) (ab_iter (body := (fun s => fX1_idleFor_38 q1 a2 s.1 s.2.1 s.2.2.1 s.2.2.2)) (W := fun s => ab_WP l G mX1_idleFor 5 38 [some (.ref 25), some (.ref q1), some (.int a2), some (.int s.1), some (.int s.2.1), some (.int s.2.2.1)] [] S s.2.2.2 J P 0 0 Q) (fun s y hb h1 h2 => fX1_idleFor_38_ok hB hq1 hb h1 (fun s e => K1 s (h2 _ e).symm) (fun r e => K0 r (h2 _ e).symm)) 5000 (a3, a4, (0 : Int32), u3.2) H)
def fX1_idleFor (q1 : Nat) (a2 : Int32) (I : ab_I) : Option (Int32 × ab_I) :=
  (fX6_copyFrom 26 q1 I).bind fun u1 =>
  ab_it (fun s => fX1_idleFor_16 q1 a2 s.1 s.2.1 s.2.2) 5000 ((u1 q1 3), (0 : Int32), u1)
set_option maxRecDepth 100000 in
theorem mX1_idleFor_ok {l : Launch} {G : ab_G} {S : ab_S} {I : ab_I} {J : ab_J} {P : ab_P} {Q : ab_Q} {q1 : Nat} {a2 : Int32} (hB : bz_B S P) (hq1 : bz_st S P q1) {x : Int32 × ab_I} (H : fX1_idleFor q1 a2 I = some x) (K0 : Q (some (.int x.1)) S x.2 J P) : ab_Call l G mX1_idleFor 5 [.ref 25, .ref q1, .int a2] S I J P Q := by
  unfold fX1_idleFor at H
  refine ab_enter rfl (Nat.le_of_ble_eq_true rfl) (ab_wk (ls' := [some (.ref 25), some (.ref q1), some (.int a2), none, none, none]) (ab_le_some (ab_le_some (ab_le_some (ab_le_non0 (ab_le_non0 (ab_le_non0 ab_le_nil)))))) ?_)
  refine ab_aload_n (z := 0) (by decide +kernel) rfl rfl ?_
  refine gX1_2 (ix := 12) (by decide +kernel) tw_283 (hB.1 25 _ rfl) (hB.2.1 34 (25, 2, 26) rfl) ?_
  refine ab_aload_n (z := 1) (by decide +kernel) rfl rfl ?_
  obtain ⟨u1, hu1, H⟩ := ab_bd_of H
  refine kvX6_copyFrom (D := 1) (ix := 39) (by decide +kernel) tw_653 (bz_st_26 hB).1 (by decide) (Nat.le_of_ble_eq_true rfl) (mX6_copyFrom_ok hB (bz_st_26 hB) hq1 hu1 ?_)
  change ab_WP l G mX1_idleFor 5 8 [some (.ref 25), some (.ref q1), some (.int a2), none, none, none] [] S u1 J P 0 0 Q
  refine ab_aload_n (z := 1) (by decide +kernel) rfl rfl ?_
  refine gX6_3 (ix := 49) (by decide +kernel) tw_254 hq1.1 ?_
  refine ab_istore_n (z := 3) (by decide +kernel) rfl (by decide) rfl ?_
  refine ab_ls (ls' := [some (.ref 25), some (.ref q1), some (.int a2), some (.int (u1 q1 3)), none, none]) rfl ?_
  refine ab_iconst (z := 0) (v := (0 : Int32)) (by decide +kernel) (by decide) ?_
  refine ab_istore (i := 4) (by decide +kernel) (by decide) rfl ?_
  refine ab_ls (ls' := [some (.ref 25), some (.ref q1), some (.int a2), some (.int (u1 q1 3)), some (.int (0 : Int32)), none]) rfl ?_
  exact ab_wk (ab_le_some (ab_le_some (ab_le_some (ab_le_some (ab_le_some (ab_le_none (ab_le_nil))))))) (ab_iter (body := (fun s => fX1_idleFor_16 q1 a2 s.1 s.2.1 s.2.2)) (W := fun s => ab_WP l G mX1_idleFor 5 16 [some (.ref 25), some (.ref q1), some (.int a2), some (.int s.1), some (.int s.2.1), none] [] S s.2.2 J P 0 0 Q) (fun s y hb h1 h2 => fX1_idleFor_16_ok hB hq1 hb h1 (fun r e => by have e2 := h2 _ e; subst e2; exact K0)) 5000 ((u1 q1 3), (0 : Int32), u1) H)
abbrev mX11_slight : ab_M := (yX11_slight, cX11_slight, 2, some .int, 0, 0)
def fX11_slight_26 (a1 : Int32) (P : ab_P) (s0 : Int32) (I : ab_I) : Option (Int32 × ab_I) :=
  some (s0, I)
set_option maxRecDepth 100000 in
theorem fX11_slight_26_ok {l : Launch} {G : ab_G} {S : ab_S} {I : ab_I} {J : ab_J} {P : ab_P} {Q : ab_Q} {a1 : Int32} {s0 : Int32} (hB : bz_B S P) {x : Int32 × ab_I} (H : fX11_slight_26 a1 P s0 I = some x) (K0 : Q (some (.int x.1)) S x.2 J P) : ab_WP l G mX11_slight 6 26 [some (.ref 0), some (.int a1)] [.int s0] S I J P 0 0 Q := by
  unfold fX11_slight_26 at H
  obtain rfl := Option.some.inj H
  exact ab_iret (by decide +kernel) rfl (Nat.le_refl _) (Nat.le_refl _) K0
def fX11_slight (a1 : Int32) (I : ab_I) (P : ab_P) : Option (Int32 × ab_I) :=
  (fX11_within a1 (0 : Int32) (60 : Int32)).bind fun u1 =>
  if u1 = 0 then
    fX11_slight_26 a1 P (-1 : Int32) I
  else
    (P 0 12).bind fun z2 =>
    (fX1_idleFor z2 a1 I).bind fun u3 =>
    fX11_slight_26 a1 P u3.1 u3.2
set_option maxRecDepth 100000 in
theorem mX11_slight_ok {l : Launch} {G : ab_G} {S : ab_S} {I : ab_I} {J : ab_J} {P : ab_P} {Q : ab_Q} {a1 : Int32} (hB : bz_B S P) {x : Int32 × ab_I} (H : fX11_slight a1 I P = some x) (K0 : Q (some (.int x.1)) S x.2 J P) : ab_Call l G mX11_slight 6 [.ref 0, .int a1] S I J P Q := by
  unfold fX11_slight at H
  refine ab_enter rfl (Nat.le_of_ble_eq_true rfl) (ab_wk (ls' := [some (.ref 0), some (.int a1)]) (ab_le_some (ab_le_some (ab_le_nil))) ?_)
  refine ab_iload_n (z := 1) (by decide +kernel) rfl rfl ?_
  refine ab_iconst (z := 0) (v := (0 : Int32)) (by decide +kernel) (by decide) ?_
  refine ab_bipush (z := 60) (v := (60 : Int32)) (by decide +kernel) (by decide) ?_
  obtain ⟨u1, hu1, H⟩ := ab_bd_of H
  refine ksX11_within (D := 0) (ix := 191) (by decide +kernel) tw_746 (by decide) (Nat.le_of_ble_eq_true rfl) (mX11_within_ok hB hu1 ?_)
  change ab_WP l G mX11_slight 6 7 [some (.ref 0), some (.int a1)] [.int u1] S I J P 0 0 Q
  refine ab_if_eq (off := 18) (tgt := 25) (by decide +kernel) rfl (fun hc => ?_) (fun hc => ?_)
  · replace H := ab_ifp H hc
    refine ab_iconst (z := -1) (v := (-1 : Int32)) (by decide +kernel) (by decide) ?_
    exact ab_wk (ab_le_some (ab_le_some (ab_le_nil))) (fX11_slight_26_ok hB H  K0)
  · replace H := ab_ifn H hc
    refine ab_aload_n (z := 0) (by decide +kernel) rfl rfl ?_
    refine gX11_4 (ix := 46) (by decide +kernel) tw_412 (hB.1 0 _ rfl) (hB.2.1 4 (0, 4, 25) rfl) ?_
    refine ab_aload_n (z := 0) (by decide +kernel) rfl rfl ?_
    obtain ⟨z2, hz2, H⟩ := ab_bd_of H
    refine gX11_12 (ix := 89) (by decide +kernel) tw_420 (hB.1 0 _ rfl) hz2 ?_
    have sz2 := hB.2.2.1 _ hz2
    refine ab_iload_n (z := 1) (by decide +kernel) rfl rfl ?_
    obtain ⟨u3, hu3, H⟩ := ab_bd_of H
    refine kvX1_idleFor (D := 5) (ix := 276) (by decide +kernel) tw_909 (hB.1 25 _ rfl) (by decide) (Nat.le_of_ble_eq_true rfl) (mX1_idleFor_ok hB sz2 hu3 ?_)
    change ab_WP l G mX11_slight 6 22 [some (.ref 0), some (.int a1)] [.int u3.1] S u3.2 J P 0 0 Q
    refine ab_goto (off := 4) (tgt := 26) (by decide +kernel) rfl ?_
    exact ab_wk (ab_le_some (ab_le_some (ab_le_nil))) (fX11_slight_26_ok hB H  K0)
abbrev mX3_greatList : ab_M := (yX3_greatList, cX3_greatList, 4, none, 0, 0)
theorem kvX3_greatList {l : Launch} {G : ab_G} {M : ab_M} {d pc : Nat} {ls : List (Option Value)} {st : List Value} {S : ab_S} {I : ab_I} {J : ab_J} {P : ab_P} {Q : ab_Q} {v0 : Value} {ix D r ln : Nat} (hd : decode M.2.1 pc = .ok (.invokevirtual ix, 3)) (h1 : Cond.methodLink M.1.cls ix mX3_greatList.1 ∈ ab_good) (hs : S[r]? = some (8, ln)) (hdg : D + 1 ≤ d) (hsum : (st.map fun v => v.category).sum ≤ 8) (kk : ab_Call l G mX3_greatList D (.ref r :: [v0]) S I J P (fun v S' I' J' P' => ab_WP l G M d (pc + 3) ls (ab_psh v st) S' I' J' P' 0 0 Q)) : ab_WP l G M d pc ls (v0 :: .ref r :: st) S I J P 0 0 Q := bz_kv (g := mX3_greatList) (as := [v0]) (cc := 3) rfl hd h1 tw_918 tw_919 tw_10 tw_920 ⟨by decide +kernel, by decide +kernel, (by decide +kernel : (parseMethodDescriptor mX3_greatList.1.desc).map (fun d => d.parameters.length) = some 1)⟩ (by decide) rfl rfl rfl hdg hsum hs kk
def fX3_greatList_74 (q1 : Nat) (I : ab_I) : Option ab_I :=
  some I
set_option maxRecDepth 100000 in
theorem fX3_greatList_74_ok {l : Launch} {G : ab_G} {S : ab_S} {I : ab_I} {J : ab_J} {P : ab_P} {Q : ab_Q} {q1 : Nat} (hB : bz_B S P) (hq1 : bz_st S P q1) {x : ab_I} (H : fX3_greatList_74 q1 I = some x) (K0 : Q none S x J P) : ab_WP l G mX3_greatList 0 74 [some (.ref 34), some (.ref q1), none, none] [] S I J P 0 0 Q := by
  unfold fX3_greatList_74 at H
  obtain rfl := Option.some.inj H
  exact ab_vret (by decide +kernel) rfl (Nat.le_refl _) (Nat.le_refl _) K0
def fX3_greatList_61 (q1 : Nat) (a2 : Int32) (a3 : Int32) (I : ab_I) : Option ((Int32 × ab_I) ⊕ ab_I) :=
  ab_gd (ab_ix a3 6 = true) (
    some (.inl ((a2 + (1 : Int32)), (ab_u I 40 a3.toNatClampNeg a2)))
  )
set_option maxRecDepth 100000 in
theorem fX3_greatList_61_ok {l : Launch} {G : ab_G} {S : ab_S} {I : ab_I} {J : ab_J} {P : ab_P} {Q : ab_Q} {q1 : Nat} {a2 : Int32} {a3 : Int32} (hB : bz_B S P) (hq1 : bz_st S P q1) {x : ((Int32 × ab_I) ⊕ ab_I)} (H : fX3_greatList_61 q1 a2 a3 I = some x) (K1 : ∀ s, x = (.inl s) → ab_WP l G mX3_greatList 0 2 [some (.ref 34), some (.ref q1), some (.int s.1), none] [] S s.2 J P 0 0 Q) (K0 : ∀ r, x = (.inr r) → Q none S r J P) : ab_WP l G mX3_greatList 0 61 [some (.ref 34), some (.ref q1), some (.int a2), some (.int a3)] [] S I J P 0 0 Q := by
  unfold fX3_greatList_61 at H
  refine ab_aload_n (z := 0) (by decide +kernel) rfl rfl ?_
  refine gX3_4 (ix := 22) (by decide +kernel) tw_317 (hB.1 34 _ rfl) (hB.2.1 46 (34, 4, 40) rfl) ?_
  refine ab_iload_n (z := 3) (by decide +kernel) rfl rfl ?_
  refine ab_iload_n (z := 2) (by decide +kernel) rfl rfl ?_
  obtain ⟨hg, H⟩ := ab_gd_of H
  refine ab_iast (ln := 6) (by decide +kernel) (hB.1 40 _ rfl) (ab_ix_in hg) ?_
  refine ab_iinc (i := 2) (z := 1) (v := (a2 + (1 : Int32))) (by decide +kernel) rfl rfl (by decide) rfl ?_
  refine ab_ls (ls' := [some (.ref 34), some (.ref q1), some (.int (a2 + (1 : Int32))), some (.int a3)]) rfl ?_
  refine ab_goto (off := -69) (tgt := 2) (by decide +kernel) rfl ?_
  exact ab_wk (ab_le_some (ab_le_some (ab_le_some (ab_le_none (ab_le_nil))))) (K1 ((a2 + (1 : Int32)), (ab_u I 40 a3.toNatClampNeg a2)) (Option.some.inj H).symm)
def fX3_greatList_15 (q1 : Nat) (a2 : Int32) (a3 : Int32) (I : ab_I) : Option ((Int32 × Int32 × ab_I) ⊕ ((Int32 × ab_I) ⊕ ab_I)) :=
  if a3 ≤ 0 then
    (fX3_greatList_61 q1 a2 a3 I).map .inr
  else
    ab_gd (ab_ix (a3 - (1 : Int32)) 6 = true) (
      ab_gd (ab_ix (I 40 ((a3 - (1 : Int32)).toNatClampNeg)) 6 = true) (
        ab_gd (ab_ix a2 6 = true) (
          if (I (q1 + 2) a2.toNatClampNeg) ≤ (I (q1 + 2) ((I 40 ((a3 - (1 : Int32)).toNatClampNeg)).toNatClampNeg)) then
            (fX3_greatList_61 q1 a2 a3 I).map .inr
          else
            ab_gd (ab_ix (a3 - (1 : Int32)) 6 = true) (
              ab_gd (ab_ix a3 6 = true) (
                some (.inl (a2, (a3 + (-1 : Int32)), (ab_u I 40 a3.toNatClampNeg (I 40 ((a3 - (1 : Int32)).toNatClampNeg)))))
              )
            )
        )
      )
    )
set_option maxRecDepth 100000 in
theorem fX3_greatList_15_ok {l : Launch} {G : ab_G} {S : ab_S} {I : ab_I} {J : ab_J} {P : ab_P} {Q : ab_Q} {q1 : Nat} {a2 : Int32} {a3 : Int32} (hB : bz_B S P) (hq1 : bz_st S P q1) {x : ((Int32 × Int32 × ab_I) ⊕ ((Int32 × ab_I) ⊕ ab_I))} (H : fX3_greatList_15 q1 a2 a3 I = some x) (K2 : ∀ s, x = (.inl s) → ab_WP l G mX3_greatList 0 15 [some (.ref 34), some (.ref q1), some (.int s.1), some (.int s.2.1)] [] S s.2.2 J P 0 0 Q) (K1 : ∀ s, x = (.inr (.inl s)) → ab_WP l G mX3_greatList 0 2 [some (.ref 34), some (.ref q1), some (.int s.1), none] [] S s.2 J P 0 0 Q) (K0 : ∀ r, x = (.inr (.inr r)) → Q none S r J P) : ab_WP l G mX3_greatList 0 15 [some (.ref 34), some (.ref q1), some (.int a2), some (.int a3)] [] S I J P 0 0 Q := by
  unfold fX3_greatList_15 at H
  refine ab_iload_n (z := 3) (by decide +kernel) rfl rfl ?_
  refine ab_if_le (off := 45) (tgt := 61) (by decide +kernel) rfl (fun hc => ?_) (fun hc => ?_)
  · replace H := ab_ifp H hc
    obtain ⟨y2, Hy, hx⟩ := ab_mp_of H
    subst hx
    replace H := Hy
    exact ab_wk (ab_le_some (ab_le_some (ab_le_some (ab_le_some (ab_le_nil))))) (fX3_greatList_61_ok hB hq1 H (fun s e => K1 s (by rw [e])) (fun r e => K0 r (by rw [e])))
  · replace H := ab_ifn H hc
    refine ab_aload_n (z := 1) (by decide +kernel) rfl rfl ?_
    refine gX6_1 (ix := 106) (by decide +kernel) tw_244 hq1.1 hq1.2.2.2.2.2.1 ?_
    refine ab_aload_n (z := 0) (by decide +kernel) rfl rfl ?_
    refine gX3_4 (ix := 22) (by decide +kernel) tw_317 (hB.1 34 _ rfl) (hB.2.1 46 (34, 4, 40) rfl) ?_
    refine ab_iload_n (z := 3) (by decide +kernel) rfl rfl ?_
    refine ab_iconst (z := 1) (v := (1 : Int32)) (by decide +kernel) (by decide) ?_
    refine ab_isub (by decide +kernel) ?_
    obtain ⟨hg, H⟩ := ab_gd_of H
    refine ab_iald (ln := 6) (by decide +kernel) (hB.1 40 _ rfl) (ab_ix_in hg) ?_
    obtain ⟨hg, H⟩ := ab_gd_of H
    refine ab_iald (ln := 6) (by decide +kernel) hq1.2.2.1 (ab_ix_in hg) ?_
    refine ab_aload_n (z := 1) (by decide +kernel) rfl rfl ?_
    refine gX6_1 (ix := 106) (by decide +kernel) tw_244 hq1.1 hq1.2.2.2.2.2.1 ?_
    refine ab_iload_n (z := 2) (by decide +kernel) rfl rfl ?_
    obtain ⟨hg, H⟩ := ab_gd_of H
    refine ab_iald (ln := 6) (by decide +kernel) hq1.2.2.1 (ab_ix_in hg) ?_
    refine ab_icmp_ge (off := 23) (tgt := 61) (by decide +kernel) rfl (fun hc => ?_) (fun hc => ?_)
    · replace H := ab_ifp H hc
      obtain ⟨y3, Hy, hx⟩ := ab_mp_of H
      subst hx
      replace H := Hy
      exact ab_wk (ab_le_some (ab_le_some (ab_le_some (ab_le_some (ab_le_nil))))) (fX3_greatList_61_ok hB hq1 H (fun s e => K1 s (by rw [e])) (fun r e => K0 r (by rw [e])))
    · replace H := ab_ifn H hc
      refine ab_aload_n (z := 0) (by decide +kernel) rfl rfl ?_
      refine gX3_4 (ix := 22) (by decide +kernel) tw_317 (hB.1 34 _ rfl) (hB.2.1 46 (34, 4, 40) rfl) ?_
      refine ab_iload_n (z := 3) (by decide +kernel) rfl rfl ?_
      refine ab_aload_n (z := 0) (by decide +kernel) rfl rfl ?_
      refine gX3_4 (ix := 22) (by decide +kernel) tw_317 (hB.1 34 _ rfl) (hB.2.1 46 (34, 4, 40) rfl) ?_
      refine ab_iload_n (z := 3) (by decide +kernel) rfl rfl ?_
      refine ab_iconst (z := 1) (v := (1 : Int32)) (by decide +kernel) (by decide) ?_
      refine ab_isub (by decide +kernel) ?_
      obtain ⟨hg, H⟩ := ab_gd_of H
      refine ab_iald (ln := 6) (by decide +kernel) (hB.1 40 _ rfl) (ab_ix_in hg) ?_
      obtain ⟨hg, H⟩ := ab_gd_of H
      refine ab_iast (ln := 6) (by decide +kernel) (hB.1 40 _ rfl) (ab_ix_in hg) ?_
      refine ab_iinc (i := 3) (z := -1) (v := (a3 + (-1 : Int32))) (by decide +kernel) rfl rfl (by decide) rfl ?_
      refine ab_ls (ls' := [some (.ref 34), some (.ref q1), some (.int a2), some (.int (a3 + (-1 : Int32)))]) rfl ?_
      refine ab_goto (off := -43) (tgt := 15) (by decide +kernel) rfl ?_
      exact ab_wk (ab_le_some (ab_le_some (ab_le_some (ab_le_some (ab_le_nil))))) (K2 (a2, (a3 + (-1 : Int32)), (ab_u I 40 a3.toNatClampNeg (I 40 ((a3 - (1 : Int32)).toNatClampNeg)))) (Option.some.inj H).symm)
def fX3_greatList_2 (q1 : Nat) (a2 : Int32) (I : ab_I) : Option ((Int32 × ab_I) ⊕ ab_I) :=
  if (I 3 4) ≤ a2 then
    (fX3_greatList_74 q1 I).map .inr
  else
    ab_it (fun s => fX3_greatList_15 q1 s.1 s.2.1 s.2.2) 5000 (a2, a2, I)
set_option maxRecDepth 100000 in
theorem fX3_greatList_2_ok {l : Launch} {G : ab_G} {S : ab_S} {I : ab_I} {J : ab_J} {P : ab_P} {Q : ab_Q} {q1 : Nat} {a2 : Int32} (hB : bz_B S P) (hq1 : bz_st S P q1) {x : ((Int32 × ab_I) ⊕ ab_I)} (H : fX3_greatList_2 q1 a2 I = some x) (K1 : ∀ s, x = (.inl s) → ab_WP l G mX3_greatList 0 2 [some (.ref 34), some (.ref q1), some (.int s.1), none] [] S s.2 J P 0 0 Q) (K0 : ∀ r, x = (.inr r) → Q none S r J P) : ab_WP l G mX3_greatList 0 2 [some (.ref 34), some (.ref q1), some (.int a2), none] [] S I J P 0 0 Q := by
  unfold fX3_greatList_2 at H
  refine ab_iload_n (z := 2) (by decide +kernel) rfl rfl ?_
  refine ab_aload_n (z := 0) (by decide +kernel) rfl rfl ?_
  refine gX3_0 (ix := 32) (by decide +kernel) tw_313 (hB.1 34 _ rfl) (hB.2.1 42 (34, 0, 3) rfl) ?_
  refine gX9_4 (ix := 79) (by decide +kernel) tw_90 (hB.1 3 _ rfl) ?_
  refine ab_icmp_ge (off := 64) (tgt := 74) (by decide +kernel) rfl (fun hc => ?_) (fun hc => ?_)
  · replace H := ab_ifp H hc
    obtain ⟨y1, Hy, hx⟩ := ab_mp_of H
    subst hx
    replace H := Hy
    exact ab_wk (ab_le_some (ab_le_some (ab_le_none (ab_le_none (ab_le_nil))))) (fX3_greatList_74_ok hB hq1 H  (K0 _ rfl))
  · replace H := ab_ifn H hc
    refine ab_iload_n (z := 2) (by decide +kernel) rfl rfl ?_
    refine ab_istore_n (z := 3) (by decide +kernel) rfl (by decide) rfl ?_
    refine ab_ls (ls' := [some (.ref 34), some (.ref q1), some (.int a2), some (.int a2)]) rfl ?_
    exact ab_wk (ab_le_some (ab_le_some (ab_le_some (ab_le_some (ab_le_nil))))) (ab_iter (body := (fun s => fX3_greatList_15 q1 s.1 s.2.1 s.2.2)) (W := fun s => ab_WP l G mX3_greatList 0 15 [some (.ref 34), some (.ref q1), some (.int s.1), some (.int s.2.1)] [] S s.2.2 J P 0 0 Q) (fun s y hb h1 h2 => fX3_greatList_15_ok hB hq1 hb h1 (fun s e => K1 s (h2 _ e).symm) (fun r e => K0 r (h2 _ e).symm)) 5000 (a2, a2, I) H)
def fX3_greatList (q1 : Nat) (I : ab_I) : Option ab_I :=
  ab_it (fun s => fX3_greatList_2 q1 s.1 s.2) 5000 ((0 : Int32), I)
set_option maxRecDepth 100000 in
theorem mX3_greatList_ok {l : Launch} {G : ab_G} {S : ab_S} {I : ab_I} {J : ab_J} {P : ab_P} {Q : ab_Q} {q1 : Nat} (hB : bz_B S P) (hq1 : bz_st S P q1) {x : ab_I} (H : fX3_greatList q1 I = some x) (K0 : Q none S x J P) : ab_Call l G mX3_greatList 0 [.ref 34, .ref q1] S I J P Q := by
  unfold fX3_greatList at H
  refine ab_enter rfl (Nat.le_of_ble_eq_true rfl) (ab_wk (ls' := [some (.ref 34), some (.ref q1), none, none]) (ab_le_some (ab_le_some (ab_le_non0 (ab_le_non0 ab_le_nil)))) ?_)
  refine ab_iconst (z := 0) (v := (0 : Int32)) (by decide +kernel) (by decide) ?_
  refine ab_istore_n (z := 2) (by decide +kernel) rfl (by decide) rfl ?_
  refine ab_ls (ls' := [some (.ref 34), some (.ref q1), some (.int (0 : Int32)), none]) rfl ?_
  exact ab_wk (ab_le_some (ab_le_some (ab_le_some (ab_le_none (ab_le_nil))))) (ab_iter (body := (fun s => fX3_greatList_2 q1 s.1 s.2)) (W := fun s => ab_WP l G mX3_greatList 0 2 [some (.ref 34), some (.ref q1), some (.int s.1), none] [] S s.2 J P 0 0 Q) (fun s y hb h1 h2 => fX3_greatList_2_ok hB hq1 hb h1 (fun r e => by have e2 := h2 _ e; subst e2; exact K0)) 5000 ((0 : Int32), I) H)
abbrev mX11_list : ab_M := (yX11_list, cX11_list, 1, some .int, 0, 0)
def fX11_list (I : ab_I) (P : ab_P) : Option (Int32 × ab_I) :=
  (P 0 12).bind fun z1 =>
  (fX3_greatList z1 I).bind fun u2 =>
  (fX11_layDown 40 6 (u2 3 4) u2).bind fun u3 =>
  some ((u3 3 4), u3)
set_option maxRecDepth 100000 in
theorem mX11_list_ok {l : Launch} {G : ab_G} {S : ab_S} {I : ab_I} {J : ab_J} {P : ab_P} {Q : ab_Q} (hB : bz_B S P) {x : Int32 × ab_I} (H : fX11_list I P = some x) (K0 : Q (some (.int x.1)) S x.2 J P) : ab_Call l G mX11_list 2 [.ref 0] S I J P Q := by
  unfold fX11_list at H
  refine ab_enter rfl (Nat.le_of_ble_eq_true rfl) (ab_wk (ls' := [some (.ref 0)]) (ab_le_some (ab_le_nil)) ?_)
  refine ab_aload_n (z := 0) (by decide +kernel) rfl rfl ?_
  refine gX11_5 (ix := 53) (by decide +kernel) tw_413 (hB.1 0 _ rfl) (hB.2.1 5 (0, 5, 34) rfl) ?_
  refine ab_aload_n (z := 0) (by decide +kernel) rfl rfl ?_
  obtain ⟨z1, hz1, H⟩ := ab_bd_of H
  refine gX11_12 (ix := 89) (by decide +kernel) tw_420 (hB.1 0 _ rfl) hz1 ?_
  have sz1 := hB.2.2.1 _ hz1
  obtain ⟨u2, hu2, H⟩ := ab_bd_of H
  refine kvX3_greatList (D := 0) (ix := 279) (by decide +kernel) tw_917 (hB.1 34 _ rfl) (by decide) (Nat.le_of_ble_eq_true rfl) (mX3_greatList_ok hB sz1 hu2 ?_)
  change ab_WP l G mX11_list 2 11 [some (.ref 0)] [] S u2 J P 0 0 Q
  refine ab_aload_n (z := 0) (by decide +kernel) rfl rfl ?_
  refine ab_aload_n (z := 0) (by decide +kernel) rfl rfl ?_
  refine gX11_5 (ix := 53) (by decide +kernel) tw_413 (hB.1 0 _ rfl) (hB.2.1 5 (0, 5, 34) rfl) ?_
  refine gX3_4 (ix := 229) (by decide +kernel) tw_318 (hB.1 34 _ rfl) (hB.2.1 46 (34, 4, 40) rfl) ?_
  refine ab_aload_n (z := 0) (by decide +kernel) rfl rfl ?_
  refine gX11_1 (ix := 19) (by decide +kernel) tw_409 (hB.1 0 _ rfl) (hB.2.1 1 (0, 1, 3) rfl) ?_
  refine gX9_4 (ix := 126) (by decide +kernel) tw_88 (hB.1 3 _ rfl) ?_
  obtain ⟨u3, hu3, H⟩ := ab_bd_of H
  refine kvX11_layDown (D := 1) (ix := 235) (by decide +kernel) tw_817 (hB.1 0 _ rfl) (by decide) (Nat.le_of_ble_eq_true rfl) (mX11_layDown_ok hB (hB.1 40 _ rfl) hu3 ?_)
  change ab_WP l G mX11_list 2 29 [some (.ref 0)] [] S u3 J P 0 0 Q
  refine ab_aload_n (z := 0) (by decide +kernel) rfl rfl ?_
  refine gX11_1 (ix := 19) (by decide +kernel) tw_409 (hB.1 0 _ rfl) (hB.2.1 1 (0, 1, 3) rfl) ?_
  refine gX9_4 (ix := 126) (by decide +kernel) tw_88 (hB.1 3 _ rfl) ?_
  obtain rfl := Option.some.inj H
  exact ab_iret (by decide +kernel) rfl (Nat.le_refl _) (Nat.le_refl _) K0
abbrev mX1_silentNextDay : ab_M := (yX1_silentNextDay, cX1_silentNextDay, 2, some .int, 0, 0)
theorem kvX1_silentNextDay {l : Launch} {G : ab_G} {M : ab_M} {d pc : Nat} {ls : List (Option Value)} {st : List Value} {S : ab_S} {I : ab_I} {J : ab_J} {P : ab_P} {Q : ab_Q} {v0 : Value} {ix D r ln : Nat} (hd : decode M.2.1 pc = .ok (.invokevirtual ix, 3)) (h1 : Cond.methodLink M.1.cls ix mX1_silentNextDay.1 ∈ ab_good) (hs : S[r]? = some (6, ln)) (hdg : D + 1 ≤ d) (hsum : (st.map fun v => v.category).sum ≤ 8) (kk : ab_Call l G mX1_silentNextDay D (.ref r :: [v0]) S I J P (fun v S' I' J' P' => ab_WP l G M d (pc + 3) ls (ab_psh v st) S' I' J' P' 0 0 Q)) : ab_WP l G M d pc ls (v0 :: .ref r :: st) S I J P 0 0 Q := bz_kv (g := mX1_silentNextDay) (as := [v0]) (cc := 1) rfl hd h1 tw_926 tw_927 tw_8 tw_928 ⟨by decide +kernel, by decide +kernel, (by decide +kernel : (parseMethodDescriptor mX1_silentNextDay.1.desc).map (fun d => d.parameters.length) = some 1)⟩ (by decide) rfl rfl rfl hdg hsum hs kk
def fX1_silentNextDay (q1 : Nat) (I : ab_I) : Option (Int32 × ab_I) :=
  (fX1_passWithout q1 (0 : Int32) I).bind fun u1 =>
  (fX5_rungBy (-1 : Int32) u1.2).bind fun u2 =>
  some (u2, u1.2)
set_option maxRecDepth 100000 in
theorem mX1_silentNextDay_ok {l : Launch} {G : ab_G} {S : ab_S} {I : ab_I} {J : ab_J} {P : ab_P} {Q : ab_Q} {q1 : Nat} (hB : bz_B S P) (hq1 : bz_st S P q1) {x : Int32 × ab_I} (H : fX1_silentNextDay q1 I = some x) (K0 : Q (some (.int x.1)) S x.2 J P) : ab_Call l G mX1_silentNextDay 6 [.ref 25, .ref q1] S I J P Q := by
  unfold fX1_silentNextDay at H
  refine ab_enter rfl (Nat.le_of_ble_eq_true rfl) (ab_wk (ls' := [some (.ref 25), some (.ref q1)]) (ab_le_some (ab_le_some (ab_le_nil))) ?_)
  refine ab_aload_n (z := 0) (by decide +kernel) rfl rfl ?_
  refine ab_aload_n (z := 1) (by decide +kernel) rfl rfl ?_
  refine ab_iconst (z := 0) (v := (0 : Int32)) (by decide +kernel) (by decide) ?_
  obtain ⟨u1, hu1, H⟩ := ab_bd_of H
  refine kvX1_passWithout (D := 5) (ix := 53) (by decide +kernel) tw_649 (hB.1 25 _ rfl) (by decide) (Nat.le_of_ble_eq_true rfl) (mX1_passWithout_ok hB hq1 hu1 ?_)
  change ab_WP l G mX1_silentNextDay 6 6 [some (.ref 25), some (.ref q1)] [.int u1.1] S u1.2 J P 0 0 Q
  refine ab_pop (by decide +kernel) rfl ?_
  refine ab_aload_n (z := 0) (by decide +kernel) rfl rfl ?_
  refine gX1_1 (ix := 35) (by decide +kernel) tw_282 (hB.1 25 _ rfl) (hB.2.1 33 (25, 1, 23) rfl) ?_
  refine ab_iconst (z := -1) (v := (-1 : Int32)) (by decide +kernel) (by decide) ?_
  obtain ⟨u2, hu2, H⟩ := ab_bd_of H
  refine kvX5_rungBy (D := 0) (ix := 57) (by decide +kernel) tw_693 (hB.1 23 _ rfl) (by decide) (Nat.le_of_ble_eq_true rfl) (mX5_rungBy_ok hB hu2 ?_)
  change ab_WP l G mX1_silentNextDay 6 15 [some (.ref 25), some (.ref q1)] [.int u2] S u1.2 J P 0 0 Q
  obtain rfl := Option.some.inj H
  exact ab_iret (by decide +kernel) rfl (Nat.le_refl _) (Nat.le_refl _) K0
abbrev mX11_silent : ab_M := (yX11_silent, cX11_silent, 1, some .int, 0, 0)
def fX11_silent (I : ab_I) (P : ab_P) : Option (Int32 × ab_I) :=
  (P 0 12).bind fun z1 =>
  (fX1_silentNextDay z1 I).bind fun u2 =>
  some (u2.1, u2.2)
set_option maxRecDepth 100000 in
theorem mX11_silent_ok {l : Launch} {G : ab_G} {S : ab_S} {I : ab_I} {J : ab_J} {P : ab_P} {Q : ab_Q} (hB : bz_B S P) {x : Int32 × ab_I} (H : fX11_silent I P = some x) (K0 : Q (some (.int x.1)) S x.2 J P) : ab_Call l G mX11_silent 7 [.ref 0] S I J P Q := by
  unfold fX11_silent at H
  refine ab_enter rfl (Nat.le_of_ble_eq_true rfl) (ab_wk (ls' := [some (.ref 0)]) (ab_le_some (ab_le_nil)) ?_)
  refine ab_aload_n (z := 0) (by decide +kernel) rfl rfl ?_
  refine gX11_4 (ix := 46) (by decide +kernel) tw_412 (hB.1 0 _ rfl) (hB.2.1 4 (0, 4, 25) rfl) ?_
  refine ab_aload_n (z := 0) (by decide +kernel) rfl rfl ?_
  obtain ⟨z1, hz1, H⟩ := ab_bd_of H
  refine gX11_12 (ix := 89) (by decide +kernel) tw_420 (hB.1 0 _ rfl) hz1 ?_
  have sz1 := hB.2.2.1 _ hz1
  obtain ⟨u2, hu2, H⟩ := ab_bd_of H
  refine kvX1_silentNextDay (D := 6) (ix := 282) (by decide +kernel) tw_925 (hB.1 25 _ rfl) (by decide) (Nat.le_of_ble_eq_true rfl) (mX1_silentNextDay_ok hB sz1 hu2 ?_)
  change ab_WP l G mX11_silent 7 11 [some (.ref 0)] [.int u2.1] S u2.2 J P 0 0 Q
  obtain rfl := Option.some.inj H
  exact ab_iret (by decide +kernel) rfl (Nat.le_refl _) (Nat.le_refl _) K0
