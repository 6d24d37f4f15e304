abbrev mX12_leftBy : ab_M := (yX12_leftBy, cX12_leftBy, 6, some .int, 0, 0)
theorem kvX12_leftBy {l : Launch} {G : ab_G} {M : ab_M} {d pc : Nat} {ls : List (Option Value)} {st : List Value} {S : ab_S} {I : ab_I} {J : ab_J} {P : ab_P} {Q : ab_Q} {v0 v1 : Value} {ix D r ln : Nat} (hd : decode M.2.1 pc = .ok (.invokevirtual ix, 3)) (h1 : Cond.methodLink M.1.cls ix mX12_leftBy.1 ∈ ab_good) (hs : S[r]? = some (17, ln)) (hdg : D + 1 ≤ d) (hsum : (st.map fun v => v.category).sum ≤ 8) (kk : ab_Call l G mX12_leftBy D (.ref r :: [v0, v1]) S I J P (fun v S' I' J' P' => ab_WP l G M d (pc + 3) ls (ab_psh v st) S' I' J' P' 0 0 Q)) : ab_WP l G M d pc ls (v1 :: v0 :: .ref r :: st) S I J P 0 0 Q := bz_kv (g := mX12_leftBy) (as := [v0, v1]) (cc := 12) rfl hd h1 tw_1768 tw_p90 tw_13 tw_1769 ⟨by decide +kernel, by decide +kernel, (by decide +kernel : (parseMethodDescriptor mX12_leftBy.1.desc).map (fun d => d.parameters.length) = some 2)⟩ (by decide) rfl rfl rfl hdg hsum hs kk
def fX12_leftBy_98 (a1 : Int32) (a2 : Int32) (a3 : Int32) (I : ab_I) : Option (Int32 × ab_I) :=
  some (a3, I)
set_option maxRecDepth 100000 in
theorem fX12_leftBy_98_ok {l : Launch} {G : ab_G} {S : ab_S} {I : ab_I} {J : ab_J} {P : ab_P} {Q : ab_Q} {a1 : Int32} {a2 : Int32} {a3 : Int32} (hB : bz_B S P) {x : Int32 × ab_I} (H : fX12_leftBy_98 a1 a2 a3 I = some x) (K0 : Q (some (.int x.1)) S x.2 J P) : ab_WP l G mX12_leftBy 1 98 [some (.ref 73), some (.int a1), some (.int a2), some (.int a3), none, none] [] S I J P 0 0 Q := by
  unfold fX12_leftBy_98 at H
  refine ab_iload_n (z := 3) (by decide +kernel) rfl rfl ?_
  obtain rfl := Option.some.inj H
  exact ab_iret (by decide +kernel) rfl (Nat.le_refl _) (Nat.le_refl _) K0
def fX12_leftBy_92 (a1 : Int32) (a2 : Int32) (a3 : Int32) (a4 : Int32) (I : ab_I) : Option ((Int32 × Int32 × ab_I) ⊕ (Int32 × ab_I)) :=
  some (.inl (a3, (a4 + (1 : Int32)), I))
set_option maxRecDepth 100000 in
theorem fX12_leftBy_92_ok {l : Launch} {G : ab_G} {S : ab_S} {I : ab_I} {J : ab_J} {P : ab_P} {Q : ab_Q} {a1 : Int32} {a2 : Int32} {a3 : Int32} {a4 : Int32} (hB : bz_B S P) {x : ((Int32 × Int32 × ab_I) ⊕ (Int32 × ab_I))} (H : fX12_leftBy_92 a1 a2 a3 a4 I = some x) (K1 : ∀ s, x = (.inl s) → ab_WP l G mX12_leftBy 1 26 [some (.ref 73), some (.int a1), some (.int a2), some (.int s.1), some (.int s.2.1), none] [] S s.2.2 J P 0 0 Q) (K0 : ∀ r, x = (.inr r) → Q (some (.int r.1)) S r.2 J P) : ab_WP l G mX12_leftBy 1 92 [some (.ref 73), some (.int a1), some (.int a2), some (.int a3), some (.int a4), none] [] S I J P 0 0 Q := by
  unfold fX12_leftBy_92 at H
  refine ab_iinc (i := 4) (z := 1) (v := (a4 + (1 : Int32))) (by decide +kernel) rfl rfl (by decide) rfl ?_
  refine ab_ls (ls' := [some (.ref 73), some (.int a1), some (.int a2), some (.int a3), some (.int (a4 + (1 : Int32))), none]) rfl ?_
  refine ab_goto (off := -69) (tgt := 26) (by decide +kernel) rfl ?_
  exact ab_wk (ab_le_some (ab_le_some (ab_le_some (ab_le_some (ab_le_some (ab_le_none (ab_le_nil))))))) (K1 (a3, (a4 + (1 : Int32)), I) (Option.some.inj H).symm)
def fX12_leftBy_91 (a1 : Int32) (a2 : Int32) (a4 : Int32) (s0 : Int32) (I : ab_I) : Option ((Int32 × Int32 × ab_I) ⊕ (Int32 × ab_I)) :=
  fX12_leftBy_92 a1 a2 s0 a4 I
set_option maxRecDepth 100000 in
theorem fX12_leftBy_91_ok {l : Launch} {G : ab_G} {S : ab_S} {I : ab_I} {J : ab_J} {P : ab_P} {Q : ab_Q} {a1 : Int32} {a2 : Int32} {a4 : Int32} {s0 : Int32} (hB : bz_B S P) {x : ((Int32 × Int32 × ab_I) ⊕ (Int32 × ab_I))} (H : fX12_leftBy_91 a1 a2 a4 s0 I = some x) (K1 : ∀ s, x = (.inl s) → ab_WP l G mX12_leftBy 1 26 [some (.ref 73), some (.int a1), some (.int a2), some (.int s.1), some (.int s.2.1), none] [] S s.2.2 J P 0 0 Q) (K0 : ∀ r, x = (.inr r) → Q (some (.int r.1)) S r.2 J P) : ab_WP l G mX12_leftBy 1 91 [some (.ref 73), some (.int a1), some (.int a2), none, some (.int a4), none] [.int s0] S I J P 0 0 Q := by
  unfold fX12_leftBy_91 at H
  refine ab_istore_n (z := 3) (by decide +kernel) rfl (by decide) rfl ?_
  refine ab_ls (ls' := [some (.ref 73), some (.int a1), some (.int a2), some (.int s0), some (.int a4), none]) rfl ?_
  exact ab_wk (ab_le_some (ab_le_some (ab_le_some (ab_le_some (ab_le_some (ab_le_none (ab_le_nil))))))) (fX12_leftBy_92_ok hB H K1 K0)
def fX12_leftBy_26 (a1 : Int32) (a2 : Int32) (a3 : Int32) (a4 : Int32) (I : ab_I) : Option ((Int32 × Int32 × ab_I) ⊕ (Int32 × ab_I)) :=
  if (20 : Int32) < a4 then
    (fX12_leftBy_98 a1 a2 a3 I).map .inr
  else
    ab_gd (ab_ix a4 21 = true) (
      if (I 106 a4.toNatClampNeg) = 0 then
        fX12_leftBy_92 a1 a2 a3 a4 I
      else
        (fX12_wasAt a4 a1 a2 I).bind fun u3 =>
        ab_gd (ab_ix (u3 + (1 : Int32)) 7 = true) (
          ab_gd (ab_ix (u3 + (1 : Int32)) 7 = true) (
            ab_gd (ab_ix (u3 + (1 : Int32)) 7 = true) (
              if ((ab_u I 105 ((u3 + (1 : Int32)).toNatClampNeg) ((I 105 ((u3 + (1 : Int32)).toNatClampNeg)) + (1 : Int32))) 105 ((u3 + (1 : Int32)).toNatClampNeg)) ≤ a3 then
                fX12_leftBy_91 a1 a2 a4 a3 (ab_u I 105 ((u3 + (1 : Int32)).toNatClampNeg) ((I 105 ((u3 + (1 : Int32)).toNatClampNeg)) + (1 : Int32)))
              else
                ab_gd (ab_ix (u3 + (1 : Int32)) 7 = true) (
                  fX12_leftBy_91 a1 a2 a4 ((ab_u I 105 ((u3 + (1 : Int32)).toNatClampNeg) ((I 105 ((u3 + (1 : Int32)).toNatClampNeg)) + (1 : Int32))) 105 ((u3 + (1 : Int32)).toNatClampNeg)) (ab_u I 105 ((u3 + (1 : Int32)).toNatClampNeg) ((I 105 ((u3 + (1 : Int32)).toNatClampNeg)) + (1 : Int32)))
                )
            )
          )
        )
    )
set_option maxRecDepth 100000 in
theorem fX12_leftBy_26_ok {l : Launch} {G : ab_G} {S : ab_S} {I : ab_I} {J : ab_J} {P : ab_P} {Q : ab_Q} {a1 : Int32} {a2 : Int32} {a3 : Int32} {a4 : Int32} (hB : bz_B S P) {x : ((Int32 × Int32 × ab_I) ⊕ (Int32 × ab_I))} (H : fX12_leftBy_26 a1 a2 a3 a4 I = some x) (K1 : ∀ s, x = (.inl s) → ab_WP l G mX12_leftBy 1 26 [some (.ref 73), some (.int a1), some (.int a2), some (.int s.1), some (.int s.2.1), none] [] S s.2.2 J P 0 0 Q) (K0 : ∀ r, x = (.inr r) → Q (some (.int r.1)) S r.2 J P) : ab_WP l G mX12_leftBy 1 26 [some (.ref 73), some (.int a1), some (.int a2), some (.int a3), some (.int a4), none] [] S I J P 0 0 Q := by
  unfold fX12_leftBy_26 at H
  refine ab_iload (i := 4) (by decide +kernel) rfl ?_
  refine ab_bipush (z := 20) (v := (20 : Int32)) (by decide +kernel) (by decide) ?_
  refine ab_icmp_gt (off := 68) (tgt := 98) (by decide +kernel) rfl (fun hc => ?_) (fun hc => ?_)
  · replace H := ab_ifp H hc
    obtain ⟨y2, Hy, hx⟩ := ab_mp_of H
    subst hx
    replace H := Hy
    exact ab_wk (ab_le_some (ab_le_some (ab_le_some (ab_le_some (ab_le_none (ab_le_none (ab_le_nil))))))) (fX12_leftBy_98_ok hB H  (K0 _ rfl))
  · replace H := ab_ifn H hc
    refine ab_aload_n (z := 0) (by decide +kernel) rfl rfl ?_
    refine gX12_68 (ix := 112) (by decide +kernel) tw_1149 (hB.1 73 _ rfl) (hB.2.1 111 (73, 68, 106) rfl) ?_
    refine ab_iload (i := 4) (by decide +kernel) rfl ?_
    obtain ⟨hg, H⟩ := ab_gd_of H
    refine ab_zald (ln := 21) (by decide +kernel) (hB.1 106 _ rfl) (ab_ix_in hg) ?_
    refine ab_if_ne (off := 6) (tgt := 46) (by decide +kernel) rfl (fun hc => ?_) (fun hc => ?_)
    · replace H := ab_ifn H hc
      refine ab_aload_n (z := 0) (by decide +kernel) rfl rfl ?_
      refine ab_iload (i := 4) (by decide +kernel) rfl ?_
      refine ab_iload_n (z := 1) (by decide +kernel) rfl rfl ?_
      refine ab_iload_n (z := 2) (by decide +kernel) rfl rfl ?_
      obtain ⟨u3, hu3, H⟩ := ab_bd_of H
      refine kvX12_wasAt (D := 0) (ix := 480) (by decide +kernel) tw_1754 (hB.1 73 _ rfl) (by decide) (Nat.le_of_ble_eq_true rfl) (mX12_wasAt_ok hB hu3 ?_)
      change ab_WP l G mX12_leftBy 1 54 [some (.ref 73), some (.int a1), some (.int a2), some (.int a3), some (.int a4), none] [.int u3] S I J P 0 0 Q
      refine ab_iconst (z := 1) (v := (1 : Int32)) (by decide +kernel) (by decide) ?_
      refine ab_iadd (by decide +kernel) ?_
      refine ab_istore (i := 5) (by decide +kernel) (by decide) rfl ?_
      refine ab_ls (ls' := [some (.ref 73), some (.int a1), some (.int a2), some (.int a3), some (.int a4), some (.int (u3 + (1 : Int32)))]) rfl ?_
      refine ab_aload_n (z := 0) (by decide +kernel) rfl rfl ?_
      refine gX12_67 (ix := 109) (by decide +kernel) tw_1148 (hB.1 73 _ rfl) (hB.2.1 110 (73, 67, 105) rfl) ?_
      refine ab_iload (i := 5) (by decide +kernel) rfl ?_
      refine ab_dup2 (by decide +kernel) rfl rfl ?_
      obtain ⟨hg, H⟩ := ab_gd_of H
      refine ab_iald (ln := 7) (by decide +kernel) (hB.1 105 _ rfl) (ab_ix_in hg) ?_
      refine ab_iconst (z := 1) (v := (1 : Int32)) (by decide +kernel) (by decide) ?_
      refine ab_iadd (by decide +kernel) ?_
      obtain ⟨hg, H⟩ := ab_gd_of H
      refine ab_iast (ln := 7) (by decide +kernel) (hB.1 105 _ rfl) (ab_ix_in hg) ?_
      refine ab_aload_n (z := 0) (by decide +kernel) rfl rfl ?_
      refine gX12_67 (ix := 109) (by decide +kernel) tw_1148 (hB.1 73 _ rfl) (hB.2.1 110 (73, 67, 105) rfl) ?_
      refine ab_iload (i := 5) (by decide +kernel) rfl ?_
      obtain ⟨hg, H⟩ := ab_gd_of H
      refine ab_iald (ln := 7) (by decide +kernel) (hB.1 105 _ rfl) (ab_ix_in hg) ?_
      refine ab_iload_n (z := 3) (by decide +kernel) rfl rfl ?_
      refine ab_icmp_le (off := 13) (tgt := 90) (by decide +kernel) rfl (fun hc => ?_) (fun hc => ?_)
      · replace H := ab_ifp H hc
        refine ab_iload_n (z := 3) (by decide +kernel) rfl rfl ?_
        exact ab_wk (ab_le_some (ab_le_some (ab_le_some (ab_le_none (ab_le_some (ab_le_none (ab_le_nil))))))) (fX12_leftBy_91_ok hB H K1 K0)
      · replace H := ab_ifn H hc
        refine ab_aload_n (z := 0) (by decide +kernel) rfl rfl ?_
        refine gX12_67 (ix := 109) (by decide +kernel) tw_1148 (hB.1 73 _ rfl) (hB.2.1 110 (73, 67, 105) rfl) ?_
        refine ab_iload (i := 5) (by decide +kernel) rfl ?_
        obtain ⟨hg, H⟩ := ab_gd_of H
        refine ab_iald (ln := 7) (by decide +kernel) (hB.1 105 _ rfl) (ab_ix_in hg) ?_
        refine ab_goto (off := 4) (tgt := 91) (by decide +kernel) rfl ?_
        exact ab_wk (ab_le_some (ab_le_some (ab_le_some (ab_le_none (ab_le_some (ab_le_none (ab_le_nil))))))) (fX12_leftBy_91_ok hB H K1 K0)
    · replace H := ab_ifp H hc
      refine ab_goto (off := 49) (tgt := 92) (by decide +kernel) rfl ?_
      exact ab_wk (ab_le_some (ab_le_some (ab_le_some (ab_le_some (ab_le_some (ab_le_none (ab_le_nil))))))) (fX12_leftBy_92_ok hB H K1 K0)
def fX12_leftBy_21 (a1 : Int32) (a2 : Int32) (I : ab_I) : Option (Int32 × ab_I) :=
  ab_it (fun s => fX12_leftBy_26 a1 a2 s.1 s.2.1 s.2.2) 5000 ((0 : Int32), (0 : Int32), I)
set_option maxRecDepth 100000 in
theorem fX12_leftBy_21_ok {l : Launch} {G : ab_G} {S : ab_S} {I : ab_I} {J : ab_J} {P : ab_P} {Q : ab_Q} {a1 : Int32} {a2 : Int32} (hB : bz_B S P) {x : Int32 × ab_I} (H : fX12_leftBy_21 a1 a2 I = some x) (K0 : Q (some (.int x.1)) S x.2 J P) : ab_WP l G mX12_leftBy 1 21 [some (.ref 73), some (.int a1), some (.int a2), none, none, none] [] S I J P 0 0 Q := by
  unfold fX12_leftBy_21 at H
  refine ab_iconst (z := 0) (v := (0 : Int32)) (by decide +kernel) (by decide) ?_
  refine ab_istore_n (z := 3) (by decide +kernel) rfl (by decide) rfl ?_
  refine ab_ls (ls' := [some (.ref 73), some (.int a1), some (.int a2), some (.int (0 : Int32)), none, none]) rfl ?_
  refine ab_iconst (z := 0) (v := (0 : Int32)) (by decide +kernel) (by decide) ?_
  refine ab_istore (i := 4) (by decide +kernel) (by decide) rfl ?_
  refine ab_ls (ls' := [some (.ref 73), some (.int a1), some (.int a2), some (.int (0 : Int32)), some (.int (0 : Int32)), none]) rfl ?_
  exact ab_wk (ab_le_some (ab_le_some (ab_le_some (ab_le_some (ab_le_some (ab_le_none (ab_le_nil))))))) (ab_iter (body := (fun s => fX12_leftBy_26 a1 a2 s.1 s.2.1 s.2.2)) (W := fun s => ab_WP l G mX12_leftBy 1 26 [some (.ref 73), some (.int a1), some (.int a2), some (.int s.1), some (.int s.2.1), none] [] S s.2.2 J P 0 0 Q) (fun s y hb h1 h2 => fX12_leftBy_26_ok hB hb h1 (fun r e => by have e2 := h2 _ e; subst e2; exact K0)) 5000 ((0 : Int32), (0 : Int32), I) H)
def fX12_leftBy_2 (a1 : Int32) (a2 : Int32) (a3 : Int32) (I : ab_I) : Option ((Int32 × ab_I) ⊕ (Int32 × ab_I)) :=
  if (7 : Int32) ≤ a3 then
    (fX12_leftBy_21 a1 a2 I).map .inr
  else
    ab_gd (ab_ix a3 7 = true) (
      some (.inl ((a3 + (1 : Int32)), (ab_u I 105 a3.toNatClampNeg (0 : Int32))))
    )
set_option maxRecDepth 100000 in
theorem fX12_leftBy_2_ok {l : Launch} {G : ab_G} {S : ab_S} {I : ab_I} {J : ab_J} {P : ab_P} {Q : ab_Q} {a1 : Int32} {a2 : Int32} {a3 : Int32} (hB : bz_B S P) {x : ((Int32 × ab_I) ⊕ (Int32 × ab_I))} (H : fX12_leftBy_2 a1 a2 a3 I = some x) (K1 : ∀ s, x = (.inl s) → ab_WP l G mX12_leftBy 1 2 [some (.ref 73), some (.int a1), some (.int a2), some (.int s.1), none, none] [] S s.2 J P 0 0 Q) (K0 : ∀ r, x = (.inr r) → Q (some (.int r.1)) S r.2 J P) : ab_WP l G mX12_leftBy 1 2 [some (.ref 73), some (.int a1), some (.int a2), some (.int a3), none, none] [] S I J P 0 0 Q := by
  unfold fX12_leftBy_2 at H
  refine ab_iload_n (z := 3) (by decide +kernel) rfl rfl ?_
  refine ab_bipush (z := 7) (v := (7 : Int32)) (by decide +kernel) (by decide) ?_
  refine ab_icmp_ge (off := 16) (tgt := 21) (by decide +kernel) rfl (fun hc => ?_) (fun hc => ?_)
  · replace H := ab_ifp H hc
    obtain ⟨y1, Hy, hx⟩ := ab_mp_of H
    subst hx
    replace H := Hy
    exact ab_wk (ab_le_some (ab_le_some (ab_le_some (ab_le_none (ab_le_none (ab_le_none (ab_le_nil))))))) (fX12_leftBy_21_ok hB H  (K0 _ rfl))
  · replace H := ab_ifn H hc
    refine ab_aload_n (z := 0) (by decide +kernel) rfl rfl ?_
    refine gX12_67 (ix := 109) (by decide +kernel) tw_1148 (hB.1 73 _ rfl) (hB.2.1 110 (73, 67, 105) rfl) ?_
    refine ab_iload_n (z := 3) (by decide +kernel) rfl rfl ?_
    refine ab_iconst (z := 0) (v := (0 : Int32)) (by decide +kernel) (by decide) ?_
    obtain ⟨hg, H⟩ := ab_gd_of H
    refine ab_iast (ln := 7) (by decide +kernel) (hB.1 105 _ rfl) (ab_ix_in hg) ?_
    refine ab_iinc (i := 3) (z := 1) (v := (a3 + (1 : Int32))) (by decide +kernel) rfl rfl (by decide) rfl ?_
    refine ab_ls (ls' := [some (.ref 73), some (.int a1), some (.int a2), some (.int (a3 + (1 : Int32))), none, none]) rfl ?_
    refine ab_goto (off := -16) (tgt := 2) (by decide +kernel) rfl ?_
    exact ab_wk (ab_le_some (ab_le_some (ab_le_some (ab_le_some (ab_le_none (ab_le_none (ab_le_nil))))))) (K1 ((a3 + (1 : Int32)), (ab_u I 105 a3.toNatClampNeg (0 : Int32))) (Option.some.inj H).symm)
def fX12_leftBy (a1 : Int32) (a2 : Int32) (I : ab_I) : Option (Int32 × ab_I) :=
  ab_it (fun s => fX12_leftBy_2 a1 a2 s.1 s.2) 5000 ((0 : Int32), I)
set_option maxRecDepth 100000 in
theorem mX12_leftBy_ok {l : Launch} {G : ab_G} {S : ab_S} {I : ab_I} {J : ab_J} {P : ab_P} {Q : ab_Q} {a1 : Int32} {a2 : Int32} (hB : bz_B S P) {x : Int32 × ab_I} (H : fX12_leftBy a1 a2 I = some x) (K0 : Q (some (.int x.1)) S x.2 J P) : ab_Call l G mX12_leftBy 1 [.ref 73, .int a1, .int a2] S I J P Q := by
  unfold fX12_leftBy at H
  refine ab_enter rfl (Nat.le_of_ble_eq_true rfl) (ab_wk (ls' := [some (.ref 73), some (.int a1), some (.int a2), none, none, none]) (ab_le_some (ab_le_some (ab_le_some (ab_le_non0 (ab_le_non0 (ab_le_non0 ab_le_nil)))))) ?_)
  refine ab_iconst (z := 0) (v := (0 : Int32)) (by decide +kernel) (by decide) ?_
  refine ab_istore_n (z := 3) (by decide +kernel) rfl (by decide) rfl ?_
  refine ab_ls (ls' := [some (.ref 73), some (.int a1), some (.int a2), some (.int (0 : Int32)), none, none]) rfl ?_
  exact ab_wk (ab_le_some (ab_le_some (ab_le_some (ab_le_some (ab_le_none (ab_le_none (ab_le_nil))))))) (ab_iter (body := (fun s => fX12_leftBy_2 a1 a2 s.1 s.2)) (W := fun s => ab_WP l G mX12_leftBy 1 2 [some (.ref 73), some (.int a1), some (.int a2), some (.int s.1), none, none] [] S s.2 J P 0 0 Q) (fun s y hb h1 h2 => fX12_leftBy_2_ok hB hb h1 (fun r e => by have e2 := h2 _ e; subst e2; exact K0)) 5000 ((0 : Int32), I) H)
abbrev mX12_ask : ab_M := (yX12_ask, cX12_ask, 6, some .int, 0, 0)
def fX12_ask_92 (a1 : Int32) (a2 : Int32) (a3 : Int32) (s0 : Int32) (I : ab_I) : Option (Int32 × ab_I) :=
  some (s0, I)
set_option maxRecDepth 100000 in
theorem fX12_ask_92_ok {l : Launch} {G : ab_G} {S : ab_S} {I : ab_I} {J : ab_J} {P : ab_P} {Q : ab_Q} {a1 : Int32} {a2 : Int32} {a3 : Int32} {s0 : Int32} (hB : bz_B S P) {x : Int32 × ab_I} (H : fX12_ask_92 a1 a2 a3 s0 I = some x) (K0 : Q (some (.int x.1)) S x.2 J P) : ab_WP l G mX12_ask 7 92 [some (.ref 73), some (.int a1), some (.int a2), some (.int a3), none, none] [.int s0] S I J P 0 0 Q := by
  unfold fX12_ask_92 at H
  obtain rfl := Option.some.inj H
  exact ab_iret (by decide +kernel) rfl (Nat.le_refl _) (Nat.le_refl _) K0
def fX12_ask_68 (a1 : Int32) (a2 : Int32) (a3 : Int32) (a5 : Int32) (s0 : Int32) (I : ab_I) : Option ((Int32 × Int32 × ab_I) ⊕ (Int32 × ab_I)) :=
  some (.inl (s0, (a5 + (1 : Int32)), I))
set_option maxRecDepth 100000 in
theorem fX12_ask_68_ok {l : Launch} {G : ab_G} {S : ab_S} {I : ab_I} {J : ab_J} {P : ab_P} {Q : ab_Q} {a1 : Int32} {a2 : Int32} {a3 : Int32} {a5 : Int32} {s0 : Int32} (hB : bz_B S P) {x : ((Int32 × Int32 × ab_I) ⊕ (Int32 × ab_I))} (H : fX12_ask_68 a1 a2 a3 a5 s0 I = some x) (K1 : ∀ s, x = (.inl s) → ab_WP l G mX12_ask 7 35 [some (.ref 73), some (.int a1), some (.int a2), some (.int a3), some (.int s.1), some (.int s.2.1)] [] S s.2.2 J P 0 0 Q) (K0 : ∀ r, x = (.inr r) → Q (some (.int r.1)) S r.2 J P) : ab_WP l G mX12_ask 7 68 [some (.ref 73), some (.int a1), some (.int a2), some (.int a3), none, some (.int a5)] [.int s0] S I J P 0 0 Q := by
  unfold fX12_ask_68 at H
  refine ab_istore (i := 4) (by decide +kernel) (by decide) rfl ?_
  refine ab_ls (ls' := [some (.ref 73), some (.int a1), some (.int a2), some (.int a3), some (.int s0), some (.int a5)]) rfl ?_
  refine ab_iinc (i := 5) (z := 1) (v := (a5 + (1 : Int32))) (by decide +kernel) rfl rfl (by decide) rfl ?_
  refine ab_ls (ls' := [some (.ref 73), some (.int a1), some (.int a2), some (.int a3), some (.int s0), some (.int (a5 + (1 : Int32)))]) rfl ?_
  refine ab_goto (off := -38) (tgt := 35) (by decide +kernel) rfl ?_
  exact ab_wk (ab_le_some (ab_le_some (ab_le_some (ab_le_some (ab_le_some (ab_le_some (ab_le_nil))))))) (K1 (s0, (a5 + (1 : Int32)), I) (Option.some.inj H).symm)
def fX12_ask_27 (a1 : Int32) (a2 : Int32) (a3 : Int32) (I : ab_I) : Option (Int32 × ab_I) :=
  some ((-1 : Int32), I)
set_option maxRecDepth 100000 in
theorem fX12_ask_27_ok {l : Launch} {G : ab_G} {S : ab_S} {I : ab_I} {J : ab_J} {P : ab_P} {Q : ab_Q} {a1 : Int32} {a2 : Int32} {a3 : Int32} (hB : bz_B S P) {x : Int32 × ab_I} (H : fX12_ask_27 a1 a2 a3 I = some x) (K0 : Q (some (.int x.1)) S x.2 J P) : ab_WP l G mX12_ask 7 27 [some (.ref 73), some (.int a1), some (.int a2), some (.int a3), none, none] [] S I J P 0 0 Q := by
  unfold fX12_ask_27 at H
  refine ab_iconst (z := -1) (v := (-1 : Int32)) (by decide +kernel) (by decide) ?_
  obtain rfl := Option.some.inj H
  exact ab_iret (by decide +kernel) rfl (Nat.le_refl _) (Nat.le_refl _) K0
def fX12_ask_76 (a1 : Int32) (a2 : Int32) (a3 : Int32) (a4 : Int32) (I : ab_I) : Option (Int32 × ab_I) :=
  if a2 = 0 then
    fX12_ask_92 a1 a2 a3 a4 I
  else
    (fX12_leftBy a1 a4 I).bind fun u7 =>
    fX12_ask_92 a1 a2 a3 u7.1 u7.2
set_option maxRecDepth 100000 in
theorem fX12_ask_76_ok {l : Launch} {G : ab_G} {S : ab_S} {I : ab_I} {J : ab_J} {P : ab_P} {Q : ab_Q} {a1 : Int32} {a2 : Int32} {a3 : Int32} {a4 : Int32} (hB : bz_B S P) {x : Int32 × ab_I} (H : fX12_ask_76 a1 a2 a3 a4 I = some x) (K0 : Q (some (.int x.1)) S x.2 J P) : ab_WP l G mX12_ask 7 76 [some (.ref 73), some (.int a1), some (.int a2), some (.int a3), some (.int a4), none] [] S I J P 0 0 Q := by
  unfold fX12_ask_76 at H
  refine ab_iload_n (z := 2) (by decide +kernel) rfl rfl ?_
  refine ab_if_ne (off := 8) (tgt := 85) (by decide +kernel) rfl (fun hc => ?_) (fun hc => ?_)
  · replace H := ab_ifn H hc
    refine ab_aload_n (z := 0) (by decide +kernel) rfl rfl ?_
    refine ab_iload_n (z := 1) (by decide +kernel) rfl rfl ?_
    refine ab_iload (i := 4) (by decide +kernel) rfl ?_
    obtain ⟨u7, hu7, H⟩ := ab_bd_of H
    refine kvX12_leftBy (D := 1) (ix := 489) (by decide +kernel) tw_1766 (hB.1 73 _ rfl) (by decide) (Nat.le_of_ble_eq_true rfl) (mX12_leftBy_ok hB hu7 ?_)
    change ab_WP l G mX12_ask 7 92 [some (.ref 73), some (.int a1), some (.int a2), some (.int a3), some (.int a4), none] [.int u7.1] S u7.2 J P 0 0 Q
    exact ab_wk (ab_le_some (ab_le_some (ab_le_some (ab_le_some (ab_le_none (ab_le_none (ab_le_nil))))))) (fX12_ask_92_ok hB H  K0)
  · replace H := ab_ifp H hc
    refine ab_iload (i := 4) (by decide +kernel) rfl ?_
    refine ab_goto (off := 10) (tgt := 92) (by decide +kernel) rfl ?_
    exact ab_wk (ab_le_some (ab_le_some (ab_le_some (ab_le_some (ab_le_none (ab_le_none (ab_le_nil))))))) (fX12_ask_92_ok hB H  K0)
def fX12_ask_35 (a1 : Int32) (a2 : Int32) (a3 : Int32) (a4 : Int32) (a5 : Int32) (I : ab_I) : Option ((Int32 × Int32 × ab_I) ⊕ (Int32 × ab_I)) :=
  if (I 73 40) ≤ a5 then
    (fX12_ask_76 a1 a2 a3 a4 I).map .inr
  else
    (fX12_leftBy a1 a5 I).bind fun u5 =>
    (fX12_leftBy a1 a4 u5.2).bind fun u6 =>
    if u6.1 ≤ u5.1 then
      fX12_ask_68 a1 a2 a3 a5 a4 u6.2
    else
      fX12_ask_68 a1 a2 a3 a5 a5 u6.2
set_option maxRecDepth 100000 in
theorem fX12_ask_35_ok {l : Launch} {G : ab_G} {S : ab_S} {I : ab_I} {J : ab_J} {P : ab_P} {Q : ab_Q} {a1 : Int32} {a2 : Int32} {a3 : Int32} {a4 : Int32} {a5 : Int32} (hB : bz_B S P) {x : ((Int32 × Int32 × ab_I) ⊕ (Int32 × ab_I))} (H : fX12_ask_35 a1 a2 a3 a4 a5 I = some x) (K1 : ∀ s, x = (.inl s) → ab_WP l G mX12_ask 7 35 [some (.ref 73), some (.int a1), some (.int a2), some (.int a3), some (.int s.1), some (.int s.2.1)] [] S s.2.2 J P 0 0 Q) (K0 : ∀ r, x = (.inr r) → Q (some (.int r.1)) S r.2 J P) : ab_WP l G mX12_ask 7 35 [some (.ref 73), some (.int a1), some (.int a2), some (.int a3), some (.int a4), some (.int a5)] [] S I J P 0 0 Q := by
  unfold fX12_ask_35 at H
  refine ab_iload (i := 5) (by decide +kernel) rfl ?_
  refine ab_aload_n (z := 0) (by decide +kernel) rfl rfl ?_
  refine gX12_40 (ix := 351) (by decide +kernel) tw_1121 (hB.1 73 _ rfl) ?_
  refine ab_icmp_ge (off := 35) (tgt := 76) (by decide +kernel) rfl (fun hc => ?_) (fun hc => ?_)
  · replace H := ab_ifp H hc
    obtain ⟨y4, Hy, hx⟩ := ab_mp_of H
    subst hx
    replace H := Hy
    exact ab_wk (ab_le_some (ab_le_some (ab_le_some (ab_le_some (ab_le_some (ab_le_none (ab_le_nil))))))) (fX12_ask_76_ok hB H  (K0 _ rfl))
  · replace H := ab_ifn H hc
    refine ab_aload_n (z := 0) (by decide +kernel) rfl rfl ?_
    refine ab_iload_n (z := 1) (by decide +kernel) rfl rfl ?_
    refine ab_iload (i := 5) (by decide +kernel) rfl ?_
    obtain ⟨u5, hu5, H⟩ := ab_bd_of H
    refine kvX12_leftBy (D := 1) (ix := 489) (by decide +kernel) tw_1766 (hB.1 73 _ rfl) (by decide) (Nat.le_of_ble_eq_true rfl) (mX12_leftBy_ok hB hu5 ?_)
    change ab_WP l G mX12_ask 7 51 [some (.ref 73), some (.int a1), some (.int a2), some (.int a3), some (.int a4), some (.int a5)] [.int u5.1] S u5.2 J P 0 0 Q
    refine ab_aload_n (z := 0) (by decide +kernel) rfl rfl ?_
    refine ab_iload_n (z := 1) (by decide +kernel) rfl rfl ?_
    refine ab_iload (i := 4) (by decide +kernel) rfl ?_
    obtain ⟨u6, hu6, H⟩ := ab_bd_of H
    refine kvX12_leftBy (D := 1) (ix := 489) (by decide +kernel) tw_1766 (hB.1 73 _ rfl) (by decide) (Nat.le_of_ble_eq_true rfl) (mX12_leftBy_ok hB hu6 ?_)
    change ab_WP l G mX12_ask 7 58 [some (.ref 73), some (.int a1), some (.int a2), some (.int a3), some (.int a4), some (.int a5)] [.int u6.1, .int u5.1] S u6.2 J P 0 0 Q
    refine ab_icmp_ge (off := 8) (tgt := 66) (by decide +kernel) rfl (fun hc => ?_) (fun hc => ?_)
    · replace H := ab_ifp H hc
      refine ab_iload (i := 4) (by decide +kernel) rfl ?_
      exact ab_wk (ab_le_some (ab_le_some (ab_le_some (ab_le_some (ab_le_none (ab_le_some (ab_le_nil))))))) (fX12_ask_68_ok hB H K1 K0)
    · replace H := ab_ifn H hc
      refine ab_iload (i := 5) (by decide +kernel) rfl ?_
      refine ab_goto (off := 5) (tgt := 68) (by decide +kernel) rfl ?_
      exact ab_wk (ab_le_some (ab_le_some (ab_le_some (ab_le_some (ab_le_none (ab_le_some (ab_le_nil))))))) (fX12_ask_68_ok hB H K1 K0)
def fX12_ask (a1 : Int32) (a2 : Int32) (a3 : Int32) (I : ab_I) : Option (Int32 × ab_I) :=
  (fX12_isIn a1 (1 : Int32) (12 : Int32)).bind fun u1 =>
  if u1 = 0 then
    fX12_ask_27 a1 a2 a3 I
  else
    (fX12_isIn a2 (0 : Int32) (1 : Int32)).bind fun u2 =>
    if u2 = 0 then
      fX12_ask_27 a1 a2 a3 I
    else
      (fX12_layFits a3 I).bind fun u3 =>
      if u3.1 = 0 then
        fX12_ask_27 a1 a2 a3 u3.2
      else
        ab_it (fun s => fX12_ask_35 a1 a2 a3 s.1 s.2.1 s.2.2) 5000 ((0 : Int32), (1 : Int32), u3.2)
set_option maxRecDepth 100000 in
theorem mX12_ask_ok {l : Launch} {G : ab_G} {S : ab_S} {I : ab_I} {J : ab_J} {P : ab_P} {Q : ab_Q} {a1 : Int32} {a2 : Int32} {a3 : Int32} (hB : bz_B S P) {x : Int32 × ab_I} (H : fX12_ask a1 a2 a3 I = some x) (K0 : Q (some (.int x.1)) S x.2 J P) : ab_Call l G mX12_ask 7 [.ref 73, .int a1, .int a2, .int a3] S I J P Q := by
  unfold fX12_ask at H
  refine ab_enter rfl (Nat.le_of_ble_eq_true rfl) (ab_wk (ls' := [some (.ref 73), some (.int a1), some (.int a2), some (.int a3), none, none]) (ab_le_some (ab_le_some (ab_le_some (ab_le_some (ab_le_non0 (ab_le_non0 ab_le_nil)))))) ?_)
  refine ab_iload_n (z := 1) (by decide +kernel) rfl rfl ?_
  refine ab_iconst (z := 1) (v := (1 : Int32)) (by decide +kernel) (by decide) ?_
  refine ab_bipush (z := 12) (v := (12 : Int32)) (by decide +kernel) (by decide) ?_
  obtain ⟨u1, hu1, H⟩ := ab_bd_of H
  refine ksX12_isIn (D := 0) (ix := 384) (by decide +kernel) tw_1474 (by decide) (Nat.le_of_ble_eq_true rfl) (mX12_isIn_ok hB hu1 ?_)
  change ab_WP l G mX12_ask 7 7 [some (.ref 73), some (.int a1), some (.int a2), some (.int a3), none, none] [.int u1] S I J P 0 0 Q
  refine ab_if_eq (off := 20) (tgt := 27) (by decide +kernel) rfl (fun hc => ?_) (fun hc => ?_)
  · replace H := ab_ifp H hc
    exact ab_wk (ab_le_some (ab_le_some (ab_le_some (ab_le_some (ab_le_none (ab_le_none (ab_le_nil))))))) (fX12_ask_27_ok hB H  K0)
  · replace H := ab_ifn H hc
    refine ab_iload_n (z := 2) (by decide +kernel) rfl rfl ?_
    refine ab_iconst (z := 0) (v := (0 : Int32)) (by decide +kernel) (by decide) ?_
    refine ab_iconst (z := 1) (v := (1 : Int32)) (by decide +kernel) (by decide) ?_
    obtain ⟨u2, hu2, H⟩ := ab_bd_of H
    refine ksX12_isIn (D := 0) (ix := 384) (by decide +kernel) tw_1474 (by decide) (Nat.le_of_ble_eq_true rfl) (mX12_isIn_ok hB hu2 ?_)
    change ab_WP l G mX12_ask 7 16 [some (.ref 73), some (.int a1), some (.int a2), some (.int a3), none, none] [.int u2] S I J P 0 0 Q
    refine ab_if_eq (off := 11) (tgt := 27) (by decide +kernel) rfl (fun hc => ?_) (fun hc => ?_)
    · replace H := ab_ifp H hc
      exact ab_wk (ab_le_some (ab_le_some (ab_le_some (ab_le_some (ab_le_none (ab_le_none (ab_le_nil))))))) (fX12_ask_27_ok hB H  K0)
    · replace H := ab_ifn H hc
      refine ab_aload_n (z := 0) (by decide +kernel) rfl rfl ?_
      refine ab_iload_n (z := 3) (by decide +kernel) rfl rfl ?_
      obtain ⟨u3, hu3, H⟩ := ab_bd_of H
      refine kvX12_layFits (D := 6) (ix := 486) (by decide +kernel) tw_1746 (hB.1 73 _ rfl) (by decide) (Nat.le_of_ble_eq_true rfl) (mX12_layFits_ok hB hu3 ?_)
      change ab_WP l G mX12_ask 7 24 [some (.ref 73), some (.int a1), some (.int a2), some (.int a3), none, none] [.int u3.1] S u3.2 J P 0 0 Q
      refine ab_if_ne (off := 5) (tgt := 29) (by decide +kernel) rfl (fun hc => ?_) (fun hc => ?_)
      · replace H := ab_ifn H hc
        refine ab_iconst (z := 0) (v := (0 : Int32)) (by decide +kernel) (by decide) ?_
        refine ab_istore (i := 4) (by decide +kernel) (by decide) rfl ?_
        refine ab_ls (ls' := [some (.ref 73), some (.int a1), some (.int a2), some (.int a3), some (.int (0 : Int32)), none]) rfl ?_
        refine ab_iconst (z := 1) (v := (1 : Int32)) (by decide +kernel) (by decide) ?_
        refine ab_istore (i := 5) (by decide +kernel) (by decide) rfl ?_
        refine ab_ls (ls' := [some (.ref 73), some (.int a1), some (.int a2), some (.int a3), some (.int (0 : Int32)), some (.int (1 : Int32))]) rfl ?_
        exact ab_wk (ab_le_some (ab_le_some (ab_le_some (ab_le_some (ab_le_some (ab_le_some (ab_le_nil))))))) (ab_iter (body := (fun s => fX12_ask_35 a1 a2 a3 s.1 s.2.1 s.2.2)) (W := fun s => ab_WP l G mX12_ask 7 35 [some (.ref 73), some (.int a1), some (.int a2), some (.int a3), some (.int s.1), some (.int s.2.1)] [] S s.2.2 J P 0 0 Q) (fun s y hb h1 h2 => fX12_ask_35_ok hB hb h1 (fun r e => by have e2 := h2 _ e; subst e2; exact K0)) 5000 ((0 : Int32), (1 : Int32), u3.2) H)
      · replace H := ab_ifp H hc
        exact ab_wk (ab_le_some (ab_le_some (ab_le_some (ab_le_some (ab_le_none (ab_le_none (ab_le_nil))))))) (fX12_ask_27_ok hB H  K0)
abbrev mX12_isBox : ab_M := (yX12_isBox, cX12_isBox, 1, some .boolean, 0, 0)
theorem ksX12_isBox {l : Launch} {G : ab_G} {M : ab_M} {d pc : Nat} {ls : List (Option Value)} {st : List Value} {S : ab_S} {I : ab_I} {J : ab_J} {P : ab_P} {Q : ab_Q} {v0 : Value} {ix D : Nat} (hd : decode M.2.1 pc = .ok (.invokestatic ix, 3)) (h1 : Cond.methodLink M.1.cls ix mX12_isBox.1 ∈ ab_good) (hdg : D + 1 ≤ d) (hsum : (st.map fun v => v.category).sum ≤ 8) (kk : ab_Call l G mX12_isBox D [v0] S I J P (fun v S' I' J' P' => ab_WP l G M d (pc + 3) ls (ab_psh v st) S' I' J' P' 0 0 Q)) : ab_WP l G M d pc ls (v0 :: st) S I J P 0 0 Q := bz_ks (g := mX12_isBox) (as := [v0]) rfl hd h1 tw_1775 tw_13 tw_1776 ⟨by decide +kernel, by decide +kernel, (by decide +kernel : (parseMethodDescriptor mX12_isBox.1.desc).map (fun d => d.parameters.length) = some 1)⟩ (by decide) rfl hdg hsum kk
def fX12_isBox_14 (a0 : Int32) (s0 : Int32) : Option Int32 :=
  ab_gd (s0 = 0 ∨ s0 = 1) (some s0)
set_option maxRecDepth 100000 in
theorem fX12_isBox_14_ok {l : Launch} {G : ab_G} {S : ab_S} {I : ab_I} {J : ab_J} {P : ab_P} {Q : ab_Q} {a0 : Int32} {s0 : Int32} (hB : bz_B S P) {x : Int32} (H : fX12_isBox_14 a0 s0 = some x) (K0 : Q (some (.int x)) S I J P) : ab_WP l G mX12_isBox 0 14 [some (.int a0)] [.int s0] S I J P 0 0 Q := by
  unfold fX12_isBox_14 at H
  obtain ⟨hg, H⟩ := ab_gd_of H
  obtain rfl := Option.some.inj H
  exact ab_zret (by decide +kernel) rfl (Nat.le_refl _) (Nat.le_refl _) hg K0
def fX12_isBox_13 (a0 : Int32) : Option Int32 :=
  fX12_isBox_14 a0 (0 : Int32)
set_option maxRecDepth 100000 in
theorem fX12_isBox_13_ok {l : Launch} {G : ab_G} {S : ab_S} {I : ab_I} {J : ab_J} {P : ab_P} {Q : ab_Q} {a0 : Int32} (hB : bz_B S P) {x : Int32} (H : fX12_isBox_13 a0 = some x) (K0 : Q (some (.int x)) S I J P) : ab_WP l G mX12_isBox 0 13 [some (.int a0)] [] S I J P 0 0 Q := by
  unfold fX12_isBox_13 at H
  refine ab_iconst (z := 0) (v := (0 : Int32)) (by decide +kernel) (by decide) ?_
  exact ab_wk (ab_le_some (ab_le_nil)) (fX12_isBox_14_ok hB H  K0)
def fX12_isBox (a0 : Int32) : Option Int32 :=
  if a0 < 0 then
    fX12_isBox_13 a0
  else
    if (3 : Int32) ≤ a0 then
      fX12_isBox_13 a0
    else
      fX12_isBox_14 a0 (1 : Int32)
set_option maxRecDepth 100000 in
theorem mX12_isBox_ok {l : Launch} {G : ab_G} {S : ab_S} {I : ab_I} {J : ab_J} {P : ab_P} {Q : ab_Q} {a0 : Int32} (hB : bz_B S P) {x : Int32} (H : fX12_isBox a0 = some x) (K0 : Q (some (.int x)) S I J P) : ab_Call l G mX12_isBox 0 [.int a0] S I J P Q := by
  unfold fX12_isBox at H
  refine ab_enter rfl (Nat.le_of_ble_eq_true rfl) (ab_wk (ls' := [some (.int a0)]) (ab_le_some (ab_le_nil)) ?_)
  refine ab_iload_n (z := 0) (by decide +kernel) rfl rfl ?_
  refine ab_if_lt (off := 12) (tgt := 13) (by decide +kernel) rfl (fun hc => ?_) (fun hc => ?_)
  · replace H := ab_ifp H hc
    exact ab_wk (ab_le_some (ab_le_nil)) (fX12_isBox_13_ok hB H  K0)
  · replace H := ab_ifn H hc
    refine ab_iload_n (z := 0) (by decide +kernel) rfl rfl ?_
    refine ab_iconst (z := 3) (v := (3 : Int32)) (by decide +kernel) (by decide) ?_
    refine ab_icmp_ge (off := 7) (tgt := 13) (by decide +kernel) rfl (fun hc => ?_) (fun hc => ?_)
    · replace H := ab_ifp H hc
      exact ab_wk (ab_le_some (ab_le_nil)) (fX12_isBox_13_ok hB H  K0)
    · replace H := ab_ifn H hc
      refine ab_iconst (z := 1) (v := (1 : Int32)) (by decide +kernel) (by decide) ?_
      refine ab_goto (off := 4) (tgt := 14) (by decide +kernel) rfl ?_
      exact ab_wk (ab_le_some (ab_le_nil)) (fX12_isBox_14_ok hB H  K0)
abbrev mX12_image : ab_M := (yX12_image, cX12_image, 3, some .int, 0, 0)
def fX12_image_47 (a1 : Int32) (I : ab_I) : Option (Int32 × ab_I) :=
  ab_gd (ab_ix (43 : Int32) 45 = true) (
    some ((I 89 ((43 : Int32).toNatClampNeg)), I)
  )
set_option maxRecDepth 100000 in
theorem fX12_image_47_ok {l : Launch} {G : ab_G} {S : ab_S} {I : ab_I} {J : ab_J} {P : ab_P} {Q : ab_Q} {a1 : Int32} (hB : bz_B S P) {x : Int32 × ab_I} (H : fX12_image_47 a1 I = some x) (K0 : Q (some (.int x.1)) S x.2 J P) : ab_WP l G mX12_image 1 47 [some (.ref 73), some (.int a1), none] [] S I J P 0 0 Q := by
  unfold fX12_image_47 at H
  refine ab_aload_n (z := 0) (by decide +kernel) rfl rfl ?_
  refine gX12_46 (ix := 60) (by decide +kernel) tw_1127 (hB.1 73 _ rfl) (hB.2.1 94 (73, 46, 89) rfl) ?_
  refine ab_bipush (z := 43) (v := (43 : Int32)) (by decide +kernel) (by decide) ?_
  obtain ⟨hg, H⟩ := ab_gd_of H
  refine ab_iald (ln := 45) (by decide +kernel) (hB.1 89 _ rfl) (ab_ix_in hg) ?_
  obtain rfl := Option.some.inj H
  exact ab_iret (by decide +kernel) rfl (Nat.le_refl _) (Nat.le_refl _) K0
def fX12_image_18 (a1 : Int32) (a2 : Int32) (I : ab_I) : Option ((Int32 × ab_I) ⊕ (Int32 × ab_I)) :=
  if (45 : Int32) ≤ a2 then
    (fX12_image_47 a1 I).map .inr
  else
    ab_gd (ab_ix a2 45 = true) (
      ab_gd (ab_ix (((45 : Int32) * a1) + a2) 135 = true) (
        some (.inl ((a2 + (1 : Int32)), (ab_u I 108 ((((45 : Int32) * a1) + a2).toNatClampNeg) (I 89 a2.toNatClampNeg))))
      )
    )
set_option maxRecDepth 100000 in
theorem fX12_image_18_ok {l : Launch} {G : ab_G} {S : ab_S} {I : ab_I} {J : ab_J} {P : ab_P} {Q : ab_Q} {a1 : Int32} {a2 : Int32} (hB : bz_B S P) {x : ((Int32 × ab_I) ⊕ (Int32 × ab_I))} (H : fX12_image_18 a1 a2 I = some x) (K1 : ∀ s, x = (.inl s) → ab_WP l G mX12_image 1 18 [some (.ref 73), some (.int a1), some (.int s.1)] [] S s.2 J P 0 0 Q) (K0 : ∀ r, x = (.inr r) → Q (some (.int r.1)) S r.2 J P) : ab_WP l G mX12_image 1 18 [some (.ref 73), some (.int a1), some (.int a2)] [] S I J P 0 0 Q := by
  unfold fX12_image_18 at H
  refine ab_iload_n (z := 2) (by decide +kernel) rfl rfl ?_
  refine ab_bipush (z := 45) (v := (45 : Int32)) (by decide +kernel) (by decide) ?_
  refine ab_icmp_ge (off := 26) (tgt := 47) (by decide +kernel) rfl (fun hc => ?_) (fun hc => ?_)
  · replace H := ab_ifp H hc
    obtain ⟨y2, Hy, hx⟩ := ab_mp_of H
    subst hx
    replace H := Hy
    exact ab_wk (ab_le_some (ab_le_some (ab_le_none (ab_le_nil)))) (fX12_image_47_ok hB H  (K0 _ rfl))
  · replace H := ab_ifn H hc
    refine ab_aload_n (z := 0) (by decide +kernel) rfl rfl ?_
    refine gX12_70 (ix := 118) (by decide +kernel) tw_1151 (hB.1 73 _ rfl) (hB.2.1 113 (73, 70, 108) rfl) ?_
    refine ab_bipush (z := 45) (v := (45 : Int32)) (by decide +kernel) (by decide) ?_
    refine ab_iload_n (z := 1) (by decide +kernel) rfl rfl ?_
    refine ab_imul (by decide +kernel) ?_
    refine ab_iload_n (z := 2) (by decide +kernel) rfl rfl ?_
    refine ab_iadd (by decide +kernel) ?_
    refine ab_aload_n (z := 0) (by decide +kernel) rfl rfl ?_
    refine gX12_46 (ix := 60) (by decide +kernel) tw_1127 (hB.1 73 _ rfl) (hB.2.1 94 (73, 46, 89) rfl) ?_
    refine ab_iload_n (z := 2) (by decide +kernel) rfl rfl ?_
    obtain ⟨hg, H⟩ := ab_gd_of H
    refine ab_iald (ln := 45) (by decide +kernel) (hB.1 89 _ rfl) (ab_ix_in hg) ?_
    obtain ⟨hg, H⟩ := ab_gd_of H
    refine ab_iast (ln := 135) (by decide +kernel) (hB.1 108 _ rfl) (ab_ix_in hg) ?_
    refine ab_iinc (i := 2) (z := 1) (v := (a2 + (1 : Int32))) (by decide +kernel) rfl rfl (by decide) rfl ?_
    refine ab_ls (ls' := [some (.ref 73), some (.int a1), some (.int (a2 + (1 : Int32)))]) rfl ?_
    refine ab_goto (off := -26) (tgt := 18) (by decide +kernel) rfl ?_
    exact ab_wk (ab_le_some (ab_le_some (ab_le_some (ab_le_nil)))) (K1 ((a2 + (1 : Int32)), (ab_u I 108 ((((45 : Int32) * a1) + a2).toNatClampNeg) (I 89 a2.toNatClampNeg))) (Option.some.inj H).symm)
def fX12_image (a1 : Int32) (I : ab_I) : Option (Int32 × ab_I) :=
  (fX12_isBox a1).bind fun u1 =>
  if u1 = 0 then
    some ((-1 : Int32), I)
  else
    ab_gd (ab_ix a1 3 = true) (
      ab_it (fun s => fX12_image_18 a1 s.1 s.2) 5000 ((0 : Int32), (ab_u I 107 a1.toNatClampNeg (1 : Int32)))
    )
set_option maxRecDepth 100000 in
theorem mX12_image_ok {l : Launch} {G : ab_G} {S : ab_S} {I : ab_I} {J : ab_J} {P : ab_P} {Q : ab_Q} {a1 : Int32} (hB : bz_B S P) {x : Int32 × ab_I} (H : fX12_image a1 I = some x) (K0 : Q (some (.int x.1)) S x.2 J P) : ab_Call l G mX12_image 1 [.ref 73, .int a1] S I J P Q := by
  unfold fX12_image at H
  refine ab_enter rfl (Nat.le_of_ble_eq_true rfl) (ab_wk (ls' := [some (.ref 73), some (.int a1), none]) (ab_le_some (ab_le_some (ab_le_non0 ab_le_nil))) ?_)
  refine ab_iload_n (z := 1) (by decide +kernel) rfl rfl ?_
  obtain ⟨u1, hu1, H⟩ := ab_bd_of H
  refine ksX12_isBox (D := 0) (ix := 492) (by decide +kernel) tw_1774 (by decide) (Nat.le_of_ble_eq_true rfl) (mX12_isBox_ok hB hu1 ?_)
  change ab_WP l G mX12_image 1 4 [some (.ref 73), some (.int a1), none] [.int u1] S I J P 0 0 Q
  refine ab_if_ne (off := 5) (tgt := 9) (by decide +kernel) rfl (fun hc => ?_) (fun hc => ?_)
  · replace H := ab_ifn H hc
    refine ab_aload_n (z := 0) (by decide +kernel) rfl rfl ?_
    refine gX12_69 (ix := 115) (by decide +kernel) tw_1150 (hB.1 73 _ rfl) (hB.2.1 112 (73, 69, 107) rfl) ?_
    refine ab_iload_n (z := 1) (by decide +kernel) rfl rfl ?_
    refine ab_iconst (z := 1) (v := (1 : Int32)) (by decide +kernel) (by decide) ?_
    obtain ⟨hg, H⟩ := ab_gd_of H
    refine ab_zast (ln := 3) (by decide +kernel) (hB.1 107 _ rfl) (ab_ix_in hg) (by decide) ?_
    refine ab_iconst (z := 0) (v := (0 : Int32)) (by decide +kernel) (by decide) ?_
    refine ab_istore_n (z := 2) (by decide +kernel) rfl (by decide) rfl ?_
    refine ab_ls (ls' := [some (.ref 73), some (.int a1), some (.int (0 : Int32))]) rfl ?_
    exact ab_wk (ab_le_some (ab_le_some (ab_le_some (ab_le_nil)))) (ab_iter (body := (fun s => fX12_image_18 a1 s.1 s.2)) (W := fun s => ab_WP l G mX12_image 1 18 [some (.ref 73), some (.int a1), some (.int s.1)] [] S s.2 J P 0 0 Q) (fun s y hb h1 h2 => fX12_image_18_ok hB hb h1 (fun r e => by have e2 := h2 _ e; subst e2; exact K0)) 5000 ((0 : Int32), (ab_u I 107 a1.toNatClampNeg (1 : Int32))) H)
  · replace H := ab_ifp H hc
    refine ab_iconst (z := -1) (v := (-1 : Int32)) (by decide +kernel) (by decide) ?_
    obtain rfl := Option.some.inj H
    exact ab_iret (by decide +kernel) rfl (Nat.le_refl _) (Nat.le_refl _) K0
abbrev mX12_back : ab_M := (yX12_back, cX12_back, 3, some .int, 0, 0)
def fX12_back_49 (a1 : Int32) (I : ab_I) : Option (Int32 × ab_I) :=
  ab_gd (ab_ix (43 : Int32) 45 = true) (
    some ((I 89 ((43 : Int32).toNatClampNeg)), (ab_u (ab_u I 73 50 (0 : Int32)) 73 51 (0 : Int32)))
  )
set_option maxRecDepth 100000 in
theorem fX12_back_49_ok {l : Launch} {G : ab_G} {S : ab_S} {I : ab_I} {J : ab_J} {P : ab_P} {Q : ab_Q} {a1 : Int32} (hB : bz_B S P) {x : Int32 × ab_I} (H : fX12_back_49 a1 I = some x) (K0 : Q (some (.int x.1)) S x.2 J P) : ab_WP l G mX12_back 1 49 [some (.ref 73), some (.int a1), none] [] S I J P 0 0 Q := by
  unfold fX12_back_49 at H
  refine ab_aload_n (z := 0) (by decide +kernel) rfl rfl ?_
  refine ab_iconst (z := 0) (v := (0 : Int32)) (by decide +kernel) (by decide) ?_
  refine pX12_50 (ix := 372) (by decide +kernel) tw_1131 (hB.1 73 _ rfl) ?_
  refine ab_aload_n (z := 0) (by decide +kernel) rfl rfl ?_
  refine ab_iconst (z := 0) (v := (0 : Int32)) (by decide +kernel) (by decide) ?_
  refine pX12_51 (ix := 375) (by decide +kernel) tw_1132 (hB.1 73 _ rfl) ?_
  refine ab_aload_n (z := 0) (by decide +kernel) rfl rfl ?_
  refine gX12_46 (ix := 60) (by decide +kernel) tw_1127 (hB.1 73 _ rfl) (hB.2.1 94 (73, 46, 89) rfl) ?_
  refine ab_bipush (z := 43) (v := (43 : Int32)) (by decide +kernel) (by decide) ?_
  obtain ⟨hg, H⟩ := ab_gd_of H
  refine ab_iald (ln := 45) (by decide +kernel) (hB.1 89 _ rfl) (ab_ix_in hg) ?_
  refine ab_top (y := (I 89 ((43 : Int32).toNatClampNeg))) rfl ?_
  obtain rfl := Option.some.inj H
  exact ab_iret (by decide +kernel) rfl (Nat.le_refl _) (Nat.le_refl _) K0
def fX12_back_16 (a1 : Int32) (I : ab_I) : Option (Int32 × ab_I) :=
  some ((-1 : Int32), I)
set_option maxRecDepth 100000 in
theorem fX12_back_16_ok {l : Launch} {G : ab_G} {S : ab_S} {I : ab_I} {J : ab_J} {P : ab_P} {Q : ab_Q} {a1 : Int32} (hB : bz_B S P) {x : Int32 × ab_I} (H : fX12_back_16 a1 I = some x) (K0 : Q (some (.int x.1)) S x.2 J P) : ab_WP l G mX12_back 1 16 [some (.ref 73), some (.int a1), none] [] S I J P 0 0 Q := by
  unfold fX12_back_16 at H
  refine ab_iconst (z := -1) (v := (-1 : Int32)) (by decide +kernel) (by decide) ?_
  obtain rfl := Option.some.inj H
  exact ab_iret (by decide +kernel) rfl (Nat.le_refl _) (Nat.le_refl _) K0
def fX12_back_20 (a1 : Int32) (a2 : Int32) (I : ab_I) : Option ((Int32 × ab_I) ⊕ (Int32 × ab_I)) :=
  if (45 : Int32) ≤ a2 then
    (fX12_back_49 a1 I).map .inr
  else
    ab_gd (ab_ix (((45 : Int32) * a1) + a2) 135 = true) (
      ab_gd (ab_ix a2 45 = true) (
        some (.inl ((a2 + (1 : Int32)), (ab_u I 89 a2.toNatClampNeg (I 108 ((((45 : Int32) * a1) + a2).toNatClampNeg)))))
      )
    )
set_option maxRecDepth 100000 in
theorem fX12_back_20_ok {l : Launch} {G : ab_G} {S : ab_S} {I : ab_I} {J : ab_J} {P : ab_P} {Q : ab_Q} {a1 : Int32} {a2 : Int32} (hB : bz_B S P) {x : ((Int32 × ab_I) ⊕ (Int32 × ab_I))} (H : fX12_back_20 a1 a2 I = some x) (K1 : ∀ s, x = (.inl s) → ab_WP l G mX12_back 1 20 [some (.ref 73), some (.int a1), some (.int s.1)] [] S s.2 J P 0 0 Q) (K0 : ∀ r, x = (.inr r) → Q (some (.int r.1)) S r.2 J P) : ab_WP l G mX12_back 1 20 [some (.ref 73), some (.int a1), some (.int a2)] [] S I J P 0 0 Q := by
  unfold fX12_back_20 at H
  refine ab_iload_n (z := 2) (by decide +kernel) rfl rfl ?_
  refine ab_bipush (z := 45) (v := (45 : Int32)) (by decide +kernel) (by decide) ?_
  refine ab_icmp_ge (off := 26) (tgt := 49) (by decide +kernel) rfl (fun hc => ?_) (fun hc => ?_)
  · replace H := ab_ifp H hc
    obtain ⟨y2, Hy, hx⟩ := ab_mp_of H
    subst hx
    replace H := Hy
    exact ab_wk (ab_le_some (ab_le_some (ab_le_none (ab_le_nil)))) (fX12_back_49_ok hB H  (K0 _ rfl))
  · replace H := ab_ifn H hc
    refine ab_aload_n (z := 0) (by decide +kernel) rfl rfl ?_
    refine gX12_46 (ix := 60) (by decide +kernel) tw_1127 (hB.1 73 _ rfl) (hB.2.1 94 (73, 46, 89) rfl) ?_
    refine ab_iload_n (z := 2) (by decide +kernel) rfl rfl ?_
    refine ab_aload_n (z := 0) (by decide +kernel) rfl rfl ?_
    refine gX12_70 (ix := 118) (by decide +kernel) tw_1151 (hB.1 73 _ rfl) (hB.2.1 113 (73, 70, 108) rfl) ?_
    refine ab_bipush (z := 45) (v := (45 : Int32)) (by decide +kernel) (by decide) ?_
    refine ab_iload_n (z := 1) (by decide +kernel) rfl rfl ?_
    refine ab_imul (by decide +kernel) ?_
    refine ab_iload_n (z := 2) (by decide +kernel) rfl rfl ?_
    refine ab_iadd (by decide +kernel) ?_
    obtain ⟨hg, H⟩ := ab_gd_of H
    refine ab_iald (ln := 135) (by decide +kernel) (hB.1 108 _ rfl) (ab_ix_in hg) ?_
    obtain ⟨hg, H⟩ := ab_gd_of H
    refine ab_iast (ln := 45) (by decide +kernel) (hB.1 89 _ rfl) (ab_ix_in hg) ?_
    refine ab_iinc (i := 2) (z := 1) (v := (a2 + (1 : Int32))) (by decide +kernel) rfl rfl (by decide) rfl ?_
    refine ab_ls (ls' := [some (.ref 73), some (.int a1), some (.int (a2 + (1 : Int32)))]) rfl ?_
    refine ab_goto (off := -26) (tgt := 20) (by decide +kernel) rfl ?_
    exact ab_wk (ab_le_some (ab_le_some (ab_le_some (ab_le_nil)))) (K1 ((a2 + (1 : Int32)), (ab_u I 89 a2.toNatClampNeg (I 108 ((((45 : Int32) * a1) + a2).toNatClampNeg)))) (Option.some.inj H).symm)
def fX12_back (a1 : Int32) (I : ab_I) : Option (Int32 × ab_I) :=
  (fX12_isBox a1).bind fun u1 =>
  if u1 = 0 then
    fX12_back_16 a1 I
  else
    ab_gd (ab_ix a1 3 = true) (
      if (I 107 a1.toNatClampNeg) = 0 then
        fX12_back_16 a1 I
      else
        ab_it (fun s => fX12_back_20 a1 s.1 s.2) 5000 ((0 : Int32), I)
    )
set_option maxRecDepth 100000 in
theorem mX12_back_ok {l : Launch} {G : ab_G} {S : ab_S} {I : ab_I} {J : ab_J} {P : ab_P} {Q : ab_Q} {a1 : Int32} (hB : bz_B S P) {x : Int32 × ab_I} (H : fX12_back a1 I = some x) (K0 : Q (some (.int x.1)) S x.2 J P) : ab_Call l G mX12_back 1 [.ref 73, .int a1] S I J P Q := by
  unfold fX12_back at H
  refine ab_enter rfl (Nat.le_of_ble_eq_true rfl) (ab_wk (ls' := [some (.ref 73), some (.int a1), none]) (ab_le_some (ab_le_some (ab_le_non0 ab_le_nil))) ?_)
  refine ab_iload_n (z := 1) (by decide +kernel) rfl rfl ?_
  obtain ⟨u1, hu1, H⟩ := ab_bd_of H
  refine ksX12_isBox (D := 0) (ix := 492) (by decide +kernel) tw_1774 (by decide) (Nat.le_of_ble_eq_true rfl) (mX12_isBox_ok hB hu1 ?_)
  change ab_WP l G mX12_back 1 4 [some (.ref 73), some (.int a1), none] [.int u1] S I J P 0 0 Q
  refine ab_if_eq (off := 12) (tgt := 16) (by decide +kernel) rfl (fun hc => ?_) (fun hc => ?_)
  · replace H := ab_ifp H hc
    exact ab_wk (ab_le_some (ab_le_some (ab_le_none (ab_le_nil)))) (fX12_back_16_ok hB H  K0)
  · replace H := ab_ifn H hc
    refine ab_aload_n (z := 0) (by decide +kernel) rfl rfl ?_
    refine gX12_69 (ix := 115) (by decide +kernel) tw_1150 (hB.1 73 _ rfl) (hB.2.1 112 (73, 69, 107) rfl) ?_
    refine ab_iload_n (z := 1) (by decide +kernel) rfl rfl ?_
    obtain ⟨hg, H⟩ := ab_gd_of H
    refine ab_zald (ln := 3) (by decide +kernel) (hB.1 107 _ rfl) (ab_ix_in hg) ?_
    refine ab_if_ne (off := 5) (tgt := 18) (by decide +kernel) rfl (fun hc => ?_) (fun hc => ?_)
    · replace H := ab_ifn H hc
      refine ab_iconst (z := 0) (v := (0 : Int32)) (by decide +kernel) (by decide) ?_
      refine ab_istore_n (z := 2) (by decide +kernel) rfl (by decide) rfl ?_
      refine ab_ls (ls' := [some (.ref 73), some (.int a1), some (.int (0 : Int32))]) rfl ?_
      exact ab_wk (ab_le_some (ab_le_some (ab_le_some (ab_le_nil)))) (ab_iter (body := (fun s => fX12_back_20 a1 s.1 s.2)) (W := fun s => ab_WP l G mX12_back 1 20 [some (.ref 73), some (.int a1), some (.int s.1)] [] S s.2 J P 0 0 Q) (fun s y hb h1 h2 => fX12_back_20_ok hB hb h1 (fun r e => by have e2 := h2 _ e; subst e2; exact K0)) 5000 ((0 : Int32), I) H)
    · replace H := ab_ifp H hc
      exact ab_wk (ab_le_some (ab_le_some (ab_le_none (ab_le_nil)))) (fX12_back_16_ok hB H  K0)
abbrev mX12_about : ab_M := (yX12_about, cX12_about, 2, some .int, 0, 0)
def fX12_about (a1 : Int32) (I : ab_I) : Option Int32 :=
  if a1 = (0 : Int32) then
    some (I 73 39)
  else
    if a1 = (1 : Int32) then
      some (I 73 40)
    else
      if a1 = (2 : Int32) then
        some (I 73 41)
      else
        if a1 = (3 : Int32) then
          ab_gd (ab_ix (12 : Int32) 45 = true) (
            some (I 89 ((12 : Int32).toNatClampNeg))
          )
        else
          if a1 = (4 : Int32) then
            ab_gd (ab_ix (43 : Int32) 45 = true) (
              some (I 89 ((43 : Int32).toNatClampNeg))
            )
          else
            if a1 = (5 : Int32) then
              ab_gd (ab_ix (44 : Int32) 45 = true) (
                some (I 89 ((44 : Int32).toNatClampNeg))
              )
            else
              if a1 = (6 : Int32) then
                some (I 73 50)
              else
                if a1 = (7 : Int32) then
                  some (I 73 51)
                else
                  if a1 = (8 : Int32) then
                    some (I 73 64)
                  else
                    if a1 = (9 : Int32) then
                      some (I 73 65)
                    else
                      if a1 = (10 : Int32) then
                        some (I 73 1)
                      else
                        if a1 = (11 : Int32) then
                          some (I 73 21)
                        else
                          if a1 = (12 : Int32) then
                            some (I 73 54)
                          else
                            if a1 = (13 : Int32) then
                              some (I 73 43)
                            else
                              some (-1 : Int32)
set_option maxRecDepth 100000 in
theorem mX12_about_ok {l : Launch} {G : ab_G} {S : ab_S} {I : ab_I} {J : ab_J} {P : ab_P} {Q : ab_Q} {a1 : Int32} (hB : bz_B S P) {x : Int32} (H : fX12_about a1 I = some x) (K0 : Q (some (.int x)) S I J P) : ab_Call l G mX12_about 0 [.ref 73, .int a1] S I J P Q := by
  unfold fX12_about at H
  refine ab_enter rfl (Nat.le_of_ble_eq_true rfl) (ab_wk (ls' := [some (.ref 73), some (.int a1)]) (ab_le_some (ab_le_some (ab_le_nil))) ?_)
  refine ab_iload_n (z := 1) (by decide +kernel) rfl rfl ?_
  by_cases hk0 : a1 = (0 : Int32)
  · replace H := ab_ifp H hk0
    refine ab_tabk (key := (0 : Int32)) (off := 71) (tgt := 72) (dflt := 150) (lo := 0) (hi := 13) (offs := #[71, 76, 81, 86, 94, 102, 110, 115, 120, 125, 130, 135, 140, 145]) (len := 71) hk0 (by decide +kernel) (by decide) rfl ?_
    refine ab_aload_n (z := 0) (by decide +kernel) rfl rfl ?_
    refine gX12_39 (ix := 348) (by decide +kernel) tw_1120 (hB.1 73 _ rfl) ?_
    obtain rfl := Option.some.inj H
    exact ab_iret (by decide +kernel) rfl (Nat.le_refl _) (Nat.le_refl _) K0
  replace H := ab_ifn H hk0
  by_cases hk1 : a1 = (1 : Int32)
  · replace H := ab_ifp H hk1
    refine ab_tabk (key := (1 : Int32)) (off := 76) (tgt := 77) (dflt := 150) (lo := 0) (hi := 13) (offs := #[71, 76, 81, 86, 94, 102, 110, 115, 120, 125, 130, 135, 140, 145]) (len := 71) hk1 (by decide +kernel) (by decide) rfl ?_
    refine ab_aload_n (z := 0) (by decide +kernel) rfl rfl ?_
    refine gX12_40 (ix := 351) (by decide +kernel) tw_1121 (hB.1 73 _ rfl) ?_
    obtain rfl := Option.some.inj H
    exact ab_iret (by decide +kernel) rfl (Nat.le_refl _) (Nat.le_refl _) K0
  replace H := ab_ifn H hk1
  by_cases hk2 : a1 = (2 : Int32)
  · replace H := ab_ifp H hk2
    refine ab_tabk (key := (2 : Int32)) (off := 81) (tgt := 82) (dflt := 150) (lo := 0) (hi := 13) (offs := #[71, 76, 81, 86, 94, 102, 110, 115, 120, 125, 130, 135, 140, 145]) (len := 71) hk2 (by decide +kernel) (by decide) rfl ?_
    refine ab_aload_n (z := 0) (by decide +kernel) rfl rfl ?_
    refine gX12_41 (ix := 354) (by decide +kernel) tw_1122 (hB.1 73 _ rfl) ?_
    obtain rfl := Option.some.inj H
    exact ab_iret (by decide +kernel) rfl (Nat.le_refl _) (Nat.le_refl _) K0
  replace H := ab_ifn H hk2
  by_cases hk3 : a1 = (3 : Int32)
  · replace H := ab_ifp H hk3
    refine ab_tabk (key := (3 : Int32)) (off := 86) (tgt := 87) (dflt := 150) (lo := 0) (hi := 13) (offs := #[71, 76, 81, 86, 94, 102, 110, 115, 120, 125, 130, 135, 140, 145]) (len := 71) hk3 (by decide +kernel) (by decide) rfl ?_
    refine ab_aload_n (z := 0) (by decide +kernel) rfl rfl ?_
    refine gX12_46 (ix := 60) (by decide +kernel) tw_1127 (hB.1 73 _ rfl) (hB.2.1 94 (73, 46, 89) rfl) ?_
    refine ab_bipush (z := 12) (v := (12 : Int32)) (by decide +kernel) (by decide) ?_
    obtain ⟨hg, H⟩ := ab_gd_of H
    refine ab_iald (ln := 45) (by decide +kernel) (hB.1 89 _ rfl) (ab_ix_in hg) ?_
    obtain rfl := Option.some.inj H
    exact ab_iret (by decide +kernel) rfl (Nat.le_refl _) (Nat.le_refl _) K0
  replace H := ab_ifn H hk3
  by_cases hk4 : a1 = (4 : Int32)
  · replace H := ab_ifp H hk4
    refine ab_tabk (key := (4 : Int32)) (off := 94) (tgt := 95) (dflt := 150) (lo := 0) (hi := 13) (offs := #[71, 76, 81, 86, 94, 102, 110, 115, 120, 125, 130, 135, 140, 145]) (len := 71) hk4 (by decide +kernel) (by decide) rfl ?_
    refine ab_aload_n (z := 0) (by decide +kernel) rfl rfl ?_
    refine gX12_46 (ix := 60) (by decide +kernel) tw_1127 (hB.1 73 _ rfl) (hB.2.1 94 (73, 46, 89) rfl) ?_
    refine ab_bipush (z := 43) (v := (43 : Int32)) (by decide +kernel) (by decide) ?_
    obtain ⟨hg, H⟩ := ab_gd_of H
    refine ab_iald (ln := 45) (by decide +kernel) (hB.1 89 _ rfl) (ab_ix_in hg) ?_
    obtain rfl := Option.some.inj H
    exact ab_iret (by decide +kernel) rfl (Nat.le_refl _) (Nat.le_refl _) K0
  replace H := ab_ifn H hk4
  by_cases hk5 : a1 = (5 : Int32)
  · replace H := ab_ifp H hk5
    refine ab_tabk (key := (5 : Int32)) (off := 102) (tgt := 103) (dflt := 150) (lo := 0) (hi := 13) (offs := #[71, 76, 81, 86, 94, 102, 110, 115, 120, 125, 130, 135, 140, 145]) (len := 71) hk5 (by decide +kernel) (by decide) rfl ?_
    refine ab_aload_n (z := 0) (by decide +kernel) rfl rfl ?_
    refine gX12_46 (ix := 60) (by decide +kernel) tw_1127 (hB.1 73 _ rfl) (hB.2.1 94 (73, 46, 89) rfl) ?_
    refine ab_bipush (z := 44) (v := (44 : Int32)) (by decide +kernel) (by decide) ?_
    obtain ⟨hg, H⟩ := ab_gd_of H
    refine ab_iald (ln := 45) (by decide +kernel) (hB.1 89 _ rfl) (ab_ix_in hg) ?_
    obtain rfl := Option.some.inj H
    exact ab_iret (by decide +kernel) rfl (Nat.le_refl _) (Nat.le_refl _) K0
  replace H := ab_ifn H hk5
  by_cases hk6 : a1 = (6 : Int32)
  · replace H := ab_ifp H hk6
    refine ab_tabk (key := (6 : Int32)) (off := 110) (tgt := 111) (dflt := 150) (lo := 0) (hi := 13) (offs := #[71, 76, 81, 86, 94, 102, 110, 115, 120, 125, 130, 135, 140, 145]) (len := 71) hk6 (by decide +kernel) (by decide) rfl ?_
    refine ab_aload_n (z := 0) (by decide +kernel) rfl rfl ?_
    refine gX12_50 (ix := 372) (by decide +kernel) tw_1131 (hB.1 73 _ rfl) ?_
    obtain rfl := Option.some.inj H
    exact ab_iret (by decide +kernel) rfl (Nat.le_refl _) (Nat.le_refl _) K0
  replace H := ab_ifn H hk6
  by_cases hk7 : a1 = (7 : Int32)
  · replace H := ab_ifp H hk7
    refine ab_tabk (key := (7 : Int32)) (off := 115) (tgt := 116) (dflt := 150) (lo := 0) (hi := 13) (offs := #[71, 76, 81, 86, 94, 102, 110, 115, 120, 125, 130, 135, 140, 145]) (len := 71) hk7 (by decide +kernel) (by decide) rfl ?_
    refine ab_aload_n (z := 0) (by decide +kernel) rfl rfl ?_
    refine gX12_51 (ix := 375) (by decide +kernel) tw_1132 (hB.1 73 _ rfl) ?_
    obtain rfl := Option.some.inj H
    exact ab_iret (by decide +kernel) rfl (Nat.le_refl _) (Nat.le_refl _) K0
  replace H := ab_ifn H hk7
  by_cases hk8 : a1 = (8 : Int32)
  · replace H := ab_ifp H hk8
    refine ab_tabk (key := (8 : Int32)) (off := 120) (tgt := 121) (dflt := 150) (lo := 0) (hi := 13) (offs := #[71, 76, 81, 86, 94, 102, 110, 115, 120, 125, 130, 135, 140, 145]) (len := 71) hk8 (by decide +kernel) (by decide) rfl ?_
    refine ab_aload_n (z := 0) (by decide +kernel) rfl rfl ?_
    refine gX12_64 (ix := 378) (by decide +kernel) tw_1145 (hB.1 73 _ rfl) ?_
    obtain rfl := Option.some.inj H
    exact ab_iret (by decide +kernel) rfl (Nat.le_refl _) (Nat.le_refl _) K0
  replace H := ab_ifn H hk8
  by_cases hk9 : a1 = (9 : Int32)
  · replace H := ab_ifp H hk9
    refine ab_tabk (key := (9 : Int32)) (off := 125) (tgt := 126) (dflt := 150) (lo := 0) (hi := 13) (offs := #[71, 76, 81, 86, 94, 102, 110, 115, 120, 125, 130, 135, 140, 145]) (len := 71) hk9 (by decide +kernel) (by decide) rfl ?_
    refine ab_aload_n (z := 0) (by decide +kernel) rfl rfl ?_
    refine gX12_65 (ix := 476) (by decide +kernel) tw_1146 (hB.1 73 _ rfl) ?_
    obtain rfl := Option.some.inj H
    exact ab_iret (by decide +kernel) rfl (Nat.le_refl _) (Nat.le_refl _) K0
  replace H := ab_ifn H hk9
  by_cases hk10 : a1 = (10 : Int32)
  · replace H := ab_ifp H hk10
    refine ab_tabk (key := (10 : Int32)) (off := 130) (tgt := 131) (dflt := 150) (lo := 0) (hi := 13) (offs := #[71, 76, 81, 86, 94, 102, 110, 115, 120, 125, 130, 135, 140, 145]) (len := 71) hk10 (by decide +kernel) (by decide) rfl ?_
    refine ab_aload_n (z := 0) (by decide +kernel) rfl rfl ?_
    refine gX12_1 (ix := 121) (by decide +kernel) tw_1082 (hB.1 73 _ rfl) ?_
    obtain rfl := Option.some.inj H
    exact ab_iret (by decide +kernel) rfl (Nat.le_refl _) (Nat.le_refl _) K0
  replace H := ab_ifn H hk10
  by_cases hk11 : a1 = (11 : Int32)
  · replace H := ab_ifp H hk11
    refine ab_tabk (key := (11 : Int32)) (off := 135) (tgt := 136) (dflt := 150) (lo := 0) (hi := 13) (offs := #[71, 76, 81, 86, 94, 102, 110, 115, 120, 125, 130, 135, 140, 145]) (len := 71) hk11 (by decide +kernel) (by decide) rfl ?_
    refine ab_aload_n (z := 0) (by decide +kernel) rfl rfl ?_
    refine gX12_21 (ix := 363) (by decide +kernel) tw_1102 (hB.1 73 _ rfl) ?_
    obtain rfl := Option.some.inj H
    exact ab_iret (by decide +kernel) rfl (Nat.le_refl _) (Nat.le_refl _) K0
  replace H := ab_ifn H hk11
  by_cases hk12 : a1 = (12 : Int32)
  · replace H := ab_ifp H hk12
    refine ab_tabk (key := (12 : Int32)) (off := 140) (tgt := 141) (dflt := 150) (lo := 0) (hi := 13) (offs := #[71, 76, 81, 86, 94, 102, 110, 115, 120, 125, 130, 135, 140, 145]) (len := 71) hk12 (by decide +kernel) (by decide) rfl ?_
    refine ab_aload_n (z := 0) (by decide +kernel) rfl rfl ?_
    refine gX12_54 (ix := 381) (by decide +kernel) tw_1135 (hB.1 73 _ rfl) ?_
    obtain rfl := Option.some.inj H
    exact ab_iret (by decide +kernel) rfl (Nat.le_refl _) (Nat.le_refl _) K0
  replace H := ab_ifn H hk12
  by_cases hk13 : a1 = (13 : Int32)
  · replace H := ab_ifp H hk13
    refine ab_tabk (key := (13 : Int32)) (off := 145) (tgt := 146) (dflt := 150) (lo := 0) (hi := 13) (offs := #[71, 76, 81, 86, 94, 102, 110, 115, 120, 125, 130, 135, 140, 145]) (len := 71) hk13 (by decide +kernel) (by decide) rfl ?_
    refine ab_aload_n (z := 0) (by decide +kernel) rfl rfl ?_
    refine gX12_43 (ix := 360) (by decide +kernel) tw_1124 (hB.1 73 _ rfl) ?_
    obtain rfl := Option.some.inj H
    exact ab_iret (by decide +kernel) rfl (Nat.le_refl _) (Nat.le_refl _) K0
  replace H := ab_ifn H hk13
  have KD : ab_WP l G mX12_about 0 151 [some (.ref 73), some (.int a1)] [] S I J P 0 0 Q := by
    refine ab_iconst (z := -1) (v := (-1 : Int32)) (by decide +kernel) (by decide) ?_
    obtain rfl := Option.some.inj H
    exact ab_iret (by decide +kernel) rfl (Nat.le_refl _) (Nat.le_refl _) K0
  by_cases hlo : a1.toInt < 0
  · exact ab_tableOut (dflt := 150) (lo := 0) (hi := 13) (offs := #[71, 76, 81, 86, 94, 102, 110, 115, 120, 125, 130, 135, 140, 145]) (len := 71) (by decide +kernel) (Or.inl hlo) (tgt := 151) rfl KD
  by_cases hhi : 13 < a1.toInt
  · exact ab_tableOut (dflt := 150) (lo := 0) (hi := 13) (offs := #[71, 76, 81, 86, 94, 102, 110, 115, 120, 125, 130, 135, 140, 145]) (len := 71) (by decide +kernel) (Or.inr hhi) (tgt := 151) rfl KD
  by_cases hr : a1.toInt = 0
  · exact absurd (Int32.toInt_inj.mp (hr.trans (by decide))) hk0
  have hlo : ¬ a1.toInt < 1 := by omega
  by_cases hr : a1.toInt = 1
  · exact absurd (Int32.toInt_inj.mp (hr.trans (by decide))) hk1
  have hlo : ¬ a1.toInt < 2 := by omega
  by_cases hr : a1.toInt = 2
  · exact absurd (Int32.toInt_inj.mp (hr.trans (by decide))) hk2
  have hlo : ¬ a1.toInt < 3 := by omega
  by_cases hr : a1.toInt = 3
  · exact absurd (Int32.toInt_inj.mp (hr.trans (by decide))) hk3
  have hlo : ¬ a1.toInt < 4 := by omega
  by_cases hr : a1.toInt = 4
  · exact absurd (Int32.toInt_inj.mp (hr.trans (by decide))) hk4
  have hlo : ¬ a1.toInt < 5 := by omega
  by_cases hr : a1.toInt = 5
  · exact absurd (Int32.toInt_inj.mp (hr.trans (by decide))) hk5
  have hlo : ¬ a1.toInt < 6 := by omega
  by_cases hr : a1.toInt = 6
  · exact absurd (Int32.toInt_inj.mp (hr.trans (by decide))) hk6
  have hlo : ¬ a1.toInt < 7 := by omega
  by_cases hr : a1.toInt = 7
  · exact absurd (Int32.toInt_inj.mp (hr.trans (by decide))) hk7
  have hlo : ¬ a1.toInt < 8 := by omega
  by_cases hr : a1.toInt = 8
  · exact absurd (Int32.toInt_inj.mp (hr.trans (by decide))) hk8
  have hlo : ¬ a1.toInt < 9 := by omega
  by_cases hr : a1.toInt = 9
  · exact absurd (Int32.toInt_inj.mp (hr.trans (by decide))) hk9
  have hlo : ¬ a1.toInt < 10 := by omega
  by_cases hr : a1.toInt = 10
  · exact absurd (Int32.toInt_inj.mp (hr.trans (by decide))) hk10
  have hlo : ¬ a1.toInt < 11 := by omega
  by_cases hr : a1.toInt = 11
  · exact absurd (Int32.toInt_inj.mp (hr.trans (by decide))) hk11
  have hlo : ¬ a1.toInt < 12 := by omega
  by_cases hr : a1.toInt = 12
  · exact absurd (Int32.toInt_inj.mp (hr.trans (by decide))) hk12
  have hlo : ¬ a1.toInt < 13 := by omega
  by_cases hr : a1.toInt = 13
  · exact absurd (Int32.toInt_inj.mp (hr.trans (by decide))) hk13
  have hlo : ¬ a1.toInt < 14 := by omega
  exact absurd (by omega : 13 < a1.toInt) hhi
