abbrev mX10_fitting : ab_M := (yX10_fitting, cX10_fitting, 5, some .int, 0, 0)
theorem kvX10_fitting {l : Launch} {G : ab_G} {M : ab_M} {d pc : Nat} {ls : List (Option Value)} {st : List Value} {S : ab_S} {I : ab_I} {J : ab_J} {P : ab_P} {Q : ab_Q} {v0 : Value} {ix D r ln : Nat} (hd : decode M.2.1 pc = .ok (.invokevirtual ix, 3)) (h1 : Cond.methodLink M.1.cls ix mX10_fitting.1 ∈ ab_good) (hs : S[r]? = some (15, ln)) (hdg : D + 1 ≤ d) (hsum : (st.map fun v => v.category).sum ≤ 8) (kk : ab_Call l G mX10_fitting D (.ref r :: [v0]) S I J P (fun v S' I' J' P' => ab_WP l G M d (pc + 3) ls (ab_psh v st) S' I' J' P' 0 0 Q)) : ab_WP l G M d pc ls (v0 :: .ref r :: st) S I J P 0 0 Q := bz_kv (g := mX10_fitting) (as := [v0]) (cc := 10) rfl hd h1 tw_1011 tw_1012 tw_11 tw_1013 ⟨by decide +kernel, by decide +kernel, (by decide +kernel : (parseMethodDescriptor mX10_fitting.1.desc).map (fun d => d.parameters.length) = some 1)⟩ (by decide) rfl rfl rfl hdg hsum hs kk
def fX10_fitting_86 (a1 : Int32) (a3 : Int32) (I : ab_I) : Option (Int32 × ab_I) :=
  some (a3, I)
set_option maxRecDepth 100000 in
theorem fX10_fitting_86_ok {l : Launch} {G : ab_G} {S : ab_S} {I : ab_I} {J : ab_J} {P : ab_P} {Q : ab_Q} {a1 : Int32} {a3 : Int32} (hB : bz_B S P) {x : Int32 × ab_I} (H : fX10_fitting_86 a1 a3 I = some x) (K0 : Q (some (.int x.1)) S x.2 J P) : ab_WP l G mX10_fitting 6 86 [some (.ref 41), some (.int a1), none, some (.int a3), none] [] S I J P 0 0 Q := by
  unfold fX10_fitting_86 at H
  refine ab_iload_n (z := 3) (by decide +kernel) rfl rfl ?_
  obtain rfl := Option.some.inj H
  exact ab_iret (by decide +kernel) rfl (Nat.le_refl _) (Nat.le_refl _) K0
def fX10_fitting_80 (a1 : Int32) (a2 : Int32) (a3 : Int32) (a4 : Int32) (I : ab_I) : Option ((Int32 × Int32 × Int32 × ab_I) ⊕ (Int32 × ab_I)) :=
  some (.inl (a2, a3, (a4 + (1 : Int32)), I))
set_option maxRecDepth 100000 in
theorem fX10_fitting_80_ok {l : Launch} {G : ab_G} {S : ab_S} {I : ab_I} {J : ab_J} {P : ab_P} {Q : ab_Q} {a1 : Int32} {a2 : Int32} {a3 : Int32} {a4 : Int32} (hB : bz_B S P) {x : ((Int32 × Int32 × Int32 × ab_I) ⊕ (Int32 × ab_I))} (H : fX10_fitting_80 a1 a2 a3 a4 I = some x) (K1 : ∀ s, x = (.inl s) → ab_WP l G mX10_fitting 6 55 [some (.ref 41), some (.int a1), some (.int s.1), some (.int s.2.1), some (.int s.2.2.1)] [] S s.2.2.2 J P 0 0 Q) (K0 : ∀ r, x = (.inr r) → Q (some (.int r.1)) S r.2 J P) : ab_WP l G mX10_fitting 6 80 [some (.ref 41), some (.int a1), some (.int a2), some (.int a3), some (.int a4)] [] S I J P 0 0 Q := by
  unfold fX10_fitting_80 at H
  refine ab_iinc (i := 4) (z := 1) (v := (a4 + (1 : Int32))) (by decide +kernel) rfl rfl (by decide) rfl ?_
  refine ab_ls (ls' := [some (.ref 41), some (.int a1), some (.int a2), some (.int a3), some (.int (a4 + (1 : Int32)))]) rfl ?_
  refine ab_goto (off := -28) (tgt := 55) (by decide +kernel) rfl ?_
  exact ab_wk (ab_le_some (ab_le_some (ab_le_some (ab_le_some (ab_le_some (ab_le_nil)))))) (K1 (a2, a3, (a4 + (1 : Int32)), I) (Option.some.inj H).symm)
def fX10_fitting_44 (a1 : Int32) (a2 : Int32) (a3 : Int32) (I : ab_I) : Option ((Int32 × Int32 × ab_I) ⊕ (Int32 × ab_I)) :=
  some (.inl (a2, (a3 + (1 : Int32)), I))
set_option maxRecDepth 100000 in
theorem fX10_fitting_44_ok {l : Launch} {G : ab_G} {S : ab_S} {I : ab_I} {J : ab_J} {P : ab_P} {Q : ab_Q} {a1 : Int32} {a2 : Int32} {a3 : Int32} (hB : bz_B S P) {x : ((Int32 × Int32 × ab_I) ⊕ (Int32 × ab_I))} (H : fX10_fitting_44 a1 a2 a3 I = some x) (K1 : ∀ s, x = (.inl s) → ab_WP l G mX10_fitting 6 16 [some (.ref 41), some (.int a1), some (.int s.1), some (.int s.2.1), none] [] S s.2.2 J P 0 0 Q) (K0 : ∀ r, x = (.inr r) → Q (some (.int r.1)) S r.2 J P) : ab_WP l G mX10_fitting 6 44 [some (.ref 41), some (.int a1), some (.int a2), some (.int a3), none] [] S I J P 0 0 Q := by
  unfold fX10_fitting_44 at H
  refine ab_iinc (i := 3) (z := 1) (v := (a3 + (1 : Int32))) (by decide +kernel) rfl rfl (by decide) rfl ?_
  refine ab_ls (ls' := [some (.ref 41), some (.int a1), some (.int a2), some (.int (a3 + (1 : Int32))), none]) rfl ?_
  refine ab_goto (off := -31) (tgt := 16) (by decide +kernel) rfl ?_
  exact ab_wk (ab_le_some (ab_le_some (ab_le_some (ab_le_some (ab_le_none (ab_le_nil)))))) (K1 (a2, (a3 + (1 : Int32)), I) (Option.some.inj H).symm)
def fX10_fitting_55 (a1 : Int32) (a2 : Int32) (a3 : Int32) (a4 : Int32) (I : ab_I) : Option ((Int32 × Int32 × Int32 × ab_I) ⊕ (Int32 × ab_I)) :=
  if (20 : Int32) < a4 then
    (fX10_fitting_86 a1 a3 I).map .inr
  else
    (fX10_holds a4 a2 a1 I).bind fun u4 =>
    if u4.1 = 0 then
      fX10_fitting_80 a1 a2 a3 a4 u4.2
    else
      fX10_fitting_80 a1 a2 (a3 ||| ((1 : Int32) <<< (a4 &&& 31))) a4 u4.2
set_option maxRecDepth 100000 in
theorem fX10_fitting_55_ok {l : Launch} {G : ab_G} {S : ab_S} {I : ab_I} {J : ab_J} {P : ab_P} {Q : ab_Q} {a1 : Int32} {a2 : Int32} {a3 : Int32} {a4 : Int32} (hB : bz_B S P) {x : ((Int32 × Int32 × Int32 × ab_I) ⊕ (Int32 × ab_I))} (H : fX10_fitting_55 a1 a2 a3 a4 I = some x) (K1 : ∀ s, x = (.inl s) → ab_WP l G mX10_fitting 6 55 [some (.ref 41), some (.int a1), some (.int s.1), some (.int s.2.1), some (.int s.2.2.1)] [] S s.2.2.2 J P 0 0 Q) (K0 : ∀ r, x = (.inr r) → Q (some (.int r.1)) S r.2 J P) : ab_WP l G mX10_fitting 6 55 [some (.ref 41), some (.int a1), some (.int a2), some (.int a3), some (.int a4)] [] S I J P 0 0 Q := by
  unfold fX10_fitting_55 at H
  refine ab_iload (i := 4) (by decide +kernel) rfl ?_
  refine ab_bipush (z := 20) (v := (20 : Int32)) (by decide +kernel) (by decide) ?_
  refine ab_icmp_gt (off := 27) (tgt := 86) (by decide +kernel) rfl (fun hc => ?_) (fun hc => ?_)
  · replace H := ab_ifp H hc
    obtain ⟨y3, Hy, hx⟩ := ab_mp_of H
    subst hx
    replace H := Hy
    exact ab_wk (ab_le_some (ab_le_some (ab_le_none (ab_le_some (ab_le_none (ab_le_nil)))))) (fX10_fitting_86_ok hB H  (K0 _ rfl))
  · replace H := ab_ifn H hc
    refine ab_aload_n (z := 0) (by decide +kernel) rfl rfl ?_
    refine ab_iload (i := 4) (by decide +kernel) rfl ?_
    refine ab_iload_n (z := 2) (by decide +kernel) rfl rfl ?_
    refine ab_iload_n (z := 1) (by decide +kernel) rfl rfl ?_
    obtain ⟨u4, hu4, H⟩ := ab_bd_of H
    refine kvX10_holds (D := 5) (ix := 72) (by decide +kernel) tw_1019 (hB.1 41 _ rfl) (by decide) (Nat.le_of_ble_eq_true rfl) (mX10_holds_ok hB hu4 ?_)
    change ab_WP l G mX10_fitting 6 70 [some (.ref 41), some (.int a1), some (.int a2), some (.int a3), some (.int a4)] [.int u4.1] S u4.2 J P 0 0 Q
    refine ab_if_eq (off := 10) (tgt := 80) (by decide +kernel) rfl (fun hc => ?_) (fun hc => ?_)
    · replace H := ab_ifp H hc
      exact ab_wk (ab_le_some (ab_le_some (ab_le_some (ab_le_some (ab_le_some (ab_le_nil)))))) (fX10_fitting_80_ok hB H K1 K0)
    · replace H := ab_ifn H hc
      refine ab_iload_n (z := 3) (by decide +kernel) rfl rfl ?_
      refine ab_iconst (z := 1) (v := (1 : Int32)) (by decide +kernel) (by decide) ?_
      refine ab_iload (i := 4) (by decide +kernel) rfl ?_
      refine ab_ishl (by decide +kernel) ?_
      refine ab_ior (by decide +kernel) ?_
      refine ab_istore_n (z := 3) (by decide +kernel) rfl (by decide) rfl ?_
      refine ab_ls (ls' := [some (.ref 41), some (.int a1), some (.int a2), some (.int (a3 ||| ((1 : Int32) <<< (a4 &&& 31)))), some (.int a4)]) rfl ?_
      exact ab_wk (ab_le_some (ab_le_some (ab_le_some (ab_le_some (ab_le_some (ab_le_nil)))))) (fX10_fitting_80_ok hB H K1 K0)
def fX10_fitting_50 (a1 : Int32) (a2 : Int32) (I : ab_I) : Option (Int32 × ab_I) :=
  ab_it (fun s => fX10_fitting_55 a1 s.1 s.2.1 s.2.2.1 s.2.2.2) 5000 (a2, (0 : Int32), (0 : Int32), I)
set_option maxRecDepth 100000 in
theorem fX10_fitting_50_ok {l : Launch} {G : ab_G} {S : ab_S} {I : ab_I} {J : ab_J} {P : ab_P} {Q : ab_Q} {a1 : Int32} {a2 : Int32} (hB : bz_B S P) {x : Int32 × ab_I} (H : fX10_fitting_50 a1 a2 I = some x) (K0 : Q (some (.int x.1)) S x.2 J P) : ab_WP l G mX10_fitting 6 50 [some (.ref 41), some (.int a1), some (.int a2), none, none] [] S I J P 0 0 Q := by
  unfold fX10_fitting_50 at H
  refine ab_iconst (z := 0) (v := (0 : Int32)) (by decide +kernel) (by decide) ?_
  refine ab_istore_n (z := 3) (by decide +kernel) rfl (by decide) rfl ?_
  refine ab_ls (ls' := [some (.ref 41), some (.int a1), some (.int a2), some (.int (0 : Int32)), none]) rfl ?_
  refine ab_iconst (z := 0) (v := (0 : Int32)) (by decide +kernel) (by decide) ?_
  refine ab_istore (i := 4) (by decide +kernel) (by decide) rfl ?_
  refine ab_ls (ls' := [some (.ref 41), some (.int a1), some (.int a2), some (.int (0 : Int32)), some (.int (0 : Int32))]) rfl ?_
  exact ab_wk (ab_le_some (ab_le_some (ab_le_some (ab_le_some (ab_le_some (ab_le_nil)))))) (ab_iter (body := (fun s => fX10_fitting_55 a1 s.1 s.2.1 s.2.2.1 s.2.2.2)) (W := fun s => ab_WP l G mX10_fitting 6 55 [some (.ref 41), some (.int a1), some (.int s.1), some (.int s.2.1), some (.int s.2.2.1)] [] S s.2.2.2 J P 0 0 Q) (fun s y hb h1 h2 => fX10_fitting_55_ok hB hb h1 (fun r e => by have e2 := h2 _ e; subst e2; exact K0)) 5000 (a2, (0 : Int32), (0 : Int32), I) H)
def fX10_fitting_16 (a1 : Int32) (a2 : Int32) (a3 : Int32) (I : ab_I) : Option ((Int32 × Int32 × ab_I) ⊕ (Int32 × ab_I)) :=
  if (I 41 10) ≤ a3 then
    (fX10_fitting_50 a1 a2 I).map .inr
  else
    (fX10_counts a3 a1 I).bind fun u2 =>
    if u2 = 0 then
      fX10_fitting_44 a1 a2 a3 I
    else
      ab_gd (ab_ix a3 30 = true) (
        fX10_fitting_44 a1 (if a2 < (I 46 a3.toNatClampNeg) then (I 46 a3.toNatClampNeg) else a2) a3 I
      )
set_option maxRecDepth 100000 in
theorem fX10_fitting_16_ok {l : Launch} {G : ab_G} {S : ab_S} {I : ab_I} {J : ab_J} {P : ab_P} {Q : ab_Q} {a1 : Int32} {a2 : Int32} {a3 : Int32} (hB : bz_B S P) {x : ((Int32 × Int32 × ab_I) ⊕ (Int32 × ab_I))} (H : fX10_fitting_16 a1 a2 a3 I = some x) (K1 : ∀ s, x = (.inl s) → ab_WP l G mX10_fitting 6 16 [some (.ref 41), some (.int a1), some (.int s.1), some (.int s.2.1), none] [] S s.2.2 J P 0 0 Q) (K0 : ∀ r, x = (.inr r) → Q (some (.int r.1)) S r.2 J P) : ab_WP l G mX10_fitting 6 16 [some (.ref 41), some (.int a1), some (.int a2), some (.int a3), none] [] S I J P 0 0 Q := by
  unfold fX10_fitting_16 at H
  refine ab_iload_n (z := 3) (by decide +kernel) rfl rfl ?_
  refine ab_aload_n (z := 0) (by decide +kernel) rfl rfl ?_
  refine gX10_10 (ix := 41) (by decide +kernel) tw_356 (hB.1 41 _ rfl) ?_
  refine ab_icmp_ge (off := 29) (tgt := 50) (by decide +kernel) rfl (fun hc => ?_) (fun hc => ?_)
  · replace H := ab_ifp H hc
    obtain ⟨y1, Hy, hx⟩ := ab_mp_of H
    subst hx
    replace H := Hy
    exact ab_wk (ab_le_some (ab_le_some (ab_le_some (ab_le_none (ab_le_none (ab_le_nil)))))) (fX10_fitting_50_ok hB H  (K0 _ rfl))
  · replace H := ab_ifn H hc
    refine ab_aload_n (z := 0) (by decide +kernel) rfl rfl ?_
    refine ab_iload_n (z := 3) (by decide +kernel) rfl rfl ?_
    refine ab_iload_n (z := 1) (by decide +kernel) rfl rfl ?_
    obtain ⟨u2, hu2, H⟩ := ab_bd_of H
    refine kvX10_counts (D := 0) (ix := 62) (by decide +kernel) tw_1014 (hB.1 41 _ rfl) (by decide) (Nat.le_of_ble_eq_true rfl) (mX10_counts_ok hB hu2 ?_)
    change ab_WP l G mX10_fitting 6 30 [some (.ref 41), some (.int a1), some (.int a2), some (.int a3), none] [.int u2] S I J P 0 0 Q
    refine ab_if_eq (off := 14) (tgt := 44) (by decide +kernel) rfl (fun hc => ?_) (fun hc => ?_)
    · replace H := ab_ifp H hc
      exact ab_wk (ab_le_some (ab_le_some (ab_le_some (ab_le_some (ab_le_none (ab_le_nil)))))) (fX10_fitting_44_ok hB H K1 K0)
    · replace H := ab_ifn H hc
      refine ab_iload_n (z := 2) (by decide +kernel) rfl rfl ?_
      refine ab_aload_n (z := 0) (by decide +kernel) rfl rfl ?_
      refine gX10_3 (ix := 18) (by decide +kernel) tw_349 (hB.1 41 _ rfl) (hB.2.1 53 (41, 3, 46) rfl) ?_
      refine ab_iload_n (z := 3) (by decide +kernel) rfl rfl ?_
      obtain ⟨hg, H⟩ := ab_gd_of H
      refine ab_iald (ln := 30) (by decide +kernel) (hB.1 46 _ rfl) (ab_ix_in hg) ?_
      refine ab_mmax (ix := 66) (by decide +kernel) tw_1018 tw_978 tw_17 tw_979 (by decide) (Nat.le_of_ble_eq_true rfl) (Nat.le_refl _) (Nat.le_refl _) ?_
      refine ab_istore_n (z := 2) (by decide +kernel) rfl (by decide) rfl ?_
      refine ab_ls (ls' := [some (.ref 41), some (.int a1), some (.int (if a2 < (I 46 a3.toNatClampNeg) then (I 46 a3.toNatClampNeg) else a2)), some (.int a3), none]) rfl ?_
      exact ab_wk (ab_le_some (ab_le_some (ab_le_some (ab_le_some (ab_le_none (ab_le_nil)))))) (fX10_fitting_44_ok hB H K1 K0)
def fX10_fitting (a1 : Int32) (I : ab_I) : Option (Int32 × ab_I) :=
  if (I 3 6) = 0 then
    some ((0 : Int32), I)
  else
    ab_it (fun s => fX10_fitting_16 a1 s.1 s.2.1 s.2.2) 5000 ((0 : Int32), (0 : Int32), I)
set_option maxRecDepth 100000 in
theorem mX10_fitting_ok {l : Launch} {G : ab_G} {S : ab_S} {I : ab_I} {J : ab_J} {P : ab_P} {Q : ab_Q} {a1 : Int32} (hB : bz_B S P) {x : Int32 × ab_I} (H : fX10_fitting a1 I = some x) (K0 : Q (some (.int x.1)) S x.2 J P) : ab_Call l G mX10_fitting 6 [.ref 41, .int a1] S I J P Q := by
  unfold fX10_fitting at H
  refine ab_enter rfl (Nat.le_of_ble_eq_true rfl) (ab_wk (ls' := [some (.ref 41), some (.int a1), none, none, none]) (ab_le_some (ab_le_some (ab_le_non0 (ab_le_non0 (ab_le_non0 ab_le_nil))))) ?_)
  refine ab_aload_n (z := 0) (by decide +kernel) rfl rfl ?_
  refine gX10_0 (ix := 48) (by decide +kernel) tw_346 (hB.1 41 _ rfl) (hB.2.1 50 (41, 0, 3) rfl) ?_
  refine gX9_6 (ix := 57) (by decide +kernel) tw_101 (hB.1 3 _ rfl) ?_
  refine ab_if_ne (off := 5) (tgt := 12) (by decide +kernel) rfl (fun hc => ?_) (fun hc => ?_)
  · replace H := ab_ifn H hc
    refine ab_iconst (z := 0) (v := (0 : Int32)) (by decide +kernel) (by decide) ?_
    refine ab_istore_n (z := 2) (by decide +kernel) rfl (by decide) rfl ?_
    refine ab_ls (ls' := [some (.ref 41), some (.int a1), some (.int (0 : Int32)), none, none]) rfl ?_
    refine ab_iconst (z := 0) (v := (0 : Int32)) (by decide +kernel) (by decide) ?_
    refine ab_istore_n (z := 3) (by decide +kernel) rfl (by decide) rfl ?_
    refine ab_ls (ls' := [some (.ref 41), some (.int a1), some (.int (0 : Int32)), some (.int (0 : Int32)), none]) rfl ?_
    exact ab_wk (ab_le_some (ab_le_some (ab_le_some (ab_le_some (ab_le_none (ab_le_nil)))))) (ab_iter (body := (fun s => fX10_fitting_16 a1 s.1 s.2.1 s.2.2)) (W := fun s => ab_WP l G mX10_fitting 6 16 [some (.ref 41), some (.int a1), some (.int s.1), some (.int s.2.1), none] [] S s.2.2 J P 0 0 Q) (fun s y hb h1 h2 => fX10_fitting_16_ok hB hb h1 (fun r e => by have e2 := h2 _ e; subst e2; exact K0)) 5000 ((0 : Int32), (0 : Int32), I) H)
  · replace H := ab_ifp H hc
    refine ab_iconst (z := 0) (v := (0 : Int32)) (by decide +kernel) (by decide) ?_
    obtain rfl := Option.some.inj H
    exact ab_iret (by decide +kernel) rfl (Nat.le_refl _) (Nat.le_refl _) K0
abbrev mX11_fits : ab_M := (yX11_fits, cX11_fits, 2, some .int, 0, 0)
def fX11_fits (a1 : Int32) (I : ab_I) : Option (Int32 × ab_I) :=
  (fX10_fitting a1 I).bind fun u1 =>
  (fJ6_bitCount_0f7a4 u1.1).bind fun u2 =>
  some (u2, u1.2)
set_option maxRecDepth 100000 in
theorem mX11_fits_ok {l : Launch} {G : ab_G} {S : ab_S} {I : ab_I} {J : ab_J} {P : ab_P} {Q : ab_Q} {a1 : Int32} (hB : bz_B S P) {x : Int32 × ab_I} (H : fX11_fits a1 I = some x) (K0 : Q (some (.int x.1)) S x.2 J P) : ab_Call l G mX11_fits 7 [.ref 0, .int a1] S I J P Q := by
  unfold fX11_fits at H
  refine ab_enter rfl (Nat.le_of_ble_eq_true rfl) (ab_wk (ls' := [some (.ref 0), some (.int a1)]) (ab_le_some (ab_le_some (ab_le_nil))) ?_)
  refine ab_aload_n (z := 0) (by decide +kernel) rfl rfl ?_
  refine gX11_6 (ix := 60) (by decide +kernel) tw_414 (hB.1 0 _ rfl) (hB.2.1 6 (0, 6, 41) rfl) ?_
  refine ab_iload_n (z := 1) (by decide +kernel) rfl rfl ?_
  obtain ⟨u1, hu1, H⟩ := ab_bd_of H
  refine kvX10_fitting (D := 6) (ix := 317) (by decide +kernel) tw_1010 (hB.1 41 _ rfl) (by decide) (Nat.le_of_ble_eq_true rfl) (mX10_fitting_ok hB hu1 ?_)
  change ab_WP l G mX11_fits 7 8 [some (.ref 0), some (.int a1)] [.int u1.1] S u1.2 J P 0 0 Q
  obtain ⟨u2, hu2, H⟩ := ab_bd_of H
  refine ksJ6_bitCount_0f7a4 (D := 0) (ix := 198) (by decide +kernel) tw_752 (by decide) (Nat.le_of_ble_eq_true rfl) (mJ6_bitCount_0f7a4_ok hB hu2 ?_)
  change ab_WP l G mX11_fits 7 11 [some (.ref 0), some (.int a1)] [.int u2] S u1.2 J P 0 0 Q
  obtain rfl := Option.some.inj H
  exact ab_iret (by decide +kernel) rfl (Nat.le_refl _) (Nat.le_refl _) K0
abbrev mX10_least : ab_M := (yX10_least, cX10_least, 3, some .int, 0, 0)
theorem kvX10_least {l : Launch} {G : ab_G} {M : ab_M} {d pc : Nat} {ls : List (Option Value)} {st : List Value} {S : ab_S} {I : ab_I} {J : ab_J} {P : ab_P} {Q : ab_Q} {v0 : Value} {ix D r ln : Nat} (hd : decode M.2.1 pc = .ok (.invokevirtual ix, 3)) (h1 : Cond.methodLink M.1.cls ix mX10_least.1 ∈ ab_good) (hs : S[r]? = some (15, ln)) (hdg : D + 1 ≤ d) (hsum : (st.map fun v => v.category).sum ≤ 8) (kk : ab_Call l G mX10_least D (.ref r :: [v0]) S I J P (fun v S' I' J' P' => ab_WP l G M d (pc + 3) ls (ab_psh v st) S' I' J' P' 0 0 Q)) : ab_WP l G M d pc ls (v0 :: .ref r :: st) S I J P 0 0 Q := bz_kv (g := mX10_least) (as := [v0]) (cc := 10) rfl hd h1 tw_1034 tw_1035 tw_11 tw_1036 ⟨by decide +kernel, by decide +kernel, (by decide +kernel : (parseMethodDescriptor mX10_least.1.desc).map (fun d => d.parameters.length) = some 1)⟩ (by decide) rfl rfl rfl hdg hsum hs kk
def fX10_least_22 (a1 : Int32) (a2 : Int32) : Option Int32 :=
  some a2
set_option maxRecDepth 100000 in
theorem fX10_least_22_ok {l : Launch} {G : ab_G} {S : ab_S} {I : ab_I} {J : ab_J} {P : ab_P} {Q : ab_Q} {a1 : Int32} {a2 : Int32} (hB : bz_B S P) {x : Int32} (H : fX10_least_22 a1 a2 = some x) (K0 : Q (some (.int x)) S I J P) : ab_WP l G mX10_least 0 22 [some (.ref 41), some (.int a1), some (.int a2)] [] S I J P 0 0 Q := by
  unfold fX10_least_22 at H
  refine ab_iload_n (z := 2) (by decide +kernel) rfl rfl ?_
  obtain rfl := Option.some.inj H
  exact ab_iret (by decide +kernel) rfl (Nat.le_refl _) (Nat.le_refl _) K0
def fX10_least_2 (a1 : Int32) (a2 : Int32) : Option ((Int32) ⊕ Int32) :=
  if (20 : Int32) ≤ a2 then
    (fX10_least_22 a1 a2).map .inr
  else
    if ((a1 >>> (a2 &&& 31)) &&& (1 : Int32)) = 0 then
      some (.inl (a2 + (1 : Int32)))
    else
      (fX10_least_22 a1 a2).map .inr
set_option maxRecDepth 100000 in
theorem fX10_least_2_ok {l : Launch} {G : ab_G} {S : ab_S} {I : ab_I} {J : ab_J} {P : ab_P} {Q : ab_Q} {a1 : Int32} {a2 : Int32} (hB : bz_B S P) {x : ((Int32) ⊕ Int32)} (H : fX10_least_2 a1 a2 = some x) (K1 : ∀ s, x = (.inl s) → ab_WP l G mX10_least 0 2 [some (.ref 41), some (.int a1), some (.int s)] [] S I J P 0 0 Q) (K0 : ∀ r, x = (.inr r) → Q (some (.int r)) S I J P) : ab_WP l G mX10_least 0 2 [some (.ref 41), some (.int a1), some (.int a2)] [] S I J P 0 0 Q := by
  unfold fX10_least_2 at H
  refine ab_iload_n (z := 2) (by decide +kernel) rfl rfl ?_
  refine ab_bipush (z := 20) (v := (20 : Int32)) (by decide +kernel) (by decide) ?_
  refine ab_icmp_ge (off := 17) (tgt := 22) (by decide +kernel) rfl (fun hc => ?_) (fun hc => ?_)
  · replace H := ab_ifp H hc
    obtain ⟨y1, Hy, hx⟩ := ab_mp_of H
    subst hx
    replace H := Hy
    exact ab_wk (ab_le_some (ab_le_some (ab_le_some (ab_le_nil)))) (fX10_least_22_ok hB H  (K0 _ rfl))
  · replace H := ab_ifn H hc
    refine ab_iload_n (z := 1) (by decide +kernel) rfl rfl ?_
    refine ab_iload_n (z := 2) (by decide +kernel) rfl rfl ?_
    refine ab_ishr (by decide +kernel) ?_
    refine ab_iconst (z := 1) (v := (1 : Int32)) (by decide +kernel) (by decide) ?_
    refine ab_iand (by decide +kernel) ?_
    refine ab_if_ne (off := 9) (tgt := 22) (by decide +kernel) rfl (fun hc => ?_) (fun hc => ?_)
    · replace H := ab_ifn H hc
      obtain ⟨y2, Hy, hx⟩ := ab_mp_of H
      subst hx
      replace H := Hy
      exact ab_wk (ab_le_some (ab_le_some (ab_le_some (ab_le_nil)))) (fX10_least_22_ok hB H  (K0 _ rfl))
    · replace H := ab_ifp H hc
      refine ab_iinc (i := 2) (z := 1) (v := (a2 + (1 : Int32))) (by decide +kernel) rfl rfl (by decide) rfl ?_
      refine ab_ls (ls' := [some (.ref 41), some (.int a1), some (.int (a2 + (1 : Int32)))]) rfl ?_
      refine ab_goto (off := -17) (tgt := 2) (by decide +kernel) rfl ?_
      exact ab_wk (ab_le_some (ab_le_some (ab_le_some (ab_le_nil)))) (K1 (a2 + (1 : Int32)) (Option.some.inj H).symm)
def fX10_least (a1 : Int32) : Option Int32 :=
  ab_it (fun s => fX10_least_2 a1 s) 5000 (0 : Int32)
set_option maxRecDepth 100000 in
theorem mX10_least_ok {l : Launch} {G : ab_G} {S : ab_S} {I : ab_I} {J : ab_J} {P : ab_P} {Q : ab_Q} {a1 : Int32} (hB : bz_B S P) {x : Int32} (H : fX10_least a1 = some x) (K0 : Q (some (.int x)) S I J P) : ab_Call l G mX10_least 0 [.ref 41, .int a1] S I J P Q := by
  unfold fX10_least at H
  refine ab_enter rfl (Nat.le_of_ble_eq_true rfl) (ab_wk (ls' := [some (.ref 41), some (.int a1), none]) (ab_le_some (ab_le_some (ab_le_non0 ab_le_nil))) ?_)
  refine ab_iconst (z := 0) (v := (0 : Int32)) (by decide +kernel) (by decide) ?_
  refine ab_istore_n (z := 2) (by decide +kernel) rfl (by decide) rfl ?_
  refine ab_ls (ls' := [some (.ref 41), some (.int a1), some (.int (0 : Int32))]) rfl ?_
  exact ab_wk (ab_le_some (ab_le_some (ab_le_some (ab_le_nil)))) (ab_iter (body := (fun s => fX10_least_2 a1 s)) (W := fun s => ab_WP l G mX10_least 0 2 [some (.ref 41), some (.int a1), some (.int s)] [] S I J P 0 0 Q) (fun s y hb h1 h2 => fX10_least_2_ok hB hb h1 (fun r e => by have e2 := h2 _ e; subst e2; exact K0)) 5000 (0 : Int32) H)
abbrev mX10_greatest : ab_M := (yX10_greatest, cX10_greatest, 3, some .int, 0, 0)
theorem kvX10_greatest {l : Launch} {G : ab_G} {M : ab_M} {d pc : Nat} {ls : List (Option Value)} {st : List Value} {S : ab_S} {I : ab_I} {J : ab_J} {P : ab_P} {Q : ab_Q} {v0 : Value} {ix D r ln : Nat} (hd : decode M.2.1 pc = .ok (.invokevirtual ix, 3)) (h1 : Cond.methodLink M.1.cls ix mX10_greatest.1 ∈ ab_good) (hs : S[r]? = some (15, ln)) (hdg : D + 1 ≤ d) (hsum : (st.map fun v => v.category).sum ≤ 8) (kk : ab_Call l G mX10_greatest D (.ref r :: [v0]) S I J P (fun v S' I' J' P' => ab_WP l G M d (pc + 3) ls (ab_psh v st) S' I' J' P' 0 0 Q)) : ab_WP l G M d pc ls (v0 :: .ref r :: st) S I J P 0 0 Q := bz_kv (g := mX10_greatest) (as := [v0]) (cc := 10) rfl hd h1 tw_1038 tw_1039 tw_11 tw_1040 ⟨by decide +kernel, by decide +kernel, (by decide +kernel : (parseMethodDescriptor mX10_greatest.1.desc).map (fun d => d.parameters.length) = some 1)⟩ (by decide) rfl rfl rfl hdg hsum hs kk
def fX10_greatest_21 (a1 : Int32) (a2 : Int32) : Option Int32 :=
  some a2
set_option maxRecDepth 100000 in
theorem fX10_greatest_21_ok {l : Launch} {G : ab_G} {S : ab_S} {I : ab_I} {J : ab_J} {P : ab_P} {Q : ab_Q} {a1 : Int32} {a2 : Int32} (hB : bz_B S P) {x : Int32} (H : fX10_greatest_21 a1 a2 = some x) (K0 : Q (some (.int x)) S I J P) : ab_WP l G mX10_greatest 0 21 [some (.ref 41), some (.int a1), some (.int a2)] [] S I J P 0 0 Q := by
  unfold fX10_greatest_21 at H
  refine ab_iload_n (z := 2) (by decide +kernel) rfl rfl ?_
  obtain rfl := Option.some.inj H
  exact ab_iret (by decide +kernel) rfl (Nat.le_refl _) (Nat.le_refl _) K0
def fX10_greatest_3 (a1 : Int32) (a2 : Int32) : Option ((Int32) ⊕ Int32) :=
  if a2 ≤ 0 then
    (fX10_greatest_21 a1 a2).map .inr
  else
    if ((a1 >>> (a2 &&& 31)) &&& (1 : Int32)) = 0 then
      some (.inl (a2 + (-1 : Int32)))
    else
      (fX10_greatest_21 a1 a2).map .inr
set_option maxRecDepth 100000 in
theorem fX10_greatest_3_ok {l : Launch} {G : ab_G} {S : ab_S} {I : ab_I} {J : ab_J} {P : ab_P} {Q : ab_Q} {a1 : Int32} {a2 : Int32} (hB : bz_B S P) {x : ((Int32) ⊕ Int32)} (H : fX10_greatest_3 a1 a2 = some x) (K1 : ∀ s, x = (.inl s) → ab_WP l G mX10_greatest 0 3 [some (.ref 41), some (.int a1), some (.int s)] [] S I J P 0 0 Q) (K0 : ∀ r, x = (.inr r) → Q (some (.int r)) S I J P) : ab_WP l G mX10_greatest 0 3 [some (.ref 41), some (.int a1), some (.int a2)] [] S I J P 0 0 Q := by
  unfold fX10_greatest_3 at H
  refine ab_iload_n (z := 2) (by decide +kernel) rfl rfl ?_
  refine ab_if_le (off := 17) (tgt := 21) (by decide +kernel) rfl (fun hc => ?_) (fun hc => ?_)
  · replace H := ab_ifp H hc
    obtain ⟨y1, Hy, hx⟩ := ab_mp_of H
    subst hx
    replace H := Hy
    exact ab_wk (ab_le_some (ab_le_some (ab_le_some (ab_le_nil)))) (fX10_greatest_21_ok hB H  (K0 _ rfl))
  · replace H := ab_ifn H hc
    refine ab_iload_n (z := 1) (by decide +kernel) rfl rfl ?_
    refine ab_iload_n (z := 2) (by decide +kernel) rfl rfl ?_
    refine ab_ishr (by decide +kernel) ?_
    refine ab_iconst (z := 1) (v := (1 : Int32)) (by decide +kernel) (by decide) ?_
    refine ab_iand (by decide +kernel) ?_
    refine ab_if_ne (off := 9) (tgt := 21) (by decide +kernel) rfl (fun hc => ?_) (fun hc => ?_)
    · replace H := ab_ifn H hc
      obtain ⟨y2, Hy, hx⟩ := ab_mp_of H
      subst hx
      replace H := Hy
      exact ab_wk (ab_le_some (ab_le_some (ab_le_some (ab_le_nil)))) (fX10_greatest_21_ok hB H  (K0 _ rfl))
    · replace H := ab_ifp H hc
      refine ab_iinc (i := 2) (z := -1) (v := (a2 + (-1 : Int32))) (by decide +kernel) rfl rfl (by decide) rfl ?_
      refine ab_ls (ls' := [some (.ref 41), some (.int a1), some (.int (a2 + (-1 : Int32)))]) rfl ?_
      refine ab_goto (off := -15) (tgt := 3) (by decide +kernel) rfl ?_
      exact ab_wk (ab_le_some (ab_le_some (ab_le_some (ab_le_nil)))) (K1 (a2 + (-1 : Int32)) (Option.some.inj H).symm)
def fX10_greatest (a1 : Int32) : Option Int32 :=
  ab_it (fun s => fX10_greatest_3 a1 s) 5000 (20 : Int32)
set_option maxRecDepth 100000 in
theorem mX10_greatest_ok {l : Launch} {G : ab_G} {S : ab_S} {I : ab_I} {J : ab_J} {P : ab_P} {Q : ab_Q} {a1 : Int32} (hB : bz_B S P) {x : Int32} (H : fX10_greatest a1 = some x) (K0 : Q (some (.int x)) S I J P) : ab_Call l G mX10_greatest 0 [.ref 41, .int a1] S I J P Q := by
  unfold fX10_greatest at H
  refine ab_enter rfl (Nat.le_of_ble_eq_true rfl) (ab_wk (ls' := [some (.ref 41), some (.int a1), none]) (ab_le_some (ab_le_some (ab_le_non0 ab_le_nil))) ?_)
  refine ab_bipush (z := 20) (v := (20 : Int32)) (by decide +kernel) (by decide) ?_
  refine ab_istore_n (z := 2) (by decide +kernel) rfl (by decide) rfl ?_
  refine ab_ls (ls' := [some (.ref 41), some (.int a1), some (.int (20 : Int32))]) rfl ?_
  exact ab_wk (ab_le_some (ab_le_some (ab_le_some (ab_le_nil)))) (ab_iter (body := (fun s => fX10_greatest_3 a1 s)) (W := fun s => ab_WP l G mX10_greatest 0 3 [some (.ref 41), some (.int a1), some (.int s)] [] S I J P 0 0 Q) (fun s y hb h1 h2 => fX10_greatest_3_ok hB hb h1 (fun r e => by have e2 := h2 _ e; subst e2; exact K0)) 5000 (20 : Int32) H)
abbrev mX11_sure : ab_M := (yX11_sure, cX11_sure, 4, some .int, 0, 0)
def fX11_sure_49 (a1 : Int32) (a2 : Int32) (s0 : Int32) (I : ab_I) : Option (Int32 × ab_I) :=
  some (s0, I)
set_option maxRecDepth 100000 in
theorem fX11_sure_49_ok {l : Launch} {G : ab_G} {S : ab_S} {I : ab_I} {J : ab_J} {P : ab_P} {Q : ab_Q} {a1 : Int32} {a2 : Int32} {s0 : Int32} (hB : bz_B S P) {x : Int32 × ab_I} (H : fX11_sure_49 a1 a2 s0 I = some x) (K0 : Q (some (.int x.1)) S x.2 J P) : ab_WP l G mX11_sure 7 49 [some (.ref 0), some (.int a1), some (.int a2), none] [.int s0] S I J P 0 0 Q := by
  unfold fX11_sure_49 at H
  obtain rfl := Option.some.inj H
  exact ab_iret (by decide +kernel) rfl (Nat.le_refl _) (Nat.le_refl _) K0
def fX11_sure (a1 : Int32) (a2 : Int32) (I : ab_I) : Option (Int32 × ab_I) :=
  (fX11_within a1 (0 : Int32) (1 : Int32)).bind fun u1 =>
  if u1 = 0 then
    some ((-1 : Int32), I)
  else
    (fX10_fitting a2 I).bind fun u2 =>
    if u2.1 = 0 then
      some ((-1 : Int32), u2.2)
    else
      if a1 = 0 then
        (fX10_least u2.1).bind fun u4 =>
        fX11_sure_49 a1 a2 u4 u2.2
      else
        (fX10_greatest u2.1).bind fun u3 =>
        fX11_sure_49 a1 a2 u3 u2.2
set_option maxRecDepth 100000 in
theorem mX11_sure_ok {l : Launch} {G : ab_G} {S : ab_S} {I : ab_I} {J : ab_J} {P : ab_P} {Q : ab_Q} {a1 : Int32} {a2 : Int32} (hB : bz_B S P) {x : Int32 × ab_I} (H : fX11_sure a1 a2 I = some x) (K0 : Q (some (.int x.1)) S x.2 J P) : ab_Call l G mX11_sure 7 [.ref 0, .int a1, .int a2] S I J P Q := by
  unfold fX11_sure at H
  refine ab_enter rfl (Nat.le_of_ble_eq_true rfl) (ab_wk (ls' := [some (.ref 0), some (.int a1), some (.int a2), none]) (ab_le_some (ab_le_some (ab_le_some (ab_le_non0 ab_le_nil)))) ?_)
  refine ab_iload_n (z := 1) (by decide +kernel) rfl rfl ?_
  refine ab_iconst (z := 0) (v := (0 : Int32)) (by decide +kernel) (by decide) ?_
  refine ab_iconst (z := 1) (v := (1 : Int32)) (by decide +kernel) (by decide) ?_
  obtain ⟨u1, hu1, H⟩ := ab_bd_of H
  refine ksX11_within (D := 0) (ix := 191) (by decide +kernel) tw_746 (by decide) (Nat.le_of_ble_eq_true rfl) (mX11_within_ok hB hu1 ?_)
  change ab_WP l G mX11_sure 7 6 [some (.ref 0), some (.int a1), some (.int a2), none] [.int u1] S I J P 0 0 Q
  refine ab_if_ne (off := 5) (tgt := 11) (by decide +kernel) rfl (fun hc => ?_) (fun hc => ?_)
  · replace H := ab_ifn H hc
    refine ab_aload_n (z := 0) (by decide +kernel) rfl rfl ?_
    refine gX11_6 (ix := 60) (by decide +kernel) tw_414 (hB.1 0 _ rfl) (hB.2.1 6 (0, 6, 41) rfl) ?_
    refine ab_iload_n (z := 2) (by decide +kernel) rfl rfl ?_
    obtain ⟨u2, hu2, H⟩ := ab_bd_of H
    refine kvX10_fitting (D := 6) (ix := 317) (by decide +kernel) tw_1010 (hB.1 41 _ rfl) (by decide) (Nat.le_of_ble_eq_true rfl) (mX10_fitting_ok hB hu2 ?_)
    change ab_WP l G mX11_sure 7 19 [some (.ref 0), some (.int a1), some (.int a2), none] [.int u2.1] S u2.2 J P 0 0 Q
    refine ab_istore_n (z := 3) (by decide +kernel) rfl (by decide) rfl ?_
    refine ab_ls (ls' := [some (.ref 0), some (.int a1), some (.int a2), some (.int u2.1)]) rfl ?_
    refine ab_iload_n (z := 3) (by decide +kernel) rfl rfl ?_
    refine ab_if_ne (off := 5) (tgt := 26) (by decide +kernel) rfl (fun hc => ?_) (fun hc => ?_)
    · replace H := ab_ifn H hc
      refine ab_iload_n (z := 1) (by decide +kernel) rfl rfl ?_
      refine ab_if_ne (off := 14) (tgt := 41) (by decide +kernel) rfl (fun hc => ?_) (fun hc => ?_)
      · replace H := ab_ifn H hc
        refine ab_aload_n (z := 0) (by decide +kernel) rfl rfl ?_
        refine gX11_6 (ix := 60) (by decide +kernel) tw_414 (hB.1 0 _ rfl) (hB.2.1 6 (0, 6, 41) rfl) ?_
        refine ab_iload_n (z := 3) (by decide +kernel) rfl rfl ?_
        obtain ⟨u3, hu3, H⟩ := ab_bd_of H
        refine kvX10_greatest (D := 0) (ix := 323) (by decide +kernel) tw_1037 (hB.1 41 _ rfl) (by decide) (Nat.le_of_ble_eq_true rfl) (mX10_greatest_ok hB hu3 ?_)
        change ab_WP l G mX11_sure 7 49 [some (.ref 0), some (.int a1), some (.int a2), some (.int u2.1)] [.int u3] S u2.2 J P 0 0 Q
        exact ab_wk (ab_le_some (ab_le_some (ab_le_some (ab_le_none (ab_le_nil))))) (fX11_sure_49_ok hB H  K0)
      · replace H := ab_ifp H hc
        refine ab_aload_n (z := 0) (by decide +kernel) rfl rfl ?_
        refine gX11_6 (ix := 60) (by decide +kernel) tw_414 (hB.1 0 _ rfl) (hB.2.1 6 (0, 6, 41) rfl) ?_
        refine ab_iload_n (z := 3) (by decide +kernel) rfl rfl ?_
        obtain ⟨u4, hu4, H⟩ := ab_bd_of H
        refine kvX10_least (D := 0) (ix := 320) (by decide +kernel) tw_1033 (hB.1 41 _ rfl) (by decide) (Nat.le_of_ble_eq_true rfl) (mX10_least_ok hB hu4 ?_)
        change ab_WP l G mX11_sure 7 38 [some (.ref 0), some (.int a1), some (.int a2), some (.int u2.1)] [.int u4] S u2.2 J P 0 0 Q
        refine ab_goto (off := 11) (tgt := 49) (by decide +kernel) rfl ?_
        exact ab_wk (ab_le_some (ab_le_some (ab_le_some (ab_le_none (ab_le_nil))))) (fX11_sure_49_ok hB H  K0)
    · replace H := ab_ifp H hc
      refine ab_iconst (z := -1) (v := (-1 : Int32)) (by decide +kernel) (by decide) ?_
      obtain rfl := Option.some.inj H
      exact ab_iret (by decide +kernel) rfl (Nat.le_refl _) (Nat.le_refl _) K0
  · replace H := ab_ifp H hc
    refine ab_iconst (z := -1) (v := (-1 : Int32)) (by decide +kernel) (by decide) ?_
    obtain rfl := Option.some.inj H
    exact ab_iret (by decide +kernel) rfl (Nat.le_refl _) (Nat.le_refl _) K0
abbrev mX10_answer : ab_M := (yX10_answer, cX10_answer, 2, some .int, 0, 0)
theorem ksX10_answer {l : Launch} {G : ab_G} {M : ab_M} {d pc : Nat} {ls : List (Option Value)} {st : List Value} {S : ab_S} {I : ab_I} {J : ab_J} {P : ab_P} {Q : ab_Q} {v0 v1 : Value} {ix D : Nat} (hd : decode M.2.1 pc = .ok (.invokestatic ix, 3)) (h1 : Cond.methodLink M.1.cls ix mX10_answer.1 ∈ ab_good) (hdg : D + 1 ≤ d) (hsum : (st.map fun v => v.category).sum ≤ 8) (kk : ab_Call l G mX10_answer D [v0, v1] S I J P (fun v S' I' J' P' => ab_WP l G M d (pc + 3) ls (ab_psh v st) S' I' J' P' 0 0 Q)) : ab_WP l G M d pc ls (v1 :: v0 :: st) S I J P 0 0 Q := bz_ks (g := mX10_answer) (as := [v0, v1]) rfl hd h1 tw_1051 tw_11 tw_1052 ⟨by decide +kernel, by decide +kernel, (by decide +kernel : (parseMethodDescriptor mX10_answer.1.desc).map (fun d => d.parameters.length) = some 2)⟩ (by decide) rfl hdg hsum kk
def fX10_answer (a0 : Int32) (a1 : Int32) : Option Int32 :=
  some (((a0 * (7 : Int32)) + a1) + (1 : Int32))
set_option maxRecDepth 100000 in
theorem mX10_answer_ok {l : Launch} {G : ab_G} {S : ab_S} {I : ab_I} {J : ab_J} {P : ab_P} {Q : ab_Q} {a0 : Int32} {a1 : Int32} (hB : bz_B S P) {x : Int32} (H : fX10_answer a0 a1 = some x) (K0 : Q (some (.int x)) S I J P) : ab_Call l G mX10_answer 0 [.int a0, .int a1] S I J P Q := by
  unfold fX10_answer at H
  refine ab_enter rfl (Nat.le_of_ble_eq_true rfl) (ab_wk (ls' := [some (.int a0), some (.int a1)]) (ab_le_some (ab_le_some (ab_le_nil))) ?_)
  refine ab_iload_n (z := 0) (by decide +kernel) rfl rfl ?_
  refine ab_bipush (z := 7) (v := (7 : Int32)) (by decide +kernel) (by decide) ?_
  refine ab_imul (by decide +kernel) ?_
  refine ab_iload_n (z := 1) (by decide +kernel) rfl rfl ?_
  refine ab_iadd (by decide +kernel) ?_
  refine ab_iconst (z := 1) (v := (1 : Int32)) (by decide +kernel) (by decide) ?_
  refine ab_iadd (by decide +kernel) ?_
  obtain rfl := Option.some.inj H
  exact ab_iret (by decide +kernel) rfl (Nat.le_refl _) (Nat.le_refl _) K0
abbrev mX10_countAnswers : ab_M := (yX10_countAnswers, cX10_countAnswers, 5, none, 0, 0)
theorem kvX10_countAnswers {l : Launch} {G : ab_G} {M : ab_M} {d pc : Nat} {ls : List (Option Value)} {st : List Value} {S : ab_S} {I : ab_I} {J : ab_J} {P : ab_P} {Q : ab_Q} {v0 v1 : Value} {ix D r ln : Nat} (hd : decode M.2.1 pc = .ok (.invokevirtual ix, 3)) (h1 : Cond.methodLink M.1.cls ix mX10_countAnswers.1 ∈ ab_good) (hs : S[r]? = some (15, ln)) (hdg : D + 1 ≤ d) (hsum : (st.map fun v => v.category).sum ≤ 8) (kk : ab_Call l G mX10_countAnswers D (.ref r :: [v0, v1]) S I J P (fun v S' I' J' P' => ab_WP l G M d (pc + 3) ls (ab_psh v st) S' I' J' P' 0 0 Q)) : ab_WP l G M d pc ls (v1 :: v0 :: .ref r :: st) S I J P 0 0 Q := bz_kv (g := mX10_countAnswers) (as := [v0, v1]) (cc := 10) rfl hd h1 tw_1046 tw_1047 tw_11 tw_1048 ⟨by decide +kernel, by decide +kernel, (by decide +kernel : (parseMethodDescriptor mX10_countAnswers.1.desc).map (fun d => d.parameters.length) = some 2)⟩ (by decide) rfl rfl rfl hdg hsum hs kk
def fX10_countAnswers_109 (a1 : Int32) (a2 : Int32) (I : ab_I) : Option ab_I :=
  some I
set_option maxRecDepth 100000 in
theorem fX10_countAnswers_109_ok {l : Launch} {G : ab_G} {S : ab_S} {I : ab_I} {J : ab_J} {P : ab_P} {Q : ab_Q} {a1 : Int32} {a2 : Int32} (hB : bz_B S P) {x : ab_I} (H : fX10_countAnswers_109 a1 a2 I = some x) (K0 : Q none S x J P) : ab_WP l G mX10_countAnswers 5 109 [some (.ref 41), some (.int a1), some (.int a2), none, none] [] S I J P 0 0 Q := by
  unfold fX10_countAnswers_109 at H
  obtain rfl := Option.some.inj H
  exact ab_vret (by decide +kernel) rfl (Nat.le_refl _) (Nat.le_refl _) K0
def fX10_countAnswers_103 (a1 : Int32) (a2 : Int32) (a3 : Int32) (I : ab_I) : Option ((Int32 × ab_I) ⊕ ab_I) :=
  some (.inl ((a3 + (1 : Int32)), I))
set_option maxRecDepth 100000 in
theorem fX10_countAnswers_103_ok {l : Launch} {G : ab_G} {S : ab_S} {I : ab_I} {J : ab_J} {P : ab_P} {Q : ab_Q} {a1 : Int32} {a2 : Int32} {a3 : Int32} (hB : bz_B S P) {x : ((Int32 × ab_I) ⊕ ab_I)} (H : fX10_countAnswers_103 a1 a2 a3 I = some x) (K1 : ∀ s, x = (.inl s) → ab_WP l G mX10_countAnswers 5 10 [some (.ref 41), some (.int a1), some (.int a2), some (.int s.1), none] [] S s.2 J P 0 0 Q) (K0 : ∀ r, x = (.inr r) → Q none S r J P) : ab_WP l G mX10_countAnswers 5 103 [some (.ref 41), some (.int a1), some (.int a2), some (.int a3), none] [] S I J P 0 0 Q := by
  unfold fX10_countAnswers_103 at H
  refine ab_iinc (i := 3) (z := 1) (v := (a3 + (1 : Int32))) (by decide +kernel) rfl rfl (by decide) rfl ?_
  refine ab_ls (ls' := [some (.ref 41), some (.int a1), some (.int a2), some (.int (a3 + (1 : Int32))), none]) rfl ?_
  refine ab_goto (off := -96) (tgt := 10) (by decide +kernel) rfl ?_
  exact ab_wk (ab_le_some (ab_le_some (ab_le_some (ab_le_some (ab_le_none (ab_le_nil)))))) (K1 ((a3 + (1 : Int32)), I) (Option.some.inj H).symm)
def fX10_countAnswers_61 (a1 : Int32) (a2 : Int32) (a3 : Int32) (a4 : Int32) (I : ab_I) : Option ((Int32 × Int32 × ab_I) ⊕ ((Int32 × ab_I) ⊕ ab_I)) :=
  if (I 3 5) ≤ a4 then
    (fX10_countAnswers_103 a1 a2 a3 I).map .inr
  else
    ab_gd (ab_ix a4 5 = true) (
      (fX10_answer a4 (I 24 a4.toNatClampNeg)).bind fun u7 =>
      ab_gd (ab_ix u7 35 = true) (
        ab_gd (ab_ix u7 35 = true) (
          some (.inl (a3, (a4 + (1 : Int32)), (ab_u I 52 u7.toNatClampNeg ((I 52 u7.toNatClampNeg) + (1 : Int32)))))
        )
      )
    )
set_option maxRecDepth 100000 in
theorem fX10_countAnswers_61_ok {l : Launch} {G : ab_G} {S : ab_S} {I : ab_I} {J : ab_J} {P : ab_P} {Q : ab_Q} {a1 : Int32} {a2 : Int32} {a3 : Int32} {a4 : Int32} (hB : bz_B S P) {x : ((Int32 × Int32 × ab_I) ⊕ ((Int32 × ab_I) ⊕ ab_I))} (H : fX10_countAnswers_61 a1 a2 a3 a4 I = some x) (K2 : ∀ s, x = (.inl s) → ab_WP l G mX10_countAnswers 5 61 [some (.ref 41), some (.int a1), some (.int a2), some (.int s.1), some (.int s.2.1)] [] S s.2.2 J P 0 0 Q) (K1 : ∀ s, x = (.inr (.inl s)) → ab_WP l G mX10_countAnswers 5 10 [some (.ref 41), some (.int a1), some (.int a2), some (.int s.1), none] [] S s.2 J P 0 0 Q) (K0 : ∀ r, x = (.inr (.inr r)) → Q none S r J P) : ab_WP l G mX10_countAnswers 5 61 [some (.ref 41), some (.int a1), some (.int a2), some (.int a3), some (.int a4)] [] S I J P 0 0 Q := by
  unfold fX10_countAnswers_61 at H
  refine ab_iload (i := 4) (by decide +kernel) rfl ?_
  refine ab_aload_n (z := 0) (by decide +kernel) rfl rfl ?_
  refine gX10_0 (ix := 48) (by decide +kernel) tw_346 (hB.1 41 _ rfl) (hB.2.1 50 (41, 0, 3) rfl) ?_
  refine gX9_5 (ix := 105) (by decide +kernel) tw_97 (hB.1 3 _ rfl) ?_
  refine ab_icmp_ge (off := 33) (tgt := 103) (by decide +kernel) rfl (fun hc => ?_) (fun hc => ?_)
  · replace H := ab_ifp H hc
    obtain ⟨y6, Hy, hx⟩ := ab_mp_of H
    subst hx
    replace H := Hy
    exact ab_wk (ab_le_some (ab_le_some (ab_le_some (ab_le_some (ab_le_none (ab_le_nil)))))) (fX10_countAnswers_103_ok hB H (fun s e => K1 s (by rw [e])) (fun r e => K0 r (by rw [e])))
  · replace H := ab_ifn H hc
    refine ab_aload_n (z := 0) (by decide +kernel) rfl rfl ?_
    refine gX10_9 (ix := 38) (by decide +kernel) tw_355 (hB.1 41 _ rfl) (hB.2.1 59 (41, 9, 52) rfl) ?_
    refine ab_iload (i := 4) (by decide +kernel) rfl ?_
    refine ab_aload_n (z := 0) (by decide +kernel) rfl rfl ?_
    refine gX10_1 (ix := 52) (by decide +kernel) tw_347 (hB.1 41 _ rfl) (hB.2.1 51 (41, 1, 23) rfl) ?_
    refine gX5_1 (ix := 86) (by decide +kernel) tw_214 (hB.1 23 _ rfl) (hB.2.1 31 (23, 1, 24) rfl) ?_
    refine ab_iload (i := 4) (by decide +kernel) rfl ?_
    obtain ⟨hg, H⟩ := ab_gd_of H
    refine ab_iald (ln := 5) (by decide +kernel) (hB.1 24 _ rfl) (ab_ix_in hg) ?_
    obtain ⟨u7, hu7, H⟩ := ab_bd_of H
    refine ksX10_answer (D := 0) (ix := 107) (by decide +kernel) tw_1050 (by decide) (Nat.le_of_ble_eq_true rfl) (mX10_answer_ok hB hu7 ?_)
    change ab_WP l G mX10_countAnswers 5 92 [some (.ref 41), some (.int a1), some (.int a2), some (.int a3), some (.int a4)] [.int u7, .ref 52] S I J P 0 0 Q
    refine ab_dup2 (by decide +kernel) rfl rfl ?_
    obtain ⟨hg, H⟩ := ab_gd_of H
    refine ab_iald (ln := 35) (by decide +kernel) (hB.1 52 _ rfl) (ab_ix_in hg) ?_
    refine ab_iconst (z := 1) (v := (1 : Int32)) (by decide +kernel) (by decide) ?_
    refine ab_iadd (by decide +kernel) ?_
    obtain ⟨hg, H⟩ := ab_gd_of H
    refine ab_iast (ln := 35) (by decide +kernel) (hB.1 52 _ rfl) (ab_ix_in hg) ?_
    refine ab_iinc (i := 4) (z := 1) (v := (a4 + (1 : Int32))) (by decide +kernel) rfl rfl (by decide) rfl ?_
    refine ab_ls (ls' := [some (.ref 41), some (.int a1), some (.int a2), some (.int a3), some (.int (a4 + (1 : Int32)))]) rfl ?_
    refine ab_goto (off := -39) (tgt := 61) (by decide +kernel) rfl ?_
    exact ab_wk (ab_le_some (ab_le_some (ab_le_some (ab_le_some (ab_le_some (ab_le_nil)))))) (K2 (a3, (a4 + (1 : Int32)), (ab_u I 52 u7.toNatClampNeg ((I 52 u7.toNatClampNeg) + (1 : Int32)))) (Option.some.inj H).symm)
def fX10_countAnswers_58 (a1 : Int32) (a2 : Int32) (a3 : Int32) (I : ab_I) : Option ((Int32 × ab_I) ⊕ ab_I) :=
  ab_it (fun s => fX10_countAnswers_61 a1 a2 s.1 s.2.1 s.2.2) 5000 (a3, (0 : Int32), I)
set_option maxRecDepth 100000 in
theorem fX10_countAnswers_58_ok {l : Launch} {G : ab_G} {S : ab_S} {I : ab_I} {J : ab_J} {P : ab_P} {Q : ab_Q} {a1 : Int32} {a2 : Int32} {a3 : Int32} (hB : bz_B S P) {x : ((Int32 × ab_I) ⊕ ab_I)} (H : fX10_countAnswers_58 a1 a2 a3 I = some x) (K1 : ∀ s, x = (.inl s) → ab_WP l G mX10_countAnswers 5 10 [some (.ref 41), some (.int a1), some (.int a2), some (.int s.1), none] [] S s.2 J P 0 0 Q) (K0 : ∀ r, x = (.inr r) → Q none S r J P) : ab_WP l G mX10_countAnswers 5 58 [some (.ref 41), some (.int a1), some (.int a2), some (.int a3), none] [] S I J P 0 0 Q := by
  unfold fX10_countAnswers_58 at H
  refine ab_iconst (z := 0) (v := (0 : Int32)) (by decide +kernel) (by decide) ?_
  refine ab_istore (i := 4) (by decide +kernel) (by decide) rfl ?_
  refine ab_ls (ls' := [some (.ref 41), some (.int a1), some (.int a2), some (.int a3), some (.int (0 : Int32))]) rfl ?_
  exact ab_wk (ab_le_some (ab_le_some (ab_le_some (ab_le_some (ab_le_some (ab_le_nil)))))) (ab_iter (body := (fun s => fX10_countAnswers_61 a1 a2 s.1 s.2.1 s.2.2)) (W := fun s => ab_WP l G mX10_countAnswers 5 61 [some (.ref 41), some (.int a1), some (.int a2), some (.int s.1), some (.int s.2.1)] [] S s.2.2 J P 0 0 Q) (fun s y hb h1 h2 => fX10_countAnswers_61_ok hB hb h1 (fun s e => K1 s (h2 _ e).symm) (fun r e => K0 r (h2 _ e).symm)) 5000 (a3, (0 : Int32), I) H)
def fX10_countAnswers_33 (a1 : Int32) (a2 : Int32) (a3 : Int32) (a4 : Int32) (I : ab_I) : Option ((Int32 × Int32 × ab_I) ⊕ ((Int32 × ab_I) ⊕ ab_I)) :=
  if a1 ≤ a4 then
    (fX10_countAnswers_58 a1 a2 a3 I).map .inr
  else
    (fX5_passDay 42 (0 : Int32) I).bind fun u5 =>
    some (.inl (a3, (a4 + (1 : Int32)), u5.2))
set_option maxRecDepth 100000 in
theorem fX10_countAnswers_33_ok {l : Launch} {G : ab_G} {S : ab_S} {I : ab_I} {J : ab_J} {P : ab_P} {Q : ab_Q} {a1 : Int32} {a2 : Int32} {a3 : Int32} {a4 : Int32} (hB : bz_B S P) {x : ((Int32 × Int32 × ab_I) ⊕ ((Int32 × ab_I) ⊕ ab_I))} (H : fX10_countAnswers_33 a1 a2 a3 a4 I = some x) (K2 : ∀ s, x = (.inl s) → ab_WP l G mX10_countAnswers 5 33 [some (.ref 41), some (.int a1), some (.int a2), some (.int s.1), some (.int s.2.1)] [] S s.2.2 J P 0 0 Q) (K1 : ∀ s, x = (.inr (.inl s)) → ab_WP l G mX10_countAnswers 5 10 [some (.ref 41), some (.int a1), some (.int a2), some (.int s.1), none] [] S s.2 J P 0 0 Q) (K0 : ∀ r, x = (.inr (.inr r)) → Q none S r J P) : ab_WP l G mX10_countAnswers 5 33 [some (.ref 41), some (.int a1), some (.int a2), some (.int a3), some (.int a4)] [] S I J P 0 0 Q := by
  unfold fX10_countAnswers_33 at H
  refine ab_iload (i := 4) (by decide +kernel) rfl ?_
  refine ab_iload_n (z := 1) (by decide +kernel) rfl rfl ?_
  refine ab_icmp_ge (off := 22) (tgt := 58) (by decide +kernel) rfl (fun hc => ?_) (fun hc => ?_)
  · replace H := ab_ifp H hc
    obtain ⟨y4, Hy, hx⟩ := ab_mp_of H
    subst hx
    replace H := Hy
    exact ab_wk (ab_le_some (ab_le_some (ab_le_some (ab_le_some (ab_le_none (ab_le_nil)))))) (fX10_countAnswers_58_ok hB H (fun s e => K1 s (by rw [e])) (fun r e => K0 r (by rw [e])))
  · replace H := ab_ifn H hc
    refine ab_aload_n (z := 0) (by decide +kernel) rfl rfl ?_
    refine gX10_1 (ix := 52) (by decide +kernel) tw_347 (hB.1 41 _ rfl) (hB.2.1 51 (41, 1, 23) rfl) ?_
    refine ab_aload_n (z := 0) (by decide +kernel) rfl rfl ?_
    refine gX10_2 (ix := 12) (by decide +kernel) tw_348 (hB.1 41 _ rfl) (hB.2.1 52 (41, 2, 42) rfl) ?_
    refine ab_iconst (z := 0) (v := (0 : Int32)) (by decide +kernel) (by decide) ?_
    obtain ⟨u5, hu5, H⟩ := ab_bd_of H
    refine kvX5_passDay (D := 4) (ix := 80) (by decide +kernel) tw_1028 (hB.1 23 _ rfl) (by decide) (Nat.le_of_ble_eq_true rfl) (mX5_passDay_ok hB (bz_st_42 hB) hu5 ?_)
    change ab_WP l G mX10_countAnswers 5 51 [some (.ref 41), some (.int a1), some (.int a2), some (.int a3), some (.int a4)] [.int u5.1] S u5.2 J P 0 0 Q
    refine ab_pop (by decide +kernel) rfl ?_
    refine ab_iinc (i := 4) (z := 1) (v := (a4 + (1 : Int32))) (by decide +kernel) rfl rfl (by decide) rfl ?_
    refine ab_ls (ls' := [some (.ref 41), some (.int a1), some (.int a2), some (.int a3), some (.int (a4 + (1 : Int32)))]) rfl ?_
    refine ab_goto (off := -22) (tgt := 33) (by decide +kernel) rfl ?_
    exact ab_wk (ab_le_some (ab_le_some (ab_le_some (ab_le_some (ab_le_some (ab_le_nil)))))) (K2 (a3, (a4 + (1 : Int32)), u5.2) (Option.some.inj H).symm)
def fX10_countAnswers_10 (a1 : Int32) (a2 : Int32) (a3 : Int32) (I : ab_I) : Option ((Int32 × ab_I) ⊕ ab_I) :=
  if (20 : Int32) < a3 then
    (fX10_countAnswers_109 a1 a2 I).map .inr
  else
    if ((a2 >>> (a3 &&& 31)) &&& (1 : Int32)) = (1 : Int32) then
      (fX10_beginWith a3 I).bind fun u3 =>
      ab_it (fun s => fX10_countAnswers_33 a1 a2 s.1 s.2.1 s.2.2) 5000 (a3, (0 : Int32), u3)
    else
      fX10_countAnswers_103 a1 a2 a3 I
set_option maxRecDepth 100000 in
theorem fX10_countAnswers_10_ok {l : Launch} {G : ab_G} {S : ab_S} {I : ab_I} {J : ab_J} {P : ab_P} {Q : ab_Q} {a1 : Int32} {a2 : Int32} {a3 : Int32} (hB : bz_B S P) {x : ((Int32 × ab_I) ⊕ ab_I)} (H : fX10_countAnswers_10 a1 a2 a3 I = some x) (K1 : ∀ s, x = (.inl s) → ab_WP l G mX10_countAnswers 5 10 [some (.ref 41), some (.int a1), some (.int a2), some (.int s.1), none] [] S s.2 J P 0 0 Q) (K0 : ∀ r, x = (.inr r) → Q none S r J P) : ab_WP l G mX10_countAnswers 5 10 [some (.ref 41), some (.int a1), some (.int a2), some (.int a3), none] [] S I J P 0 0 Q := by
  unfold fX10_countAnswers_10 at H
  refine ab_iload_n (z := 3) (by decide +kernel) rfl rfl ?_
  refine ab_bipush (z := 20) (v := (20 : Int32)) (by decide +kernel) (by decide) ?_
  refine ab_icmp_gt (off := 96) (tgt := 109) (by decide +kernel) rfl (fun hc => ?_) (fun hc => ?_)
  · replace H := ab_ifp H hc
    obtain ⟨y2, Hy, hx⟩ := ab_mp_of H
    subst hx
    replace H := Hy
    exact ab_wk (ab_le_some (ab_le_some (ab_le_some (ab_le_none (ab_le_none (ab_le_nil)))))) (fX10_countAnswers_109_ok hB H  (K0 _ rfl))
  · replace H := ab_ifn H hc
    refine ab_iload_n (z := 2) (by decide +kernel) rfl rfl ?_
    refine ab_iload_n (z := 3) (by decide +kernel) rfl rfl ?_
    refine ab_ishr (by decide +kernel) ?_
    refine ab_iconst (z := 1) (v := (1 : Int32)) (by decide +kernel) (by decide) ?_
    refine ab_iand (by decide +kernel) ?_
    refine ab_iconst (z := 1) (v := (1 : Int32)) (by decide +kernel) (by decide) ?_
    refine ab_icmp_ne (off := 81) (tgt := 103) (by decide +kernel) rfl (fun hc => ?_) (fun hc => ?_)
    · replace H := ab_ifn H hc
      exact ab_wk (ab_le_some (ab_le_some (ab_le_some (ab_le_some (ab_le_none (ab_le_nil)))))) (fX10_countAnswers_103_ok hB H K1 K0)
    · replace H := ab_ifp H hc
      refine ab_aload_n (z := 0) (by decide +kernel) rfl rfl ?_
      refine ab_iload_n (z := 3) (by decide +kernel) rfl rfl ?_
      obtain ⟨u3, hu3, H⟩ := ab_bd_of H
      refine kvX10_beginWith (D := 2) (ix := 76) (by decide +kernel) tw_1023 (hB.1 41 _ rfl) (by decide) (Nat.le_of_ble_eq_true rfl) (mX10_beginWith_ok hB hu3 ?_)
      change ab_WP l G mX10_countAnswers 5 30 [some (.ref 41), some (.int a1), some (.int a2), some (.int a3), none] [] S u3 J P 0 0 Q
      refine ab_iconst (z := 0) (v := (0 : Int32)) (by decide +kernel) (by decide) ?_
      refine ab_istore (i := 4) (by decide +kernel) (by decide) rfl ?_
      refine ab_ls (ls' := [some (.ref 41), some (.int a1), some (.int a2), some (.int a3), some (.int (0 : Int32))]) rfl ?_
      exact ab_wk (ab_le_some (ab_le_some (ab_le_some (ab_le_some (ab_le_some (ab_le_nil)))))) (ab_iter (body := (fun s => fX10_countAnswers_33 a1 a2 s.1 s.2.1 s.2.2)) (W := fun s => ab_WP l G mX10_countAnswers 5 33 [some (.ref 41), some (.int a1), some (.int a2), some (.int s.1), some (.int s.2.1)] [] S s.2.2 J P 0 0 Q) (fun s y hb h1 h2 => fX10_countAnswers_33_ok hB hb h1 (fun s e => K1 s (h2 _ e).symm) (fun r e => K0 r (h2 _ e).symm)) 5000 (a3, (0 : Int32), u3) H)
def fX10_countAnswers (a1 : Int32) (a2 : Int32) (I : ab_I) : Option ab_I :=
  (fJ7_fill_53178 52 35 (0 : Int32) I).bind fun u1 =>
  ab_it (fun s => fX10_countAnswers_10 a1 a2 s.1 s.2) 5000 ((0 : Int32), u1)
set_option maxRecDepth 100000 in
theorem mX10_countAnswers_ok {l : Launch} {G : ab_G} {S : ab_S} {I : ab_I} {J : ab_J} {P : ab_P} {Q : ab_Q} {a1 : Int32} {a2 : Int32} (hB : bz_B S P) {x : ab_I} (H : fX10_countAnswers a1 a2 I = some x) (K0 : Q none S x J P) : ab_Call l G mX10_countAnswers 5 [.ref 41, .int a1, .int a2] S I J P Q := by
  unfold fX10_countAnswers at H
  refine ab_enter rfl (Nat.le_of_ble_eq_true rfl) (ab_wk (ls' := [some (.ref 41), some (.int a1), some (.int a2), none, none]) (ab_le_some (ab_le_some (ab_le_some (ab_le_non0 (ab_le_non0 ab_le_nil))))) ?_)
  refine ab_aload_n (z := 0) (by decide +kernel) rfl rfl ?_
  refine gX10_9 (ix := 38) (by decide +kernel) tw_355 (hB.1 41 _ rfl) (hB.2.1 59 (41, 9, 52) rfl) ?_
  refine ab_iconst (z := 0) (v := (0 : Int32)) (by decide +kernel) (by decide) ?_
  obtain ⟨u1, hu1, H⟩ := ab_bd_of H
  refine ksJ7_fill_53178 (D := 0) (ix := 99) (by decide +kernel) tw_1049 (by decide) (Nat.le_of_ble_eq_true rfl) (mJ7_fill_53178_ok hB (hB.1 52 _ rfl) hu1 ?_)
  change ab_WP l G mX10_countAnswers 5 8 [some (.ref 41), some (.int a1), some (.int a2), none, none] [] S u1 J P 0 0 Q
  refine ab_iconst (z := 0) (v := (0 : Int32)) (by decide +kernel) (by decide) ?_
  refine ab_istore_n (z := 3) (by decide +kernel) rfl (by decide) rfl ?_
  refine ab_ls (ls' := [some (.ref 41), some (.int a1), some (.int a2), some (.int (0 : Int32)), none]) rfl ?_
  exact ab_wk (ab_le_some (ab_le_some (ab_le_some (ab_le_some (ab_le_none (ab_le_nil)))))) (ab_iter (body := (fun s => fX10_countAnswers_10 a1 a2 s.1 s.2)) (W := fun s => ab_WP l G mX10_countAnswers 5 10 [some (.ref 41), some (.int a1), some (.int a2), some (.int s.1), none] [] S s.2 J P 0 0 Q) (fun s y hb h1 h2 => fX10_countAnswers_10_ok hB hb h1 (fun r e => by have e2 := h2 _ e; subst e2; exact K0)) 5000 ((0 : Int32), u1) H)
abbrev mX10_leftAtMost : ab_M := (yX10_leftAtMost, cX10_leftAtMost, 4, some .int, 0, 0)
theorem kvX10_leftAtMost {l : Launch} {G : ab_G} {M : ab_M} {d pc : Nat} {ls : List (Option Value)} {st : List Value} {S : ab_S} {I : ab_I} {J : ab_J} {P : ab_P} {Q : ab_Q} {v0 : Value} {ix D r ln : Nat} (hd : decode M.2.1 pc = .ok (.invokevirtual ix, 3)) (h1 : Cond.methodLink M.1.cls ix mX10_leftAtMost.1 ∈ ab_good) (hs : S[r]? = some (15, ln)) (hdg : D + 1 ≤ d) (hsum : (st.map fun v => v.category).sum ≤ 8) (kk : ab_Call l G mX10_leftAtMost D (.ref r :: [v0]) S I J P (fun v S' I' J' P' => ab_WP l G M d (pc + 3) ls (ab_psh v st) S' I' J' P' 0 0 Q)) : ab_WP l G M d pc ls (v0 :: .ref r :: st) S I J P 0 0 Q := bz_kv (g := mX10_leftAtMost) (as := [v0]) (cc := 10) rfl hd h1 tw_1058 tw_1059 tw_11 tw_1060 ⟨by decide +kernel, by decide +kernel, (by decide +kernel : (parseMethodDescriptor mX10_leftAtMost.1.desc).map (fun d => d.parameters.length) = some 1)⟩ (by decide) rfl rfl rfl hdg hsum hs kk
def fX10_leftAtMost_36 (a1 : Int32) (I : ab_I) (a2 : Int32) : Option Int32 :=
  some a2
set_option maxRecDepth 100000 in
theorem fX10_leftAtMost_36_ok {l : Launch} {G : ab_G} {S : ab_S} {I : ab_I} {J : ab_J} {P : ab_P} {Q : ab_Q} {a1 : Int32} {a2 : Int32} (hB : bz_B S P) {x : Int32} (H : fX10_leftAtMost_36 a1 I a2 = some x) (K0 : Q (some (.int x)) S I J P) : ab_WP l G mX10_leftAtMost 1 36 [some (.ref 41), some (.int a1), some (.int a2), none] [] S I J P 0 0 Q := by
  unfold fX10_leftAtMost_36 at H
  refine ab_iload_n (z := 2) (by decide +kernel) rfl rfl ?_
  obtain rfl := Option.some.inj H
  exact ab_iret (by decide +kernel) rfl (Nat.le_refl _) (Nat.le_refl _) K0
def fX10_leftAtMost_4 (a1 : Int32) (I : ab_I) (a2 : Int32) (a3 : Int32) : Option ((Int32 × Int32) ⊕ Int32) :=
  if (I 3 4) ≤ a3 then
    (fX10_leftAtMost_36 a1 I a2).map .inr
  else
    (fX10_answer a1 a3).bind fun u2 =>
    ab_gd (ab_ix u2 35 = true) (
      some (.inl ((if a2 < (I 52 u2.toNatClampNeg) then (I 52 u2.toNatClampNeg) else a2), (a3 + (1 : Int32))))
    )
set_option maxRecDepth 100000 in
theorem fX10_leftAtMost_4_ok {l : Launch} {G : ab_G} {S : ab_S} {I : ab_I} {J : ab_J} {P : ab_P} {Q : ab_Q} {a1 : Int32} {a2 : Int32} {a3 : Int32} (hB : bz_B S P) {x : ((Int32 × Int32) ⊕ Int32)} (H : fX10_leftAtMost_4 a1 I a2 a3 = some x) (K1 : ∀ s, x = (.inl s) → ab_WP l G mX10_leftAtMost 1 4 [some (.ref 41), some (.int a1), some (.int s.1), some (.int s.2)] [] S I J P 0 0 Q) (K0 : ∀ r, x = (.inr r) → Q (some (.int r)) S I J P) : ab_WP l G mX10_leftAtMost 1 4 [some (.ref 41), some (.int a1), some (.int a2), some (.int a3)] [] S I J P 0 0 Q := by
  unfold fX10_leftAtMost_4 at H
  refine ab_iload_n (z := 3) (by decide +kernel) rfl rfl ?_
  refine ab_aload_n (z := 0) (by decide +kernel) rfl rfl ?_
  refine gX10_0 (ix := 48) (by decide +kernel) tw_346 (hB.1 41 _ rfl) (hB.2.1 50 (41, 0, 3) rfl) ?_
  refine gX9_4 (ix := 110) (by decide +kernel) tw_91 (hB.1 3 _ rfl) ?_
  refine ab_icmp_ge (off := 24) (tgt := 36) (by decide +kernel) rfl (fun hc => ?_) (fun hc => ?_)
  · replace H := ab_ifp H hc
    obtain ⟨y1, Hy, hx⟩ := ab_mp_of H
    subst hx
    replace H := Hy
    exact ab_wk (ab_le_some (ab_le_some (ab_le_some (ab_le_none (ab_le_nil))))) (fX10_leftAtMost_36_ok hB H  (K0 _ rfl))
  · replace H := ab_ifn H hc
    refine ab_iload_n (z := 2) (by decide +kernel) rfl rfl ?_
    refine ab_aload_n (z := 0) (by decide +kernel) rfl rfl ?_
    refine gX10_9 (ix := 38) (by decide +kernel) tw_355 (hB.1 41 _ rfl) (hB.2.1 59 (41, 9, 52) rfl) ?_
    refine ab_iload_n (z := 1) (by decide +kernel) rfl rfl ?_
    refine ab_iload_n (z := 3) (by decide +kernel) rfl rfl ?_
    obtain ⟨u2, hu2, H⟩ := ab_bd_of H
    refine ksX10_answer (D := 0) (ix := 107) (by decide +kernel) tw_1050 (by decide) (Nat.le_of_ble_eq_true rfl) (mX10_answer_ok hB hu2 ?_)
    change ab_WP l G mX10_leftAtMost 1 25 [some (.ref 41), some (.int a1), some (.int a2), some (.int a3)] [.int u2, .ref 52, .int a2] S I J P 0 0 Q
    obtain ⟨hg, H⟩ := ab_gd_of H
    refine ab_iald (ln := 35) (by decide +kernel) (hB.1 52 _ rfl) (ab_ix_in hg) ?_
    refine ab_mmax (ix := 66) (by decide +kernel) tw_1018 tw_978 tw_17 tw_979 (by decide) (Nat.le_of_ble_eq_true rfl) (Nat.le_refl _) (Nat.le_refl _) ?_
    refine ab_istore_n (z := 2) (by decide +kernel) rfl (by decide) rfl ?_
    refine ab_ls (ls' := [some (.ref 41), some (.int a1), some (.int (if a2 < (I 52 u2.toNatClampNeg) then (I 52 u2.toNatClampNeg) else a2)), some (.int a3)]) rfl ?_
    refine ab_iinc (i := 3) (z := 1) (v := (a3 + (1 : Int32))) (by decide +kernel) rfl rfl (by decide) rfl ?_
    refine ab_ls (ls' := [some (.ref 41), some (.int a1), some (.int (if a2 < (I 52 u2.toNatClampNeg) then (I 52 u2.toNatClampNeg) else a2)), some (.int (a3 + (1 : Int32)))]) rfl ?_
    refine ab_goto (off := -29) (tgt := 4) (by decide +kernel) rfl ?_
    exact ab_wk (ab_le_some (ab_le_some (ab_le_some (ab_le_some (ab_le_nil))))) (K1 ((if a2 < (I 52 u2.toNatClampNeg) then (I 52 u2.toNatClampNeg) else a2), (a3 + (1 : Int32))) (Option.some.inj H).symm)
def fX10_leftAtMost (a1 : Int32) (I : ab_I) : Option Int32 :=
  ab_it (fun s => fX10_leftAtMost_4 a1 I s.1 s.2) 5000 ((0 : Int32), (-1 : Int32))
set_option maxRecDepth 100000 in
theorem mX10_leftAtMost_ok {l : Launch} {G : ab_G} {S : ab_S} {I : ab_I} {J : ab_J} {P : ab_P} {Q : ab_Q} {a1 : Int32} (hB : bz_B S P) {x : Int32} (H : fX10_leftAtMost a1 I = some x) (K0 : Q (some (.int x)) S I J P) : ab_Call l G mX10_leftAtMost 1 [.ref 41, .int a1] S I J P Q := by
  unfold fX10_leftAtMost at H
  refine ab_enter rfl (Nat.le_of_ble_eq_true rfl) (ab_wk (ls' := [some (.ref 41), some (.int a1), none, none]) (ab_le_some (ab_le_some (ab_le_non0 (ab_le_non0 ab_le_nil)))) ?_)
  refine ab_iconst (z := 0) (v := (0 : Int32)) (by decide +kernel) (by decide) ?_
  refine ab_istore_n (z := 2) (by decide +kernel) rfl (by decide) rfl ?_
  refine ab_ls (ls' := [some (.ref 41), some (.int a1), some (.int (0 : Int32)), none]) rfl ?_
  refine ab_iconst (z := -1) (v := (-1 : Int32)) (by decide +kernel) (by decide) ?_
  refine ab_istore_n (z := 3) (by decide +kernel) rfl (by decide) rfl ?_
  refine ab_ls (ls' := [some (.ref 41), some (.int a1), some (.int (0 : Int32)), some (.int (-1 : Int32))]) rfl ?_
  exact ab_wk (ab_le_some (ab_le_some (ab_le_some (ab_le_some (ab_le_nil))))) (ab_iter (body := (fun s => fX10_leftAtMost_4 a1 I s.1 s.2)) (W := fun s => ab_WP l G mX10_leftAtMost 1 4 [some (.ref 41), some (.int a1), some (.int s.1), some (.int s.2)] [] S I J P 0 0 Q) (fun s y hb h1 h2 => fX10_leftAtMost_4_ok hB hb h1 (fun r e => by have e2 := h2 _ e; subst e2; exact K0)) 5000 ((0 : Int32), (-1 : Int32)) H)
abbrev mX10_bestAsked : ab_M := (yX10_bestAsked, cX10_bestAsked, 3, some .int, 0, 0)
theorem kvX10_bestAsked {l : Launch} {G : ab_G} {M : ab_M} {d pc : Nat} {ls : List (Option Value)} {st : List Value} {S : ab_S} {I : ab_I} {J : ab_J} {P : ab_P} {Q : ab_Q} {ix D r ln : Nat} (hd : decode M.2.1 pc = .ok (.invokevirtual ix, 3)) (h1 : Cond.methodLink M.1.cls ix mX10_bestAsked.1 ∈ ab_good) (hs : S[r]? = some (15, ln)) (hdg : D + 1 ≤ d) (hsum : (st.map fun v => v.category).sum ≤ 8) (kk : ab_Call l G mX10_bestAsked D (.ref r :: []) S I J P (fun v S' I' J' P' => ab_WP l G M d (pc + 3) ls (ab_psh v st) S' I' J' P' 0 0 Q)) : ab_WP l G M d pc ls (.ref r :: st) S I J P 0 0 Q := bz_kv (g := mX10_bestAsked) (as := []) (cc := 10) rfl hd h1 tw_1054 tw_1055 tw_11 tw_1056 ⟨by decide +kernel, by decide +kernel, (by decide +kernel : (parseMethodDescriptor mX10_bestAsked.1.desc).map (fun d => d.parameters.length) = some 0)⟩ (by decide) rfl rfl rfl hdg hsum hs kk
def fX10_bestAsked_41 (I : ab_I) (a1 : Int32) : Option Int32 :=
  some a1
set_option maxRecDepth 100000 in
theorem fX10_bestAsked_41_ok {l : Launch} {G : ab_G} {S : ab_S} {I : ab_I} {J : ab_J} {P : ab_P} {Q : ab_Q} {a1 : Int32} (hB : bz_B S P) {x : Int32} (H : fX10_bestAsked_41 I a1 = some x) (K0 : Q (some (.int x)) S I J P) : ab_WP l G mX10_bestAsked 2 41 [some (.ref 41), some (.int a1), none] [] S I J P 0 0 Q := by
  unfold fX10_bestAsked_41 at H
  refine ab_iload_n (z := 1) (by decide +kernel) rfl rfl ?_
  obtain rfl := Option.some.inj H
  exact ab_iret (by decide +kernel) rfl (Nat.le_refl _) (Nat.le_refl _) K0
def fX10_bestAsked_35 (I : ab_I) (a1 : Int32) (a2 : Int32) : Option ((Int32 × Int32) ⊕ Int32) :=
  some (.inl (a1, (a2 + (1 : Int32))))
set_option maxRecDepth 100000 in
theorem fX10_bestAsked_35_ok {l : Launch} {G : ab_G} {S : ab_S} {I : ab_I} {J : ab_J} {P : ab_P} {Q : ab_Q} {a1 : Int32} {a2 : Int32} (hB : bz_B S P) {x : ((Int32 × Int32) ⊕ Int32)} (H : fX10_bestAsked_35 I a1 a2 = some x) (K1 : ∀ s, x = (.inl s) → ab_WP l G mX10_bestAsked 2 4 [some (.ref 41), some (.int s.1), some (.int s.2)] [] S I J P 0 0 Q) (K0 : ∀ r, x = (.inr r) → Q (some (.int r)) S I J P) : ab_WP l G mX10_bestAsked 2 35 [some (.ref 41), some (.int a1), some (.int a2)] [] S I J P 0 0 Q := by
  unfold fX10_bestAsked_35 at H
  refine ab_iinc (i := 2) (z := 1) (v := (a2 + (1 : Int32))) (by decide +kernel) rfl rfl (by decide) rfl ?_
  refine ab_ls (ls' := [some (.ref 41), some (.int a1), some (.int (a2 + (1 : Int32)))]) rfl ?_
  refine ab_goto (off := -34) (tgt := 4) (by decide +kernel) rfl ?_
  exact ab_wk (ab_le_some (ab_le_some (ab_le_some (ab_le_nil)))) (K1 (a1, (a2 + (1 : Int32))) (Option.some.inj H).symm)
def fX10_bestAsked_33 (I : ab_I) (a2 : Int32) : Option ((Int32 × Int32) ⊕ Int32) :=
  fX10_bestAsked_35 I a2 a2
set_option maxRecDepth 100000 in
theorem fX10_bestAsked_33_ok {l : Launch} {G : ab_G} {S : ab_S} {I : ab_I} {J : ab_J} {P : ab_P} {Q : ab_Q} {a2 : Int32} (hB : bz_B S P) {x : ((Int32 × Int32) ⊕ Int32)} (H : fX10_bestAsked_33 I a2 = some x) (K1 : ∀ s, x = (.inl s) → ab_WP l G mX10_bestAsked 2 4 [some (.ref 41), some (.int s.1), some (.int s.2)] [] S I J P 0 0 Q) (K0 : ∀ r, x = (.inr r) → Q (some (.int r)) S I J P) : ab_WP l G mX10_bestAsked 2 33 [some (.ref 41), none, some (.int a2)] [] S I J P 0 0 Q := by
  unfold fX10_bestAsked_33 at H
  refine ab_iload_n (z := 2) (by decide +kernel) rfl rfl ?_
  refine ab_istore_n (z := 1) (by decide +kernel) rfl (by decide) rfl ?_
  refine ab_ls (ls' := [some (.ref 41), some (.int a2), some (.int a2)]) rfl ?_
  exact ab_wk (ab_le_some (ab_le_some (ab_le_some (ab_le_nil)))) (fX10_bestAsked_35_ok hB H K1 K0)
def fX10_bestAsked_4 (I : ab_I) (a1 : Int32) (a2 : Int32) : Option ((Int32 × Int32) ⊕ Int32) :=
  if (I 3 5) ≤ a2 then
    (fX10_bestAsked_41 I a1).map .inr
  else
    if a1 = (-1 : Int32) then
      fX10_bestAsked_33 I a2
    else
      (fX10_leftAtMost a2 I).bind fun u2 =>
      (fX10_leftAtMost a1 I).bind fun u3 =>
      if u3 ≤ u2 then
        fX10_bestAsked_35 I a1 a2
      else
        fX10_bestAsked_33 I a2
set_option maxRecDepth 100000 in
theorem fX10_bestAsked_4_ok {l : Launch} {G : ab_G} {S : ab_S} {I : ab_I} {J : ab_J} {P : ab_P} {Q : ab_Q} {a1 : Int32} {a2 : Int32} (hB : bz_B S P) {x : ((Int32 × Int32) ⊕ Int32)} (H : fX10_bestAsked_4 I a1 a2 = some x) (K1 : ∀ s, x = (.inl s) → ab_WP l G mX10_bestAsked 2 4 [some (.ref 41), some (.int s.1), some (.int s.2)] [] S I J P 0 0 Q) (K0 : ∀ r, x = (.inr r) → Q (some (.int r)) S I J P) : ab_WP l G mX10_bestAsked 2 4 [some (.ref 41), some (.int a1), some (.int a2)] [] S I J P 0 0 Q := by
  unfold fX10_bestAsked_4 at H
  refine ab_iload_n (z := 2) (by decide +kernel) rfl rfl ?_
  refine ab_aload_n (z := 0) (by decide +kernel) rfl rfl ?_
  refine gX10_0 (ix := 48) (by decide +kernel) tw_346 (hB.1 41 _ rfl) (hB.2.1 50 (41, 0, 3) rfl) ?_
  refine gX9_5 (ix := 105) (by decide +kernel) tw_97 (hB.1 3 _ rfl) ?_
  refine ab_icmp_ge (off := 29) (tgt := 41) (by decide +kernel) rfl (fun hc => ?_) (fun hc => ?_)
  · replace H := ab_ifp H hc
    obtain ⟨y1, Hy, hx⟩ := ab_mp_of H
    subst hx
    replace H := Hy
    exact ab_wk (ab_le_some (ab_le_some (ab_le_none (ab_le_nil)))) (fX10_bestAsked_41_ok hB H  (K0 _ rfl))
  · replace H := ab_ifn H hc
    refine ab_iload_n (z := 1) (by decide +kernel) rfl rfl ?_
    refine ab_iconst (z := -1) (v := (-1 : Int32)) (by decide +kernel) (by decide) ?_
    refine ab_icmp_eq (off := 16) (tgt := 33) (by decide +kernel) rfl (fun hc => ?_) (fun hc => ?_)
    · replace H := ab_ifp H hc
      exact ab_wk (ab_le_some (ab_le_none (ab_le_some (ab_le_nil)))) (fX10_bestAsked_33_ok hB H K1 K0)
    · replace H := ab_ifn H hc
      refine ab_aload_n (z := 0) (by decide +kernel) rfl rfl ?_
      refine ab_iload_n (z := 2) (by decide +kernel) rfl rfl ?_
      obtain ⟨u2, hu2, H⟩ := ab_bd_of H
      refine kvX10_leftAtMost (D := 1) (ix := 112) (by decide +kernel) tw_1057 (hB.1 41 _ rfl) (by decide) (Nat.le_of_ble_eq_true rfl) (mX10_leftAtMost_ok hB hu2 ?_)
      change ab_WP l G mX10_bestAsked 2 25 [some (.ref 41), some (.int a1), some (.int a2)] [.int u2] S I J P 0 0 Q
      refine ab_aload_n (z := 0) (by decide +kernel) rfl rfl ?_
      refine ab_iload_n (z := 1) (by decide +kernel) rfl rfl ?_
      obtain ⟨u3, hu3, H⟩ := ab_bd_of H
      refine kvX10_leftAtMost (D := 1) (ix := 112) (by decide +kernel) tw_1057 (hB.1 41 _ rfl) (by decide) (Nat.le_of_ble_eq_true rfl) (mX10_leftAtMost_ok hB hu3 ?_)
      change ab_WP l G mX10_bestAsked 2 30 [some (.ref 41), some (.int a1), some (.int a2)] [.int u3, .int u2] S I J P 0 0 Q
      refine ab_icmp_ge (off := 5) (tgt := 35) (by decide +kernel) rfl (fun hc => ?_) (fun hc => ?_)
      · replace H := ab_ifp H hc
        exact ab_wk (ab_le_some (ab_le_some (ab_le_some (ab_le_nil)))) (fX10_bestAsked_35_ok hB H K1 K0)
      · replace H := ab_ifn H hc
        exact ab_wk (ab_le_some (ab_le_none (ab_le_some (ab_le_nil)))) (fX10_bestAsked_33_ok hB H K1 K0)
def fX10_bestAsked (I : ab_I) : Option Int32 :=
  ab_it (fun s => fX10_bestAsked_4 I s.1 s.2) 5000 ((-1 : Int32), (0 : Int32))
set_option maxRecDepth 100000 in
theorem mX10_bestAsked_ok {l : Launch} {G : ab_G} {S : ab_S} {I : ab_I} {J : ab_J} {P : ab_P} {Q : ab_Q} (hB : bz_B S P) {x : Int32} (H : fX10_bestAsked I = some x) (K0 : Q (some (.int x)) S I J P) : ab_Call l G mX10_bestAsked 2 [.ref 41] S I J P Q := by
  unfold fX10_bestAsked at H
  refine ab_enter rfl (Nat.le_of_ble_eq_true rfl) (ab_wk (ls' := [some (.ref 41), none, none]) (ab_le_some (ab_le_non0 (ab_le_non0 ab_le_nil))) ?_)
  refine ab_iconst (z := -1) (v := (-1 : Int32)) (by decide +kernel) (by decide) ?_
  refine ab_istore_n (z := 1) (by decide +kernel) rfl (by decide) rfl ?_
  refine ab_ls (ls' := [some (.ref 41), some (.int (-1 : Int32)), none]) rfl ?_
  refine ab_iconst (z := 0) (v := (0 : Int32)) (by decide +kernel) (by decide) ?_
  refine ab_istore_n (z := 2) (by decide +kernel) rfl (by decide) rfl ?_
  refine ab_ls (ls' := [some (.ref 41), some (.int (-1 : Int32)), some (.int (0 : Int32))]) rfl ?_
  exact ab_wk (ab_le_some (ab_le_some (ab_le_some (ab_le_nil)))) (ab_iter (body := (fun s => fX10_bestAsked_4 I s.1 s.2)) (W := fun s => ab_WP l G mX10_bestAsked 2 4 [some (.ref 41), some (.int s.1), some (.int s.2)] [] S I J P 0 0 Q) (fun s y hb h1 h2 => fX10_bestAsked_4_ok hB hb h1 (fun r e => by have e2 := h2 _ e; subst e2; exact K0)) 5000 ((-1 : Int32), (0 : Int32)) H)
abbrev mX11_ask : ab_M := (yX11_ask, cX11_ask, 6, some .int, 0, 0)
def fX11_ask_81 (a1 : Int32) (a2 : Int32) (a3 : Int32) (s0 : Int32) (I : ab_I) : Option (Int32 × ab_I) :=
  some (s0, I)
set_option maxRecDepth 100000 in
theorem fX11_ask_81_ok {l : Launch} {G : ab_G} {S : ab_S} {I : ab_I} {J : ab_J} {P : ab_P} {Q : ab_Q} {a1 : Int32} {a2 : Int32} {a3 : Int32} {s0 : Int32} (hB : bz_B S P) {x : Int32 × ab_I} (H : fX11_ask_81 a1 a2 a3 s0 I = some x) (K0 : Q (some (.int x.1)) S x.2 J P) : ab_WP l G mX11_ask 7 81 [some (.ref 0), some (.int a1), some (.int a2), some (.int a3), none, none] [.int s0] S I J P 0 0 Q := by
  unfold fX11_ask_81 at H
  obtain rfl := Option.some.inj H
  exact ab_iret (by decide +kernel) rfl (Nat.le_refl _) (Nat.le_refl _) K0
def fX11_ask_19 (a1 : Int32) (a2 : Int32) (a3 : Int32) (I : ab_I) : Option (Int32 × ab_I) :=
  some ((-1 : Int32), I)
set_option maxRecDepth 100000 in
theorem fX11_ask_19_ok {l : Launch} {G : ab_G} {S : ab_S} {I : ab_I} {J : ab_J} {P : ab_P} {Q : ab_Q} {a1 : Int32} {a2 : Int32} {a3 : Int32} (hB : bz_B S P) {x : Int32 × ab_I} (H : fX11_ask_19 a1 a2 a3 I = some x) (K0 : Q (some (.int x.1)) S x.2 J P) : ab_WP l G mX11_ask 7 19 [some (.ref 0), some (.int a1), some (.int a2), some (.int a3), none, none] [] S I J P 0 0 Q := by
  unfold fX11_ask_19 at H
  refine ab_iconst (z := -1) (v := (-1 : Int32)) (by decide +kernel) (by decide) ?_
  obtain rfl := Option.some.inj H
  exact ab_iret (by decide +kernel) rfl (Nat.le_refl _) (Nat.le_refl _) K0
def fX11_ask_67 (a1 : Int32) (a2 : Int32) (a3 : Int32) (a5 : Int32) (I : ab_I) : Option (Int32 × ab_I) :=
  fX11_ask_81 a1 a2 a3 a5 I
set_option maxRecDepth 100000 in
theorem fX11_ask_67_ok {l : Launch} {G : ab_G} {S : ab_S} {I : ab_I} {J : ab_J} {P : ab_P} {Q : ab_Q} {a1 : Int32} {a2 : Int32} {a3 : Int32} {a5 : Int32} (hB : bz_B S P) {x : Int32 × ab_I} (H : fX11_ask_67 a1 a2 a3 a5 I = some x) (K0 : Q (some (.int x.1)) S x.2 J P) : ab_WP l G mX11_ask 7 67 [some (.ref 0), some (.int a1), some (.int a2), some (.int a3), none, some (.int a5)] [] S I J P 0 0 Q := by
  unfold fX11_ask_67 at H
  refine ab_iload (i := 5) (by decide +kernel) rfl ?_
  refine ab_goto (off := 12) (tgt := 81) (by decide +kernel) rfl ?_
  exact ab_wk (ab_le_some (ab_le_some (ab_le_some (ab_le_some (ab_le_none (ab_le_none (ab_le_nil))))))) (fX11_ask_81_ok hB H  K0)
def fX11_ask (a1 : Int32) (a2 : Int32) (a3 : Int32) (I : ab_I) : Option (Int32 × ab_I) :=
  (fX11_within a1 (1 : Int32) (12 : Int32)).bind fun u1 =>
  if u1 = 0 then
    fX11_ask_19 a1 a2 a3 I
  else
    (fX11_within a2 (0 : Int32) (1 : Int32)).bind fun u2 =>
    if u2 = 0 then
      fX11_ask_19 a1 a2 a3 I
    else
      (fX10_fitting a3 I).bind fun u3 =>
      if u3.1 = 0 then
        some ((-1 : Int32), u3.2)
      else
        (fX10_countAnswers a1 u3.1 u3.2).bind fun u4 =>
        (fX10_bestAsked u4).bind fun u5 =>
        if a2 = 0 then
          fX11_ask_67 a1 a2 a3 u5 u4
        else
          if u5 = (-1 : Int32) then
            fX11_ask_67 a1 a2 a3 u5 u4
          else
            (fX10_leftAtMost u5 u4).bind fun u6 =>
            fX11_ask_81 a1 a2 a3 u6 u4
set_option maxRecDepth 100000 in
theorem mX11_ask_ok {l : Launch} {G : ab_G} {S : ab_S} {I : ab_I} {J : ab_J} {P : ab_P} {Q : ab_Q} {a1 : Int32} {a2 : Int32} {a3 : Int32} (hB : bz_B S P) {x : Int32 × ab_I} (H : fX11_ask a1 a2 a3 I = some x) (K0 : Q (some (.int x.1)) S x.2 J P) : ab_Call l G mX11_ask 7 [.ref 0, .int a1, .int a2, .int a3] S I J P Q := by
  unfold fX11_ask at H
  refine ab_enter rfl (Nat.le_of_ble_eq_true rfl) (ab_wk (ls' := [some (.ref 0), some (.int a1), some (.int a2), some (.int a3), none, none]) (ab_le_some (ab_le_some (ab_le_some (ab_le_some (ab_le_non0 (ab_le_non0 ab_le_nil)))))) ?_)
  refine ab_iload_n (z := 1) (by decide +kernel) rfl rfl ?_
  refine ab_iconst (z := 1) (v := (1 : Int32)) (by decide +kernel) (by decide) ?_
  refine ab_bipush (z := 12) (v := (12 : Int32)) (by decide +kernel) (by decide) ?_
  obtain ⟨u1, hu1, H⟩ := ab_bd_of H
  refine ksX11_within (D := 0) (ix := 191) (by decide +kernel) tw_746 (by decide) (Nat.le_of_ble_eq_true rfl) (mX11_within_ok hB hu1 ?_)
  change ab_WP l G mX11_ask 7 7 [some (.ref 0), some (.int a1), some (.int a2), some (.int a3), none, none] [.int u1] S I J P 0 0 Q
  refine ab_if_eq (off := 12) (tgt := 19) (by decide +kernel) rfl (fun hc => ?_) (fun hc => ?_)
  · replace H := ab_ifp H hc
    exact ab_wk (ab_le_some (ab_le_some (ab_le_some (ab_le_some (ab_le_none (ab_le_none (ab_le_nil))))))) (fX11_ask_19_ok hB H  K0)
  · replace H := ab_ifn H hc
    refine ab_iload_n (z := 2) (by decide +kernel) rfl rfl ?_
    refine ab_iconst (z := 0) (v := (0 : Int32)) (by decide +kernel) (by decide) ?_
    refine ab_iconst (z := 1) (v := (1 : Int32)) (by decide +kernel) (by decide) ?_
    obtain ⟨u2, hu2, H⟩ := ab_bd_of H
    refine ksX11_within (D := 0) (ix := 191) (by decide +kernel) tw_746 (by decide) (Nat.le_of_ble_eq_true rfl) (mX11_within_ok hB hu2 ?_)
    change ab_WP l G mX11_ask 7 16 [some (.ref 0), some (.int a1), some (.int a2), some (.int a3), none, none] [.int u2] S I J P 0 0 Q
    refine ab_if_ne (off := 5) (tgt := 21) (by decide +kernel) rfl (fun hc => ?_) (fun hc => ?_)
    · replace H := ab_ifn H hc
      refine ab_aload_n (z := 0) (by decide +kernel) rfl rfl ?_
      refine gX11_6 (ix := 60) (by decide +kernel) tw_414 (hB.1 0 _ rfl) (hB.2.1 6 (0, 6, 41) rfl) ?_
      refine ab_iload_n (z := 3) (by decide +kernel) rfl rfl ?_
      obtain ⟨u3, hu3, H⟩ := ab_bd_of H
      refine kvX10_fitting (D := 6) (ix := 317) (by decide +kernel) tw_1010 (hB.1 41 _ rfl) (by decide) (Nat.le_of_ble_eq_true rfl) (mX10_fitting_ok hB hu3 ?_)
      change ab_WP l G mX11_ask 7 29 [some (.ref 0), some (.int a1), some (.int a2), some (.int a3), none, none] [.int u3.1] S u3.2 J P 0 0 Q
      refine ab_istore (i := 4) (by decide +kernel) (by decide) rfl ?_
      refine ab_ls (ls' := [some (.ref 0), some (.int a1), some (.int a2), some (.int a3), some (.int u3.1), none]) rfl ?_
      refine ab_iload (i := 4) (by decide +kernel) rfl ?_
      refine ab_if_ne (off := 5) (tgt := 38) (by decide +kernel) rfl (fun hc => ?_) (fun hc => ?_)
      · replace H := ab_ifn H hc
        refine ab_aload_n (z := 0) (by decide +kernel) rfl rfl ?_
        refine gX11_6 (ix := 60) (by decide +kernel) tw_414 (hB.1 0 _ rfl) (hB.2.1 6 (0, 6, 41) rfl) ?_
        refine ab_iload_n (z := 1) (by decide +kernel) rfl rfl ?_
        refine ab_iload (i := 4) (by decide +kernel) rfl ?_
        obtain ⟨u4, hu4, H⟩ := ab_bd_of H
        refine kvX10_countAnswers (D := 5) (ix := 326) (by decide +kernel) tw_1045 (hB.1 41 _ rfl) (by decide) (Nat.le_of_ble_eq_true rfl) (mX10_countAnswers_ok hB hu4 ?_)
        change ab_WP l G mX11_ask 7 48 [some (.ref 0), some (.int a1), some (.int a2), some (.int a3), some (.int u3.1), none] [] S u4 J P 0 0 Q
        refine ab_aload_n (z := 0) (by decide +kernel) rfl rfl ?_
        refine gX11_6 (ix := 60) (by decide +kernel) tw_414 (hB.1 0 _ rfl) (hB.2.1 6 (0, 6, 41) rfl) ?_
        obtain ⟨u5, hu5, H⟩ := ab_bd_of H
        refine kvX10_bestAsked (D := 2) (ix := 330) (by decide +kernel) tw_1053 (hB.1 41 _ rfl) (by decide) (Nat.le_of_ble_eq_true rfl) (mX10_bestAsked_ok hB hu5 ?_)
        change ab_WP l G mX11_ask 7 55 [some (.ref 0), some (.int a1), some (.int a2), some (.int a3), some (.int u3.1), none] [.int u5] S u4 J P 0 0 Q
        refine ab_istore (i := 5) (by decide +kernel) (by decide) rfl ?_
        refine ab_ls (ls' := [some (.ref 0), some (.int a1), some (.int a2), some (.int a3), some (.int u3.1), some (.int u5)]) rfl ?_
        refine ab_iload_n (z := 2) (by decide +kernel) rfl rfl ?_
        refine ab_if_eq (off := 9) (tgt := 67) (by decide +kernel) rfl (fun hc => ?_) (fun hc => ?_)
        · replace H := ab_ifp H hc
          exact ab_wk (ab_le_some (ab_le_some (ab_le_some (ab_le_some (ab_le_none (ab_le_some (ab_le_nil))))))) (fX11_ask_67_ok hB H  K0)
        · replace H := ab_ifn H hc
          refine ab_iload (i := 5) (by decide +kernel) rfl ?_
          refine ab_iconst (z := -1) (v := (-1 : Int32)) (by decide +kernel) (by decide) ?_
          refine ab_icmp_ne (off := 8) (tgt := 72) (by decide +kernel) rfl (fun hc => ?_) (fun hc => ?_)
          · replace H := ab_ifn H hc
            refine ab_aload_n (z := 0) (by decide +kernel) rfl rfl ?_
            refine gX11_6 (ix := 60) (by decide +kernel) tw_414 (hB.1 0 _ rfl) (hB.2.1 6 (0, 6, 41) rfl) ?_
            refine ab_iload (i := 5) (by decide +kernel) rfl ?_
            obtain ⟨u6, hu6, H⟩ := ab_bd_of H
            refine kvX10_leftAtMost (D := 1) (ix := 334) (by decide +kernel) tw_1061 (hB.1 41 _ rfl) (by decide) (Nat.le_of_ble_eq_true rfl) (mX10_leftAtMost_ok hB hu6 ?_)
            change ab_WP l G mX11_ask 7 81 [some (.ref 0), some (.int a1), some (.int a2), some (.int a3), some (.int u3.1), some (.int u5)] [.int u6] S u4 J P 0 0 Q
            exact ab_wk (ab_le_some (ab_le_some (ab_le_some (ab_le_some (ab_le_none (ab_le_none (ab_le_nil))))))) (fX11_ask_81_ok hB H  K0)
          · replace H := ab_ifp H hc
            exact ab_wk (ab_le_some (ab_le_some (ab_le_some (ab_le_some (ab_le_none (ab_le_some (ab_le_nil))))))) (fX11_ask_67_ok hB H  K0)
      · replace H := ab_ifp H hc
        refine ab_iconst (z := -1) (v := (-1 : Int32)) (by decide +kernel) (by decide) ?_
        obtain rfl := Option.some.inj H
        exact ab_iret (by decide +kernel) rfl (Nat.le_refl _) (Nat.le_refl _) K0
    · replace H := ab_ifp H hc
      exact ab_wk (ab_le_some (ab_le_some (ab_le_some (ab_le_some (ab_le_none (ab_le_none (ab_le_nil))))))) (fX11_ask_19_ok hB H  K0)
abbrev mX11_image : ab_M := (yX11_image, cX11_image, 2, some .int, 0, 0)
def fX11_image (a1 : Int32) (I : ab_I) (P : ab_P) : Option (Int32 × ab_I) :=
  (fX11_within a1 (0 : Int32) (2 : Int32)).bind fun u1 =>
  if u1 = 0 then
    some ((-1 : Int32), I)
  else
    ab_gd (ab_ix a1 3 = true) (
      (P 56 a1.toNatClampNeg).bind fun z2 =>
      (P 0 12).bind fun z3 =>
      (fX6_copyFrom z2 z3 I).bind fun u4 =>
      (P 0 12).bind fun z5 =>
      some (((ab_u u4 0 11 ((u4 0 11) ||| ((1 : Int32) <<< (a1 &&& 31)))) z5 4), (ab_u u4 0 11 ((u4 0 11) ||| ((1 : Int32) <<< (a1 &&& 31)))))
    )
set_option maxRecDepth 100000 in
theorem mX11_image_ok {l : Launch} {G : ab_G} {S : ab_S} {I : ab_I} {J : ab_J} {P : ab_P} {Q : ab_Q} {a1 : Int32} (hB : bz_B S P) {x : Int32 × ab_I} (H : fX11_image a1 I P = some x) (K0 : Q (some (.int x.1)) S x.2 J P) : ab_Call l G mX11_image 2 [.ref 0, .int a1] S I J P Q := by
  unfold fX11_image at H
  refine ab_enter rfl (Nat.le_of_ble_eq_true rfl) (ab_wk (ls' := [some (.ref 0), some (.int a1)]) (ab_le_some (ab_le_some (ab_le_nil))) ?_)
  refine ab_iload_n (z := 1) (by decide +kernel) rfl rfl ?_
  refine ab_iconst (z := 0) (v := (0 : Int32)) (by decide +kernel) (by decide) ?_
  refine ab_iconst (z := 2) (v := (2 : Int32)) (by decide +kernel) (by decide) ?_
  obtain ⟨u1, hu1, H⟩ := ab_bd_of H
  refine ksX11_within (D := 0) (ix := 191) (by decide +kernel) tw_746 (by decide) (Nat.le_of_ble_eq_true rfl) (mX11_within_ok hB hu1 ?_)
  change ab_WP l G mX11_image 2 6 [some (.ref 0), some (.int a1)] [.int u1] S I J P 0 0 Q
  refine ab_if_ne (off := 5) (tgt := 11) (by decide +kernel) rfl (fun hc => ?_) (fun hc => ?_)
  · replace H := ab_ifn H hc
    refine ab_aload_n (z := 0) (by decide +kernel) rfl rfl ?_
    refine gX11_10 (ix := 81) (by decide +kernel) tw_418 (hB.1 0 _ rfl) (hB.2.1 9 (0, 10, 56) rfl) ?_
    refine ab_iload_n (z := 1) (by decide +kernel) rfl rfl ?_
    obtain ⟨hg, H⟩ := ab_gd_of H
    obtain ⟨z2, hz2, H⟩ := ab_bd_of H
    refine ab_aald (ln := 3) (by decide +kernel) (hB.1 56 _ rfl) (ab_ix_in hg) hz2 ?_
    have sz2 := bz_box hB (ab_ix_in hg) hz2
    refine ab_aload_n (z := 0) (by decide +kernel) rfl rfl ?_
    obtain ⟨z3, hz3, H⟩ := ab_bd_of H
    refine gX11_12 (ix := 89) (by decide +kernel) tw_420 (hB.1 0 _ rfl) hz3 ?_
    have sz3 := hB.2.2.1 _ hz3
    obtain ⟨u4, hu4, H⟩ := ab_bd_of H
    refine kvX6_copyFrom (D := 1) (ix := 337) (by decide +kernel) tw_1066 sz2.1 (by decide) (Nat.le_of_ble_eq_true rfl) (mX6_copyFrom_ok hB sz2 sz3 hu4 ?_)
    change ab_WP l G mX11_image 2 24 [some (.ref 0), some (.int a1)] [] S u4 J P 0 0 Q
    refine ab_aload_n (z := 0) (by decide +kernel) rfl rfl ?_
    refine ab_dup (by decide +kernel) rfl ?_
    refine gX11_11 (ix := 85) (by decide +kernel) tw_419 (hB.1 0 _ rfl) ?_
    refine ab_iconst (z := 1) (v := (1 : Int32)) (by decide +kernel) (by decide) ?_
    refine ab_iload_n (z := 1) (by decide +kernel) rfl rfl ?_
    refine ab_ishl (by decide +kernel) ?_
    refine ab_ior (by decide +kernel) ?_
    refine pX11_11 (ix := 85) (by decide +kernel) tw_419 (hB.1 0 _ rfl) ?_
    refine ab_aload_n (z := 0) (by decide +kernel) rfl rfl ?_
    obtain ⟨z5, hz5, H⟩ := ab_bd_of H
    refine gX11_12 (ix := 89) (by decide +kernel) tw_420 (hB.1 0 _ rfl) hz5 ?_
    have sz5 := hB.2.2.1 _ hz5
    refine gX6_4 (ix := 181) (by decide +kernel) tw_263 sz5.1 ?_
    obtain rfl := Option.some.inj H
    exact ab_iret (by decide +kernel) rfl (Nat.le_refl _) (Nat.le_refl _) K0
  · replace H := ab_ifp H hc
    refine ab_iconst (z := -1) (v := (-1 : Int32)) (by decide +kernel) (by decide) ?_
    obtain rfl := Option.some.inj H
    exact ab_iret (by decide +kernel) rfl (Nat.le_refl _) (Nat.le_refl _) K0
