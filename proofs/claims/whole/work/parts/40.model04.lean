abbrev mX12_lesser : ab_M := (yX12_lesser, cX12_lesser, 2, some .int, 0, 0)
theorem ksX12_lesser {l : Launch} {G : ab_G} {M : ab_M} {d pc : Nat} {ls : List (Option Value)} {st : List Value} {S : ab_S} {I : ab_I} {J : ab_J} {P : ab_P} {Q : ab_Q} {v0 v1 : Value} {ix D : Nat} (hd : decode M.2.1 pc = .ok (.invokestatic ix, 3)) (h1 : Cond.methodLink M.1.cls ix mX12_lesser.1 ∈ ab_good) (hdg : D + 1 ≤ d) (hsum : (st.map fun v => v.category).sum ≤ 8) (kk : ab_Call l G mX12_lesser D [v0, v1] S I J P (fun v S' I' J' P' => ab_WP l G M d (pc + 3) ls (ab_psh v st) S' I' J' P' 0 0 Q)) : ab_WP l G M d pc ls (v1 :: v0 :: st) S I J P 0 0 Q := bz_ks (g := mX12_lesser) (as := [v0, v1]) rfl hd h1 tw_1519 tw_13 tw_1520 ⟨by decide +kernel, by decide +kernel, (by decide +kernel : (parseMethodDescriptor mX12_lesser.1.desc).map (fun d => d.parameters.length) = some 2)⟩ (by decide) rfl hdg hsum kk
def fX12_lesser_10 (a0 : Int32) (a1 : Int32) (s0 : Int32) : Option Int32 :=
  some s0
set_option maxRecDepth 100000 in
theorem fX12_lesser_10_ok {l : Launch} {G : ab_G} {S : ab_S} {I : ab_I} {J : ab_J} {P : ab_P} {Q : ab_Q} {a0 : Int32} {a1 : Int32} {s0 : Int32} (hB : bz_B S P) {x : Int32} (H : fX12_lesser_10 a0 a1 s0 = some x) (K0 : Q (some (.int x)) S I J P) : ab_WP l G mX12_lesser 0 10 [some (.int a0), some (.int a1)] [.int s0] S I J P 0 0 Q := by
  unfold fX12_lesser_10 at H
  obtain rfl := Option.some.inj H
  exact ab_iret (by decide +kernel) rfl (Nat.le_refl _) (Nat.le_refl _) K0
def fX12_lesser (a0 : Int32) (a1 : Int32) : Option Int32 :=
  if a1 ≤ a0 then
    fX12_lesser_10 a0 a1 a1
  else
    fX12_lesser_10 a0 a1 a0
set_option maxRecDepth 100000 in
theorem mX12_lesser_ok {l : Launch} {G : ab_G} {S : ab_S} {I : ab_I} {J : ab_J} {P : ab_P} {Q : ab_Q} {a0 : Int32} {a1 : Int32} (hB : bz_B S P) {x : Int32} (H : fX12_lesser a0 a1 = some x) (K0 : Q (some (.int x)) S I J P) : ab_Call l G mX12_lesser 0 [.int a0, .int a1] S I J P Q := by
  unfold fX12_lesser at H
  refine ab_enter rfl (Nat.le_of_ble_eq_true rfl) (ab_wk (ls' := [some (.int a0), some (.int a1)]) (ab_le_some (ab_le_some (ab_le_nil))) ?_)
  refine ab_iload_n (z := 0) (by decide +kernel) rfl rfl ?_
  refine ab_iload_n (z := 1) (by decide +kernel) rfl rfl ?_
  refine ab_icmp_ge (off := 7) (tgt := 9) (by decide +kernel) rfl (fun hc => ?_) (fun hc => ?_)
  · replace H := ab_ifp H hc
    refine ab_iload_n (z := 1) (by decide +kernel) rfl rfl ?_
    exact ab_wk (ab_le_some (ab_le_some (ab_le_nil))) (fX12_lesser_10_ok hB H  K0)
  · replace H := ab_ifn H hc
    refine ab_iload_n (z := 0) (by decide +kernel) rfl rfl ?_
    refine ab_goto (off := 4) (tgt := 10) (by decide +kernel) rfl ?_
    exact ab_wk (ab_le_some (ab_le_some (ab_le_nil))) (fX12_lesser_10_ok hB H  K0)
abbrev mX12_members : ab_M := (yX12_members, cX12_members, 3, some .int, 0, 0)
theorem ksX12_members {l : Launch} {G : ab_G} {M : ab_M} {d pc : Nat} {ls : List (Option Value)} {st : List Value} {S : ab_S} {I : ab_I} {J : ab_J} {P : ab_P} {Q : ab_Q} {v0 : Value} {ix D : Nat} (hd : decode M.2.1 pc = .ok (.invokestatic ix, 3)) (h1 : Cond.methodLink M.1.cls ix mX12_members.1 ∈ ab_good) (hdg : D + 1 ≤ d) (hsum : (st.map fun v => v.category).sum ≤ 8) (kk : ab_Call l G mX12_members D [v0] S I J P (fun v S' I' J' P' => ab_WP l G M d (pc + 3) ls (ab_psh v st) S' I' J' P' 0 0 Q)) : ab_WP l G M d pc ls (v0 :: st) S I J P 0 0 Q := bz_ks (g := mX12_members) (as := [v0]) rfl hd h1 tw_1513 tw_13 tw_1514 ⟨by decide +kernel, by decide +kernel, (by decide +kernel : (parseMethodDescriptor mX12_members.1.desc).map (fun d => d.parameters.length) = some 1)⟩ (by decide) rfl hdg hsum kk
def fX12_members_24 (a0 : Int32) (a1 : Int32) : Option Int32 :=
  some a1
set_option maxRecDepth 100000 in
theorem fX12_members_24_ok {l : Launch} {G : ab_G} {S : ab_S} {I : ab_I} {J : ab_J} {P : ab_P} {Q : ab_Q} {a0 : Int32} {a1 : Int32} (hB : bz_B S P) {x : Int32} (H : fX12_members_24 a0 a1 = some x) (K0 : Q (some (.int x)) S I J P) : ab_WP l G mX12_members 0 24 [some (.int a0), some (.int a1), none] [] S I J P 0 0 Q := by
  unfold fX12_members_24 at H
  refine ab_iload_n (z := 1) (by decide +kernel) rfl rfl ?_
  obtain rfl := Option.some.inj H
  exact ab_iret (by decide +kernel) rfl (Nat.le_refl _) (Nat.le_refl _) K0
def fX12_members_4 (a0 : Int32) (a1 : Int32) (a2 : Int32) : Option ((Int32 × Int32) ⊕ Int32) :=
  if (6 : Int32) ≤ a2 then
    (fX12_members_24 a0 a1).map .inr
  else
    some (.inl ((a1 + ((a0 >>> (a2 &&& 31)) &&& (1 : Int32))), (a2 + (1 : Int32))))
set_option maxRecDepth 100000 in
theorem fX12_members_4_ok {l : Launch} {G : ab_G} {S : ab_S} {I : ab_I} {J : ab_J} {P : ab_P} {Q : ab_Q} {a0 : Int32} {a1 : Int32} {a2 : Int32} (hB : bz_B S P) {x : ((Int32 × Int32) ⊕ Int32)} (H : fX12_members_4 a0 a1 a2 = some x) (K1 : ∀ s, x = (.inl s) → ab_WP l G mX12_members 0 4 [some (.int a0), some (.int s.1), some (.int s.2)] [] S I J P 0 0 Q) (K0 : ∀ r, x = (.inr r) → Q (some (.int r)) S I J P) : ab_WP l G mX12_members 0 4 [some (.int a0), some (.int a1), some (.int a2)] [] S I J P 0 0 Q := by
  unfold fX12_members_4 at H
  refine ab_iload_n (z := 2) (by decide +kernel) rfl rfl ?_
  refine ab_bipush (z := 6) (v := (6 : Int32)) (by decide +kernel) (by decide) ?_
  refine ab_icmp_ge (off := 17) (tgt := 24) (by decide +kernel) rfl (fun hc => ?_) (fun hc => ?_)
  · replace H := ab_ifp H hc
    obtain ⟨y1, Hy, hx⟩ := ab_mp_of H
    subst hx
    replace H := Hy
    exact ab_wk (ab_le_some (ab_le_some (ab_le_none (ab_le_nil)))) (fX12_members_24_ok hB H  (K0 _ rfl))
  · replace H := ab_ifn H hc
    refine ab_iload_n (z := 1) (by decide +kernel) rfl rfl ?_
    refine ab_iload_n (z := 0) (by decide +kernel) rfl rfl ?_
    refine ab_iload_n (z := 2) (by decide +kernel) rfl rfl ?_
    refine ab_ishr (by decide +kernel) ?_
    refine ab_iconst (z := 1) (v := (1 : Int32)) (by decide +kernel) (by decide) ?_
    refine ab_iand (by decide +kernel) ?_
    refine ab_iadd (by decide +kernel) ?_
    refine ab_istore_n (z := 1) (by decide +kernel) rfl (by decide) rfl ?_
    refine ab_ls (ls' := [some (.int a0), some (.int (a1 + ((a0 >>> (a2 &&& 31)) &&& (1 : Int32)))), some (.int a2)]) rfl ?_
    refine ab_iinc (i := 2) (z := 1) (v := (a2 + (1 : Int32))) (by decide +kernel) rfl rfl (by decide) rfl ?_
    refine ab_ls (ls' := [some (.int a0), some (.int (a1 + ((a0 >>> (a2 &&& 31)) &&& (1 : Int32)))), some (.int (a2 + (1 : Int32)))]) rfl ?_
    refine ab_goto (off := -17) (tgt := 4) (by decide +kernel) rfl ?_
    exact ab_wk (ab_le_some (ab_le_some (ab_le_some (ab_le_nil)))) (K1 ((a1 + ((a0 >>> (a2 &&& 31)) &&& (1 : Int32))), (a2 + (1 : Int32))) (Option.some.inj H).symm)
def fX12_members (a0 : Int32) : Option Int32 :=
  ab_it (fun s => fX12_members_4 a0 s.1 s.2) 5000 ((0 : Int32), (0 : Int32))
set_option maxRecDepth 100000 in
theorem mX12_members_ok {l : Launch} {G : ab_G} {S : ab_S} {I : ab_I} {J : ab_J} {P : ab_P} {Q : ab_Q} {a0 : Int32} (hB : bz_B S P) {x : Int32} (H : fX12_members a0 = some x) (K0 : Q (some (.int x)) S I J P) : ab_Call l G mX12_members 0 [.int a0] S I J P Q := by
  unfold fX12_members at H
  refine ab_enter rfl (Nat.le_of_ble_eq_true rfl) (ab_wk (ls' := [some (.int a0), none, none]) (ab_le_some (ab_le_non0 (ab_le_non0 ab_le_nil))) ?_)
  refine ab_iconst (z := 0) (v := (0 : Int32)) (by decide +kernel) (by decide) ?_
  refine ab_istore_n (z := 1) (by decide +kernel) rfl (by decide) rfl ?_
  refine ab_ls (ls' := [some (.int a0), some (.int (0 : Int32)), none]) rfl ?_
  refine ab_iconst (z := 0) (v := (0 : Int32)) (by decide +kernel) (by decide) ?_
  refine ab_istore_n (z := 2) (by decide +kernel) rfl (by decide) rfl ?_
  refine ab_ls (ls' := [some (.int a0), some (.int (0 : Int32)), some (.int (0 : Int32))]) rfl ?_
  exact ab_wk (ab_le_some (ab_le_some (ab_le_some (ab_le_nil)))) (ab_iter (body := (fun s => fX12_members_4 a0 s.1 s.2)) (W := fun s => ab_WP l G mX12_members 0 4 [some (.int a0), some (.int s.1), some (.int s.2)] [] S I J P 0 0 Q) (fun s y hb h1 h2 => fX12_members_4_ok hB hb h1 (fun r e => by have e2 := h2 _ e; subst e2; exact K0)) 5000 ((0 : Int32), (0 : Int32)) H)
abbrev mX12_weightOf : ab_M := (yX12_weightOf, cX12_weightOf, 5, some .int, 0, 0)
theorem kvX12_weightOf {l : Launch} {G : ab_G} {M : ab_M} {d pc : Nat} {ls : List (Option Value)} {st : List Value} {S : ab_S} {I : ab_I} {J : ab_J} {P : ab_P} {Q : ab_Q} {v0 v1 : Value} {ix D r ln : Nat} (hd : decode M.2.1 pc = .ok (.invokevirtual ix, 3)) (h1 : Cond.methodLink M.1.cls ix mX12_weightOf.1 ∈ ab_good) (hs : S[r]? = some (17, ln)) (hdg : D + 1 ≤ d) (hsum : (st.map fun v => v.category).sum ≤ 8) (kk : ab_Call l G mX12_weightOf D (.ref r :: [v0, v1]) S I J P (fun v S' I' J' P' => ab_WP l G M d (pc + 3) ls (ab_psh v st) S' I' J' P' 0 0 Q)) : ab_WP l G M d pc ls (v1 :: v0 :: .ref r :: st) S I J P 0 0 Q := bz_kv (g := mX12_weightOf) (as := [v0, v1]) (cc := 12) rfl hd h1 tw_1510 tw_p70 tw_13 tw_1511 ⟨by decide +kernel, by decide +kernel, (by decide +kernel : (parseMethodDescriptor mX12_weightOf.1.desc).map (fun d => d.parameters.length) = some 2)⟩ (by decide) rfl rfl rfl hdg hsum hs kk
def fX12_weightOf_269 (a1 : Int32) (a2 : Int32) (I : ab_I) : Option (Int32 × ab_I) :=
  ab_gd (ab_ix (0 : Int32) 64 = true) (
    some ((I 81 ((0 : Int32).toNatClampNeg)), I)
  )
set_option maxRecDepth 100000 in
theorem fX12_weightOf_269_ok {l : Launch} {G : ab_G} {S : ab_S} {I : ab_I} {J : ab_J} {P : ab_P} {Q : ab_Q} {a1 : Int32} {a2 : Int32} (hB : bz_B S P) {x : Int32 × ab_I} (H : fX12_weightOf_269 a1 a2 I = some x) (K0 : Q (some (.int x.1)) S x.2 J P) : ab_WP l G mX12_weightOf 2 269 [some (.ref 73), some (.int a1), some (.int a2), none, none] [] S I J P 0 0 Q := by
  unfold fX12_weightOf_269 at H
  refine ab_aload_n (z := 0) (by decide +kernel) rfl rfl ?_
  refine gX12_16 (ix := 36) (by decide +kernel) tw_1097 (hB.1 73 _ rfl) (hB.2.1 86 (73, 16, 81) rfl) ?_
  refine ab_iconst (z := 0) (v := (0 : Int32)) (by decide +kernel) (by decide) ?_
  obtain ⟨hg, H⟩ := ab_gd_of H
  refine ab_iald (ln := 64) (by decide +kernel) (hB.1 81 _ rfl) (ab_ix_in hg) ?_
  obtain rfl := Option.some.inj H
  exact ab_iret (by decide +kernel) rfl (Nat.le_refl _) (Nat.le_refl _) K0
def fX12_weightOf_263 (a1 : Int32) (a2 : Int32) (a3 : Int32) (a4 : Int32) (I : ab_I) : Option ((Int32 × Int32 × ab_I) ⊕ (Int32 × ab_I)) :=
  some (.inl (a3, (a4 + (1 : Int32)), I))
set_option maxRecDepth 100000 in
theorem fX12_weightOf_263_ok {l : Launch} {G : ab_G} {S : ab_S} {I : ab_I} {J : ab_J} {P : ab_P} {Q : ab_Q} {a1 : Int32} {a2 : Int32} {a3 : Int32} {a4 : Int32} (hB : bz_B S P) {x : ((Int32 × Int32 × ab_I) ⊕ (Int32 × ab_I))} (H : fX12_weightOf_263 a1 a2 a3 a4 I = some x) (K1 : ∀ s, x = (.inl s) → ab_WP l G mX12_weightOf 2 113 [some (.ref 73), some (.int a1), some (.int a2), some (.int s.1), some (.int s.2.1)] [] S s.2.2 J P 0 0 Q) (K0 : ∀ r, x = (.inr r) → Q (some (.int r.1)) S r.2 J P) : ab_WP l G mX12_weightOf 2 263 [some (.ref 73), some (.int a1), some (.int a2), some (.int a3), some (.int a4)] [] S I J P 0 0 Q := by
  unfold fX12_weightOf_263 at H
  refine ab_iinc (i := 4) (z := 1) (v := (a4 + (1 : Int32))) (by decide +kernel) rfl rfl (by decide) rfl ?_
  refine ab_ls (ls' := [some (.ref 73), some (.int a1), some (.int a2), some (.int a3), some (.int (a4 + (1 : Int32)))]) rfl ?_
  refine ab_goto (off := -153) (tgt := 113) (by decide +kernel) rfl ?_
  exact ab_wk (ab_le_some (ab_le_some (ab_le_some (ab_le_some (ab_le_some (ab_le_nil)))))) (K1 (a3, (a4 + (1 : Int32)), I) (Option.some.inj H).symm)
def fX12_weightOf_221 (a1 : Int32) (a2 : Int32) (a3 : Int32) (a4 : Int32) (s1 : Int32) (s2 : Int32) (I : ab_I) : Option ((Int32 × Int32 × ab_I) ⊕ (Int32 × ab_I)) :=
  (fX12_truth s2).bind fun u4 =>
  ab_gd (ab_ix s1 64 = true) (
    fX12_weightOf_263 a1 a2 a3 a4 (ab_u I 81 s1.toNatClampNeg u4)
  )
set_option maxRecDepth 100000 in
theorem fX12_weightOf_221_ok {l : Launch} {G : ab_G} {S : ab_S} {I : ab_I} {J : ab_J} {P : ab_P} {Q : ab_Q} {a1 : Int32} {a2 : Int32} {a3 : Int32} {a4 : Int32} {s1 : Int32} {s2 : Int32} (hB : bz_B S P) {x : ((Int32 × Int32 × ab_I) ⊕ (Int32 × ab_I))} (H : fX12_weightOf_221 a1 a2 a3 a4 s1 s2 I = some x) (K1 : ∀ s, x = (.inl s) → ab_WP l G mX12_weightOf 2 113 [some (.ref 73), some (.int a1), some (.int a2), some (.int s.1), some (.int s.2.1)] [] S s.2.2 J P 0 0 Q) (K0 : ∀ r, x = (.inr r) → Q (some (.int r.1)) S r.2 J P) : ab_WP l G mX12_weightOf 2 221 [some (.ref 73), some (.int a1), some (.int a2), some (.int a3), some (.int a4)] [.int s2, .int s1, .ref 81] S I J P 0 0 Q := by
  unfold fX12_weightOf_221 at H
  obtain ⟨u4, hu4, H⟩ := ab_bd_of H
  refine ksX12_truth (D := 0) (ix := 279) (by decide +kernel) tw_1485 (by decide) (Nat.le_of_ble_eq_true rfl) (mX12_truth_ok hB hu4 ?_)
  change ab_WP l G mX12_weightOf 2 224 [some (.ref 73), some (.int a1), some (.int a2), some (.int a3), some (.int a4)] [.int u4, .int s1, .ref 81] S I J P 0 0 Q
  obtain ⟨hg, H⟩ := ab_gd_of H
  refine ab_iast (ln := 64) (by decide +kernel) (hB.1 81 _ rfl) (ab_ix_in hg) ?_
  refine ab_goto (off := 38) (tgt := 263) (by decide +kernel) rfl ?_
  exact ab_wk (ab_le_some (ab_le_some (ab_le_some (ab_le_some (ab_le_some (ab_le_nil)))))) (fX12_weightOf_263_ok hB H K1 K0)
def fX12_weightOf_180 (a1 : Int32) (a2 : Int32) (a3 : Int32) (a4 : Int32) (s1 : Int32) (s2 : Int32) (I : ab_I) : Option ((Int32 × Int32 × ab_I) ⊕ (Int32 × ab_I)) :=
  ab_gd (ab_ix s1 64 = true) (
    fX12_weightOf_263 a1 a2 (a3 + (1 : Int32)) a4 (ab_u I 81 s1.toNatClampNeg s2)
  )
set_option maxRecDepth 100000 in
theorem fX12_weightOf_180_ok {l : Launch} {G : ab_G} {S : ab_S} {I : ab_I} {J : ab_J} {P : ab_P} {Q : ab_Q} {a1 : Int32} {a2 : Int32} {a3 : Int32} {a4 : Int32} {s1 : Int32} {s2 : Int32} (hB : bz_B S P) {x : ((Int32 × Int32 × ab_I) ⊕ (Int32 × ab_I))} (H : fX12_weightOf_180 a1 a2 a3 a4 s1 s2 I = some x) (K1 : ∀ s, x = (.inl s) → ab_WP l G mX12_weightOf 2 113 [some (.ref 73), some (.int a1), some (.int a2), some (.int s.1), some (.int s.2.1)] [] S s.2.2 J P 0 0 Q) (K0 : ∀ r, x = (.inr r) → Q (some (.int r.1)) S r.2 J P) : ab_WP l G mX12_weightOf 2 180 [some (.ref 73), some (.int a1), some (.int a2), some (.int a3), some (.int a4)] [.int s2, .int s1, .ref 81] S I J P 0 0 Q := by
  unfold fX12_weightOf_180 at H
  obtain ⟨hg, H⟩ := ab_gd_of H
  refine ab_iast (ln := 64) (by decide +kernel) (hB.1 81 _ rfl) (ab_ix_in hg) ?_
  refine ab_iinc (i := 3) (z := 1) (v := (a3 + (1 : Int32))) (by decide +kernel) rfl rfl (by decide) rfl ?_
  refine ab_ls (ls' := [some (.ref 73), some (.int a1), some (.int a2), some (.int (a3 + (1 : Int32))), some (.int a4)]) rfl ?_
  refine ab_goto (off := 79) (tgt := 263) (by decide +kernel) rfl ?_
  exact ab_wk (ab_le_some (ab_le_some (ab_le_some (ab_le_some (ab_le_some (ab_le_nil)))))) (fX12_weightOf_263_ok hB H K1 K0)
def fX12_weightOf_143 (a1 : Int32) (a2 : Int32) (a3 : Int32) (a4 : Int32) (I : ab_I) : Option ((Int32 × Int32 × ab_I) ⊕ (Int32 × ab_I)) :=
  ab_gd (ab_ix a4 320 = true) (
    if (I 78 a4.toNatClampNeg) = 0 then
      ab_gd (ab_ix a4 320 = true) (
        fX12_weightOf_180 a1 a2 a3 a4 a3 (I 79 a4.toNatClampNeg) I
      )
    else
      ab_gd (ab_ix a4 320 = true) (
        ab_gd (ab_ix (I 79 a4.toNatClampNeg) 6 = true) (
          fX12_weightOf_180 a1 a2 a3 a4 a3 (I 82 ((I 79 a4.toNatClampNeg).toNatClampNeg)) I
        )
      )
  )
set_option maxRecDepth 100000 in
theorem fX12_weightOf_143_ok {l : Launch} {G : ab_G} {S : ab_S} {I : ab_I} {J : ab_J} {P : ab_P} {Q : ab_Q} {a1 : Int32} {a2 : Int32} {a3 : Int32} {a4 : Int32} (hB : bz_B S P) {x : ((Int32 × Int32 × ab_I) ⊕ (Int32 × ab_I))} (H : fX12_weightOf_143 a1 a2 a3 a4 I = some x) (K1 : ∀ s, x = (.inl s) → ab_WP l G mX12_weightOf 2 113 [some (.ref 73), some (.int a1), some (.int a2), some (.int s.1), some (.int s.2.1)] [] S s.2.2 J P 0 0 Q) (K0 : ∀ r, x = (.inr r) → Q (some (.int r.1)) S r.2 J P) : ab_WP l G mX12_weightOf 2 143 [some (.ref 73), some (.int a1), some (.int a2), some (.int a3), some (.int a4)] [] S I J P 0 0 Q := by
  unfold fX12_weightOf_143 at H
  refine ab_aload_n (z := 0) (by decide +kernel) rfl rfl ?_
  refine gX12_16 (ix := 36) (by decide +kernel) tw_1097 (hB.1 73 _ rfl) (hB.2.1 86 (73, 16, 81) rfl) ?_
  refine ab_iload_n (z := 3) (by decide +kernel) rfl rfl ?_
  refine ab_aload_n (z := 0) (by decide +kernel) rfl rfl ?_
  refine gX12_13 (ix := 27) (by decide +kernel) tw_1094 (hB.1 73 _ rfl) (hB.2.1 83 (73, 13, 78) rfl) ?_
  refine ab_iload (i := 4) (by decide +kernel) rfl ?_
  obtain ⟨hg, H⟩ := ab_gd_of H
  refine ab_iald (ln := 320) (by decide +kernel) (hB.1 78 _ rfl) (ab_ix_in hg) ?_
  refine ab_if_ne (off := 13) (tgt := 168) (by decide +kernel) rfl (fun hc => ?_) (fun hc => ?_)
  · replace H := ab_ifn H hc
    refine ab_aload_n (z := 0) (by decide +kernel) rfl rfl ?_
    refine gX12_26 (ix := 39) (by decide +kernel) tw_1107 (hB.1 73 _ rfl) (hB.2.1 87 (73, 26, 82) rfl) ?_
    refine ab_aload_n (z := 0) (by decide +kernel) rfl rfl ?_
    refine gX12_14 (ix := 30) (by decide +kernel) tw_1095 (hB.1 73 _ rfl) (hB.2.1 84 (73, 14, 79) rfl) ?_
    refine ab_iload (i := 4) (by decide +kernel) rfl ?_
    obtain ⟨hg, H⟩ := ab_gd_of H
    refine ab_iald (ln := 320) (by decide +kernel) (hB.1 79 _ rfl) (ab_ix_in hg) ?_
    obtain ⟨hg, H⟩ := ab_gd_of H
    refine ab_iald (ln := 6) (by decide +kernel) (hB.1 82 _ rfl) (ab_ix_in hg) ?_
    exact ab_wk (ab_le_some (ab_le_some (ab_le_some (ab_le_some (ab_le_some (ab_le_nil)))))) (fX12_weightOf_180_ok hB H K1 K0)
  · replace H := ab_ifp H hc
    refine ab_aload_n (z := 0) (by decide +kernel) rfl rfl ?_
    refine gX12_14 (ix := 30) (by decide +kernel) tw_1095 (hB.1 73 _ rfl) (hB.2.1 84 (73, 14, 79) rfl) ?_
    refine ab_iload (i := 4) (by decide +kernel) rfl ?_
    obtain ⟨hg, H⟩ := ab_gd_of H
    refine ab_iald (ln := 320) (by decide +kernel) (hB.1 79 _ rfl) (ab_ix_in hg) ?_
    refine ab_goto (off := 15) (tgt := 180) (by decide +kernel) rfl ?_
    exact ab_wk (ab_le_some (ab_le_some (ab_le_some (ab_le_some (ab_le_some (ab_le_nil)))))) (fX12_weightOf_180_ok hB H K1 K0)
def fX12_weightOf_113 (a1 : Int32) (a2 : Int32) (a3 : Int32) (a4 : Int32) (I : ab_I) : Option ((Int32 × Int32 × ab_I) ⊕ (Int32 × ab_I)) :=
  if (I 73 18) ≤ a4 then
    (fX12_weightOf_269 a1 a2 I).map .inr
  else
    ab_gd (ab_ix a4 320 = true) (
      if (I 78 a4.toNatClampNeg) = 0 then
        fX12_weightOf_143 a1 a2 a3 a4 I
      else
        ab_gd (ab_ix a4 320 = true) (
          if (I 78 a4.toNatClampNeg) = (1 : Int32) then
            fX12_weightOf_143 a1 a2 a3 a4 I
          else
            ab_gd (ab_ix a4 320 = true) (
              if (I 78 a4.toNatClampNeg) = (2 : Int32) then
                ab_gd (ab_ix (a3 - (1 : Int32)) 64 = true) (
                  if (I 81 ((a3 - (1 : Int32)).toNatClampNeg)) = 0 then
                    fX12_weightOf_221 a1 a2 a3 a4 (a3 - (1 : Int32)) (1 : Int32) I
                  else
                    fX12_weightOf_221 a1 a2 a3 a4 (a3 - (1 : Int32)) (0 : Int32) I
                )
              else
                ab_gd (ab_ix a4 320 = true) (
                  ab_gd (ab_ix ((a3 + (-1 : Int32)) - (1 : Int32)) 64 = true) (
                    ab_gd (ab_ix (a3 + (-1 : Int32)) 64 = true) (
                      (fX12_done (I 79 a4.toNatClampNeg) (I 81 (((a3 + (-1 : Int32)) - (1 : Int32)).toNatClampNeg)) (I 81 ((a3 + (-1 : Int32)).toNatClampNeg))).bind fun u3 =>
                      ab_gd (ab_ix ((a3 + (-1 : Int32)) - (1 : Int32)) 64 = true) (
                        fX12_weightOf_263 a1 a2 (a3 + (-1 : Int32)) a4 (ab_u I 81 (((a3 + (-1 : Int32)) - (1 : Int32)).toNatClampNeg) u3)
                      )
                    )
                  )
                )
            )
        )
    )
set_option maxRecDepth 100000 in
theorem fX12_weightOf_113_ok {l : Launch} {G : ab_G} {S : ab_S} {I : ab_I} {J : ab_J} {P : ab_P} {Q : ab_Q} {a1 : Int32} {a2 : Int32} {a3 : Int32} {a4 : Int32} (hB : bz_B S P) {x : ((Int32 × Int32 × ab_I) ⊕ (Int32 × ab_I))} (H : fX12_weightOf_113 a1 a2 a3 a4 I = some x) (K1 : ∀ s, x = (.inl s) → ab_WP l G mX12_weightOf 2 113 [some (.ref 73), some (.int a1), some (.int a2), some (.int s.1), some (.int s.2.1)] [] S s.2.2 J P 0 0 Q) (K0 : ∀ r, x = (.inr r) → Q (some (.int r.1)) S r.2 J P) : ab_WP l G mX12_weightOf 2 113 [some (.ref 73), some (.int a1), some (.int a2), some (.int a3), some (.int a4)] [] S I J P 0 0 Q := by
  unfold fX12_weightOf_113 at H
  refine ab_iload (i := 4) (by decide +kernel) rfl ?_
  refine ab_aload_n (z := 0) (by decide +kernel) rfl rfl ?_
  refine gX12_18 (ix := 289) (by decide +kernel) tw_1099 (hB.1 73 _ rfl) ?_
  refine ab_icmp_ge (off := 150) (tgt := 269) (by decide +kernel) rfl (fun hc => ?_) (fun hc => ?_)
  · replace H := ab_ifp H hc
    obtain ⟨y2, Hy, hx⟩ := ab_mp_of H
    subst hx
    replace H := Hy
    exact ab_wk (ab_le_some (ab_le_some (ab_le_some (ab_le_none (ab_le_none (ab_le_nil)))))) (fX12_weightOf_269_ok hB H  (K0 _ rfl))
  · replace H := ab_ifn H hc
    refine ab_aload_n (z := 0) (by decide +kernel) rfl rfl ?_
    refine gX12_13 (ix := 27) (by decide +kernel) tw_1094 (hB.1 73 _ rfl) (hB.2.1 83 (73, 13, 78) rfl) ?_
    refine ab_iload (i := 4) (by decide +kernel) rfl ?_
    obtain ⟨hg, H⟩ := ab_gd_of H
    refine ab_iald (ln := 320) (by decide +kernel) (hB.1 78 _ rfl) (ab_ix_in hg) ?_
    refine ab_if_eq (off := 14) (tgt := 143) (by decide +kernel) rfl (fun hc => ?_) (fun hc => ?_)
    · replace H := ab_ifp H hc
      exact ab_wk (ab_le_some (ab_le_some (ab_le_some (ab_le_some (ab_le_some (ab_le_nil)))))) (fX12_weightOf_143_ok hB H K1 K0)
    · replace H := ab_ifn H hc
      refine ab_aload_n (z := 0) (by decide +kernel) rfl rfl ?_
      refine gX12_13 (ix := 27) (by decide +kernel) tw_1094 (hB.1 73 _ rfl) (hB.2.1 83 (73, 13, 78) rfl) ?_
      refine ab_iload (i := 4) (by decide +kernel) rfl ?_
      obtain ⟨hg, H⟩ := ab_gd_of H
      refine ab_iald (ln := 320) (by decide +kernel) (hB.1 78 _ rfl) (ab_ix_in hg) ?_
      refine ab_iconst (z := 1) (v := (1 : Int32)) (by decide +kernel) (by decide) ?_
      refine ab_icmp_ne (off := 47) (tgt := 187) (by decide +kernel) rfl (fun hc => ?_) (fun hc => ?_)
      · replace H := ab_ifn H hc
        refine ab_aload_n (z := 0) (by decide +kernel) rfl rfl ?_
        refine gX12_13 (ix := 27) (by decide +kernel) tw_1094 (hB.1 73 _ rfl) (hB.2.1 83 (73, 13, 78) rfl) ?_
        refine ab_iload (i := 4) (by decide +kernel) rfl ?_
        obtain ⟨hg, H⟩ := ab_gd_of H
        refine ab_iald (ln := 320) (by decide +kernel) (hB.1 78 _ rfl) (ab_ix_in hg) ?_
        refine ab_iconst (z := 2) (v := (2 : Int32)) (by decide +kernel) (by decide) ?_
        refine ab_icmp_ne (off := 33) (tgt := 228) (by decide +kernel) rfl (fun hc => ?_) (fun hc => ?_)
        · replace H := ab_ifn H hc
          refine ab_iinc (i := 3) (z := -1) (v := (a3 + (-1 : Int32))) (by decide +kernel) rfl rfl (by decide) rfl ?_
          refine ab_ls (ls' := [some (.ref 73), some (.int a1), some (.int a2), some (.int (a3 + (-1 : Int32))), some (.int a4)]) rfl ?_
          refine ab_aload_n (z := 0) (by decide +kernel) rfl rfl ?_
          refine gX12_16 (ix := 36) (by decide +kernel) tw_1097 (hB.1 73 _ rfl) (hB.2.1 86 (73, 16, 81) rfl) ?_
          refine ab_iload_n (z := 3) (by decide +kernel) rfl rfl ?_
          refine ab_iconst (z := 1) (v := (1 : Int32)) (by decide +kernel) (by decide) ?_
          refine ab_isub (by decide +kernel) ?_
          refine ab_aload_n (z := 0) (by decide +kernel) rfl rfl ?_
          refine gX12_14 (ix := 30) (by decide +kernel) tw_1095 (hB.1 73 _ rfl) (hB.2.1 84 (73, 14, 79) rfl) ?_
          refine ab_iload (i := 4) (by decide +kernel) rfl ?_
          obtain ⟨hg, H⟩ := ab_gd_of H
          refine ab_iald (ln := 320) (by decide +kernel) (hB.1 79 _ rfl) (ab_ix_in hg) ?_
          refine ab_aload_n (z := 0) (by decide +kernel) rfl rfl ?_
          refine gX12_16 (ix := 36) (by decide +kernel) tw_1097 (hB.1 73 _ rfl) (hB.2.1 86 (73, 16, 81) rfl) ?_
          refine ab_iload_n (z := 3) (by decide +kernel) rfl rfl ?_
          refine ab_iconst (z := 1) (v := (1 : Int32)) (by decide +kernel) (by decide) ?_
          refine ab_isub (by decide +kernel) ?_
          obtain ⟨hg, H⟩ := ab_gd_of H
          refine ab_iald (ln := 64) (by decide +kernel) (hB.1 81 _ rfl) (ab_ix_in hg) ?_
          refine ab_aload_n (z := 0) (by decide +kernel) rfl rfl ?_
          refine gX12_16 (ix := 36) (by decide +kernel) tw_1097 (hB.1 73 _ rfl) (hB.2.1 86 (73, 16, 81) rfl) ?_
          refine ab_iload_n (z := 3) (by decide +kernel) rfl rfl ?_
          obtain ⟨hg, H⟩ := ab_gd_of H
          refine ab_iald (ln := 64) (by decide +kernel) (hB.1 81 _ rfl) (ab_ix_in hg) ?_
          obtain ⟨u3, hu3, H⟩ := ab_bd_of H
          refine ksX12_done (D := 1) (ix := 292) (by decide +kernel) tw_1515 (by decide) (Nat.le_of_ble_eq_true rfl) (mX12_done_ok hB hu3 ?_)
          change ab_WP l G mX12_weightOf 2 262 [some (.ref 73), some (.int a1), some (.int a2), some (.int (a3 + (-1 : Int32))), some (.int a4)] [.int u3, .int ((a3 + (-1 : Int32)) - (1 : Int32)), .ref 81] S I J P 0 0 Q
          obtain ⟨hg, H⟩ := ab_gd_of H
          refine ab_iast (ln := 64) (by decide +kernel) (hB.1 81 _ rfl) (ab_ix_in hg) ?_
          exact ab_wk (ab_le_some (ab_le_some (ab_le_some (ab_le_some (ab_le_some (ab_le_nil)))))) (fX12_weightOf_263_ok hB H K1 K0)
        · replace H := ab_ifp H hc
          refine ab_aload_n (z := 0) (by decide +kernel) rfl rfl ?_
          refine gX12_16 (ix := 36) (by decide +kernel) tw_1097 (hB.1 73 _ rfl) (hB.2.1 86 (73, 16, 81) rfl) ?_
          refine ab_iload_n (z := 3) (by decide +kernel) rfl rfl ?_
          refine ab_iconst (z := 1) (v := (1 : Int32)) (by decide +kernel) (by decide) ?_
          refine ab_isub (by decide +kernel) ?_
          refine ab_aload_n (z := 0) (by decide +kernel) rfl rfl ?_
          refine gX12_16 (ix := 36) (by decide +kernel) tw_1097 (hB.1 73 _ rfl) (hB.2.1 86 (73, 16, 81) rfl) ?_
          refine ab_iload_n (z := 3) (by decide +kernel) rfl rfl ?_
          refine ab_iconst (z := 1) (v := (1 : Int32)) (by decide +kernel) (by decide) ?_
          refine ab_isub (by decide +kernel) ?_
          obtain ⟨hg, H⟩ := ab_gd_of H
          refine ab_iald (ln := 64) (by decide +kernel) (hB.1 81 _ rfl) (ab_ix_in hg) ?_
          refine ab_if_ne (off := 7) (tgt := 220) (by decide +kernel) rfl (fun hc => ?_) (fun hc => ?_)
          · replace H := ab_ifn H hc
            refine ab_iconst (z := 0) (v := (0 : Int32)) (by decide +kernel) (by decide) ?_
            exact ab_wk (ab_le_some (ab_le_some (ab_le_some (ab_le_some (ab_le_some (ab_le_nil)))))) (fX12_weightOf_221_ok hB H K1 K0)
          · replace H := ab_ifp H hc
            refine ab_iconst (z := 1) (v := (1 : Int32)) (by decide +kernel) (by decide) ?_
            refine ab_goto (off := 4) (tgt := 221) (by decide +kernel) rfl ?_
            exact ab_wk (ab_le_some (ab_le_some (ab_le_some (ab_le_some (ab_le_some (ab_le_nil)))))) (fX12_weightOf_221_ok hB H K1 K0)
      · replace H := ab_ifp H hc
        exact ab_wk (ab_le_some (ab_le_some (ab_le_some (ab_le_some (ab_le_some (ab_le_nil)))))) (fX12_weightOf_143_ok hB H K1 K0)
def fX12_weightOf (a1 : Int32) (a2 : Int32) (I : ab_I) : Option (Int32 × ab_I) :=
  ab_gd (ab_ix (((13 : Int32) + ((5 : Int32) * a1)) + a2) 45 = true) (
    ab_gd (ab_ix (0 : Int32) 6 = true) (
      ab_gd (ab_ix a1 45 = true) (
        ab_gd (ab_ix (1 : Int32) 6 = true) (
          ab_gd (ab_ix ((6 : Int32) + a1) 45 = true) (
            ab_gd (ab_ix (2 : Int32) 6 = true) (
              ab_gd (ab_ix a2 5 = true) (
                ab_gd (ab_ix (3 : Int32) 6 = true) (
                  ab_gd (ab_ix (12 : Int32) 45 = true) (
                    (fX12_members (I 90 ((12 : Int32).toNatClampNeg))).bind fun u1 =>
                    ab_gd (ab_ix (4 : Int32) 6 = true) (
                      ab_gd (ab_ix (43 : Int32) 45 = true) (
                        ab_gd (ab_ix (5 : Int32) 6 = true) (
                          if (I 73 25) = 0 then
                            ab_gd (ab_ix (0 : Int32) 6 = true) (
                              ab_gd (ab_ix (2 : Int32) 6 = true) (
                                some ((((ab_u (ab_u (ab_u (ab_u (ab_u (ab_u I 82 ((0 : Int32).toNatClampNeg) (I 90 ((((13 : Int32) + ((5 : Int32) * a1)) + a2).toNatClampNeg))) 82 ((1 : Int32).toNatClampNeg) (I 90 a1.toNatClampNeg)) 82 ((2 : Int32).toNatClampNeg) (I 90 (((6 : Int32) + a1).toNatClampNeg))) 82 ((3 : Int32).toNatClampNeg) (I 87 a2.toNatClampNeg)) 82 ((4 : Int32).toNatClampNeg) u1) 82 ((5 : Int32).toNatClampNeg) (I 90 ((43 : Int32).toNatClampNeg))) 82 ((0 : Int32).toNatClampNeg)) - ((ab_u (ab_u (ab_u (ab_u (ab_u (ab_u I 82 ((0 : Int32).toNatClampNeg) (I 90 ((((13 : Int32) + ((5 : Int32) * a1)) + a2).toNatClampNeg))) 82 ((1 : Int32).toNatClampNeg) (I 90 a1.toNatClampNeg)) 82 ((2 : Int32).toNatClampNeg) (I 90 (((6 : Int32) + a1).toNatClampNeg))) 82 ((3 : Int32).toNatClampNeg) (I 87 a2.toNatClampNeg)) 82 ((4 : Int32).toNatClampNeg) u1) 82 ((5 : Int32).toNatClampNeg) (I 90 ((43 : Int32).toNatClampNeg))) 82 ((2 : Int32).toNatClampNeg))), (ab_u (ab_u (ab_u (ab_u (ab_u (ab_u I 82 ((0 : Int32).toNatClampNeg) (I 90 ((((13 : Int32) + ((5 : Int32) * a1)) + a2).toNatClampNeg))) 82 ((1 : Int32).toNatClampNeg) (I 90 a1.toNatClampNeg)) 82 ((2 : Int32).toNatClampNeg) (I 90 (((6 : Int32) + a1).toNatClampNeg))) 82 ((3 : Int32).toNatClampNeg) (I 87 a2.toNatClampNeg)) 82 ((4 : Int32).toNatClampNeg) u1) 82 ((5 : Int32).toNatClampNeg) (I 90 ((43 : Int32).toNatClampNeg))))
                              )
                            )
                          else
                            ab_it (fun s => fX12_weightOf_113 a1 a2 s.1 s.2.1 s.2.2) 5000 ((0 : Int32), (0 : Int32), (ab_u (ab_u (ab_u (ab_u (ab_u (ab_u I 82 ((0 : Int32).toNatClampNeg) (I 90 ((((13 : Int32) + ((5 : Int32) * a1)) + a2).toNatClampNeg))) 82 ((1 : Int32).toNatClampNeg) (I 90 a1.toNatClampNeg)) 82 ((2 : Int32).toNatClampNeg) (I 90 (((6 : Int32) + a1).toNatClampNeg))) 82 ((3 : Int32).toNatClampNeg) (I 87 a2.toNatClampNeg)) 82 ((4 : Int32).toNatClampNeg) u1) 82 ((5 : Int32).toNatClampNeg) (I 90 ((43 : Int32).toNatClampNeg))))
                        )
                      )
                    )
                  )
                )
              )
            )
          )
        )
      )
    )
  )
set_option maxRecDepth 100000 in
theorem mX12_weightOf_ok {l : Launch} {G : ab_G} {S : ab_S} {I : ab_I} {J : ab_J} {P : ab_P} {Q : ab_Q} {a1 : Int32} {a2 : Int32} (hB : bz_B S P) {x : Int32 × ab_I} (H : fX12_weightOf a1 a2 I = some x) (K0 : Q (some (.int x.1)) S x.2 J P) : ab_Call l G mX12_weightOf 2 [.ref 73, .int a1, .int a2] S I J P Q := by
  unfold fX12_weightOf at H
  refine ab_enter rfl (Nat.le_of_ble_eq_true rfl) (ab_wk (ls' := [some (.ref 73), some (.int a1), some (.int a2), none, none]) (ab_le_some (ab_le_some (ab_le_some (ab_le_non0 (ab_le_non0 ab_le_nil))))) ?_)
  refine ab_aload_n (z := 0) (by decide +kernel) rfl rfl ?_
  refine gX12_26 (ix := 39) (by decide +kernel) tw_1107 (hB.1 73 _ rfl) (hB.2.1 87 (73, 26, 82) rfl) ?_
  refine ab_iconst (z := 0) (v := (0 : Int32)) (by decide +kernel) (by decide) ?_
  refine ab_aload_n (z := 0) (by decide +kernel) rfl rfl ?_
  refine gX12_47 (ix := 63) (by decide +kernel) tw_1128 (hB.1 73 _ rfl) (hB.2.1 95 (73, 47, 90) rfl) ?_
  refine ab_bipush (z := 13) (v := (13 : Int32)) (by decide +kernel) (by decide) ?_
  refine ab_iconst (z := 5) (v := (5 : Int32)) (by decide +kernel) (by decide) ?_
  refine ab_iload_n (z := 1) (by decide +kernel) rfl rfl ?_
  refine ab_imul (by decide +kernel) ?_
  refine ab_iadd (by decide +kernel) ?_
  refine ab_iload_n (z := 2) (by decide +kernel) rfl rfl ?_
  refine ab_iadd (by decide +kernel) ?_
  obtain ⟨hg, H⟩ := ab_gd_of H
  refine ab_iald (ln := 45) (by decide +kernel) (hB.1 90 _ rfl) (ab_ix_in hg) ?_
  obtain ⟨hg, H⟩ := ab_gd_of H
  refine ab_iast (ln := 6) (by decide +kernel) (hB.1 82 _ rfl) (ab_ix_in hg) ?_
  refine ab_aload_n (z := 0) (by decide +kernel) rfl rfl ?_
  refine gX12_26 (ix := 39) (by decide +kernel) tw_1107 (hB.1 73 _ rfl) (hB.2.1 87 (73, 26, 82) rfl) ?_
  refine ab_iconst (z := 1) (v := (1 : Int32)) (by decide +kernel) (by decide) ?_
  refine ab_aload_n (z := 0) (by decide +kernel) rfl rfl ?_
  refine gX12_47 (ix := 63) (by decide +kernel) tw_1128 (hB.1 73 _ rfl) (hB.2.1 95 (73, 47, 90) rfl) ?_
  refine ab_iload_n (z := 1) (by decide +kernel) rfl rfl ?_
  obtain ⟨hg, H⟩ := ab_gd_of H
  refine ab_iald (ln := 45) (by decide +kernel) (hB.1 90 _ rfl) (ab_ix_in hg) ?_
  refine ab_top (y := (I 90 a1.toNatClampNeg)) rfl ?_
  obtain ⟨hg, H⟩ := ab_gd_of H
  refine ab_iast (ln := 6) (by decide +kernel) (hB.1 82 _ rfl) (ab_ix_in hg) ?_
  refine ab_aload_n (z := 0) (by decide +kernel) rfl rfl ?_
  refine gX12_26 (ix := 39) (by decide +kernel) tw_1107 (hB.1 73 _ rfl) (hB.2.1 87 (73, 26, 82) rfl) ?_
  refine ab_iconst (z := 2) (v := (2 : Int32)) (by decide +kernel) (by decide) ?_
  refine ab_aload_n (z := 0) (by decide +kernel) rfl rfl ?_
  refine gX12_47 (ix := 63) (by decide +kernel) tw_1128 (hB.1 73 _ rfl) (hB.2.1 95 (73, 47, 90) rfl) ?_
  refine ab_bipush (z := 6) (v := (6 : Int32)) (by decide +kernel) (by decide) ?_
  refine ab_iload_n (z := 1) (by decide +kernel) rfl rfl ?_
  refine ab_iadd (by decide +kernel) ?_
  obtain ⟨hg, H⟩ := ab_gd_of H
  refine ab_iald (ln := 45) (by decide +kernel) (hB.1 90 _ rfl) (ab_ix_in hg) ?_
  refine ab_top (y := (I 90 (((6 : Int32) + a1).toNatClampNeg))) rfl ?_
  obtain ⟨hg, H⟩ := ab_gd_of H
  refine ab_iast (ln := 6) (by decide +kernel) (hB.1 82 _ rfl) (ab_ix_in hg) ?_
  refine ab_aload_n (z := 0) (by decide +kernel) rfl rfl ?_
  refine gX12_26 (ix := 39) (by decide +kernel) tw_1107 (hB.1 73 _ rfl) (hB.2.1 87 (73, 26, 82) rfl) ?_
  refine ab_iconst (z := 3) (v := (3 : Int32)) (by decide +kernel) (by decide) ?_
  refine ab_aload_n (z := 0) (by decide +kernel) rfl rfl ?_
  refine gX12_31 (ix := 54) (by decide +kernel) tw_1112 (hB.1 73 _ rfl) (hB.2.1 92 (73, 31, 87) rfl) ?_
  refine ab_iload_n (z := 2) (by decide +kernel) rfl rfl ?_
  obtain ⟨hg, H⟩ := ab_gd_of H
  refine ab_iald (ln := 5) (by decide +kernel) (hB.1 87 _ rfl) (ab_ix_in hg) ?_
  refine ab_top (y := (I 87 a2.toNatClampNeg)) rfl ?_
  obtain ⟨hg, H⟩ := ab_gd_of H
  refine ab_iast (ln := 6) (by decide +kernel) (hB.1 82 _ rfl) (ab_ix_in hg) ?_
  refine ab_aload_n (z := 0) (by decide +kernel) rfl rfl ?_
  refine gX12_26 (ix := 39) (by decide +kernel) tw_1107 (hB.1 73 _ rfl) (hB.2.1 87 (73, 26, 82) rfl) ?_
  refine ab_iconst (z := 4) (v := (4 : Int32)) (by decide +kernel) (by decide) ?_
  refine ab_aload_n (z := 0) (by decide +kernel) rfl rfl ?_
  refine gX12_47 (ix := 63) (by decide +kernel) tw_1128 (hB.1 73 _ rfl) (hB.2.1 95 (73, 47, 90) rfl) ?_
  refine ab_bipush (z := 12) (v := (12 : Int32)) (by decide +kernel) (by decide) ?_
  obtain ⟨hg, H⟩ := ab_gd_of H
  refine ab_iald (ln := 45) (by decide +kernel) (hB.1 90 _ rfl) (ab_ix_in hg) ?_
  refine ab_top (y := (I 90 ((12 : Int32).toNatClampNeg))) rfl ?_
  obtain ⟨u1, hu1, H⟩ := ab_bd_of H
  refine ksX12_members (D := 0) (ix := 283) (by decide +kernel) tw_1512 (by decide) (Nat.le_of_ble_eq_true rfl) (mX12_members_ok hB hu1 ?_)
  change ab_WP l G mX12_weightOf 2 73 [some (.ref 73), some (.int a1), some (.int a2), none, none] [.int u1, .int (4 : Int32), .ref 82] S (ab_u (ab_u (ab_u (ab_u I 82 ((0 : Int32).toNatClampNeg) (I 90 ((((13 : Int32) + ((5 : Int32) * a1)) + a2).toNatClampNeg))) 82 ((1 : Int32).toNatClampNeg) (I 90 a1.toNatClampNeg)) 82 ((2 : Int32).toNatClampNeg) (I 90 (((6 : Int32) + a1).toNatClampNeg))) 82 ((3 : Int32).toNatClampNeg) (I 87 a2.toNatClampNeg)) J P 0 0 Q
  obtain ⟨hg, H⟩ := ab_gd_of H
  refine ab_iast (ln := 6) (by decide +kernel) (hB.1 82 _ rfl) (ab_ix_in hg) ?_
  refine ab_aload_n (z := 0) (by decide +kernel) rfl rfl ?_
  refine gX12_26 (ix := 39) (by decide +kernel) tw_1107 (hB.1 73 _ rfl) (hB.2.1 87 (73, 26, 82) rfl) ?_
  refine ab_iconst (z := 5) (v := (5 : Int32)) (by decide +kernel) (by decide) ?_
  refine ab_aload_n (z := 0) (by decide +kernel) rfl rfl ?_
  refine gX12_47 (ix := 63) (by decide +kernel) tw_1128 (hB.1 73 _ rfl) (hB.2.1 95 (73, 47, 90) rfl) ?_
  refine ab_bipush (z := 43) (v := (43 : Int32)) (by decide +kernel) (by decide) ?_
  obtain ⟨hg, H⟩ := ab_gd_of H
  refine ab_iald (ln := 45) (by decide +kernel) (hB.1 90 _ rfl) (ab_ix_in hg) ?_
  refine ab_top (y := (I 90 ((43 : Int32).toNatClampNeg))) rfl ?_
  obtain ⟨hg, H⟩ := ab_gd_of H
  refine ab_iast (ln := 6) (by decide +kernel) (hB.1 82 _ rfl) (ab_ix_in hg) ?_
  refine ab_aload_n (z := 0) (by decide +kernel) rfl rfl ?_
  refine gX12_25 (ix := 286) (by decide +kernel) tw_1106 (hB.1 73 _ rfl) ?_
  refine ab_top (y := (I 73 25)) rfl ?_
  refine ab_if_ne (off := 17) (tgt := 108) (by decide +kernel) rfl (fun hc => ?_) (fun hc => ?_)
  · replace H := ab_ifn H hc
    refine ab_iconst (z := 0) (v := (0 : Int32)) (by decide +kernel) (by decide) ?_
    refine ab_istore_n (z := 3) (by decide +kernel) rfl (by decide) rfl ?_
    refine ab_ls (ls' := [some (.ref 73), some (.int a1), some (.int a2), some (.int (0 : Int32)), none]) rfl ?_
    refine ab_iconst (z := 0) (v := (0 : Int32)) (by decide +kernel) (by decide) ?_
    refine ab_istore (i := 4) (by decide +kernel) (by decide) rfl ?_
    refine ab_ls (ls' := [some (.ref 73), some (.int a1), some (.int a2), some (.int (0 : Int32)), some (.int (0 : Int32))]) rfl ?_
    exact ab_wk (ab_le_some (ab_le_some (ab_le_some (ab_le_some (ab_le_some (ab_le_nil)))))) (ab_iter (body := (fun s => fX12_weightOf_113 a1 a2 s.1 s.2.1 s.2.2)) (W := fun s => ab_WP l G mX12_weightOf 2 113 [some (.ref 73), some (.int a1), some (.int a2), some (.int s.1), some (.int s.2.1)] [] S s.2.2 J P 0 0 Q) (fun s y hb h1 h2 => fX12_weightOf_113_ok hB hb h1 (fun r e => by have e2 := h2 _ e; subst e2; exact K0)) 5000 ((0 : Int32), (0 : Int32), (ab_u (ab_u (ab_u (ab_u (ab_u (ab_u I 82 ((0 : Int32).toNatClampNeg) (I 90 ((((13 : Int32) + ((5 : Int32) * a1)) + a2).toNatClampNeg))) 82 ((1 : Int32).toNatClampNeg) (I 90 a1.toNatClampNeg)) 82 ((2 : Int32).toNatClampNeg) (I 90 (((6 : Int32) + a1).toNatClampNeg))) 82 ((3 : Int32).toNatClampNeg) (I 87 a2.toNatClampNeg)) 82 ((4 : Int32).toNatClampNeg) u1) 82 ((5 : Int32).toNatClampNeg) (I 90 ((43 : Int32).toNatClampNeg)))) H)
  · replace H := ab_ifp H hc
    refine ab_aload_n (z := 0) (by decide +kernel) rfl rfl ?_
    refine gX12_26 (ix := 39) (by decide +kernel) tw_1107 (hB.1 73 _ rfl) (hB.2.1 87 (73, 26, 82) rfl) ?_
    refine ab_iconst (z := 0) (v := (0 : Int32)) (by decide +kernel) (by decide) ?_
    obtain ⟨hg, H⟩ := ab_gd_of H
    refine ab_iald (ln := 6) (by decide +kernel) (hB.1 82 _ rfl) (ab_ix_in hg) ?_
    refine ab_aload_n (z := 0) (by decide +kernel) rfl rfl ?_
    refine gX12_26 (ix := 39) (by decide +kernel) tw_1107 (hB.1 73 _ rfl) (hB.2.1 87 (73, 26, 82) rfl) ?_
    refine ab_iconst (z := 2) (v := (2 : Int32)) (by decide +kernel) (by decide) ?_
    obtain ⟨hg, H⟩ := ab_gd_of H
    refine ab_iald (ln := 6) (by decide +kernel) (hB.1 82 _ rfl) (ab_ix_in hg) ?_
    refine ab_isub (by decide +kernel) ?_
    obtain rfl := Option.some.inj H
    exact ab_iret (by decide +kernel) rfl (Nat.le_refl _) (Nat.le_refl _) K0
abbrev mX12_readPerson : ab_M := (yX12_readPerson, cX12_readPerson, 1, none, 0, 0)
theorem kvX12_readPerson {l : Launch} {G : ab_G} {M : ab_M} {d pc : Nat} {ls : List (Option Value)} {st : List Value} {S : ab_S} {I : ab_I} {J : ab_J} {P : ab_P} {Q : ab_Q} {ix D r ln : Nat} (hd : decode M.2.1 pc = .ok (.invokevirtual ix, 3)) (h1 : Cond.methodLink M.1.cls ix mX12_readPerson.1 ∈ ab_good) (hs : S[r]? = some (17, ln)) (hdg : D + 1 ≤ d) (hsum : (st.map fun v => v.category).sum ≤ 8) (kk : ab_Call l G mX12_readPerson D (.ref r :: []) S I J P (fun v S' I' J' P' => ab_WP l G M d (pc + 3) ls (ab_psh v st) S' I' J' P' 0 0 Q)) : ab_WP l G M d pc ls (.ref r :: st) S I J P 0 0 Q := bz_kv (g := mX12_readPerson) (as := []) (cc := 12) rfl hd h1 tw_1343 tw_p36 tw_13 tw_1344 ⟨by decide +kernel, by decide +kernel, (by decide +kernel : (parseMethodDescriptor mX12_readPerson.1.desc).map (fun d => d.parameters.length) = some 0)⟩ (by decide) rfl rfl rfl hdg hsum hs kk
def fX12_readPerson_46 (I : ab_I) (J : ab_J) : Option (ab_I × ab_J) :=
  some (I, J)
set_option maxRecDepth 100000 in
theorem fX12_readPerson_46_ok {l : Launch} {G : ab_G} {S : ab_S} {I : ab_I} {J : ab_J} {P : ab_P} {Q : ab_Q} (hB : bz_B S P) {x : ab_I × ab_J} (H : fX12_readPerson_46 I J = some x) (K0 : Q none S x.1 x.2 P) : ab_WP l G mX12_readPerson 4 46 [some (.ref 73)] [] S I J P 0 0 Q := by
  unfold fX12_readPerson_46 at H
  obtain rfl := Option.some.inj H
  exact ab_vret (by decide +kernel) rfl (Nat.le_refl _) (Nat.le_refl _) K0
def fX12_readPerson (I : ab_I) (J : ab_J) : Option (ab_I × ab_J) :=
  (fX12_newName (0 : Int32) (I 73 33) I J).bind fun u1 =>
  (fX12_told (6840691 : Int64) (0 : Int32) (999 : Int32) u1.1 u1.2).bind fun u2 =>
  ab_gd (ab_ix (u1.1 73 33) 6 = true) (
    if (u2.2.1 73 2) = 0 then
      fX12_readPerson_46 (ab_u (ab_u u2.2.1 83 ((u1.1 73 33).toNatClampNeg) u2.1) 73 33 ((u2.2.1 73 33) + (1 : Int32))) u2.2.2
    else
      fX12_readPerson_46 (ab_u u2.2.1 83 ((u1.1 73 33).toNatClampNeg) u2.1) u2.2.2
  )
set_option maxRecDepth 100000 in
theorem mX12_readPerson_ok {l : Launch} {G : ab_G} {S : ab_S} {I : ab_I} {J : ab_J} {P : ab_P} {Q : ab_Q} (hB : bz_B S P) {x : ab_I × ab_J} (H : fX12_readPerson I J = some x) (K0 : Q none S x.1 x.2 P) : ab_Call l G mX12_readPerson 4 [.ref 73] S I J P Q := by
  unfold fX12_readPerson at H
  refine ab_enter rfl (Nat.le_of_ble_eq_true rfl) (ab_wk (ls' := [some (.ref 73)]) (ab_le_some (ab_le_nil)) ?_)
  refine ab_aload_n (z := 0) (by decide +kernel) rfl rfl ?_
  refine ab_iconst (z := 0) (v := (0 : Int32)) (by decide +kernel) (by decide) ?_
  refine ab_aload_n (z := 0) (by decide +kernel) rfl rfl ?_
  refine gX12_33 (ix := 296) (by decide +kernel) tw_1114 (hB.1 73 _ rfl) ?_
  obtain ⟨u1, hu1, H⟩ := ab_bd_of H
  refine kvX12_newName (D := 2) (ix := 299) (by decide +kernel) tw_1345 (hB.1 73 _ rfl) (by decide) (Nat.le_of_ble_eq_true rfl) (mX12_newName_ok hB hu1 ?_)
  change ab_WP l G mX12_readPerson 4 9 [some (.ref 73)] [] S u1.1 u1.2 P 0 0 Q
  refine ab_aload_n (z := 0) (by decide +kernel) rfl rfl ?_
  refine gX12_27 (ix := 42) (by decide +kernel) tw_1108 (hB.1 73 _ rfl) (hB.2.1 88 (73, 27, 83) rfl) ?_
  refine ab_aload_n (z := 0) (by decide +kernel) rfl rfl ?_
  refine gX12_33 (ix := 296) (by decide +kernel) tw_1114 (hB.1 73 _ rfl) ?_
  refine ab_aload_n (z := 0) (by decide +kernel) rfl rfl ?_
  refine ab_ldc2 (ix := 166) (v := (6840691 : Int64)) (by decide +kernel) tw_1357 ?_
  refine ab_iconst (z := 0) (v := (0 : Int32)) (by decide +kernel) (by decide) ?_
  refine ab_sipush (z := 999) (v := (999 : Int32)) (by decide +kernel) (by decide) ?_
  obtain ⟨u2, hu2, H⟩ := ab_bd_of H
  refine kvX12_told (D := 3) (ix := 302) (by decide +kernel) tw_1379 (hB.1 73 _ rfl) (by decide) (Nat.le_of_ble_eq_true rfl) (mX12_told_ok hB hu2 ?_)
  change ab_WP l G mX12_readPerson 4 28 [some (.ref 73)] [.int u2.1, .int (u1.1 73 33), .ref 83] S u2.2.1 u2.2.2 P 0 0 Q
  obtain ⟨hg, H⟩ := ab_gd_of H
  refine ab_iast (ln := 6) (by decide +kernel) (hB.1 83 _ rfl) (ab_ix_in hg) ?_
  refine ab_aload_n (z := 0) (by decide +kernel) rfl rfl ?_
  refine gX12_2 (ix := 161) (by decide +kernel) tw_1083 (hB.1 73 _ rfl) ?_
  refine ab_top (y := (u2.2.1 73 2)) rfl ?_
  refine ab_if_ne (off := 13) (tgt := 46) (by decide +kernel) rfl (fun hc => ?_) (fun hc => ?_)
  · replace H := ab_ifn H hc
    exact ab_wk (ab_le_some (ab_le_nil)) (fX12_readPerson_46_ok hB H  K0)
  · replace H := ab_ifp H hc
    refine ab_aload_n (z := 0) (by decide +kernel) rfl rfl ?_
    refine ab_dup (by decide +kernel) rfl ?_
    refine gX12_33 (ix := 296) (by decide +kernel) tw_1114 (hB.1 73 _ rfl) ?_
    refine ab_top (y := (u2.2.1 73 33)) rfl ?_
    refine ab_iconst (z := 1) (v := (1 : Int32)) (by decide +kernel) (by decide) ?_
    refine ab_iadd (by decide +kernel) ?_
    refine pX12_33 (ix := 296) (by decide +kernel) tw_1114 (hB.1 73 _ rfl) ?_
    exact ab_wk (ab_le_some (ab_le_nil)) (fX12_readPerson_46_ok hB H  K0)
abbrev mX12_readBell : ab_M := (yX12_readBell, cX12_readBell, 1, none, 0, 0)
theorem kvX12_readBell {l : Launch} {G : ab_G} {M : ab_M} {d pc : Nat} {ls : List (Option Value)} {st : List Value} {S : ab_S} {I : ab_I} {J : ab_J} {P : ab_P} {Q : ab_Q} {ix D r ln : Nat} (hd : decode M.2.1 pc = .ok (.invokevirtual ix, 3)) (h1 : Cond.methodLink M.1.cls ix mX12_readBell.1 ∈ ab_good) (hs : S[r]? = some (17, ln)) (hdg : D + 1 ≤ d) (hsum : (st.map fun v => v.category).sum ≤ 8) (kk : ab_Call l G mX12_readBell D (.ref r :: []) S I J P (fun v S' I' J' P' => ab_WP l G M d (pc + 3) ls (ab_psh v st) S' I' J' P' 0 0 Q)) : ab_WP l G M d pc ls (.ref r :: st) S I J P 0 0 Q := bz_kv (g := mX12_readBell) (as := []) (cc := 12) rfl hd h1 tw_1393 tw_p45 tw_13 tw_1394 ⟨by decide +kernel, by decide +kernel, (by decide +kernel : (parseMethodDescriptor mX12_readBell.1.desc).map (fun d => d.parameters.length) = some 0)⟩ (by decide) rfl rfl rfl hdg hsum hs kk
def fX12_readBell_46 (I : ab_I) (J : ab_J) : Option (ab_I × ab_J) :=
  some (I, J)
set_option maxRecDepth 100000 in
theorem fX12_readBell_46_ok {l : Launch} {G : ab_G} {S : ab_S} {I : ab_I} {J : ab_J} {P : ab_P} {Q : ab_Q} (hB : bz_B S P) {x : ab_I × ab_J} (H : fX12_readBell_46 I J = some x) (K0 : Q none S x.1 x.2 P) : ab_WP l G mX12_readBell 4 46 [some (.ref 73)] [] S I J P 0 0 Q := by
  unfold fX12_readBell_46 at H
  obtain rfl := Option.some.inj H
  exact ab_vret (by decide +kernel) rfl (Nat.le_refl _) (Nat.le_refl _) K0
def fX12_readBell (I : ab_I) (J : ab_J) : Option (ab_I × ab_J) :=
  (fX12_newName (6 : Int32) (I 73 34) I J).bind fun u1 =>
  (fX12_told (1752135026 : Int64) (0 : Int32) (23 : Int32) u1.1 u1.2).bind fun u2 =>
  ab_gd (ab_ix (u1.1 73 34) 5 = true) (
    if (u2.2.1 73 2) = 0 then
      fX12_readBell_46 (ab_u (ab_u u2.2.1 84 ((u1.1 73 34).toNatClampNeg) u2.1) 73 34 ((u2.2.1 73 34) + (1 : Int32))) u2.2.2
    else
      fX12_readBell_46 (ab_u u2.2.1 84 ((u1.1 73 34).toNatClampNeg) u2.1) u2.2.2
  )
set_option maxRecDepth 100000 in
theorem mX12_readBell_ok {l : Launch} {G : ab_G} {S : ab_S} {I : ab_I} {J : ab_J} {P : ab_P} {Q : ab_Q} (hB : bz_B S P) {x : ab_I × ab_J} (H : fX12_readBell I J = some x) (K0 : Q none S x.1 x.2 P) : ab_Call l G mX12_readBell 4 [.ref 73] S I J P Q := by
  unfold fX12_readBell at H
  refine ab_enter rfl (Nat.le_of_ble_eq_true rfl) (ab_wk (ls' := [some (.ref 73)]) (ab_le_some (ab_le_nil)) ?_)
  refine ab_aload_n (z := 0) (by decide +kernel) rfl rfl ?_
  refine ab_bipush (z := 6) (v := (6 : Int32)) (by decide +kernel) (by decide) ?_
  refine ab_aload_n (z := 0) (by decide +kernel) rfl rfl ?_
  refine gX12_34 (ix := 306) (by decide +kernel) tw_1115 (hB.1 73 _ rfl) ?_
  obtain ⟨u1, hu1, H⟩ := ab_bd_of H
  refine kvX12_newName (D := 2) (ix := 299) (by decide +kernel) tw_1345 (hB.1 73 _ rfl) (by decide) (Nat.le_of_ble_eq_true rfl) (mX12_newName_ok hB hu1 ?_)
  change ab_WP l G mX12_readBell 4 10 [some (.ref 73)] [] S u1.1 u1.2 P 0 0 Q
  refine ab_aload_n (z := 0) (by decide +kernel) rfl rfl ?_
  refine gX12_28 (ix := 45) (by decide +kernel) tw_1109 (hB.1 73 _ rfl) (hB.2.1 89 (73, 28, 84) rfl) ?_
  refine ab_aload_n (z := 0) (by decide +kernel) rfl rfl ?_
  refine gX12_34 (ix := 306) (by decide +kernel) tw_1115 (hB.1 73 _ rfl) ?_
  refine ab_aload_n (z := 0) (by decide +kernel) rfl rfl ?_
  refine ab_ldc2 (ix := 170) (v := (1752135026 : Int64)) (by decide +kernel) tw_1359 ?_
  refine ab_iconst (z := 0) (v := (0 : Int32)) (by decide +kernel) (by decide) ?_
  refine ab_bipush (z := 23) (v := (23 : Int32)) (by decide +kernel) (by decide) ?_
  obtain ⟨u2, hu2, H⟩ := ab_bd_of H
  refine kvX12_told (D := 3) (ix := 302) (by decide +kernel) tw_1379 (hB.1 73 _ rfl) (by decide) (Nat.le_of_ble_eq_true rfl) (mX12_told_ok hB hu2 ?_)
  change ab_WP l G mX12_readBell 4 28 [some (.ref 73)] [.int u2.1, .int (u1.1 73 34), .ref 84] S u2.2.1 u2.2.2 P 0 0 Q
  obtain ⟨hg, H⟩ := ab_gd_of H
  refine ab_iast (ln := 5) (by decide +kernel) (hB.1 84 _ rfl) (ab_ix_in hg) ?_
  refine ab_aload_n (z := 0) (by decide +kernel) rfl rfl ?_
  refine gX12_2 (ix := 161) (by decide +kernel) tw_1083 (hB.1 73 _ rfl) ?_
  refine ab_top (y := (u2.2.1 73 2)) rfl ?_
  refine ab_if_ne (off := 13) (tgt := 46) (by decide +kernel) rfl (fun hc => ?_) (fun hc => ?_)
  · replace H := ab_ifn H hc
    exact ab_wk (ab_le_some (ab_le_nil)) (fX12_readBell_46_ok hB H  K0)
  · replace H := ab_ifp H hc
    refine ab_aload_n (z := 0) (by decide +kernel) rfl rfl ?_
    refine ab_dup (by decide +kernel) rfl ?_
    refine gX12_34 (ix := 306) (by decide +kernel) tw_1115 (hB.1 73 _ rfl) ?_
    refine ab_top (y := (u2.2.1 73 34)) rfl ?_
    refine ab_iconst (z := 1) (v := (1 : Int32)) (by decide +kernel) (by decide) ?_
    refine ab_iadd (by decide +kernel) ?_
    refine pX12_34 (ix := 306) (by decide +kernel) tw_1115 (hB.1 73 _ rfl) ?_
    exact ab_wk (ab_le_some (ab_le_nil)) (fX12_readBell_46_ok hB H  K0)
abbrev mX12_readLoses : ab_M := (yX12_readLoses, cX12_readLoses, 4, none, 0, 0)
theorem kvX12_readLoses {l : Launch} {G : ab_G} {M : ab_M} {d pc : Nat} {ls : List (Option Value)} {st : List Value} {S : ab_S} {I : ab_I} {J : ab_J} {P : ab_P} {Q : ab_Q} {ix D r ln : Nat} (hd : decode M.2.1 pc = .ok (.invokevirtual ix, 3)) (h1 : Cond.methodLink M.1.cls ix mX12_readLoses.1 ∈ ab_good) (hs : S[r]? = some (17, ln)) (hdg : D + 1 ≤ d) (hsum : (st.map fun v => v.category).sum ≤ 8) (kk : ab_Call l G mX12_readLoses D (.ref r :: []) S I J P (fun v S' I' J' P' => ab_WP l G M d (pc + 3) ls (ab_psh v st) S' I' J' P' 0 0 Q)) : ab_WP l G M d pc ls (.ref r :: st) S I J P 0 0 Q := bz_kv (g := mX12_readLoses) (as := []) (cc := 12) rfl hd h1 tw_1397 tw_p46 tw_13 tw_1398 ⟨by decide +kernel, by decide +kernel, (by decide +kernel : (parseMethodDescriptor mX12_readLoses.1.desc).map (fun d => d.parameters.length) = some 0)⟩ (by decide) rfl rfl rfl hdg hsum hs kk
def fX12_readLoses_72 (a1 : Int32) (a2 : Int32) (I : ab_I) (J : ab_J) : Option (ab_I × ab_J) :=
  (fX12_toldNumber (1 : Int32) (20 : Int32) I J).bind fun u7 =>
  if (u7.2.1 73 2) ≤ 0 then
    ab_gd (ab_ix (((5 : Int32) * a1) + a2) 30 = true) (
      some ((ab_u (ab_u (ab_u u7.2.1 85 ((((5 : Int32) * a1) + a2).toNatClampNeg) u7.1) 73 36 (((5 : Int32) * a1) + a2)) 73 35 ((u7.2.1 73 35) + (1 : Int32))), u7.2.2)
    )
  else
    some (u7.2.1, u7.2.2)
set_option maxRecDepth 100000 in
theorem fX12_readLoses_72_ok {l : Launch} {G : ab_G} {S : ab_S} {I : ab_I} {J : ab_J} {P : ab_P} {Q : ab_Q} {a1 : Int32} {a2 : Int32} (hB : bz_B S P) {x : ab_I × ab_J} (H : fX12_readLoses_72 a1 a2 I J = some x) (K0 : Q none S x.1 x.2 P) : ab_WP l G mX12_readLoses 3 72 [some (.ref 73), some (.int a1), some (.int a2), none] [] S I J P 0 0 Q := by
  unfold fX12_readLoses_72 at H
  refine ab_aload_n (z := 0) (by decide +kernel) rfl rfl ?_
  refine ab_iconst (z := 1) (v := (1 : Int32)) (by decide +kernel) (by decide) ?_
  refine ab_bipush (z := 20) (v := (20 : Int32)) (by decide +kernel) (by decide) ?_
  obtain ⟨u7, hu7, H⟩ := ab_bd_of H
  refine kvX12_toldNumber (D := 2) (ix := 212) (by decide +kernel) tw_1387 (hB.1 73 _ rfl) (by decide) (Nat.le_of_ble_eq_true rfl) (mX12_toldNumber_ok hB hu7 ?_)
  change ab_WP l G mX12_readLoses 3 79 [some (.ref 73), some (.int a1), some (.int a2), none] [.int u7.1] S u7.2.1 u7.2.2 P 0 0 Q
  refine ab_istore_n (z := 3) (by decide +kernel) rfl (by decide) rfl ?_
  refine ab_ls (ls' := [some (.ref 73), some (.int a1), some (.int a2), some (.int u7.1)]) rfl ?_
  refine ab_aload_n (z := 0) (by decide +kernel) rfl rfl ?_
  refine gX12_2 (ix := 161) (by decide +kernel) tw_1083 (hB.1 73 _ rfl) ?_
  refine ab_if_le (off := 4) (tgt := 88) (by decide +kernel) rfl (fun hc => ?_) (fun hc => ?_)
  · replace H := ab_ifp H hc
    refine ab_aload_n (z := 0) (by decide +kernel) rfl rfl ?_
    refine gX12_29 (ix := 48) (by decide +kernel) tw_1110 (hB.1 73 _ rfl) (hB.2.1 90 (73, 29, 85) rfl) ?_
    refine ab_iconst (z := 5) (v := (5 : Int32)) (by decide +kernel) (by decide) ?_
    refine ab_iload_n (z := 1) (by decide +kernel) rfl rfl ?_
    refine ab_imul (by decide +kernel) ?_
    refine ab_iload_n (z := 2) (by decide +kernel) rfl rfl ?_
    refine ab_iadd (by decide +kernel) ?_
    refine ab_iload_n (z := 3) (by decide +kernel) rfl rfl ?_
    obtain ⟨hg, H⟩ := ab_gd_of H
    refine ab_iast (ln := 30) (by decide +kernel) (hB.1 85 _ rfl) (ab_ix_in hg) ?_
    refine ab_aload_n (z := 0) (by decide +kernel) rfl rfl ?_
    refine ab_iconst (z := 5) (v := (5 : Int32)) (by decide +kernel) (by decide) ?_
    refine ab_iload_n (z := 1) (by decide +kernel) rfl rfl ?_
    refine ab_imul (by decide +kernel) ?_
    refine ab_iload_n (z := 2) (by decide +kernel) rfl rfl ?_
    refine ab_iadd (by decide +kernel) ?_
    refine pX12_36 (ix := 312) (by decide +kernel) tw_1117 (hB.1 73 _ rfl) ?_
    refine ab_aload_n (z := 0) (by decide +kernel) rfl rfl ?_
    refine ab_dup (by decide +kernel) rfl ?_
    refine gX12_35 (ix := 315) (by decide +kernel) tw_1116 (hB.1 73 _ rfl) ?_
    refine ab_top (y := (u7.2.1 73 35)) rfl ?_
    refine ab_iconst (z := 1) (v := (1 : Int32)) (by decide +kernel) (by decide) ?_
    refine ab_iadd (by decide +kernel) ?_
    refine pX12_35 (ix := 315) (by decide +kernel) tw_1116 (hB.1 73 _ rfl) ?_
    obtain rfl := Option.some.inj H
    exact ab_vret (by decide +kernel) rfl (Nat.le_refl _) (Nat.le_refl _) K0
  · replace H := ab_ifn H hc
    obtain rfl := Option.some.inj H
    exact ab_vret (by decide +kernel) rfl (Nat.le_refl _) (Nat.le_refl _) K0
def fX12_readLoses_61 (a1 : Int32) (a2 : Int32) (I : ab_I) (J : ab_J) : Option (ab_I × ab_J) :=
  if (I 73 2) = 0 then
    (fX12_token I J).bind fun u6 =>
    fX12_readLoses_72 a1 a2 u6.1 u6.2
  else
    fX12_readLoses_72 a1 a2 I J
set_option maxRecDepth 100000 in
theorem fX12_readLoses_61_ok {l : Launch} {G : ab_G} {S : ab_S} {I : ab_I} {J : ab_J} {P : ab_P} {Q : ab_Q} {a1 : Int32} {a2 : Int32} (hB : bz_B S P) {x : ab_I × ab_J} (H : fX12_readLoses_61 a1 a2 I J = some x) (K0 : Q none S x.1 x.2 P) : ab_WP l G mX12_readLoses 3 61 [some (.ref 73), some (.int a1), some (.int a2), none] [] S I J P 0 0 Q := by
  unfold fX12_readLoses_61 at H
  refine ab_aload_n (z := 0) (by decide +kernel) rfl rfl ?_
  refine gX12_2 (ix := 161) (by decide +kernel) tw_1083 (hB.1 73 _ rfl) ?_
  refine ab_if_ne (off := 7) (tgt := 72) (by decide +kernel) rfl (fun hc => ?_) (fun hc => ?_)
  · replace H := ab_ifn H hc
    exact ab_wk (ab_le_some (ab_le_some (ab_le_some (ab_le_none (ab_le_nil))))) (fX12_readLoses_72_ok hB H  K0)
  · replace H := ab_ifp H hc
    refine ab_aload_n (z := 0) (by decide +kernel) rfl rfl ?_
    obtain ⟨u6, hu6, H⟩ := ab_bd_of H
    refine kvX12_token (D := 1) (ix := 205) (by decide +kernel) tw_1315 (hB.1 73 _ rfl) (by decide) (Nat.le_of_ble_eq_true rfl) (mX12_token_ok hB hu6 ?_)
    change ab_WP l G mX12_readLoses 3 72 [some (.ref 73), some (.int a1), some (.int a2), none] [] S u6.1 u6.2 P 0 0 Q
    exact ab_wk (ab_le_some (ab_le_some (ab_le_some (ab_le_none (ab_le_nil))))) (fX12_readLoses_72_ok hB H  K0)
def fX12_readLoses_25 (a1 : Int32) (I : ab_I) (J : ab_J) : Option (ab_I × ab_J) :=
  (fX12_oldName (6 : Int32) (I 73 34) I J).bind fun u4 =>
  if (u4.2 73 2) = 0 then
    ab_gd (ab_ix (((5 : Int32) * a1) + u4.1) 30 = true) (
      if (u4.2 85 ((((5 : Int32) * a1) + u4.1).toNatClampNeg)) ≤ 0 then
        fX12_readLoses_61 a1 u4.1 u4.2 J
      else
        (fX12_wrong (3 : Int32) u4.2).bind fun u5 =>
        fX12_readLoses_61 a1 u4.1 u5 J
    )
  else
    fX12_readLoses_61 a1 u4.1 u4.2 J
set_option maxRecDepth 100000 in
theorem fX12_readLoses_25_ok {l : Launch} {G : ab_G} {S : ab_S} {I : ab_I} {J : ab_J} {P : ab_P} {Q : ab_Q} {a1 : Int32} (hB : bz_B S P) {x : ab_I × ab_J} (H : fX12_readLoses_25 a1 I J = some x) (K0 : Q none S x.1 x.2 P) : ab_WP l G mX12_readLoses 3 25 [some (.ref 73), some (.int a1), none, none] [] S I J P 0 0 Q := by
  unfold fX12_readLoses_25 at H
  refine ab_aload_n (z := 0) (by decide +kernel) rfl rfl ?_
  refine ab_bipush (z := 6) (v := (6 : Int32)) (by decide +kernel) (by decide) ?_
  refine ab_aload_n (z := 0) (by decide +kernel) rfl rfl ?_
  refine gX12_34 (ix := 306) (by decide +kernel) tw_1115 (hB.1 73 _ rfl) ?_
  obtain ⟨u4, hu4, H⟩ := ab_bd_of H
  refine kvX12_oldName (D := 2) (ix := 309) (by decide +kernel) tw_1399 (hB.1 73 _ rfl) (by decide) (Nat.le_of_ble_eq_true rfl) (mX12_oldName_ok hB hu4 ?_)
  change ab_WP l G mX12_readLoses 3 35 [some (.ref 73), some (.int a1), none, none] [.int u4.1] S u4.2 J P 0 0 Q
  refine ab_istore_n (z := 2) (by decide +kernel) rfl (by decide) rfl ?_
  refine ab_ls (ls' := [some (.ref 73), some (.int a1), some (.int u4.1), none]) rfl ?_
  refine ab_aload_n (z := 0) (by decide +kernel) rfl rfl ?_
  refine gX12_2 (ix := 161) (by decide +kernel) tw_1083 (hB.1 73 _ rfl) ?_
  refine ab_if_ne (off := 21) (tgt := 61) (by decide +kernel) rfl (fun hc => ?_) (fun hc => ?_)
  · replace H := ab_ifn H hc
    exact ab_wk (ab_le_some (ab_le_some (ab_le_some (ab_le_none (ab_le_nil))))) (fX12_readLoses_61_ok hB H  K0)
  · replace H := ab_ifp H hc
    refine ab_aload_n (z := 0) (by decide +kernel) rfl rfl ?_
    refine gX12_29 (ix := 48) (by decide +kernel) tw_1110 (hB.1 73 _ rfl) (hB.2.1 90 (73, 29, 85) rfl) ?_
    refine ab_iconst (z := 5) (v := (5 : Int32)) (by decide +kernel) (by decide) ?_
    refine ab_iload_n (z := 1) (by decide +kernel) rfl rfl ?_
    refine ab_imul (by decide +kernel) ?_
    refine ab_iload_n (z := 2) (by decide +kernel) rfl rfl ?_
    refine ab_iadd (by decide +kernel) ?_
    obtain ⟨hg, H⟩ := ab_gd_of H
    refine ab_iald (ln := 30) (by decide +kernel) (hB.1 85 _ rfl) (ab_ix_in hg) ?_
    refine ab_if_le (off := 8) (tgt := 61) (by decide +kernel) rfl (fun hc => ?_) (fun hc => ?_)
    · replace H := ab_ifp H hc
      exact ab_wk (ab_le_some (ab_le_some (ab_le_some (ab_le_none (ab_le_nil))))) (fX12_readLoses_61_ok hB H  K0)
    · replace H := ab_ifn H hc
      refine ab_aload_n (z := 0) (by decide +kernel) rfl rfl ?_
      refine ab_iconst (z := 3) (v := (3 : Int32)) (by decide +kernel) (by decide) ?_
      obtain ⟨u5, hu5, H⟩ := ab_bd_of H
      refine kvX12_wrong (D := 0) (ix := 202) (by decide +kernel) tw_1371 (hB.1 73 _ rfl) (by decide) (Nat.le_of_ble_eq_true rfl) (mX12_wrong_ok hB hu5 ?_)
      change ab_WP l G mX12_readLoses 3 61 [some (.ref 73), some (.int a1), some (.int u4.1), none] [] S u5 J P 0 0 Q
      exact ab_wk (ab_le_some (ab_le_some (ab_le_some (ab_le_none (ab_le_nil))))) (fX12_readLoses_61_ok hB H  K0)
def fX12_readLoses (I : ab_I) (J : ab_J) : Option (ab_I × ab_J) :=
  (fX12_token I J).bind fun u1 =>
  (fX12_oldName (0 : Int32) (u1.1 73 33) u1.1 u1.2).bind fun u2 =>
  if (u2.2 73 2) = 0 then
    (fX12_token u2.2 u1.2).bind fun u3 =>
    fX12_readLoses_25 u2.1 u3.1 u3.2
  else
    fX12_readLoses_25 u2.1 u2.2 u1.2
set_option maxRecDepth 100000 in
theorem mX12_readLoses_ok {l : Launch} {G : ab_G} {S : ab_S} {I : ab_I} {J : ab_J} {P : ab_P} {Q : ab_Q} (hB : bz_B S P) {x : ab_I × ab_J} (H : fX12_readLoses I J = some x) (K0 : Q none S x.1 x.2 P) : ab_Call l G mX12_readLoses 3 [.ref 73] S I J P Q := by
  unfold fX12_readLoses at H
  refine ab_enter rfl (Nat.le_of_ble_eq_true rfl) (ab_wk (ls' := [some (.ref 73), none, none, none]) (ab_le_some (ab_le_non0 (ab_le_non0 (ab_le_non0 ab_le_nil)))) ?_)
  refine ab_aload_n (z := 0) (by decide +kernel) rfl rfl ?_
  obtain ⟨u1, hu1, H⟩ := ab_bd_of H
  refine kvX12_token (D := 1) (ix := 205) (by decide +kernel) tw_1315 (hB.1 73 _ rfl) (by decide) (Nat.le_of_ble_eq_true rfl) (mX12_token_ok hB hu1 ?_)
  change ab_WP l G mX12_readLoses 3 4 [some (.ref 73), none, none, none] [] S u1.1 u1.2 P 0 0 Q
  refine ab_aload_n (z := 0) (by decide +kernel) rfl rfl ?_
  refine ab_iconst (z := 0) (v := (0 : Int32)) (by decide +kernel) (by decide) ?_
  refine ab_aload_n (z := 0) (by decide +kernel) rfl rfl ?_
  refine gX12_33 (ix := 296) (by decide +kernel) tw_1114 (hB.1 73 _ rfl) ?_
  obtain ⟨u2, hu2, H⟩ := ab_bd_of H
  refine kvX12_oldName (D := 2) (ix := 309) (by decide +kernel) tw_1399 (hB.1 73 _ rfl) (by decide) (Nat.le_of_ble_eq_true rfl) (mX12_oldName_ok hB hu2 ?_)
  change ab_WP l G mX12_readLoses 3 13 [some (.ref 73), none, none, none] [.int u2.1] S u2.2 u1.2 P 0 0 Q
  refine ab_istore_n (z := 1) (by decide +kernel) rfl (by decide) rfl ?_
  refine ab_ls (ls' := [some (.ref 73), some (.int u2.1), none, none]) rfl ?_
  refine ab_aload_n (z := 0) (by decide +kernel) rfl rfl ?_
  refine gX12_2 (ix := 161) (by decide +kernel) tw_1083 (hB.1 73 _ rfl) ?_
  refine ab_if_ne (off := 7) (tgt := 25) (by decide +kernel) rfl (fun hc => ?_) (fun hc => ?_)
  · replace H := ab_ifn H hc
    exact ab_wk (ab_le_some (ab_le_some (ab_le_none (ab_le_none (ab_le_nil))))) (fX12_readLoses_25_ok hB H  K0)
  · replace H := ab_ifp H hc
    refine ab_aload_n (z := 0) (by decide +kernel) rfl rfl ?_
    obtain ⟨u3, hu3, H⟩ := ab_bd_of H
    refine kvX12_token (D := 1) (ix := 205) (by decide +kernel) tw_1315 (hB.1 73 _ rfl) (by decide) (Nat.le_of_ble_eq_true rfl) (mX12_token_ok hB hu3 ?_)
    change ab_WP l G mX12_readLoses 3 25 [some (.ref 73), some (.int u2.1), none, none] [] S u3.1 u3.2 P 0 0 Q
    exact ab_wk (ab_le_some (ab_le_some (ab_le_none (ab_le_none (ab_le_nil))))) (fX12_readLoses_25_ok hB H  K0)
