abbrev mX12_layDuties : ab_M := (yX12_layDuties, cX12_layDuties, 7, some .int, 0, 0)
theorem kvX12_layDuties {l : Launch} {G : ab_G} {M : ab_M} {d pc : Nat} {ls : List (Option Value)} {st : List Value} {S : ab_S} {I : ab_I} {J : ab_J} {P : ab_P} {Q : ab_Q} {v0 : Value} {ix D r ln : Nat} (hd : decode M.2.1 pc = .ok (.invokevirtual ix, 3)) (h1 : Cond.methodLink M.1.cls ix mX12_layDuties.1 ∈ ab_good) (hs : S[r]? = some (17, ln)) (hdg : D + 1 ≤ d) (hsum : (st.map fun v => v.category).sum ≤ 8) (kk : ab_Call l G mX12_layDuties D (.ref r :: [v0]) S I J P (fun v S' I' J' P' => ab_WP l G M d (pc + 3) ls (ab_psh v st) S' I' J' P' 0 0 Q)) : ab_WP l G M d pc ls (v0 :: .ref r :: st) S I J P 0 0 Q := bz_kv (g := mX12_layDuties) (as := [v0]) (cc := 12) rfl hd h1 tw_1648 tw_p81 tw_13 tw_1649 ⟨by decide +kernel, by decide +kernel, (by decide +kernel : (parseMethodDescriptor mX12_layDuties.1.desc).map (fun d => d.parameters.length) = some 1)⟩ (by decide) rfl rfl rfl hdg hsum hs kk
def fX12_layDuties_121 (a1 : Int32) (a4 : Int32) (I : ab_I) : Option (Int32 × ab_I) :=
  some (a4, I)
set_option maxRecDepth 100000 in
theorem fX12_layDuties_121_ok {l : Launch} {G : ab_G} {S : ab_S} {I : ab_I} {J : ab_J} {P : ab_P} {Q : ab_Q} {a1 : Int32} {a4 : Int32} (hB : bz_B S P) {x : Int32 × ab_I} (H : fX12_layDuties_121 a1 a4 I = some x) (K0 : Q (some (.int x.1)) S x.2 J P) : ab_WP l G mX12_layDuties 1 121 [some (.ref 73), some (.int a1), none, none, some (.int a4), none, none] [] S I J P 0 0 Q := by
  unfold fX12_layDuties_121 at H
  refine ab_iload (i := 4) (by decide +kernel) rfl ?_
  obtain rfl := Option.some.inj H
  exact ab_iret (by decide +kernel) rfl (Nat.le_refl _) (Nat.le_refl _) K0
def fX12_layDuties_115 (a1 : Int32) (a2 : Int32) (a3 : Int32) (a4 : Int32) (a5 : Int32) (I : ab_I) : Option ((Int32 × Int32 × Int32 × Int32 × ab_I) ⊕ (Int32 × ab_I)) :=
  some (.inl (a2, a3, a4, (a5 + (-1 : Int32)), I))
set_option maxRecDepth 100000 in
theorem fX12_layDuties_115_ok {l : Launch} {G : ab_G} {S : ab_S} {I : ab_I} {J : ab_J} {P : ab_P} {Q : ab_Q} {a1 : Int32} {a2 : Int32} {a3 : Int32} {a4 : Int32} {a5 : Int32} (hB : bz_B S P) {x : ((Int32 × Int32 × Int32 × Int32 × ab_I) ⊕ (Int32 × ab_I))} (H : fX12_layDuties_115 a1 a2 a3 a4 a5 I = some x) (K1 : ∀ s, x = (.inl s) → ab_WP l G mX12_layDuties 1 15 [some (.ref 73), some (.int a1), some (.int s.1), some (.int s.2.1), some (.int s.2.2.1), some (.int s.2.2.2.1), none] [] S s.2.2.2.2 J P 0 0 Q) (K0 : ∀ r, x = (.inr r) → Q (some (.int r.1)) S r.2 J P) : ab_WP l G mX12_layDuties 1 115 [some (.ref 73), some (.int a1), some (.int a2), some (.int a3), some (.int a4), some (.int a5), none] [] S I J P 0 0 Q := by
  unfold fX12_layDuties_115 at H
  refine ab_iinc (i := 5) (z := -1) (v := (a5 + (-1 : Int32))) (by decide +kernel) rfl rfl (by decide) rfl ?_
  refine ab_ls (ls' := [some (.ref 73), some (.int a1), some (.int a2), some (.int a3), some (.int a4), some (.int (a5 + (-1 : Int32))), none]) rfl ?_
  refine ab_goto (off := -103) (tgt := 15) (by decide +kernel) rfl ?_
  exact ab_wk (ab_le_some (ab_le_some (ab_le_some (ab_le_some (ab_le_some (ab_le_some (ab_le_none (ab_le_nil)))))))) (K1 (a2, a3, a4, (a5 + (-1 : Int32)), I) (Option.some.inj H).symm)
def fX12_layDuties_103 (a1 : Int32) (I : ab_I) : Option (Int32 × ab_I) :=
  some ((-1 : Int32), I)
set_option maxRecDepth 100000 in
theorem fX12_layDuties_103_ok {l : Launch} {G : ab_G} {S : ab_S} {I : ab_I} {J : ab_J} {P : ab_P} {Q : ab_Q} {a1 : Int32} (hB : bz_B S P) {x : Int32 × ab_I} (H : fX12_layDuties_103 a1 I = some x) (K0 : Q (some (.int x.1)) S x.2 J P) : ab_WP l G mX12_layDuties 1 103 [some (.ref 73), some (.int a1), none, none, none, none, none] [] S I J P 0 0 Q := by
  unfold fX12_layDuties_103 at H
  refine ab_iconst (z := -1) (v := (-1 : Int32)) (by decide +kernel) (by decide) ?_
  obtain rfl := Option.some.inj H
  exact ab_iret (by decide +kernel) rfl (Nat.le_refl _) (Nat.le_refl _) K0
def fX12_layDuties_60 (a1 : Int32) (a2 : Int32) (a3 : Int32) (a4 : Int32) (a5 : Int32) (a6 : Int32) (s1 : Int32) (s2 : Int32) (I : ab_I) : Option ((Int32 × Int32 × Int32 × Int32 × ab_I) ⊕ (Int32 × ab_I)) :=
  ab_gd (ab_ix s1 6 = true) (
    if a6 = (I 73 39) then
      fX12_layDuties_115 a1 a2 a3 a4 a5 (ab_u I 94 s1.toNatClampNeg s2)
    else
      if ((a3 >>> (a6 &&& 31)) &&& (1 : Int32)) = (1 : Int32) then
        (fX12_layDuties_103 a1 (ab_u I 94 s1.toNatClampNeg s2)).map .inr
      else
        (fX12_isHere a6 (ab_u I 94 s1.toNatClampNeg s2)).bind fun u3 =>
        if u3 = 0 then
          (fX12_layDuties_103 a1 (ab_u I 94 s1.toNatClampNeg s2)).map .inr
        else
          (fX12_mayLose a6 a5 (ab_u I 94 s1.toNatClampNeg s2)).bind fun u5 =>
          if u5 = 0 then
            (fX12_layDuties_103 a1 (ab_u I 94 s1.toNatClampNeg s2)).map .inr
          else
            fX12_layDuties_115 a1 a2 (a3 ||| ((1 : Int32) <<< (a6 &&& 31))) (a4 + (1 : Int32)) a5 (ab_u I 94 s1.toNatClampNeg s2)
  )
set_option maxRecDepth 100000 in
theorem fX12_layDuties_60_ok {l : Launch} {G : ab_G} {S : ab_S} {I : ab_I} {J : ab_J} {P : ab_P} {Q : ab_Q} {a1 : Int32} {a2 : Int32} {a3 : Int32} {a4 : Int32} {a5 : Int32} {a6 : Int32} {s1 : Int32} {s2 : Int32} (hB : bz_B S P) {x : ((Int32 × Int32 × Int32 × Int32 × ab_I) ⊕ (Int32 × ab_I))} (H : fX12_layDuties_60 a1 a2 a3 a4 a5 a6 s1 s2 I = some x) (K1 : ∀ s, x = (.inl s) → ab_WP l G mX12_layDuties 1 15 [some (.ref 73), some (.int a1), some (.int s.1), some (.int s.2.1), some (.int s.2.2.1), some (.int s.2.2.2.1), none] [] S s.2.2.2.2 J P 0 0 Q) (K0 : ∀ r, x = (.inr r) → Q (some (.int r.1)) S r.2 J P) : ab_WP l G mX12_layDuties 1 60 [some (.ref 73), some (.int a1), some (.int a2), some (.int a3), some (.int a4), some (.int a5), some (.int a6)] [.int s2, .int s1, .ref 94] S I J P 0 0 Q := by
  unfold fX12_layDuties_60 at H
  obtain ⟨hg, H⟩ := ab_gd_of H
  refine ab_iast (ln := 6) (by decide +kernel) (hB.1 94 _ rfl) (ab_ix_in hg) ?_
  refine ab_iload (i := 6) (by decide +kernel) rfl ?_
  refine ab_aload_n (z := 0) (by decide +kernel) rfl rfl ?_
  refine gX12_39 (ix := 348) (by decide +kernel) tw_1120 (hB.1 73 _ rfl) ?_
  refine ab_top (y := (I 73 39)) rfl ?_
  refine ab_icmp_ne (off := 6) (tgt := 73) (by decide +kernel) rfl (fun hc => ?_) (fun hc => ?_)
  · replace H := ab_ifn H hc
    refine ab_iload_n (z := 3) (by decide +kernel) rfl rfl ?_
    refine ab_iload (i := 6) (by decide +kernel) rfl ?_
    refine ab_ishr (by decide +kernel) ?_
    refine ab_iconst (z := 1) (v := (1 : Int32)) (by decide +kernel) (by decide) ?_
    refine ab_iand (by decide +kernel) ?_
    refine ab_iconst (z := 1) (v := (1 : Int32)) (by decide +kernel) (by decide) ?_
    refine ab_icmp_eq (off := 23) (tgt := 103) (by decide +kernel) rfl (fun hc => ?_) (fun hc => ?_)
    · replace H := ab_ifp H hc
      obtain ⟨y2, Hy, hx⟩ := ab_mp_of H
      subst hx
      replace H := Hy
      exact ab_wk (ab_le_some (ab_le_some (ab_le_none (ab_le_none (ab_le_none (ab_le_none (ab_le_none (ab_le_nil)))))))) (fX12_layDuties_103_ok hB H  (K0 _ rfl))
    · replace H := ab_ifn H hc
      refine ab_aload_n (z := 0) (by decide +kernel) rfl rfl ?_
      refine ab_iload (i := 6) (by decide +kernel) rfl ?_
      obtain ⟨u3, hu3, H⟩ := ab_bd_of H
      refine kvX12_isHere (D := 0) (ix := 388) (by decide +kernel) tw_1481 (hB.1 73 _ rfl) (by decide) (Nat.le_of_ble_eq_true rfl) (mX12_isHere_ok hB hu3 ?_)
      change ab_WP l G mX12_layDuties 1 89 [some (.ref 73), some (.int a1), some (.int a2), some (.int a3), some (.int a4), some (.int a5), some (.int a6)] [.int u3] S (ab_u I 94 s1.toNatClampNeg s2) J P 0 0 Q
      refine ab_if_eq (off := 14) (tgt := 103) (by decide +kernel) rfl (fun hc => ?_) (fun hc => ?_)
      · replace H := ab_ifp H hc
        obtain ⟨y4, Hy, hx⟩ := ab_mp_of H
        subst hx
        replace H := Hy
        exact ab_wk (ab_le_some (ab_le_some (ab_le_none (ab_le_none (ab_le_none (ab_le_none (ab_le_none (ab_le_nil)))))))) (fX12_layDuties_103_ok hB H  (K0 _ rfl))
      · replace H := ab_ifn H hc
        refine ab_aload_n (z := 0) (by decide +kernel) rfl rfl ?_
        refine ab_iload (i := 6) (by decide +kernel) rfl ?_
        refine ab_iload (i := 5) (by decide +kernel) rfl ?_
        obtain ⟨u5, hu5, H⟩ := ab_bd_of H
        refine kvX12_mayLose (D := 0) (ix := 391) (by decide +kernel) tw_1492 (hB.1 73 _ rfl) (by decide) (Nat.le_of_ble_eq_true rfl) (mX12_mayLose_ok hB hu5 ?_)
        change ab_WP l G mX12_layDuties 1 100 [some (.ref 73), some (.int a1), some (.int a2), some (.int a3), some (.int a4), some (.int a5), some (.int a6)] [.int u5] S (ab_u I 94 s1.toNatClampNeg s2) J P 0 0 Q
        refine ab_if_ne (off := 5) (tgt := 105) (by decide +kernel) rfl (fun hc => ?_) (fun hc => ?_)
        · replace H := ab_ifn H hc
          refine ab_iload_n (z := 3) (by decide +kernel) rfl rfl ?_
          refine ab_iconst (z := 1) (v := (1 : Int32)) (by decide +kernel) (by decide) ?_
          refine ab_iload (i := 6) (by decide +kernel) rfl ?_
          refine ab_ishl (by decide +kernel) ?_
          refine ab_ior (by decide +kernel) ?_
          refine ab_istore_n (z := 3) (by decide +kernel) rfl (by decide) rfl ?_
          refine ab_ls (ls' := [some (.ref 73), some (.int a1), some (.int a2), some (.int (a3 ||| ((1 : Int32) <<< (a6 &&& 31)))), some (.int a4), some (.int a5), some (.int a6)]) rfl ?_
          refine ab_iinc (i := 4) (z := 1) (v := (a4 + (1 : Int32))) (by decide +kernel) rfl rfl (by decide) rfl ?_
          refine ab_ls (ls' := [some (.ref 73), some (.int a1), some (.int a2), some (.int (a3 ||| ((1 : Int32) <<< (a6 &&& 31)))), some (.int (a4 + (1 : Int32))), some (.int a5), some (.int a6)]) rfl ?_
          exact ab_wk (ab_le_some (ab_le_some (ab_le_some (ab_le_some (ab_le_some (ab_le_some (ab_le_none (ab_le_nil)))))))) (fX12_layDuties_115_ok hB H K1 K0)
        · replace H := ab_ifp H hc
          obtain ⟨y6, Hy, hx⟩ := ab_mp_of H
          subst hx
          replace H := Hy
          exact ab_wk (ab_le_some (ab_le_some (ab_le_none (ab_le_none (ab_le_none (ab_le_none (ab_le_none (ab_le_nil)))))))) (fX12_layDuties_103_ok hB H  (K0 _ rfl))
  · replace H := ab_ifp H hc
    refine ab_goto (off := 45) (tgt := 115) (by decide +kernel) rfl ?_
    exact ab_wk (ab_le_some (ab_le_some (ab_le_some (ab_le_some (ab_le_some (ab_le_some (ab_le_none (ab_le_nil)))))))) (fX12_layDuties_115_ok hB H K1 K0)
def fX12_layDuties_15 (a1 : Int32) (a2 : Int32) (a3 : Int32) (a4 : Int32) (a5 : Int32) (I : ab_I) : Option ((Int32 × Int32 × Int32 × Int32 × ab_I) ⊕ (Int32 × ab_I)) :=
  if a5 < 0 then
    (fX12_layDuties_121 a1 a4 I).map .inr
  else
    ab_gd (¬ ((I 73 39) + (1 : Int32)) = 0) (
      ab_gd (¬ ((I 73 39) + (1 : Int32)) = 0) (
        if (a2 - a2 / ((I 73 39) + (1 : Int32)) * ((I 73 39) + (1 : Int32))) = (I 73 39) then
          fX12_layDuties_60 a1 (a2 / ((I 73 39) + (1 : Int32))) a3 a4 a5 (a2 - a2 / ((I 73 39) + (1 : Int32)) * ((I 73 39) + (1 : Int32))) a5 (-1 : Int32) I
        else
          fX12_layDuties_60 a1 (a2 / ((I 73 39) + (1 : Int32))) a3 a4 a5 (a2 - a2 / ((I 73 39) + (1 : Int32)) * ((I 73 39) + (1 : Int32))) a5 (a2 - a2 / ((I 73 39) + (1 : Int32)) * ((I 73 39) + (1 : Int32))) I
      )
    )
set_option maxRecDepth 100000 in
theorem fX12_layDuties_15_ok {l : Launch} {G : ab_G} {S : ab_S} {I : ab_I} {J : ab_J} {P : ab_P} {Q : ab_Q} {a1 : Int32} {a2 : Int32} {a3 : Int32} {a4 : Int32} {a5 : Int32} (hB : bz_B S P) {x : ((Int32 × Int32 × Int32 × Int32 × ab_I) ⊕ (Int32 × ab_I))} (H : fX12_layDuties_15 a1 a2 a3 a4 a5 I = some x) (K1 : ∀ s, x = (.inl s) → ab_WP l G mX12_layDuties 1 15 [some (.ref 73), some (.int a1), some (.int s.1), some (.int s.2.1), some (.int s.2.2.1), some (.int s.2.2.2.1), none] [] S s.2.2.2.2 J P 0 0 Q) (K0 : ∀ r, x = (.inr r) → Q (some (.int r.1)) S r.2 J P) : ab_WP l G mX12_layDuties 1 15 [some (.ref 73), some (.int a1), some (.int a2), some (.int a3), some (.int a4), some (.int a5), none] [] S I J P 0 0 Q := by
  unfold fX12_layDuties_15 at H
  refine ab_iload (i := 5) (by decide +kernel) rfl ?_
  refine ab_if_lt (off := 104) (tgt := 121) (by decide +kernel) rfl (fun hc => ?_) (fun hc => ?_)
  · replace H := ab_ifp H hc
    obtain ⟨y1, Hy, hx⟩ := ab_mp_of H
    subst hx
    replace H := Hy
    exact ab_wk (ab_le_some (ab_le_some (ab_le_none (ab_le_none (ab_le_some (ab_le_none (ab_le_none (ab_le_nil)))))))) (fX12_layDuties_121_ok hB H  (K0 _ rfl))
  · replace H := ab_ifn H hc
    refine ab_iload_n (z := 2) (by decide +kernel) rfl rfl ?_
    refine ab_aload_n (z := 0) (by decide +kernel) rfl rfl ?_
    refine gX12_39 (ix := 348) (by decide +kernel) tw_1120 (hB.1 73 _ rfl) ?_
    refine ab_iconst (z := 1) (v := (1 : Int32)) (by decide +kernel) (by decide) ?_
    refine ab_iadd (by decide +kernel) ?_
    obtain ⟨hg, H⟩ := ab_gd_of H
    refine ab_irem (by decide +kernel) hg ?_
    refine ab_istore (i := 6) (by decide +kernel) (by decide) rfl ?_
    refine ab_ls (ls' := [some (.ref 73), some (.int a1), some (.int a2), some (.int a3), some (.int a4), some (.int a5), some (.int (a2 - a2 / ((I 73 39) + (1 : Int32)) * ((I 73 39) + (1 : Int32))))]) rfl ?_
    refine ab_iload_n (z := 2) (by decide +kernel) rfl rfl ?_
    refine ab_aload_n (z := 0) (by decide +kernel) rfl rfl ?_
    refine gX12_39 (ix := 348) (by decide +kernel) tw_1120 (hB.1 73 _ rfl) ?_
    refine ab_iconst (z := 1) (v := (1 : Int32)) (by decide +kernel) (by decide) ?_
    refine ab_iadd (by decide +kernel) ?_
    obtain ⟨hg, H⟩ := ab_gd_of H
    refine ab_idiv (by decide +kernel) hg ?_
    refine ab_istore_n (z := 2) (by decide +kernel) rfl (by decide) rfl ?_
    refine ab_ls (ls' := [some (.ref 73), some (.int a1), some (.int (a2 / ((I 73 39) + (1 : Int32)))), some (.int a3), some (.int a4), some (.int a5), some (.int (a2 - a2 / ((I 73 39) + (1 : Int32)) * ((I 73 39) + (1 : Int32))))]) rfl ?_
    refine ab_aload_n (z := 0) (by decide +kernel) rfl rfl ?_
    refine gX12_53 (ix := 75) (by decide +kernel) tw_1134 (hB.1 73 _ rfl) (hB.2.1 99 (73, 53, 94) rfl) ?_
    refine ab_iload (i := 5) (by decide +kernel) rfl ?_
    refine ab_iload (i := 6) (by decide +kernel) rfl ?_
    refine ab_aload_n (z := 0) (by decide +kernel) rfl rfl ?_
    refine gX12_39 (ix := 348) (by decide +kernel) tw_1120 (hB.1 73 _ rfl) ?_
    refine ab_icmp_ne (off := 7) (tgt := 58) (by decide +kernel) rfl (fun hc => ?_) (fun hc => ?_)
    · replace H := ab_ifn H hc
      refine ab_iload (i := 6) (by decide +kernel) rfl ?_
      exact ab_wk (ab_le_some (ab_le_some (ab_le_some (ab_le_some (ab_le_some (ab_le_some (ab_le_some (ab_le_nil)))))))) (fX12_layDuties_60_ok hB H K1 K0)
    · replace H := ab_ifp H hc
      refine ab_iconst (z := -1) (v := (-1 : Int32)) (by decide +kernel) (by decide) ?_
      refine ab_goto (off := 5) (tgt := 60) (by decide +kernel) rfl ?_
      exact ab_wk (ab_le_some (ab_le_some (ab_le_some (ab_le_some (ab_le_some (ab_le_some (ab_le_some (ab_le_nil)))))))) (fX12_layDuties_60_ok hB H K1 K0)
def fX12_layDuties (a1 : Int32) (I : ab_I) : Option (Int32 × ab_I) :=
  ab_it (fun s => fX12_layDuties_15 a1 s.1 s.2.1 s.2.2.1 s.2.2.2.1 s.2.2.2.2) 5000 (a1, (0 : Int32), (0 : Int32), ((I 73 40) - (1 : Int32)), I)
set_option maxRecDepth 100000 in
theorem mX12_layDuties_ok {l : Launch} {G : ab_G} {S : ab_S} {I : ab_I} {J : ab_J} {P : ab_P} {Q : ab_Q} {a1 : Int32} (hB : bz_B S P) {x : Int32 × ab_I} (H : fX12_layDuties a1 I = some x) (K0 : Q (some (.int x.1)) S x.2 J P) : ab_Call l G mX12_layDuties 1 [.ref 73, .int a1] S I J P Q := by
  unfold fX12_layDuties at H
  refine ab_enter rfl (Nat.le_of_ble_eq_true rfl) (ab_wk (ls' := [some (.ref 73), some (.int a1), none, none, none, none, none]) (ab_le_some (ab_le_some (ab_le_non0 (ab_le_non0 (ab_le_non0 (ab_le_non0 (ab_le_non0 ab_le_nil))))))) ?_)
  refine ab_iload_n (z := 1) (by decide +kernel) rfl rfl ?_
  refine ab_istore_n (z := 2) (by decide +kernel) rfl (by decide) rfl ?_
  refine ab_ls (ls' := [some (.ref 73), some (.int a1), some (.int a1), none, none, none, none]) rfl ?_
  refine ab_iconst (z := 0) (v := (0 : Int32)) (by decide +kernel) (by decide) ?_
  refine ab_istore_n (z := 3) (by decide +kernel) rfl (by decide) rfl ?_
  refine ab_ls (ls' := [some (.ref 73), some (.int a1), some (.int a1), some (.int (0 : Int32)), none, none, none]) rfl ?_
  refine ab_iconst (z := 0) (v := (0 : Int32)) (by decide +kernel) (by decide) ?_
  refine ab_istore (i := 4) (by decide +kernel) (by decide) rfl ?_
  refine ab_ls (ls' := [some (.ref 73), some (.int a1), some (.int a1), some (.int (0 : Int32)), some (.int (0 : Int32)), none, none]) rfl ?_
  refine ab_aload_n (z := 0) (by decide +kernel) rfl rfl ?_
  refine gX12_40 (ix := 351) (by decide +kernel) tw_1121 (hB.1 73 _ rfl) ?_
  refine ab_iconst (z := 1) (v := (1 : Int32)) (by decide +kernel) (by decide) ?_
  refine ab_isub (by decide +kernel) ?_
  refine ab_istore (i := 5) (by decide +kernel) (by decide) rfl ?_
  refine ab_ls (ls' := [some (.ref 73), some (.int a1), some (.int a1), some (.int (0 : Int32)), some (.int (0 : Int32)), some (.int ((I 73 40) - (1 : Int32))), none]) rfl ?_
  exact ab_wk (ab_le_some (ab_le_some (ab_le_some (ab_le_some (ab_le_some (ab_le_some (ab_le_none (ab_le_nil)))))))) (ab_iter (body := (fun s => fX12_layDuties_15 a1 s.1 s.2.1 s.2.2.1 s.2.2.2.1 s.2.2.2.2)) (W := fun s => ab_WP l G mX12_layDuties 1 15 [some (.ref 73), some (.int a1), some (.int s.1), some (.int s.2.1), some (.int s.2.2.1), some (.int s.2.2.2.1), none] [] S s.2.2.2.2 J P 0 0 Q) (fun s y hb h1 h2 => fX12_layDuties_15_ok hB hb h1 (fun r e => by have e2 := h2 _ e; subst e2; exact K0)) 5000 (a1, (0 : Int32), (0 : Int32), ((I 73 40) - (1 : Int32)), I) H)
abbrev mX12_lossOfRow : ab_M := (yX12_lossOfRow, cX12_lossOfRow, 3, some .int, 0, 0)
theorem kvX12_lossOfRow {l : Launch} {G : ab_G} {M : ab_M} {d pc : Nat} {ls : List (Option Value)} {st : List Value} {S : ab_S} {I : ab_I} {J : ab_J} {P : ab_P} {Q : ab_Q} {ix D r ln : Nat} (hd : decode M.2.1 pc = .ok (.invokevirtual ix, 3)) (h1 : Cond.methodLink M.1.cls ix mX12_lossOfRow.1 ∈ ab_good) (hs : S[r]? = some (17, ln)) (hdg : D + 1 ≤ d) (hsum : (st.map fun v => v.category).sum ≤ 8) (kk : ab_Call l G mX12_lossOfRow D (.ref r :: []) S I J P (fun v S' I' J' P' => ab_WP l G M d (pc + 3) ls (ab_psh v st) S' I' J' P' 0 0 Q)) : ab_WP l G M d pc ls (.ref r :: st) S I J P 0 0 Q := bz_kv (g := mX12_lossOfRow) (as := []) (cc := 12) rfl hd h1 tw_1652 tw_p82 tw_13 tw_1653 ⟨by decide +kernel, by decide +kernel, (by decide +kernel : (parseMethodDescriptor mX12_lossOfRow.1.desc).map (fun d => d.parameters.length) = some 0)⟩ (by decide) rfl rfl rfl hdg hsum hs kk
def fX12_lossOfRow_52 (I : ab_I) (a1 : Int32) : Option Int32 :=
  some a1
set_option maxRecDepth 100000 in
theorem fX12_lossOfRow_52_ok {l : Launch} {G : ab_G} {S : ab_S} {I : ab_I} {J : ab_J} {P : ab_P} {Q : ab_Q} {a1 : Int32} (hB : bz_B S P) {x : Int32} (H : fX12_lossOfRow_52 I a1 = some x) (K0 : Q (some (.int x)) S I J P) : ab_WP l G mX12_lossOfRow 0 52 [some (.ref 73), some (.int a1), none] [] S I J P 0 0 Q := by
  unfold fX12_lossOfRow_52 at H
  refine ab_iload_n (z := 1) (by decide +kernel) rfl rfl ?_
  obtain rfl := Option.some.inj H
  exact ab_iret (by decide +kernel) rfl (Nat.le_refl _) (Nat.le_refl _) K0
def fX12_lossOfRow_44 (I : ab_I) (a2 : Int32) (s0 : Int32) (s1 : Int32) : Option ((Int32 × Int32) ⊕ Int32) :=
  some (.inl ((s0 + s1), (a2 + (1 : Int32))))
set_option maxRecDepth 100000 in
theorem fX12_lossOfRow_44_ok {l : Launch} {G : ab_G} {S : ab_S} {I : ab_I} {J : ab_J} {P : ab_P} {Q : ab_Q} {a2 : Int32} {s0 : Int32} {s1 : Int32} (hB : bz_B S P) {x : ((Int32 × Int32) ⊕ Int32)} (H : fX12_lossOfRow_44 I a2 s0 s1 = some x) (K1 : ∀ s, x = (.inl s) → ab_WP l G mX12_lossOfRow 0 4 [some (.ref 73), some (.int s.1), some (.int s.2)] [] S I J P 0 0 Q) (K0 : ∀ r, x = (.inr r) → Q (some (.int r)) S I J P) : ab_WP l G mX12_lossOfRow 0 44 [some (.ref 73), none, some (.int a2)] [.int s1, .int s0] S I J P 0 0 Q := by
  unfold fX12_lossOfRow_44 at H
  refine ab_iadd (by decide +kernel) ?_
  refine ab_istore_n (z := 1) (by decide +kernel) rfl (by decide) rfl ?_
  refine ab_ls (ls' := [some (.ref 73), some (.int (s0 + s1)), some (.int a2)]) rfl ?_
  refine ab_iinc (i := 2) (z := 1) (v := (a2 + (1 : Int32))) (by decide +kernel) rfl rfl (by decide) rfl ?_
  refine ab_ls (ls' := [some (.ref 73), some (.int (s0 + s1)), some (.int (a2 + (1 : Int32)))]) rfl ?_
  refine ab_goto (off := -45) (tgt := 4) (by decide +kernel) rfl ?_
  exact ab_wk (ab_le_some (ab_le_some (ab_le_some (ab_le_nil)))) (K1 ((s0 + s1), (a2 + (1 : Int32))) (Option.some.inj H).symm)
def fX12_lossOfRow_4 (I : ab_I) (a1 : Int32) (a2 : Int32) : Option ((Int32 × Int32) ⊕ Int32) :=
  if (I 73 40) ≤ a2 then
    (fX12_lossOfRow_52 I a1).map .inr
  else
    ab_gd (ab_ix a2 6 = true) (
      if 0 ≤ (I 94 a2.toNatClampNeg) then
        ab_gd (ab_ix a2 6 = true) (
          ab_gd (ab_ix (((13 : Int32) + ((5 : Int32) * (I 94 a2.toNatClampNeg))) + a2) 45 = true) (
            fX12_lossOfRow_44 I a2 a1 (I 90 ((((13 : Int32) + ((5 : Int32) * (I 94 a2.toNatClampNeg))) + a2).toNatClampNeg))
          )
        )
      else
        fX12_lossOfRow_44 I a2 a1 (0 : Int32)
    )
set_option maxRecDepth 100000 in
theorem fX12_lossOfRow_4_ok {l : Launch} {G : ab_G} {S : ab_S} {I : ab_I} {J : ab_J} {P : ab_P} {Q : ab_Q} {a1 : Int32} {a2 : Int32} (hB : bz_B S P) {x : ((Int32 × Int32) ⊕ Int32)} (H : fX12_lossOfRow_4 I a1 a2 = some x) (K1 : ∀ s, x = (.inl s) → ab_WP l G mX12_lossOfRow 0 4 [some (.ref 73), some (.int s.1), some (.int s.2)] [] S I J P 0 0 Q) (K0 : ∀ r, x = (.inr r) → Q (some (.int r)) S I J P) : ab_WP l G mX12_lossOfRow 0 4 [some (.ref 73), some (.int a1), some (.int a2)] [] S I J P 0 0 Q := by
  unfold fX12_lossOfRow_4 at H
  refine ab_iload_n (z := 2) (by decide +kernel) rfl rfl ?_
  refine ab_aload_n (z := 0) (by decide +kernel) rfl rfl ?_
  refine gX12_40 (ix := 351) (by decide +kernel) tw_1121 (hB.1 73 _ rfl) ?_
  refine ab_icmp_ge (off := 43) (tgt := 52) (by decide +kernel) rfl (fun hc => ?_) (fun hc => ?_)
  · replace H := ab_ifp H hc
    obtain ⟨y1, Hy, hx⟩ := ab_mp_of H
    subst hx
    replace H := Hy
    exact ab_wk (ab_le_some (ab_le_some (ab_le_none (ab_le_nil)))) (fX12_lossOfRow_52_ok hB H  (K0 _ rfl))
  · replace H := ab_ifn H hc
    refine ab_iload_n (z := 1) (by decide +kernel) rfl rfl ?_
    refine ab_aload_n (z := 0) (by decide +kernel) rfl rfl ?_
    refine gX12_53 (ix := 75) (by decide +kernel) tw_1134 (hB.1 73 _ rfl) (hB.2.1 99 (73, 53, 94) rfl) ?_
    refine ab_iload_n (z := 2) (by decide +kernel) rfl rfl ?_
    obtain ⟨hg, H⟩ := ab_gd_of H
    refine ab_iald (ln := 6) (by decide +kernel) (hB.1 94 _ rfl) (ab_ix_in hg) ?_
    refine ab_if_ge (off := 7) (tgt := 26) (by decide +kernel) rfl (fun hc => ?_) (fun hc => ?_)
    · replace H := ab_ifp H hc
      refine ab_aload_n (z := 0) (by decide +kernel) rfl rfl ?_
      refine gX12_47 (ix := 63) (by decide +kernel) tw_1128 (hB.1 73 _ rfl) (hB.2.1 95 (73, 47, 90) rfl) ?_
      refine ab_bipush (z := 13) (v := (13 : Int32)) (by decide +kernel) (by decide) ?_
      refine ab_iconst (z := 5) (v := (5 : Int32)) (by decide +kernel) (by decide) ?_
      refine ab_aload_n (z := 0) (by decide +kernel) rfl rfl ?_
      refine gX12_53 (ix := 75) (by decide +kernel) tw_1134 (hB.1 73 _ rfl) (hB.2.1 99 (73, 53, 94) rfl) ?_
      refine ab_iload_n (z := 2) (by decide +kernel) rfl rfl ?_
      obtain ⟨hg, H⟩ := ab_gd_of H
      refine ab_iald (ln := 6) (by decide +kernel) (hB.1 94 _ rfl) (ab_ix_in hg) ?_
      refine ab_imul (by decide +kernel) ?_
      refine ab_iadd (by decide +kernel) ?_
      refine ab_iload_n (z := 2) (by decide +kernel) rfl rfl ?_
      refine ab_iadd (by decide +kernel) ?_
      obtain ⟨hg, H⟩ := ab_gd_of H
      refine ab_iald (ln := 45) (by decide +kernel) (hB.1 90 _ rfl) (ab_ix_in hg) ?_
      exact ab_wk (ab_le_some (ab_le_none (ab_le_some (ab_le_nil)))) (fX12_lossOfRow_44_ok hB H K1 K0)
    · replace H := ab_ifn H hc
      refine ab_iconst (z := 0) (v := (0 : Int32)) (by decide +kernel) (by decide) ?_
      refine ab_goto (off := 21) (tgt := 44) (by decide +kernel) rfl ?_
      exact ab_wk (ab_le_some (ab_le_none (ab_le_some (ab_le_nil)))) (fX12_lossOfRow_44_ok hB H K1 K0)
def fX12_lossOfRow (I : ab_I) : Option Int32 :=
  ab_it (fun s => fX12_lossOfRow_4 I s.1 s.2) 5000 ((0 : Int32), (0 : Int32))
set_option maxRecDepth 100000 in
theorem mX12_lossOfRow_ok {l : Launch} {G : ab_G} {S : ab_S} {I : ab_I} {J : ab_J} {P : ab_P} {Q : ab_Q} (hB : bz_B S P) {x : Int32} (H : fX12_lossOfRow I = some x) (K0 : Q (some (.int x)) S I J P) : ab_Call l G mX12_lossOfRow 0 [.ref 73] S I J P Q := by
  unfold fX12_lossOfRow at H
  refine ab_enter rfl (Nat.le_of_ble_eq_true rfl) (ab_wk (ls' := [some (.ref 73), none, none]) (ab_le_some (ab_le_non0 (ab_le_non0 ab_le_nil))) ?_)
  refine ab_iconst (z := 0) (v := (0 : Int32)) (by decide +kernel) (by decide) ?_
  refine ab_istore_n (z := 1) (by decide +kernel) rfl (by decide) rfl ?_
  refine ab_ls (ls' := [some (.ref 73), some (.int (0 : Int32)), none]) rfl ?_
  refine ab_iconst (z := 0) (v := (0 : Int32)) (by decide +kernel) (by decide) ?_
  refine ab_istore_n (z := 2) (by decide +kernel) rfl (by decide) rfl ?_
  refine ab_ls (ls' := [some (.ref 73), some (.int (0 : Int32)), some (.int (0 : Int32))]) rfl ?_
  exact ab_wk (ab_le_some (ab_le_some (ab_le_some (ab_le_nil)))) (ab_iter (body := (fun s => fX12_lossOfRow_4 I s.1 s.2)) (W := fun s => ab_WP l G mX12_lossOfRow 0 4 [some (.ref 73), some (.int s.1), some (.int s.2)] [] S I J P 0 0 Q) (fun s y hb h1 h2 => fX12_lossOfRow_4_ok hB hb h1 (fun r e => by have e2 := h2 _ e; subst e2; exact K0)) 5000 ((0 : Int32), (0 : Int32)) H)
abbrev mX12_duties : ab_M := (yX12_duties, cX12_duties, 7, some .int, 0, 0)
def fX12_duties_139 (a1 : Int32) (s0 : Int32) (I : ab_I) : Option (Int32 × ab_I) :=
  some (s0, I)
set_option maxRecDepth 100000 in
theorem fX12_duties_139_ok {l : Launch} {G : ab_G} {S : ab_S} {I : ab_I} {J : ab_J} {P : ab_P} {Q : ab_Q} {a1 : Int32} {s0 : Int32} (hB : bz_B S P) {x : Int32 × ab_I} (H : fX12_duties_139 a1 s0 I = some x) (K0 : Q (some (.int x.1)) S x.2 J P) : ab_WP l G mX12_duties 2 139 [some (.ref 73), some (.int a1), none, none, none, none, none] [.int s0] S I J P 0 0 Q := by
  unfold fX12_duties_139 at H
  obtain rfl := Option.some.inj H
  exact ab_iret (by decide +kernel) rfl (Nat.le_refl _) (Nat.le_refl _) K0
def fX12_duties_116 (a1 : Int32) (a2 : Int32) (a3 : Int32) (a4 : Int32) (I : ab_I) : Option ((Int32 × Int32 × Int32 × ab_I) ⊕ (Int32 × ab_I)) :=
  some (.inl (a2, a3, (a4 + (1 : Int32)), I))
set_option maxRecDepth 100000 in
theorem fX12_duties_116_ok {l : Launch} {G : ab_G} {S : ab_S} {I : ab_I} {J : ab_J} {P : ab_P} {Q : ab_Q} {a1 : Int32} {a2 : Int32} {a3 : Int32} {a4 : Int32} (hB : bz_B S P) {x : ((Int32 × Int32 × Int32 × ab_I) ⊕ (Int32 × ab_I))} (H : fX12_duties_116 a1 a2 a3 a4 I = some x) (K1 : ∀ s, x = (.inl s) → ab_WP l G mX12_duties 2 22 [some (.ref 73), some (.int a1), some (.int s.1), some (.int s.2.1), some (.int s.2.2.1), none, none] [] S s.2.2.2 J P 0 0 Q) (K0 : ∀ r, x = (.inr r) → Q (some (.int r.1)) S r.2 J P) : ab_WP l G mX12_duties 2 116 [some (.ref 73), some (.int a1), some (.int a2), some (.int a3), some (.int a4), none, none] [] S I J P 0 0 Q := by
  unfold fX12_duties_116 at H
  refine ab_iinc (i := 4) (z := 1) (v := (a4 + (1 : Int32))) (by decide +kernel) rfl rfl (by decide) rfl ?_
  refine ab_ls (ls' := [some (.ref 73), some (.int a1), some (.int a2), some (.int a3), some (.int (a4 + (1 : Int32))), none, none]) rfl ?_
  refine ab_goto (off := -97) (tgt := 22) (by decide +kernel) rfl ?_
  exact ab_wk (ab_le_some (ab_le_some (ab_le_some (ab_le_some (ab_le_some (ab_le_none (ab_le_none (ab_le_nil)))))))) (K1 (a2, a3, (a4 + (1 : Int32)), I) (Option.some.inj H).symm)
def fX12_duties_122 (a1 : Int32) (a2 : Int32) (a3 : Int32) (I : ab_I) : Option (Int32 × ab_I) :=
  if a1 = 0 then
    fX12_duties_139 a1 a2 (ab_u I 73 54 (I 73 40))
  else
    fX12_duties_139 a1 a3 (ab_u I 73 54 (I 73 40))
set_option maxRecDepth 100000 in
theorem fX12_duties_122_ok {l : Launch} {G : ab_G} {S : ab_S} {I : ab_I} {J : ab_J} {P : ab_P} {Q : ab_Q} {a1 : Int32} {a2 : Int32} {a3 : Int32} (hB : bz_B S P) {x : Int32 × ab_I} (H : fX12_duties_122 a1 a2 a3 I = some x) (K0 : Q (some (.int x.1)) S x.2 J P) : ab_WP l G mX12_duties 2 122 [some (.ref 73), some (.int a1), some (.int a2), some (.int a3), none, none, none] [] S I J P 0 0 Q := by
  unfold fX12_duties_122 at H
  refine ab_aload_n (z := 0) (by decide +kernel) rfl rfl ?_
  refine ab_aload_n (z := 0) (by decide +kernel) rfl rfl ?_
  refine gX12_40 (ix := 351) (by decide +kernel) tw_1121 (hB.1 73 _ rfl) ?_
  refine pX12_54 (ix := 381) (by decide +kernel) tw_1135 (hB.1 73 _ rfl) ?_
  refine ab_iload_n (z := 1) (by decide +kernel) rfl rfl ?_
  refine ab_if_ne (off := 7) (tgt := 138) (by decide +kernel) rfl (fun hc => ?_) (fun hc => ?_)
  · replace H := ab_ifn H hc
    refine ab_iload_n (z := 3) (by decide +kernel) rfl rfl ?_
    exact ab_wk (ab_le_some (ab_le_some (ab_le_none (ab_le_none (ab_le_none (ab_le_none (ab_le_none (ab_le_nil)))))))) (fX12_duties_139_ok hB H  K0)
  · replace H := ab_ifp H hc
    refine ab_iload_n (z := 2) (by decide +kernel) rfl rfl ?_
    refine ab_goto (off := 4) (tgt := 139) (by decide +kernel) rfl ?_
    exact ab_wk (ab_le_some (ab_le_some (ab_le_none (ab_le_none (ab_le_none (ab_le_none (ab_le_none (ab_le_nil)))))))) (fX12_duties_139_ok hB H  K0)
def fX12_duties_87 (a1 : Int32) (a2 : Int32) (a3 : Int32) (a4 : Int32) (a6 : Int32) (I : ab_I) : Option ((Int32 × Int32 × Int32 × Int32 × ab_I) ⊕ ((Int32 × Int32 × Int32 × ab_I) ⊕ (Int32 × ab_I))) :=
  if (I 73 40) ≤ a6 then
    (fX12_duties_116 a1 a2 a3 a4 I).map .inr
  else
    ab_gd (ab_ix a6 6 = true) (
      ab_gd (ab_ix a6 6 = true) (
        some (.inl (a2, a3, a4, (a6 + (1 : Int32)), (ab_u I 93 a6.toNatClampNeg (I 94 a6.toNatClampNeg))))
      )
    )
set_option maxRecDepth 100000 in
theorem fX12_duties_87_ok {l : Launch} {G : ab_G} {S : ab_S} {I : ab_I} {J : ab_J} {P : ab_P} {Q : ab_Q} {a1 : Int32} {a2 : Int32} {a3 : Int32} {a4 : Int32} {a6 : Int32} (hB : bz_B S P) {x : ((Int32 × Int32 × Int32 × Int32 × ab_I) ⊕ ((Int32 × Int32 × Int32 × ab_I) ⊕ (Int32 × ab_I)))} (H : fX12_duties_87 a1 a2 a3 a4 a6 I = some x) (K2 : ∀ s, x = (.inl s) → ab_WP l G mX12_duties 2 87 [some (.ref 73), some (.int a1), some (.int s.1), some (.int s.2.1), some (.int s.2.2.1), none, some (.int s.2.2.2.1)] [] S s.2.2.2.2 J P 0 0 Q) (K1 : ∀ s, x = (.inr (.inl s)) → ab_WP l G mX12_duties 2 22 [some (.ref 73), some (.int a1), some (.int s.1), some (.int s.2.1), some (.int s.2.2.1), none, none] [] S s.2.2.2 J P 0 0 Q) (K0 : ∀ r, x = (.inr (.inr r)) → Q (some (.int r.1)) S r.2 J P) : ab_WP l G mX12_duties 2 87 [some (.ref 73), some (.int a1), some (.int a2), some (.int a3), some (.int a4), none, some (.int a6)] [] S I J P 0 0 Q := by
  unfold fX12_duties_87 at H
  refine ab_iload (i := 6) (by decide +kernel) rfl ?_
  refine ab_aload_n (z := 0) (by decide +kernel) rfl rfl ?_
  refine gX12_40 (ix := 351) (by decide +kernel) tw_1121 (hB.1 73 _ rfl) ?_
  refine ab_icmp_ge (off := 23) (tgt := 116) (by decide +kernel) rfl (fun hc => ?_) (fun hc => ?_)
  · replace H := ab_ifp H hc
    obtain ⟨y8, Hy, hx⟩ := ab_mp_of H
    subst hx
    replace H := Hy
    exact ab_wk (ab_le_some (ab_le_some (ab_le_some (ab_le_some (ab_le_some (ab_le_none (ab_le_none (ab_le_nil)))))))) (fX12_duties_116_ok hB H (fun s e => K1 s (by rw [e])) (fun r e => K0 r (by rw [e])))
  · replace H := ab_ifn H hc
    refine ab_aload_n (z := 0) (by decide +kernel) rfl rfl ?_
    refine gX12_52 (ix := 72) (by decide +kernel) tw_1133 (hB.1 73 _ rfl) (hB.2.1 98 (73, 52, 93) rfl) ?_
    refine ab_iload (i := 6) (by decide +kernel) rfl ?_
    refine ab_aload_n (z := 0) (by decide +kernel) rfl rfl ?_
    refine gX12_53 (ix := 75) (by decide +kernel) tw_1134 (hB.1 73 _ rfl) (hB.2.1 99 (73, 53, 94) rfl) ?_
    refine ab_iload (i := 6) (by decide +kernel) rfl ?_
    obtain ⟨hg, H⟩ := ab_gd_of H
    refine ab_iald (ln := 6) (by decide +kernel) (hB.1 94 _ rfl) (ab_ix_in hg) ?_
    obtain ⟨hg, H⟩ := ab_gd_of H
    refine ab_iast (ln := 6) (by decide +kernel) (hB.1 93 _ rfl) (ab_ix_in hg) ?_
    refine ab_iinc (i := 6) (z := 1) (v := (a6 + (1 : Int32))) (by decide +kernel) rfl rfl (by decide) rfl ?_
    refine ab_ls (ls' := [some (.ref 73), some (.int a1), some (.int a2), some (.int a3), some (.int a4), none, some (.int (a6 + (1 : Int32)))]) rfl ?_
    refine ab_goto (off := -26) (tgt := 87) (by decide +kernel) rfl ?_
    exact ab_wk (ab_le_some (ab_le_some (ab_le_some (ab_le_some (ab_le_some (ab_le_none (ab_le_some (ab_le_nil)))))))) (K2 (a2, a3, a4, (a6 + (1 : Int32)), (ab_u I 93 a6.toNatClampNeg (I 94 a6.toNatClampNeg))) (Option.some.inj H).symm)
def fX12_duties_76 (a1 : Int32) (a4 : Int32) (a5 : Int32) (I : ab_I) : Option ((Int32 × Int32 × Int32 × ab_I) ⊕ (Int32 × ab_I)) :=
  (fX12_lossOfRow I).bind fun u7 =>
  ab_it (fun s => fX12_duties_87 a1 s.1 s.2.1 s.2.2.1 s.2.2.2.1 s.2.2.2.2) 5000 (a5, u7, a4, (0 : Int32), I)
set_option maxRecDepth 100000 in
theorem fX12_duties_76_ok {l : Launch} {G : ab_G} {S : ab_S} {I : ab_I} {J : ab_J} {P : ab_P} {Q : ab_Q} {a1 : Int32} {a4 : Int32} {a5 : Int32} (hB : bz_B S P) {x : ((Int32 × Int32 × Int32 × ab_I) ⊕ (Int32 × ab_I))} (H : fX12_duties_76 a1 a4 a5 I = some x) (K1 : ∀ s, x = (.inl s) → ab_WP l G mX12_duties 2 22 [some (.ref 73), some (.int a1), some (.int s.1), some (.int s.2.1), some (.int s.2.2.1), none, none] [] S s.2.2.2 J P 0 0 Q) (K0 : ∀ r, x = (.inr r) → Q (some (.int r.1)) S r.2 J P) : ab_WP l G mX12_duties 2 76 [some (.ref 73), some (.int a1), none, none, some (.int a4), some (.int a5), none] [] S I J P 0 0 Q := by
  unfold fX12_duties_76 at H
  refine ab_iload (i := 5) (by decide +kernel) rfl ?_
  refine ab_istore_n (z := 2) (by decide +kernel) rfl (by decide) rfl ?_
  refine ab_ls (ls' := [some (.ref 73), some (.int a1), some (.int a5), none, some (.int a4), some (.int a5), none]) rfl ?_
  refine ab_aload_n (z := 0) (by decide +kernel) rfl rfl ?_
  obtain ⟨u7, hu7, H⟩ := ab_bd_of H
  refine kvX12_lossOfRow (D := 0) (ix := 458) (by decide +kernel) tw_1650 (hB.1 73 _ rfl) (by decide) (Nat.le_of_ble_eq_true rfl) (mX12_lossOfRow_ok hB hu7 ?_)
  change ab_WP l G mX12_duties 2 83 [some (.ref 73), some (.int a1), some (.int a5), none, some (.int a4), some (.int a5), none] [.int u7] S I J P 0 0 Q
  refine ab_istore_n (z := 3) (by decide +kernel) rfl (by decide) rfl ?_
  refine ab_ls (ls' := [some (.ref 73), some (.int a1), some (.int a5), some (.int u7), some (.int a4), some (.int a5), none]) rfl ?_
  refine ab_iconst (z := 0) (v := (0 : Int32)) (by decide +kernel) (by decide) ?_
  refine ab_istore (i := 6) (by decide +kernel) (by decide) rfl ?_
  refine ab_ls (ls' := [some (.ref 73), some (.int a1), some (.int a5), some (.int u7), some (.int a4), some (.int a5), some (.int (0 : Int32))]) rfl ?_
  exact ab_wk (ab_le_some (ab_le_some (ab_le_some (ab_le_some (ab_le_some (ab_le_none (ab_le_some (ab_le_nil)))))))) (ab_iter (body := (fun s => fX12_duties_87 a1 s.1 s.2.1 s.2.2.1 s.2.2.2.1 s.2.2.2.2)) (W := fun s => ab_WP l G mX12_duties 2 87 [some (.ref 73), some (.int a1), some (.int s.1), some (.int s.2.1), some (.int s.2.2.1), none, some (.int s.2.2.2.1)] [] S s.2.2.2.2 J P 0 0 Q) (fun s y hb h1 h2 => fX12_duties_87_ok hB hb h1 (fun s e => K1 s (h2 _ e).symm) (fun r e => K0 r (h2 _ e).symm)) 5000 (a5, u7, a4, (0 : Int32), I) H)
def fX12_duties_22 (a1 : Int32) (a2 : Int32) (a3 : Int32) (a4 : Int32) (I : ab_I) : Option ((Int32 × Int32 × Int32 × ab_I) ⊕ (Int32 × ab_I)) :=
  (fX12_power ((I 73 39) + (1 : Int32)) (I 73 40)).bind fun u3 =>
  if u3 ≤ a4 then
    (fX12_duties_122 a1 a2 a3 I).map .inr
  else
    (fX12_layDuties a4 I).bind fun u5 =>
    if u5.1 < 0 then
      fX12_duties_116 a1 a2 a3 a4 u5.2
    else
      if u5.1 < a2 then
        fX12_duties_116 a1 a2 a3 a4 u5.2
      else
        if u5.1 = a2 then
          (fX12_lossOfRow u5.2).bind fun u6 =>
          if u6 < a3 then
            fX12_duties_76 a1 a4 u5.1 u5.2
          else
            fX12_duties_116 a1 a2 a3 a4 u5.2
        else
          fX12_duties_76 a1 a4 u5.1 u5.2
set_option maxRecDepth 100000 in
theorem fX12_duties_22_ok {l : Launch} {G : ab_G} {S : ab_S} {I : ab_I} {J : ab_J} {P : ab_P} {Q : ab_Q} {a1 : Int32} {a2 : Int32} {a3 : Int32} {a4 : Int32} (hB : bz_B S P) {x : ((Int32 × Int32 × Int32 × ab_I) ⊕ (Int32 × ab_I))} (H : fX12_duties_22 a1 a2 a3 a4 I = some x) (K1 : ∀ s, x = (.inl s) → ab_WP l G mX12_duties 2 22 [some (.ref 73), some (.int a1), some (.int s.1), some (.int s.2.1), some (.int s.2.2.1), none, none] [] S s.2.2.2 J P 0 0 Q) (K0 : ∀ r, x = (.inr r) → Q (some (.int r.1)) S r.2 J P) : ab_WP l G mX12_duties 2 22 [some (.ref 73), some (.int a1), some (.int a2), some (.int a3), some (.int a4), none, none] [] S I J P 0 0 Q := by
  unfold fX12_duties_22 at H
  refine ab_iload (i := 4) (by decide +kernel) rfl ?_
  refine ab_aload_n (z := 0) (by decide +kernel) rfl rfl ?_
  refine gX12_39 (ix := 348) (by decide +kernel) tw_1120 (hB.1 73 _ rfl) ?_
  refine ab_iconst (z := 1) (v := (1 : Int32)) (by decide +kernel) (by decide) ?_
  refine ab_iadd (by decide +kernel) ?_
  refine ab_aload_n (z := 0) (by decide +kernel) rfl rfl ?_
  refine gX12_40 (ix := 351) (by decide +kernel) tw_1121 (hB.1 73 _ rfl) ?_
  obtain ⟨u3, hu3, H⟩ := ab_bd_of H
  refine ksX12_power (D := 0) (ix := 452) (by decide +kernel) tw_1643 (by decide) (Nat.le_of_ble_eq_true rfl) (mX12_power_ok hB hu3 ?_)
  change ab_WP l G mX12_duties 2 37 [some (.ref 73), some (.int a1), some (.int a2), some (.int a3), some (.int a4), none, none] [.int u3, .int a4] S I J P 0 0 Q
  refine ab_icmp_ge (off := 85) (tgt := 122) (by decide +kernel) rfl (fun hc => ?_) (fun hc => ?_)
  · replace H := ab_ifp H hc
    obtain ⟨y4, Hy, hx⟩ := ab_mp_of H
    subst hx
    replace H := Hy
    exact ab_wk (ab_le_some (ab_le_some (ab_le_some (ab_le_some (ab_le_none (ab_le_none (ab_le_none (ab_le_nil)))))))) (fX12_duties_122_ok hB H  (K0 _ rfl))
  · replace H := ab_ifn H hc
    refine ab_aload_n (z := 0) (by decide +kernel) rfl rfl ?_
    refine ab_iload (i := 4) (by decide +kernel) rfl ?_
    obtain ⟨u5, hu5, H⟩ := ab_bd_of H
    refine kvX12_layDuties (D := 1) (ix := 455) (by decide +kernel) tw_1646 (hB.1 73 _ rfl) (by decide) (Nat.le_of_ble_eq_true rfl) (mX12_layDuties_ok hB hu5 ?_)
    change ab_WP l G mX12_duties 2 46 [some (.ref 73), some (.int a1), some (.int a2), some (.int a3), some (.int a4), none, none] [.int u5.1] S u5.2 J P 0 0 Q
    refine ab_istore (i := 5) (by decide +kernel) (by decide) rfl ?_
    refine ab_ls (ls' := [some (.ref 73), some (.int a1), some (.int a2), some (.int a3), some (.int a4), some (.int u5.1), none]) rfl ?_
    refine ab_iload (i := 5) (by decide +kernel) rfl ?_
    refine ab_if_lt (off := 66) (tgt := 116) (by decide +kernel) rfl (fun hc => ?_) (fun hc => ?_)
    · replace H := ab_ifp H hc
      exact ab_wk (ab_le_some (ab_le_some (ab_le_some (ab_le_some (ab_le_some (ab_le_none (ab_le_none (ab_le_nil)))))))) (fX12_duties_116_ok hB H K1 K0)
    · replace H := ab_ifn H hc
      refine ab_iload (i := 5) (by decide +kernel) rfl ?_
      refine ab_iload_n (z := 2) (by decide +kernel) rfl rfl ?_
      refine ab_icmp_lt (off := 60) (tgt := 116) (by decide +kernel) rfl (fun hc => ?_) (fun hc => ?_)
      · replace H := ab_ifp H hc
        exact ab_wk (ab_le_some (ab_le_some (ab_le_some (ab_le_some (ab_le_some (ab_le_none (ab_le_none (ab_le_nil)))))))) (fX12_duties_116_ok hB H K1 K0)
      · replace H := ab_ifn H hc
        refine ab_iload (i := 5) (by decide +kernel) rfl ?_
        refine ab_iload_n (z := 2) (by decide +kernel) rfl rfl ?_
        refine ab_icmp_ne (off := 14) (tgt := 76) (by decide +kernel) rfl (fun hc => ?_) (fun hc => ?_)
        · replace H := ab_ifn H hc
          exact ab_wk (ab_le_some (ab_le_some (ab_le_none (ab_le_none (ab_le_some (ab_le_some (ab_le_none (ab_le_nil)))))))) (fX12_duties_76_ok hB H K1 K0)
        · replace H := ab_ifp H hc
          refine ab_aload_n (z := 0) (by decide +kernel) rfl rfl ?_
          obtain ⟨u6, hu6, H⟩ := ab_bd_of H
          refine kvX12_lossOfRow (D := 0) (ix := 458) (by decide +kernel) tw_1650 (hB.1 73 _ rfl) (by decide) (Nat.le_of_ble_eq_true rfl) (mX12_lossOfRow_ok hB hu6 ?_)
          change ab_WP l G mX12_duties 2 69 [some (.ref 73), some (.int a1), some (.int a2), some (.int a3), some (.int a4), some (.int u5.1), none] [.int u6] S u5.2 J P 0 0 Q
          refine ab_iload_n (z := 3) (by decide +kernel) rfl rfl ?_
          refine ab_icmp_lt (off := 6) (tgt := 76) (by decide +kernel) rfl (fun hc => ?_) (fun hc => ?_)
          · replace H := ab_ifp H hc
            exact ab_wk (ab_le_some (ab_le_some (ab_le_none (ab_le_none (ab_le_some (ab_le_some (ab_le_none (ab_le_nil)))))))) (fX12_duties_76_ok hB H K1 K0)
          · replace H := ab_ifn H hc
            refine ab_goto (off := 43) (tgt := 116) (by decide +kernel) rfl ?_
            exact ab_wk (ab_le_some (ab_le_some (ab_le_some (ab_le_some (ab_le_some (ab_le_none (ab_le_none (ab_le_nil)))))))) (fX12_duties_116_ok hB H K1 K0)
def fX12_duties (a1 : Int32) (I : ab_I) : Option (Int32 × ab_I) :=
  (fX12_isIn a1 (0 : Int32) (1 : Int32)).bind fun u1 =>
  if u1 = 0 then
    some ((-1 : Int32), I)
  else
    (fX12_fill I).bind fun u2 =>
    ab_it (fun s => fX12_duties_22 a1 s.1 s.2.1 s.2.2.1 s.2.2.2) 5000 ((-1 : Int32), (0 : Int32), (0 : Int32), u2)
set_option maxRecDepth 100000 in
theorem mX12_duties_ok {l : Launch} {G : ab_G} {S : ab_S} {I : ab_I} {J : ab_J} {P : ab_P} {Q : ab_Q} {a1 : Int32} (hB : bz_B S P) {x : Int32 × ab_I} (H : fX12_duties a1 I = some x) (K0 : Q (some (.int x.1)) S x.2 J P) : ab_Call l G mX12_duties 2 [.ref 73, .int a1] S I J P Q := by
  unfold fX12_duties at H
  refine ab_enter rfl (Nat.le_of_ble_eq_true rfl) (ab_wk (ls' := [some (.ref 73), some (.int a1), none, none, none, none, none]) (ab_le_some (ab_le_some (ab_le_non0 (ab_le_non0 (ab_le_non0 (ab_le_non0 (ab_le_non0 ab_le_nil))))))) ?_)
  refine ab_iload_n (z := 1) (by decide +kernel) rfl rfl ?_
  refine ab_iconst (z := 0) (v := (0 : Int32)) (by decide +kernel) (by decide) ?_
  refine ab_iconst (z := 1) (v := (1 : Int32)) (by decide +kernel) (by decide) ?_
  obtain ⟨u1, hu1, H⟩ := ab_bd_of H
  refine ksX12_isIn (D := 0) (ix := 384) (by decide +kernel) tw_1474 (by decide) (Nat.le_of_ble_eq_true rfl) (mX12_isIn_ok hB hu1 ?_)
  change ab_WP l G mX12_duties 2 6 [some (.ref 73), some (.int a1), none, none, none, none, none] [.int u1] S I J P 0 0 Q
  refine ab_if_ne (off := 5) (tgt := 11) (by decide +kernel) rfl (fun hc => ?_) (fun hc => ?_)
  · replace H := ab_ifn H hc
    refine ab_aload_n (z := 0) (by decide +kernel) rfl rfl ?_
    obtain ⟨u2, hu2, H⟩ := ab_bd_of H
    refine kvX12_fill (D := 0) (ix := 411) (by decide +kernel) tw_1477 (hB.1 73 _ rfl) (by decide) (Nat.le_of_ble_eq_true rfl) (mX12_fill_ok hB hu2 ?_)
    change ab_WP l G mX12_duties 2 15 [some (.ref 73), some (.int a1), none, none, none, none, none] [] S u2 J P 0 0 Q
    refine ab_iconst (z := -1) (v := (-1 : Int32)) (by decide +kernel) (by decide) ?_
    refine ab_istore_n (z := 2) (by decide +kernel) rfl (by decide) rfl ?_
    refine ab_ls (ls' := [some (.ref 73), some (.int a1), some (.int (-1 : Int32)), none, none, none, none]) rfl ?_
    refine ab_iconst (z := 0) (v := (0 : Int32)) (by decide +kernel) (by decide) ?_
    refine ab_istore_n (z := 3) (by decide +kernel) rfl (by decide) rfl ?_
    refine ab_ls (ls' := [some (.ref 73), some (.int a1), some (.int (-1 : Int32)), some (.int (0 : Int32)), none, none, none]) rfl ?_
    refine ab_iconst (z := 0) (v := (0 : Int32)) (by decide +kernel) (by decide) ?_
    refine ab_istore (i := 4) (by decide +kernel) (by decide) rfl ?_
    refine ab_ls (ls' := [some (.ref 73), some (.int a1), some (.int (-1 : Int32)), some (.int (0 : Int32)), some (.int (0 : Int32)), none, none]) rfl ?_
    exact ab_wk (ab_le_some (ab_le_some (ab_le_some (ab_le_some (ab_le_some (ab_le_none (ab_le_none (ab_le_nil)))))))) (ab_iter (body := (fun s => fX12_duties_22 a1 s.1 s.2.1 s.2.2.1 s.2.2.2)) (W := fun s => ab_WP l G mX12_duties 2 22 [some (.ref 73), some (.int a1), some (.int s.1), some (.int s.2.1), some (.int s.2.2.1), none, none] [] S s.2.2.2 J P 0 0 Q) (fun s y hb h1 h2 => fX12_duties_22_ok hB hb h1 (fun r e => by have e2 := h2 _ e; subst e2; exact K0)) 5000 ((-1 : Int32), (0 : Int32), (0 : Int32), u2) H)
  · replace H := ab_ifp H hc
    refine ab_iconst (z := -1) (v := (-1 : Int32)) (by decide +kernel) (by decide) ?_
    obtain rfl := Option.some.inj H
    exact ab_iret (by decide +kernel) rfl (Nat.le_refl _) (Nat.le_refl _) K0
abbrev mX12_allBells : ab_M := (yX12_allBells, cX12_allBells, 1, some .int, 0, 0)
theorem kvX12_allBells {l : Launch} {G : ab_G} {M : ab_M} {d pc : Nat} {ls : List (Option Value)} {st : List Value} {S : ab_S} {I : ab_I} {J : ab_J} {P : ab_P} {Q : ab_Q} {ix D r ln : Nat} (hd : decode M.2.1 pc = .ok (.invokevirtual ix, 3)) (h1 : Cond.methodLink M.1.cls ix mX12_allBells.1 ∈ ab_good) (hs : S[r]? = some (17, ln)) (hdg : D + 1 ≤ d) (hsum : (st.map fun v => v.category).sum ≤ 8) (kk : ab_Call l G mX12_allBells D (.ref r :: []) S I J P (fun v S' I' J' P' => ab_WP l G M d (pc + 3) ls (ab_psh v st) S' I' J' P' 0 0 Q)) : ab_WP l G M d pc ls (.ref r :: st) S I J P 0 0 Q := bz_kv (g := mX12_allBells) (as := []) (cc := 12) rfl hd h1 tw_1660 tw_p83 tw_13 tw_1661 ⟨by decide +kernel, by decide +kernel, (by decide +kernel : (parseMethodDescriptor mX12_allBells.1.desc).map (fun d => d.parameters.length) = some 0)⟩ (by decide) rfl rfl rfl hdg hsum hs kk
def fX12_allBells (I : ab_I) : Option Int32 :=
  some (((1 : Int32) <<< ((I 73 40) &&& 31)) - (1 : Int32))
set_option maxRecDepth 100000 in
theorem mX12_allBells_ok {l : Launch} {G : ab_G} {S : ab_S} {I : ab_I} {J : ab_J} {P : ab_P} {Q : ab_Q} (hB : bz_B S P) {x : Int32} (H : fX12_allBells I = some x) (K0 : Q (some (.int x)) S I J P) : ab_Call l G mX12_allBells 0 [.ref 73] S I J P Q := by
  unfold fX12_allBells at H
  refine ab_enter rfl (Nat.le_of_ble_eq_true rfl) (ab_wk (ls' := [some (.ref 73)]) (ab_le_some (ab_le_nil)) ?_)
  refine ab_iconst (z := 1) (v := (1 : Int32)) (by decide +kernel) (by decide) ?_
  refine ab_aload_n (z := 0) (by decide +kernel) rfl rfl ?_
  refine gX12_40 (ix := 351) (by decide +kernel) tw_1121 (hB.1 73 _ rfl) ?_
  refine ab_ishl (by decide +kernel) ?_
  refine ab_iconst (z := 1) (v := (1 : Int32)) (by decide +kernel) (by decide) ?_
  refine ab_isub (by decide +kernel) ?_
  obtain rfl := Option.some.inj H
  exact ab_iret (by decide +kernel) rfl (Nat.le_refl _) (Nat.le_refl _) K0
abbrev mX12_hush : ab_M := (yX12_hush, cX12_hush, 5, some .int, 0, 0)
def fX12_hush_92 (a1 : Int32) (s0 : Int32) (I : ab_I) : Option (Int32 × ab_I) :=
  some (s0, I)
set_option maxRecDepth 100000 in
theorem fX12_hush_92_ok {l : Launch} {G : ab_G} {S : ab_S} {I : ab_I} {J : ab_J} {P : ab_P} {Q : ab_Q} {a1 : Int32} {s0 : Int32} (hB : bz_B S P) {x : Int32 × ab_I} (H : fX12_hush_92 a1 s0 I = some x) (K0 : Q (some (.int x.1)) S x.2 J P) : ab_WP l G mX12_hush 7 92 [some (.ref 73), some (.int a1), none, none, none] [.int s0] S I J P 0 0 Q := by
  unfold fX12_hush_92 at H
  obtain rfl := Option.some.inj H
  exact ab_iret (by decide +kernel) rfl (Nat.le_refl _) (Nat.le_refl _) K0
def fX12_hush_74 (a1 : Int32) (a2 : Int32) (a3 : Int32) (a4 : Int32) (I : ab_I) : Option ((Int32 × Int32 × Int32 × ab_I) ⊕ (Int32 × ab_I)) :=
  some (.inl (a2, a3, (a4 + (-1 : Int32)), I))
set_option maxRecDepth 100000 in
theorem fX12_hush_74_ok {l : Launch} {G : ab_G} {S : ab_S} {I : ab_I} {J : ab_J} {P : ab_P} {Q : ab_Q} {a1 : Int32} {a2 : Int32} {a3 : Int32} {a4 : Int32} (hB : bz_B S P) {x : ((Int32 × Int32 × Int32 × ab_I) ⊕ (Int32 × ab_I))} (H : fX12_hush_74 a1 a2 a3 a4 I = some x) (K1 : ∀ s, x = (.inl s) → ab_WP l G mX12_hush 7 24 [some (.ref 73), some (.int a1), some (.int s.1), some (.int s.2.1), some (.int s.2.2.1)] [] S s.2.2.2 J P 0 0 Q) (K0 : ∀ r, x = (.inr r) → Q (some (.int r.1)) S r.2 J P) : ab_WP l G mX12_hush 7 74 [some (.ref 73), some (.int a1), some (.int a2), some (.int a3), some (.int a4)] [] S I J P 0 0 Q := by
  unfold fX12_hush_74 at H
  refine ab_iinc (i := 4) (z := -1) (v := (a4 + (-1 : Int32))) (by decide +kernel) rfl rfl (by decide) rfl ?_
  refine ab_ls (ls' := [some (.ref 73), some (.int a1), some (.int a2), some (.int a3), some (.int (a4 + (-1 : Int32)))]) rfl ?_
  refine ab_goto (off := -53) (tgt := 24) (by decide +kernel) rfl ?_
  exact ab_wk (ab_le_some (ab_le_some (ab_le_some (ab_le_some (ab_le_some (ab_le_nil)))))) (K1 (a2, a3, (a4 + (-1 : Int32)), I) (Option.some.inj H).symm)
def fX12_hush_80 (a1 : Int32) (a3 : Int32) (I : ab_I) : Option (Int32 × ab_I) :=
  if a1 = 0 then
    (fX12_members a3).bind fun u8 =>
    fX12_hush_92 a1 u8 I
  else
    fX12_hush_92 a1 a3 I
set_option maxRecDepth 100000 in
theorem fX12_hush_80_ok {l : Launch} {G : ab_G} {S : ab_S} {I : ab_I} {J : ab_J} {P : ab_P} {Q : ab_Q} {a1 : Int32} {a3 : Int32} (hB : bz_B S P) {x : Int32 × ab_I} (H : fX12_hush_80 a1 a3 I = some x) (K0 : Q (some (.int x.1)) S x.2 J P) : ab_WP l G mX12_hush 7 80 [some (.ref 73), some (.int a1), none, some (.int a3), none] [] S I J P 0 0 Q := by
  unfold fX12_hush_80 at H
  refine ab_iload_n (z := 1) (by decide +kernel) rfl rfl ?_
  refine ab_if_ne (off := 10) (tgt := 91) (by decide +kernel) rfl (fun hc => ?_) (fun hc => ?_)
  · replace H := ab_ifn H hc
    refine ab_iload_n (z := 3) (by decide +kernel) rfl rfl ?_
    exact ab_wk (ab_le_some (ab_le_some (ab_le_none (ab_le_none (ab_le_none (ab_le_nil)))))) (fX12_hush_92_ok hB H  K0)
  · replace H := ab_ifp H hc
    refine ab_iload_n (z := 3) (by decide +kernel) rfl rfl ?_
    obtain ⟨u8, hu8, H⟩ := ab_bd_of H
    refine ksX12_members (D := 0) (ix := 283) (by decide +kernel) tw_1512 (by decide) (Nat.le_of_ble_eq_true rfl) (mX12_members_ok hB hu8 ?_)
    change ab_WP l G mX12_hush 7 88 [some (.ref 73), some (.int a1), none, some (.int a3), none] [.int u8] S I J P 0 0 Q
    refine ab_goto (off := 4) (tgt := 92) (by decide +kernel) rfl ?_
    exact ab_wk (ab_le_some (ab_le_some (ab_le_none (ab_le_none (ab_le_none (ab_le_nil)))))) (fX12_hush_92_ok hB H  K0)
def fX12_hush_24 (a1 : Int32) (a2 : Int32) (a3 : Int32) (a4 : Int32) (I : ab_I) : Option ((Int32 × Int32 × Int32 × ab_I) ⊕ (Int32 × ab_I)) :=
  if a4 < 0 then
    (fX12_hush_80 a1 a3 I).map .inr
  else
    if (a4 &&& (a2 ^^^ (-1 : Int32))) = 0 then
      (fX12_members a4).bind fun u3 =>
      (fX12_members a3).bind fun u4 =>
      if u3 ≤ u4 then
        (fX12_dayWithout a4 I).bind fun u5 =>
        (fX12_silentOnes u5.2).bind fun u6 =>
        (fX12_allBells u5.2).bind fun u7 =>
        if u6 = u7 then
          fX12_hush_74 a1 a2 a4 a4 u5.2
        else
          fX12_hush_74 a1 a2 a3 a4 u5.2
      else
        fX12_hush_74 a1 a2 a3 a4 I
    else
      fX12_hush_74 a1 a2 a3 a4 I
set_option maxRecDepth 100000 in
theorem fX12_hush_24_ok {l : Launch} {G : ab_G} {S : ab_S} {I : ab_I} {J : ab_J} {P : ab_P} {Q : ab_Q} {a1 : Int32} {a2 : Int32} {a3 : Int32} {a4 : Int32} (hB : bz_B S P) {x : ((Int32 × Int32 × Int32 × ab_I) ⊕ (Int32 × ab_I))} (H : fX12_hush_24 a1 a2 a3 a4 I = some x) (K1 : ∀ s, x = (.inl s) → ab_WP l G mX12_hush 7 24 [some (.ref 73), some (.int a1), some (.int s.1), some (.int s.2.1), some (.int s.2.2.1)] [] S s.2.2.2 J P 0 0 Q) (K0 : ∀ r, x = (.inr r) → Q (some (.int r.1)) S r.2 J P) : ab_WP l G mX12_hush 7 24 [some (.ref 73), some (.int a1), some (.int a2), some (.int a3), some (.int a4)] [] S I J P 0 0 Q := by
  unfold fX12_hush_24 at H
  refine ab_iload (i := 4) (by decide +kernel) rfl ?_
  refine ab_if_lt (off := 54) (tgt := 80) (by decide +kernel) rfl (fun hc => ?_) (fun hc => ?_)
  · replace H := ab_ifp H hc
    obtain ⟨y2, Hy, hx⟩ := ab_mp_of H
    subst hx
    replace H := Hy
    exact ab_wk (ab_le_some (ab_le_some (ab_le_none (ab_le_some (ab_le_none (ab_le_nil)))))) (fX12_hush_80_ok hB H  (K0 _ rfl))
  · replace H := ab_ifn H hc
    refine ab_iload (i := 4) (by decide +kernel) rfl ?_
    refine ab_iload_n (z := 2) (by decide +kernel) rfl rfl ?_
    refine ab_iconst (z := -1) (v := (-1 : Int32)) (by decide +kernel) (by decide) ?_
    refine ab_ixor (by decide +kernel) ?_
    refine ab_iand (by decide +kernel) ?_
    refine ab_if_ne (off := 39) (tgt := 74) (by decide +kernel) rfl (fun hc => ?_) (fun hc => ?_)
    · replace H := ab_ifn H hc
      exact ab_wk (ab_le_some (ab_le_some (ab_le_some (ab_le_some (ab_le_some (ab_le_nil)))))) (fX12_hush_74_ok hB H K1 K0)
    · replace H := ab_ifp H hc
      refine ab_iload (i := 4) (by decide +kernel) rfl ?_
      obtain ⟨u3, hu3, H⟩ := ab_bd_of H
      refine ksX12_members (D := 0) (ix := 283) (by decide +kernel) tw_1512 (by decide) (Nat.le_of_ble_eq_true rfl) (mX12_members_ok hB hu3 ?_)
      change ab_WP l G mX12_hush 7 43 [some (.ref 73), some (.int a1), some (.int a2), some (.int a3), some (.int a4)] [.int u3] S I J P 0 0 Q
      refine ab_iload_n (z := 3) (by decide +kernel) rfl rfl ?_
      obtain ⟨u4, hu4, H⟩ := ab_bd_of H
      refine ksX12_members (D := 0) (ix := 283) (by decide +kernel) tw_1512 (by decide) (Nat.le_of_ble_eq_true rfl) (mX12_members_ok hB hu4 ?_)
      change ab_WP l G mX12_hush 7 47 [some (.ref 73), some (.int a1), some (.int a2), some (.int a3), some (.int a4)] [.int u4, .int u3] S I J P 0 0 Q
      refine ab_icmp_le (off := 6) (tgt := 53) (by decide +kernel) rfl (fun hc => ?_) (fun hc => ?_)
      · replace H := ab_ifp H hc
        refine ab_aload_n (z := 0) (by decide +kernel) rfl rfl ?_
        refine ab_iload (i := 4) (by decide +kernel) rfl ?_
        obtain ⟨u5, hu5, H⟩ := ab_bd_of H
        refine kvX12_dayWithout (D := 6) (ix := 439) (by decide +kernel) tw_1618 (hB.1 73 _ rfl) (by decide) (Nat.le_of_ble_eq_true rfl) (mX12_dayWithout_ok hB hu5 ?_)
        change ab_WP l G mX12_hush 7 59 [some (.ref 73), some (.int a1), some (.int a2), some (.int a3), some (.int a4)] [.int u5.1] S u5.2 J P 0 0 Q
        refine ab_pop (by decide +kernel) rfl ?_
        refine ab_aload_n (z := 0) (by decide +kernel) rfl rfl ?_
        obtain ⟨u6, hu6, H⟩ := ab_bd_of H
        refine kvX12_silentOnes (D := 1) (ix := 442) (by decide +kernel) tw_1622 (hB.1 73 _ rfl) (by decide) (Nat.le_of_ble_eq_true rfl) (mX12_silentOnes_ok hB hu6 ?_)
        change ab_WP l G mX12_hush 7 64 [some (.ref 73), some (.int a1), some (.int a2), some (.int a3), some (.int a4)] [.int u6] S u5.2 J P 0 0 Q
        refine ab_aload_n (z := 0) (by decide +kernel) rfl rfl ?_
        obtain ⟨u7, hu7, H⟩ := ab_bd_of H
        refine kvX12_allBells (D := 0) (ix := 461) (by decide +kernel) tw_1658 (hB.1 73 _ rfl) (by decide) (Nat.le_of_ble_eq_true rfl) (mX12_allBells_ok hB hu7 ?_)
        change ab_WP l G mX12_hush 7 68 [some (.ref 73), some (.int a1), some (.int a2), some (.int a3), some (.int a4)] [.int u7, .int u6] S u5.2 J P 0 0 Q
        refine ab_icmp_ne (off := 6) (tgt := 74) (by decide +kernel) rfl (fun hc => ?_) (fun hc => ?_)
        · replace H := ab_ifn H hc
          exact ab_wk (ab_le_some (ab_le_some (ab_le_some (ab_le_some (ab_le_some (ab_le_nil)))))) (fX12_hush_74_ok hB H K1 K0)
        · replace H := ab_ifp H hc
          refine ab_iload (i := 4) (by decide +kernel) rfl ?_
          refine ab_istore_n (z := 3) (by decide +kernel) rfl (by decide) rfl ?_
          refine ab_ls (ls' := [some (.ref 73), some (.int a1), some (.int a2), some (.int a4), some (.int a4)]) rfl ?_
          exact ab_wk (ab_le_some (ab_le_some (ab_le_some (ab_le_some (ab_le_some (ab_le_nil)))))) (fX12_hush_74_ok hB H K1 K0)
      · replace H := ab_ifn H hc
        refine ab_goto (off := 24) (tgt := 74) (by decide +kernel) rfl ?_
        exact ab_wk (ab_le_some (ab_le_some (ab_le_some (ab_le_some (ab_le_some (ab_le_nil)))))) (fX12_hush_74_ok hB H K1 K0)
def fX12_hush (a1 : Int32) (I : ab_I) : Option (Int32 × ab_I) :=
  (fX12_isIn a1 (0 : Int32) (1 : Int32)).bind fun u1 =>
  if u1 = 0 then
    some ((-1 : Int32), I)
  else
    ab_gd (ab_ix (12 : Int32) 45 = true) (
      ab_it (fun s => fX12_hush_24 a1 s.1 s.2.1 s.2.2.1 s.2.2.2) 5000 ((I 89 ((12 : Int32).toNatClampNeg)), (I 89 ((12 : Int32).toNatClampNeg)), (I 89 ((12 : Int32).toNatClampNeg)), I)
    )
set_option maxRecDepth 100000 in
theorem mX12_hush_ok {l : Launch} {G : ab_G} {S : ab_S} {I : ab_I} {J : ab_J} {P : ab_P} {Q : ab_Q} {a1 : Int32} (hB : bz_B S P) {x : Int32 × ab_I} (H : fX12_hush a1 I = some x) (K0 : Q (some (.int x.1)) S x.2 J P) : ab_Call l G mX12_hush 7 [.ref 73, .int a1] S I J P Q := by
  unfold fX12_hush at H
  refine ab_enter rfl (Nat.le_of_ble_eq_true rfl) (ab_wk (ls' := [some (.ref 73), some (.int a1), none, none, none]) (ab_le_some (ab_le_some (ab_le_non0 (ab_le_non0 (ab_le_non0 ab_le_nil))))) ?_)
  refine ab_iload_n (z := 1) (by decide +kernel) rfl rfl ?_
  refine ab_iconst (z := 0) (v := (0 : Int32)) (by decide +kernel) (by decide) ?_
  refine ab_iconst (z := 1) (v := (1 : Int32)) (by decide +kernel) (by decide) ?_
  obtain ⟨u1, hu1, H⟩ := ab_bd_of H
  refine ksX12_isIn (D := 0) (ix := 384) (by decide +kernel) tw_1474 (by decide) (Nat.le_of_ble_eq_true rfl) (mX12_isIn_ok hB hu1 ?_)
  change ab_WP l G mX12_hush 7 6 [some (.ref 73), some (.int a1), none, none, none] [.int u1] S I J P 0 0 Q
  refine ab_if_ne (off := 5) (tgt := 11) (by decide +kernel) rfl (fun hc => ?_) (fun hc => ?_)
  · replace H := ab_ifn H hc
    refine ab_aload_n (z := 0) (by decide +kernel) rfl rfl ?_
    refine gX12_46 (ix := 60) (by decide +kernel) tw_1127 (hB.1 73 _ rfl) (hB.2.1 94 (73, 46, 89) rfl) ?_
    refine ab_bipush (z := 12) (v := (12 : Int32)) (by decide +kernel) (by decide) ?_
    obtain ⟨hg, H⟩ := ab_gd_of H
    refine ab_iald (ln := 45) (by decide +kernel) (hB.1 89 _ rfl) (ab_ix_in hg) ?_
    refine ab_istore_n (z := 2) (by decide +kernel) rfl (by decide) rfl ?_
    refine ab_ls (ls' := [some (.ref 73), some (.int a1), some (.int (I 89 ((12 : Int32).toNatClampNeg))), none, none]) rfl ?_
    refine ab_iload_n (z := 2) (by decide +kernel) rfl rfl ?_
    refine ab_istore_n (z := 3) (by decide +kernel) rfl (by decide) rfl ?_
    refine ab_ls (ls' := [some (.ref 73), some (.int a1), some (.int (I 89 ((12 : Int32).toNatClampNeg))), some (.int (I 89 ((12 : Int32).toNatClampNeg))), none]) rfl ?_
    refine ab_iload_n (z := 2) (by decide +kernel) rfl rfl ?_
    refine ab_istore (i := 4) (by decide +kernel) (by decide) rfl ?_
    refine ab_ls (ls' := [some (.ref 73), some (.int a1), some (.int (I 89 ((12 : Int32).toNatClampNeg))), some (.int (I 89 ((12 : Int32).toNatClampNeg))), some (.int (I 89 ((12 : Int32).toNatClampNeg)))]) rfl ?_
    exact ab_wk (ab_le_some (ab_le_some (ab_le_some (ab_le_some (ab_le_some (ab_le_nil)))))) (ab_iter (body := (fun s => fX12_hush_24 a1 s.1 s.2.1 s.2.2.1 s.2.2.2)) (W := fun s => ab_WP l G mX12_hush 7 24 [some (.ref 73), some (.int a1), some (.int s.1), some (.int s.2.1), some (.int s.2.2.1)] [] S s.2.2.2 J P 0 0 Q) (fun s y hb h1 h2 => fX12_hush_24_ok hB hb h1 (fun r e => by have e2 := h2 _ e; subst e2; exact K0)) 5000 ((I 89 ((12 : Int32).toNatClampNeg)), (I 89 ((12 : Int32).toNatClampNeg)), (I 89 ((12 : Int32).toNatClampNeg)), I) H)
  · replace H := ab_ifp H hc
    refine ab_iconst (z := -1) (v := (-1 : Int32)) (by decide +kernel) (by decide) ?_
    obtain rfl := Option.some.inj H
    exact ab_iret (by decide +kernel) rfl (Nat.le_refl _) (Nat.le_refl _) K0
abbrev mX12_spare : ab_M := (yX12_spare, cX12_spare, 6, some .int, 0, 0)
def fX12_spare_89 (a1 : Int32) (s0 : Int32) (I : ab_I) : Option (Int32 × ab_I) :=
  some (s0, I)
set_option maxRecDepth 100000 in
theorem fX12_spare_89_ok {l : Launch} {G : ab_G} {S : ab_S} {I : ab_I} {J : ab_J} {P : ab_P} {Q : ab_Q} {a1 : Int32} {s0 : Int32} (hB : bz_B S P) {x : Int32 × ab_I} (H : fX12_spare_89 a1 s0 I = some x) (K0 : Q (some (.int x.1)) S x.2 J P) : ab_WP l G mX12_spare 7 89 [some (.ref 73), some (.int a1), none, none, none, none] [.int s0] S I J P 0 0 Q := by
  unfold fX12_spare_89 at H
  obtain rfl := Option.some.inj H
  exact ab_iret (by decide +kernel) rfl (Nat.le_refl _) (Nat.le_refl _) K0
def fX12_spare_66 (a1 : Int32) (a2 : Int32) (a3 : Int32) (a4 : Int32) (I : ab_I) : Option ((Int32 × Int32 × Int32 × ab_I) ⊕ (Int32 × ab_I)) :=
  some (.inl (a2, a3, (a4 + (1 : Int32)), I))
set_option maxRecDepth 100000 in
theorem fX12_spare_66_ok {l : Launch} {G : ab_G} {S : ab_S} {I : ab_I} {J : ab_J} {P : ab_P} {Q : ab_Q} {a1 : Int32} {a2 : Int32} {a3 : Int32} {a4 : Int32} (hB : bz_B S P) {x : ((Int32 × Int32 × Int32 × ab_I) ⊕ (Int32 × ab_I))} (H : fX12_spare_66 a1 a2 a3 a4 I = some x) (K1 : ∀ s, x = (.inl s) → ab_WP l G mX12_spare 7 20 [some (.ref 73), some (.int a1), some (.int s.1), some (.int s.2.1), some (.int s.2.2.1), none] [] S s.2.2.2 J P 0 0 Q) (K0 : ∀ r, x = (.inr r) → Q (some (.int r.1)) S r.2 J P) : ab_WP l G mX12_spare 7 66 [some (.ref 73), some (.int a1), some (.int a2), some (.int a3), some (.int a4), none] [] S I J P 0 0 Q := by
  unfold fX12_spare_66 at H
  refine ab_iinc (i := 4) (z := 1) (v := (a4 + (1 : Int32))) (by decide +kernel) rfl rfl (by decide) rfl ?_
  refine ab_ls (ls' := [some (.ref 73), some (.int a1), some (.int a2), some (.int a3), some (.int (a4 + (1 : Int32))), none]) rfl ?_
  refine ab_goto (off := -49) (tgt := 20) (by decide +kernel) rfl ?_
  exact ab_wk (ab_le_some (ab_le_some (ab_le_some (ab_le_some (ab_le_some (ab_le_none (ab_le_nil))))))) (K1 (a2, a3, (a4 + (1 : Int32)), I) (Option.some.inj H).symm)
def fX12_spare_72 (a1 : Int32) (a2 : Int32) (a3 : Int32) (I : ab_I) : Option (Int32 × ab_I) :=
  if 0 ≤ a2 then
    if a1 = 0 then
      fX12_spare_89 a1 a2 I
    else
      fX12_spare_89 a1 a3 I
  else
    fX12_spare_89 a1 (-1 : Int32) I
set_option maxRecDepth 100000 in
theorem fX12_spare_72_ok {l : Launch} {G : ab_G} {S : ab_S} {I : ab_I} {J : ab_J} {P : ab_P} {Q : ab_Q} {a1 : Int32} {a2 : Int32} {a3 : Int32} (hB : bz_B S P) {x : Int32 × ab_I} (H : fX12_spare_72 a1 a2 a3 I = some x) (K0 : Q (some (.int x.1)) S x.2 J P) : ab_WP l G mX12_spare 7 72 [some (.ref 73), some (.int a1), some (.int a2), some (.int a3), none, none] [] S I J P 0 0 Q := by
  unfold fX12_spare_72 at H
  refine ab_iload_n (z := 2) (by decide +kernel) rfl rfl ?_
  refine ab_if_ge (off := 7) (tgt := 80) (by decide +kernel) rfl (fun hc => ?_) (fun hc => ?_)
  · replace H := ab_ifp H hc
    refine ab_iload_n (z := 1) (by decide +kernel) rfl rfl ?_
    refine ab_if_ne (off := 7) (tgt := 88) (by decide +kernel) rfl (fun hc => ?_) (fun hc => ?_)
    · replace H := ab_ifn H hc
      refine ab_iload_n (z := 3) (by decide +kernel) rfl rfl ?_
      exact ab_wk (ab_le_some (ab_le_some (ab_le_none (ab_le_none (ab_le_none (ab_le_none (ab_le_nil))))))) (fX12_spare_89_ok hB H  K0)
    · replace H := ab_ifp H hc
      refine ab_iload_n (z := 2) (by decide +kernel) rfl rfl ?_
      refine ab_goto (off := 4) (tgt := 89) (by decide +kernel) rfl ?_
      exact ab_wk (ab_le_some (ab_le_some (ab_le_none (ab_le_none (ab_le_none (ab_le_none (ab_le_nil))))))) (fX12_spare_89_ok hB H  K0)
  · replace H := ab_ifn H hc
    refine ab_iconst (z := -1) (v := (-1 : Int32)) (by decide +kernel) (by decide) ?_
    refine ab_goto (off := 12) (tgt := 89) (by decide +kernel) rfl ?_
    exact ab_wk (ab_le_some (ab_le_some (ab_le_none (ab_le_none (ab_le_none (ab_le_none (ab_le_nil))))))) (fX12_spare_89_ok hB H  K0)
def fX12_spare_20 (a1 : Int32) (a2 : Int32) (a3 : Int32) (a4 : Int32) (I : ab_I) : Option ((Int32 × Int32 × Int32 × ab_I) ⊕ (Int32 × ab_I)) :=
  if (I 73 39) ≤ a4 then
    (fX12_spare_72 a1 a2 a3 I).map .inr
  else
    (fX12_isThere a4 I).bind fun u3 =>
    if u3 = 0 then
      fX12_spare_66 a1 a2 a3 a4 I
    else
      (fX12_dayWithout ((1 : Int32) <<< (a4 &&& 31)) I).bind fun u4 =>
      if u4.1 < a3 then
        fX12_spare_66 a1 a4 u4.1 a4 u4.2
      else
        fX12_spare_66 a1 a2 a3 a4 u4.2
set_option maxRecDepth 100000 in
theorem fX12_spare_20_ok {l : Launch} {G : ab_G} {S : ab_S} {I : ab_I} {J : ab_J} {P : ab_P} {Q : ab_Q} {a1 : Int32} {a2 : Int32} {a3 : Int32} {a4 : Int32} (hB : bz_B S P) {x : ((Int32 × Int32 × Int32 × ab_I) ⊕ (Int32 × ab_I))} (H : fX12_spare_20 a1 a2 a3 a4 I = some x) (K1 : ∀ s, x = (.inl s) → ab_WP l G mX12_spare 7 20 [some (.ref 73), some (.int a1), some (.int s.1), some (.int s.2.1), some (.int s.2.2.1), none] [] S s.2.2.2 J P 0 0 Q) (K0 : ∀ r, x = (.inr r) → Q (some (.int r.1)) S r.2 J P) : ab_WP l G mX12_spare 7 20 [some (.ref 73), some (.int a1), some (.int a2), some (.int a3), some (.int a4), none] [] S I J P 0 0 Q := by
  unfold fX12_spare_20 at H
  refine ab_iload (i := 4) (by decide +kernel) rfl ?_
  refine ab_aload_n (z := 0) (by decide +kernel) rfl rfl ?_
  refine gX12_39 (ix := 348) (by decide +kernel) tw_1120 (hB.1 73 _ rfl) ?_
  refine ab_icmp_ge (off := 46) (tgt := 72) (by decide +kernel) rfl (fun hc => ?_) (fun hc => ?_)
  · replace H := ab_ifp H hc
    obtain ⟨y2, Hy, hx⟩ := ab_mp_of H
    subst hx
    replace H := Hy
    exact ab_wk (ab_le_some (ab_le_some (ab_le_some (ab_le_some (ab_le_none (ab_le_none (ab_le_nil))))))) (fX12_spare_72_ok hB H  (K0 _ rfl))
  · replace H := ab_ifn H hc
    refine ab_aload_n (z := 0) (by decide +kernel) rfl rfl ?_
    refine ab_iload (i := 4) (by decide +kernel) rfl ?_
    obtain ⟨u3, hu3, H⟩ := ab_bd_of H
    refine kvX12_isThere (D := 0) (ix := 430) (by decide +kernel) tw_1562 (hB.1 73 _ rfl) (by decide) (Nat.le_of_ble_eq_true rfl) (mX12_isThere_ok hB hu3 ?_)
    change ab_WP l G mX12_spare 7 35 [some (.ref 73), some (.int a1), some (.int a2), some (.int a3), some (.int a4), none] [.int u3] S I J P 0 0 Q
    refine ab_if_ne (off := 6) (tgt := 41) (by decide +kernel) rfl (fun hc => ?_) (fun hc => ?_)
    · replace H := ab_ifn H hc
      refine ab_aload_n (z := 0) (by decide +kernel) rfl rfl ?_
      refine ab_iconst (z := 1) (v := (1 : Int32)) (by decide +kernel) (by decide) ?_
      refine ab_iload (i := 4) (by decide +kernel) rfl ?_
      refine ab_ishl (by decide +kernel) ?_
      obtain ⟨u4, hu4, H⟩ := ab_bd_of H
      refine kvX12_dayWithout (D := 6) (ix := 439) (by decide +kernel) tw_1618 (hB.1 73 _ rfl) (by decide) (Nat.le_of_ble_eq_true rfl) (mX12_dayWithout_ok hB hu4 ?_)
      change ab_WP l G mX12_spare 7 49 [some (.ref 73), some (.int a1), some (.int a2), some (.int a3), some (.int a4), none] [.int u4.1] S u4.2 J P 0 0 Q
      refine ab_istore (i := 5) (by decide +kernel) (by decide) rfl ?_
      refine ab_ls (ls' := [some (.ref 73), some (.int a1), some (.int a2), some (.int a3), some (.int a4), some (.int u4.1)]) rfl ?_
      refine ab_iload (i := 5) (by decide +kernel) rfl ?_
      refine ab_iload_n (z := 3) (by decide +kernel) rfl rfl ?_
      refine ab_icmp_lt (off := 6) (tgt := 60) (by decide +kernel) rfl (fun hc => ?_) (fun hc => ?_)
      · replace H := ab_ifp H hc
        refine ab_iload (i := 4) (by decide +kernel) rfl ?_
        refine ab_istore_n (z := 2) (by decide +kernel) rfl (by decide) rfl ?_
        refine ab_ls (ls' := [some (.ref 73), some (.int a1), some (.int a4), some (.int a3), some (.int a4), some (.int u4.1)]) rfl ?_
        refine ab_iload (i := 5) (by decide +kernel) rfl ?_
        refine ab_istore_n (z := 3) (by decide +kernel) rfl (by decide) rfl ?_
        refine ab_ls (ls' := [some (.ref 73), some (.int a1), some (.int a4), some (.int u4.1), some (.int a4), some (.int u4.1)]) rfl ?_
        exact ab_wk (ab_le_some (ab_le_some (ab_le_some (ab_le_some (ab_le_some (ab_le_none (ab_le_nil))))))) (fX12_spare_66_ok hB H K1 K0)
      · replace H := ab_ifn H hc
        refine ab_goto (off := 9) (tgt := 66) (by decide +kernel) rfl ?_
        exact ab_wk (ab_le_some (ab_le_some (ab_le_some (ab_le_some (ab_le_some (ab_le_none (ab_le_nil))))))) (fX12_spare_66_ok hB H K1 K0)
    · replace H := ab_ifp H hc
      refine ab_goto (off := 28) (tgt := 66) (by decide +kernel) rfl ?_
      exact ab_wk (ab_le_some (ab_le_some (ab_le_some (ab_le_some (ab_le_some (ab_le_none (ab_le_nil))))))) (fX12_spare_66_ok hB H K1 K0)
def fX12_spare (a1 : Int32) (I : ab_I) : Option (Int32 × ab_I) :=
  (fX12_isIn a1 (0 : Int32) (1 : Int32)).bind fun u1 =>
  if u1 = 0 then
    some ((-1 : Int32), I)
  else
    ab_it (fun s => fX12_spare_20 a1 s.1 s.2.1 s.2.2.1 s.2.2.2) 5000 ((-1 : Int32), (1000000 : Int32), (0 : Int32), I)
set_option maxRecDepth 100000 in
theorem mX12_spare_ok {l : Launch} {G : ab_G} {S : ab_S} {I : ab_I} {J : ab_J} {P : ab_P} {Q : ab_Q} {a1 : Int32} (hB : bz_B S P) {x : Int32 × ab_I} (H : fX12_spare a1 I = some x) (K0 : Q (some (.int x.1)) S x.2 J P) : ab_Call l G mX12_spare 7 [.ref 73, .int a1] S I J P Q := by
  unfold fX12_spare at H
  refine ab_enter rfl (Nat.le_of_ble_eq_true rfl) (ab_wk (ls' := [some (.ref 73), some (.int a1), none, none, none, none]) (ab_le_some (ab_le_some (ab_le_non0 (ab_le_non0 (ab_le_non0 (ab_le_non0 ab_le_nil)))))) ?_)
  refine ab_iload_n (z := 1) (by decide +kernel) rfl rfl ?_
  refine ab_iconst (z := 0) (v := (0 : Int32)) (by decide +kernel) (by decide) ?_
  refine ab_iconst (z := 1) (v := (1 : Int32)) (by decide +kernel) (by decide) ?_
  obtain ⟨u1, hu1, H⟩ := ab_bd_of H
  refine ksX12_isIn (D := 0) (ix := 384) (by decide +kernel) tw_1474 (by decide) (Nat.le_of_ble_eq_true rfl) (mX12_isIn_ok hB hu1 ?_)
  change ab_WP l G mX12_spare 7 6 [some (.ref 73), some (.int a1), none, none, none, none] [.int u1] S I J P 0 0 Q
  refine ab_if_ne (off := 5) (tgt := 11) (by decide +kernel) rfl (fun hc => ?_) (fun hc => ?_)
  · replace H := ab_ifn H hc
    refine ab_iconst (z := -1) (v := (-1 : Int32)) (by decide +kernel) (by decide) ?_
    refine ab_istore_n (z := 2) (by decide +kernel) rfl (by decide) rfl ?_
    refine ab_ls (ls' := [some (.ref 73), some (.int a1), some (.int (-1 : Int32)), none, none, none]) rfl ?_
    refine ab_ldcw (ix := 448) (v := (1000000 : Int32)) (by decide +kernel) tw_1630 ?_
    refine ab_istore_n (z := 3) (by decide +kernel) rfl (by decide) rfl ?_
    refine ab_ls (ls' := [some (.ref 73), some (.int a1), some (.int (-1 : Int32)), some (.int (1000000 : Int32)), none, none]) rfl ?_
    refine ab_iconst (z := 0) (v := (0 : Int32)) (by decide +kernel) (by decide) ?_
    refine ab_istore (i := 4) (by decide +kernel) (by decide) rfl ?_
    refine ab_ls (ls' := [some (.ref 73), some (.int a1), some (.int (-1 : Int32)), some (.int (1000000 : Int32)), some (.int (0 : Int32)), none]) rfl ?_
    exact ab_wk (ab_le_some (ab_le_some (ab_le_some (ab_le_some (ab_le_some (ab_le_none (ab_le_nil))))))) (ab_iter (body := (fun s => fX12_spare_20 a1 s.1 s.2.1 s.2.2.1 s.2.2.2)) (W := fun s => ab_WP l G mX12_spare 7 20 [some (.ref 73), some (.int a1), some (.int s.1), some (.int s.2.1), some (.int s.2.2.1), none] [] S s.2.2.2 J P 0 0 Q) (fun s y hb h1 h2 => fX12_spare_20_ok hB hb h1 (fun r e => by have e2 := h2 _ e; subst e2; exact K0)) 5000 ((-1 : Int32), (1000000 : Int32), (0 : Int32), I) H)
  · replace H := ab_ifp H hc
    refine ab_iconst (z := -1) (v := (-1 : Int32)) (by decide +kernel) (by decide) ?_
    obtain rfl := Option.some.inj H
    exact ab_iret (by decide +kernel) rfl (Nat.le_refl _) (Nat.le_refl _) K0
abbrev mX12_losingOf : ab_M := (yX12_losingOf, cX12_losingOf, 4, some .int, 0, 0)
theorem kvX12_losingOf {l : Launch} {G : ab_G} {M : ab_M} {d pc : Nat} {ls : List (Option Value)} {st : List Value} {S : ab_S} {I : ab_I} {J : ab_J} {P : ab_P} {Q : ab_Q} {v0 : Value} {ix D r ln : Nat} (hd : decode M.2.1 pc = .ok (.invokevirtual ix, 3)) (h1 : Cond.methodLink M.1.cls ix mX12_losingOf.1 ∈ ab_good) (hs : S[r]? = some (17, ln)) (hdg : D + 1 ≤ d) (hsum : (st.map fun v => v.category).sum ≤ 8) (kk : ab_Call l G mX12_losingOf D (.ref r :: [v0]) S I J P (fun v S' I' J' P' => ab_WP l G M d (pc + 3) ls (ab_psh v st) S' I' J' P' 0 0 Q)) : ab_WP l G M d pc ls (v0 :: .ref r :: st) S I J P 0 0 Q := bz_kv (g := mX12_losingOf) (as := [v0]) (cc := 12) rfl hd h1 tw_1672 tw_p84 tw_13 tw_1673 ⟨by decide +kernel, by decide +kernel, (by decide +kernel : (parseMethodDescriptor mX12_losingOf.1.desc).map (fun d => d.parameters.length) = some 1)⟩ (by decide) rfl rfl rfl hdg hsum hs kk
def fX12_losingOf_35 (a1 : Int32) (I : ab_I) (a2 : Int32) : Option Int32 :=
  some a2
set_option maxRecDepth 100000 in
theorem fX12_losingOf_35_ok {l : Launch} {G : ab_G} {S : ab_S} {I : ab_I} {J : ab_J} {P : ab_P} {Q : ab_Q} {a1 : Int32} {a2 : Int32} (hB : bz_B S P) {x : Int32} (H : fX12_losingOf_35 a1 I a2 = some x) (K0 : Q (some (.int x)) S I J P) : ab_WP l G mX12_losingOf 2 35 [some (.ref 73), some (.int a1), some (.int a2), none] [] S I J P 0 0 Q := by
  unfold fX12_losingOf_35 at H
  refine ab_iload_n (z := 2) (by decide +kernel) rfl rfl ?_
  obtain rfl := Option.some.inj H
  exact ab_iret (by decide +kernel) rfl (Nat.le_refl _) (Nat.le_refl _) K0
def fX12_losingOf_29 (a1 : Int32) (I : ab_I) (a2 : Int32) (a3 : Int32) : Option ((Int32 × Int32) ⊕ Int32) :=
  some (.inl (a2, (a3 + (1 : Int32))))
set_option maxRecDepth 100000 in
theorem fX12_losingOf_29_ok {l : Launch} {G : ab_G} {S : ab_S} {I : ab_I} {J : ab_J} {P : ab_P} {Q : ab_Q} {a1 : Int32} {a2 : Int32} {a3 : Int32} (hB : bz_B S P) {x : ((Int32 × Int32) ⊕ Int32)} (H : fX12_losingOf_29 a1 I a2 a3 = some x) (K1 : ∀ s, x = (.inl s) → ab_WP l G mX12_losingOf 2 4 [some (.ref 73), some (.int a1), some (.int s.1), some (.int s.2)] [] S I J P 0 0 Q) (K0 : ∀ r, x = (.inr r) → Q (some (.int r)) S I J P) : ab_WP l G mX12_losingOf 2 29 [some (.ref 73), some (.int a1), some (.int a2), some (.int a3)] [] S I J P 0 0 Q := by
  unfold fX12_losingOf_29 at H
  refine ab_iinc (i := 3) (z := 1) (v := (a3 + (1 : Int32))) (by decide +kernel) rfl rfl (by decide) rfl ?_
  refine ab_ls (ls' := [some (.ref 73), some (.int a1), some (.int a2), some (.int (a3 + (1 : Int32)))]) rfl ?_
  refine ab_goto (off := -28) (tgt := 4) (by decide +kernel) rfl ?_
  exact ab_wk (ab_le_some (ab_le_some (ab_le_some (ab_le_some (ab_le_nil))))) (K1 (a2, (a3 + (1 : Int32))) (Option.some.inj H).symm)
def fX12_losingOf_4 (a1 : Int32) (I : ab_I) (a2 : Int32) (a3 : Int32) : Option ((Int32 × Int32) ⊕ Int32) :=
  if (I 73 39) ≤ a3 then
    (fX12_losingOf_35 a1 I a2).map .inr
  else
    if ((a1 >>> (a3 &&& 31)) &&& (1 : Int32)) = (1 : Int32) then
      (fX12_losing a3 I).bind fun u2 =>
      fX12_losingOf_29 a1 I (a2 ||| u2) a3
    else
      fX12_losingOf_29 a1 I a2 a3
set_option maxRecDepth 100000 in
theorem fX12_losingOf_4_ok {l : Launch} {G : ab_G} {S : ab_S} {I : ab_I} {J : ab_J} {P : ab_P} {Q : ab_Q} {a1 : Int32} {a2 : Int32} {a3 : Int32} (hB : bz_B S P) {x : ((Int32 × Int32) ⊕ Int32)} (H : fX12_losingOf_4 a1 I a2 a3 = some x) (K1 : ∀ s, x = (.inl s) → ab_WP l G mX12_losingOf 2 4 [some (.ref 73), some (.int a1), some (.int s.1), some (.int s.2)] [] S I J P 0 0 Q) (K0 : ∀ r, x = (.inr r) → Q (some (.int r)) S I J P) : ab_WP l G mX12_losingOf 2 4 [some (.ref 73), some (.int a1), some (.int a2), some (.int a3)] [] S I J P 0 0 Q := by
  unfold fX12_losingOf_4 at H
  refine ab_iload_n (z := 3) (by decide +kernel) rfl rfl ?_
  refine ab_aload_n (z := 0) (by decide +kernel) rfl rfl ?_
  refine gX12_39 (ix := 348) (by decide +kernel) tw_1120 (hB.1 73 _ rfl) ?_
  refine ab_icmp_ge (off := 26) (tgt := 35) (by decide +kernel) rfl (fun hc => ?_) (fun hc => ?_)
  · replace H := ab_ifp H hc
    obtain ⟨y1, Hy, hx⟩ := ab_mp_of H
    subst hx
    replace H := Hy
    exact ab_wk (ab_le_some (ab_le_some (ab_le_some (ab_le_none (ab_le_nil))))) (fX12_losingOf_35_ok hB H  (K0 _ rfl))
  · replace H := ab_ifn H hc
    refine ab_iload_n (z := 1) (by decide +kernel) rfl rfl ?_
    refine ab_iload_n (z := 3) (by decide +kernel) rfl rfl ?_
    refine ab_ishr (by decide +kernel) ?_
    refine ab_iconst (z := 1) (v := (1 : Int32)) (by decide +kernel) (by decide) ?_
    refine ab_iand (by decide +kernel) ?_
    refine ab_iconst (z := 1) (v := (1 : Int32)) (by decide +kernel) (by decide) ?_
    refine ab_icmp_ne (off := 11) (tgt := 29) (by decide +kernel) rfl (fun hc => ?_) (fun hc => ?_)
    · replace H := ab_ifn H hc
      exact ab_wk (ab_le_some (ab_le_some (ab_le_some (ab_le_some (ab_le_nil))))) (fX12_losingOf_29_ok hB H K1 K0)
    · replace H := ab_ifp H hc
      refine ab_iload_n (z := 2) (by decide +kernel) rfl rfl ?_
      refine ab_aload_n (z := 0) (by decide +kernel) rfl rfl ?_
      refine ab_iload_n (z := 3) (by decide +kernel) rfl rfl ?_
      obtain ⟨u2, hu2, H⟩ := ab_bd_of H
      refine kvX12_losing (D := 1) (ix := 414) (by decide +kernel) tw_1488 (hB.1 73 _ rfl) (by decide) (Nat.le_of_ble_eq_true rfl) (mX12_losing_ok hB hu2 ?_)
      change ab_WP l G mX12_losingOf 2 27 [some (.ref 73), some (.int a1), some (.int a2), some (.int a3)] [.int u2, .int a2] S I J P 0 0 Q
      refine ab_ior (by decide +kernel) ?_
      refine ab_istore_n (z := 2) (by decide +kernel) rfl (by decide) rfl ?_
      refine ab_ls (ls' := [some (.ref 73), some (.int a1), some (.int (a2 ||| u2)), some (.int a3)]) rfl ?_
      exact ab_wk (ab_le_some (ab_le_some (ab_le_some (ab_le_some (ab_le_nil))))) (fX12_losingOf_29_ok hB H K1 K0)
def fX12_losingOf (a1 : Int32) (I : ab_I) : Option Int32 :=
  ab_it (fun s => fX12_losingOf_4 a1 I s.1 s.2) 5000 ((0 : Int32), (0 : Int32))
set_option maxRecDepth 100000 in
theorem mX12_losingOf_ok {l : Launch} {G : ab_G} {S : ab_S} {I : ab_I} {J : ab_J} {P : ab_P} {Q : ab_Q} {a1 : Int32} (hB : bz_B S P) {x : Int32} (H : fX12_losingOf a1 I = some x) (K0 : Q (some (.int x)) S I J P) : ab_Call l G mX12_losingOf 2 [.ref 73, .int a1] S I J P Q := by
  unfold fX12_losingOf at H
  refine ab_enter rfl (Nat.le_of_ble_eq_true rfl) (ab_wk (ls' := [some (.ref 73), some (.int a1), none, none]) (ab_le_some (ab_le_some (ab_le_non0 (ab_le_non0 ab_le_nil)))) ?_)
  refine ab_iconst (z := 0) (v := (0 : Int32)) (by decide +kernel) (by decide) ?_
  refine ab_istore_n (z := 2) (by decide +kernel) rfl (by decide) rfl ?_
  refine ab_ls (ls' := [some (.ref 73), some (.int a1), some (.int (0 : Int32)), none]) rfl ?_
  refine ab_iconst (z := 0) (v := (0 : Int32)) (by decide +kernel) (by decide) ?_
  refine ab_istore_n (z := 3) (by decide +kernel) rfl (by decide) rfl ?_
  refine ab_ls (ls' := [some (.ref 73), some (.int a1), some (.int (0 : Int32)), some (.int (0 : Int32))]) rfl ?_
  exact ab_wk (ab_le_some (ab_le_some (ab_le_some (ab_le_some (ab_le_nil))))) (ab_iter (body := (fun s => fX12_losingOf_4 a1 I s.1 s.2)) (W := fun s => ab_WP l G mX12_losingOf 2 4 [some (.ref 73), some (.int a1), some (.int s.1), some (.int s.2)] [] S I J P 0 0 Q) (fun s y hb h1 h2 => fX12_losingOf_4_ok hB hb h1 (fun r e => by have e2 := h2 _ e; subst e2; exact K0)) 5000 ((0 : Int32), (0 : Int32)) H)
