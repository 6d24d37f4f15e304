abbrev mX3_fewestForAll : ab_M := (yX3_fewestForAll, cX3_fewestForAll, 6, some .int, 0, 0)
theorem kvX3_fewestForAll {l : Launch} {G : ab_G} {M : ab_M} {d pc : Nat} {ls : List (Option Value)} {st : List Value} {S : ab_S} {I : ab_I} {J : ab_J} {P : ab_P} {Q : ab_Q} {v0 : Value} {ix D r ln : Nat} (hd : decode M.2.1 pc = .ok (.invokevirtual ix, 3)) (h1 : Cond.methodLink M.1.cls ix mX3_fewestForAll.1 ∈ ab_good) (hs : S[r]? = some (8, ln)) (hdg : D + 1 ≤ d) (hsum : (st.map fun v => v.category).sum ≤ 8) (kk : ab_Call l G mX3_fewestForAll D (.ref r :: [v0]) S I J P (fun v S' I' J' P' => ab_WP l G M d (pc + 3) ls (ab_psh v st) S' I' J' P' 0 0 Q)) : ab_WP l G M d pc ls (v0 :: .ref r :: st) S I J P 0 0 Q := bz_kv (g := mX3_fewestForAll) (as := [v0]) (cc := 3) rfl hd h1 tw_859 tw_860 tw_10 tw_861 ⟨by decide +kernel, by decide +kernel, (by decide +kernel : (parseMethodDescriptor mX3_fewestForAll.1.desc).map (fun d => d.parameters.length) = some 1)⟩ (by decide) rfl rfl rfl hdg hsum hs kk
def fX3_fewestForAll_88 (q1 : Nat) (I : ab_I) (a3 : Int32) : Option Int32 :=
  some a3
set_option maxRecDepth 100000 in
theorem fX3_fewestForAll_88_ok {l : Launch} {G : ab_G} {S : ab_S} {I : ab_I} {J : ab_J} {P : ab_P} {Q : ab_Q} {q1 : Nat} {a3 : Int32} (hB : bz_B S P) (hq1 : bz_st S P q1) {x : Int32} (H : fX3_fewestForAll_88 q1 I a3 = some x) (K0 : Q (some (.int x)) S I J P) : ab_WP l G mX3_fewestForAll 3 88 [some (.ref 34), some (.ref q1), none, some (.int a3), none, none] [] S I J P 0 0 Q := by
  unfold fX3_fewestForAll_88 at H
  refine ab_iload_n (z := 3) (by decide +kernel) rfl rfl ?_
  obtain rfl := Option.some.inj H
  exact ab_iret (by decide +kernel) rfl (Nat.le_refl _) (Nat.le_refl _) K0
def fX3_fewestForAll_82 (q1 : Nat) (I : ab_I) (a2 : Int32) (a3 : Int32) (a4 : Int32) : Option ((Int32 × Int32 × Int32) ⊕ Int32) :=
  some (.inl (a2, a3, (a4 + (1 : Int32))))
set_option maxRecDepth 100000 in
theorem fX3_fewestForAll_82_ok {l : Launch} {G : ab_G} {S : ab_S} {I : ab_I} {J : ab_J} {P : ab_P} {Q : ab_Q} {q1 : Nat} {a2 : Int32} {a3 : Int32} {a4 : Int32} (hB : bz_B S P) (hq1 : bz_st S P q1) {x : ((Int32 × Int32 × Int32) ⊕ Int32)} (H : fX3_fewestForAll_82 q1 I a2 a3 a4 = some x) (K1 : ∀ s, x = (.inl s) → ab_WP l G mX3_fewestForAll 3 18 [some (.ref 34), some (.ref q1), some (.int s.1), some (.int s.2.1), some (.int s.2.2), none] [] S I J P 0 0 Q) (K0 : ∀ r, x = (.inr r) → Q (some (.int r)) S I J P) : ab_WP l G mX3_fewestForAll 3 82 [some (.ref 34), some (.ref q1), some (.int a2), some (.int a3), some (.int a4), none] [] S I J P 0 0 Q := by
  unfold fX3_fewestForAll_82 at H
  refine ab_iinc (i := 4) (z := 1) (v := (a4 + (1 : Int32))) (by decide +kernel) rfl rfl (by decide) rfl ?_
  refine ab_ls (ls' := [some (.ref 34), some (.ref q1), some (.int a2), some (.int a3), some (.int (a4 + (1 : Int32))), none]) rfl ?_
  refine ab_goto (off := -67) (tgt := 18) (by decide +kernel) rfl ?_
  exact ab_wk (ab_le_some (ab_le_some (ab_le_some (ab_le_some (ab_le_some (ab_le_none (ab_le_nil))))))) (K1 (a2, a3, (a4 + (1 : Int32))) (Option.some.inj H).symm)
def fX3_fewestForAll_49 (q1 : Nat) (I : ab_I) (a2 : Int32) (a3 : Int32) (a4 : Int32) (s0 : Int32) : Option ((Int32 × Int32 × Int32) ⊕ Int32) :=
  if s0 = 0 then
    fX3_fewestForAll_82 q1 I a2 a3 a4
  else
    if (a4 &&& ((I q1 3) ^^^ (-1 : Int32))) = 0 then
      (fX3_fearedBy q1 a4 I).bind fun u5 =>
      if u5 = a2 then
        fX3_fewestForAll_82 q1 I a2 a4 a4
      else
        fX3_fewestForAll_82 q1 I a2 a3 a4
    else
      fX3_fewestForAll_82 q1 I a2 a3 a4
set_option maxRecDepth 100000 in
theorem fX3_fewestForAll_49_ok {l : Launch} {G : ab_G} {S : ab_S} {I : ab_I} {J : ab_J} {P : ab_P} {Q : ab_Q} {q1 : Nat} {a2 : Int32} {a3 : Int32} {a4 : Int32} {s0 : Int32} (hB : bz_B S P) (hq1 : bz_st S P q1) {x : ((Int32 × Int32 × Int32) ⊕ Int32)} (H : fX3_fewestForAll_49 q1 I a2 a3 a4 s0 = some x) (K1 : ∀ s, x = (.inl s) → ab_WP l G mX3_fewestForAll 3 18 [some (.ref 34), some (.ref q1), some (.int s.1), some (.int s.2.1), some (.int s.2.2), none] [] S I J P 0 0 Q) (K0 : ∀ r, x = (.inr r) → Q (some (.int r)) S I J P) : ab_WP l G mX3_fewestForAll 3 49 [some (.ref 34), some (.ref q1), some (.int a2), some (.int a3), some (.int a4), none] [.int s0] S I J P 0 0 Q := by
  unfold fX3_fewestForAll_49 at H
  refine ab_istore (i := 5) (by decide +kernel) (by decide) rfl ?_
  refine ab_ls (ls' := [some (.ref 34), some (.ref q1), some (.int a2), some (.int a3), some (.int a4), some (.int s0)]) rfl ?_
  refine ab_iload (i := 5) (by decide +kernel) rfl ?_
  refine ab_if_eq (off := 29) (tgt := 82) (by decide +kernel) rfl (fun hc => ?_) (fun hc => ?_)
  · replace H := ab_ifp H hc
    exact ab_wk (ab_le_some (ab_le_some (ab_le_some (ab_le_some (ab_le_some (ab_le_none (ab_le_nil))))))) (fX3_fewestForAll_82_ok hB hq1 H K1 K0)
  · replace H := ab_ifn H hc
    refine ab_iload (i := 4) (by decide +kernel) rfl ?_
    refine ab_aload_n (z := 1) (by decide +kernel) rfl rfl ?_
    refine gX6_3 (ix := 72) (by decide +kernel) tw_257 hq1.1 ?_
    refine ab_iconst (z := -1) (v := (-1 : Int32)) (by decide +kernel) (by decide) ?_
    refine ab_ixor (by decide +kernel) ?_
    refine ab_iand (by decide +kernel) ?_
    refine ab_if_ne (off := 17) (tgt := 82) (by decide +kernel) rfl (fun hc => ?_) (fun hc => ?_)
    · replace H := ab_ifn H hc
      exact ab_wk (ab_le_some (ab_le_some (ab_le_some (ab_le_some (ab_le_some (ab_le_none (ab_le_nil))))))) (fX3_fewestForAll_82_ok hB hq1 H K1 K0)
    · replace H := ab_ifp H hc
      refine ab_aload_n (z := 0) (by decide +kernel) rfl rfl ?_
      refine ab_aload_n (z := 1) (by decide +kernel) rfl rfl ?_
      refine ab_iload (i := 4) (by decide +kernel) rfl ?_
      obtain ⟨u5, hu5, H⟩ := ab_bd_of H
      refine kvX3_fearedBy (D := 2) (ix := 89) (by decide +kernel) tw_862 (hB.1 34 _ rfl) (by decide) (Nat.le_of_ble_eq_true rfl) (mX3_fearedBy_ok hB hq1 hu5 ?_)
      change ab_WP l G mX3_fewestForAll 3 75 [some (.ref 34), some (.ref q1), some (.int a2), some (.int a3), some (.int a4), some (.int s0)] [.int u5] S I J P 0 0 Q
      refine ab_iload_n (z := 2) (by decide +kernel) rfl rfl ?_
      refine ab_icmp_ne (off := 6) (tgt := 82) (by decide +kernel) rfl (fun hc => ?_) (fun hc => ?_)
      · replace H := ab_ifn H hc
        exact ab_wk (ab_le_some (ab_le_some (ab_le_some (ab_le_some (ab_le_some (ab_le_none (ab_le_nil))))))) (fX3_fewestForAll_82_ok hB hq1 H K1 K0)
      · replace H := ab_ifp H hc
        refine ab_iload (i := 4) (by decide +kernel) rfl ?_
        refine ab_istore_n (z := 3) (by decide +kernel) rfl (by decide) rfl ?_
        refine ab_ls (ls' := [some (.ref 34), some (.ref q1), some (.int a2), some (.int a4), some (.int a4), some (.int s0)]) rfl ?_
        exact ab_wk (ab_le_some (ab_le_some (ab_le_some (ab_le_some (ab_le_some (ab_le_none (ab_le_nil))))))) (fX3_fewestForAll_82_ok hB hq1 H K1 K0)
def fX3_fewestForAll_18 (q1 : Nat) (I : ab_I) (a2 : Int32) (a3 : Int32) (a4 : Int32) : Option ((Int32 × Int32 × Int32) ⊕ Int32) :=
  if ((1 : Int32) <<< ((I 3 4) &&& 31)) ≤ a4 then
    (fX3_fewestForAll_88 q1 I a3).map .inr
  else
    (fJ6_bitCount_0f7a4 a4).bind fun u3 =>
    (fJ6_bitCount_0f7a4 a3).bind fun u4 =>
    if u4 ≤ u3 then
      fX3_fewestForAll_49 q1 I a2 a3 a4 (0 : Int32)
    else
      fX3_fewestForAll_49 q1 I a2 a3 a4 (1 : Int32)
set_option maxRecDepth 100000 in
theorem fX3_fewestForAll_18_ok {l : Launch} {G : ab_G} {S : ab_S} {I : ab_I} {J : ab_J} {P : ab_P} {Q : ab_Q} {q1 : Nat} {a2 : Int32} {a3 : Int32} {a4 : Int32} (hB : bz_B S P) (hq1 : bz_st S P q1) {x : ((Int32 × Int32 × Int32) ⊕ Int32)} (H : fX3_fewestForAll_18 q1 I a2 a3 a4 = some x) (K1 : ∀ s, x = (.inl s) → ab_WP l G mX3_fewestForAll 3 18 [some (.ref 34), some (.ref q1), some (.int s.1), some (.int s.2.1), some (.int s.2.2), none] [] S I J P 0 0 Q) (K0 : ∀ r, x = (.inr r) → Q (some (.int r)) S I J P) : ab_WP l G mX3_fewestForAll 3 18 [some (.ref 34), some (.ref q1), some (.int a2), some (.int a3), some (.int a4), none] [] S I J P 0 0 Q := by
  unfold fX3_fewestForAll_18 at H
  refine ab_iload (i := 4) (by decide +kernel) rfl ?_
  refine ab_iconst (z := 1) (v := (1 : Int32)) (by decide +kernel) (by decide) ?_
  refine ab_aload_n (z := 0) (by decide +kernel) rfl rfl ?_
  refine gX3_0 (ix := 32) (by decide +kernel) tw_313 (hB.1 34 _ rfl) (hB.2.1 42 (34, 0, 3) rfl) ?_
  refine gX9_4 (ix := 79) (by decide +kernel) tw_90 (hB.1 3 _ rfl) ?_
  refine ab_ishl (by decide +kernel) ?_
  refine ab_icmp_ge (off := 59) (tgt := 88) (by decide +kernel) rfl (fun hc => ?_) (fun hc => ?_)
  · replace H := ab_ifp H hc
    obtain ⟨y2, Hy, hx⟩ := ab_mp_of H
    subst hx
    replace H := Hy
    exact ab_wk (ab_le_some (ab_le_some (ab_le_none (ab_le_some (ab_le_none (ab_le_none (ab_le_nil))))))) (fX3_fewestForAll_88_ok hB hq1 H  (K0 _ rfl))
  · replace H := ab_ifn H hc
    refine ab_iload (i := 4) (by decide +kernel) rfl ?_
    obtain ⟨u3, hu3, H⟩ := ab_bd_of H
    refine ksJ6_bitCount_0f7a4 (D := 0) (ix := 93) (by decide +kernel) tw_867 (by decide) (Nat.le_of_ble_eq_true rfl) (mJ6_bitCount_0f7a4_ok hB hu3 ?_)
    change ab_WP l G mX3_fewestForAll 3 37 [some (.ref 34), some (.ref q1), some (.int a2), some (.int a3), some (.int a4), none] [.int u3] S I J P 0 0 Q
    refine ab_iload_n (z := 3) (by decide +kernel) rfl rfl ?_
    obtain ⟨u4, hu4, H⟩ := ab_bd_of H
    refine ksJ6_bitCount_0f7a4 (D := 0) (ix := 93) (by decide +kernel) tw_867 (by decide) (Nat.le_of_ble_eq_true rfl) (mJ6_bitCount_0f7a4_ok hB hu4 ?_)
    change ab_WP l G mX3_fewestForAll 3 41 [some (.ref 34), some (.ref q1), some (.int a2), some (.int a3), some (.int a4), none] [.int u4, .int u3] S I J P 0 0 Q
    refine ab_icmp_ge (off := 7) (tgt := 48) (by decide +kernel) rfl (fun hc => ?_) (fun hc => ?_)
    · replace H := ab_ifp H hc
      refine ab_iconst (z := 0) (v := (0 : Int32)) (by decide +kernel) (by decide) ?_
      exact ab_wk (ab_le_some (ab_le_some (ab_le_some (ab_le_some (ab_le_some (ab_le_none (ab_le_nil))))))) (fX3_fewestForAll_49_ok hB hq1 H K1 K0)
    · replace H := ab_ifn H hc
      refine ab_iconst (z := 1) (v := (1 : Int32)) (by decide +kernel) (by decide) ?_
      refine ab_goto (off := 4) (tgt := 49) (by decide +kernel) rfl ?_
      exact ab_wk (ab_le_some (ab_le_some (ab_le_some (ab_le_some (ab_le_some (ab_le_none (ab_le_nil))))))) (fX3_fewestForAll_49_ok hB hq1 H K1 K0)
def fX3_fewestForAll (q1 : Nat) (I : ab_I) : Option Int32 :=
  (fX3_fearedBy q1 (I q1 3) I).bind fun u1 =>
  ab_it (fun s => fX3_fewestForAll_18 q1 I s.1 s.2.1 s.2.2) 5000 (u1, (I q1 3), (0 : Int32))
set_option maxRecDepth 100000 in
theorem mX3_fewestForAll_ok {l : Launch} {G : ab_G} {S : ab_S} {I : ab_I} {J : ab_J} {P : ab_P} {Q : ab_Q} {q1 : Nat} (hB : bz_B S P) (hq1 : bz_st S P q1) {x : Int32} (H : fX3_fewestForAll q1 I = some x) (K0 : Q (some (.int x)) S I J P) : ab_Call l G mX3_fewestForAll 3 [.ref 34, .ref q1] S I J P Q := by
  unfold fX3_fewestForAll at H
  refine ab_enter rfl (Nat.le_of_ble_eq_true rfl) (ab_wk (ls' := [some (.ref 34), some (.ref q1), none, none, none, none]) (ab_le_some (ab_le_some (ab_le_non0 (ab_le_non0 (ab_le_non0 (ab_le_non0 ab_le_nil)))))) ?_)
  refine ab_aload_n (z := 0) (by decide +kernel) rfl rfl ?_
  refine ab_aload_n (z := 1) (by decide +kernel) rfl rfl ?_
  refine ab_aload_n (z := 1) (by decide +kernel) rfl rfl ?_
  refine gX6_3 (ix := 72) (by decide +kernel) tw_257 hq1.1 ?_
  obtain ⟨u1, hu1, H⟩ := ab_bd_of H
  refine kvX3_fearedBy (D := 2) (ix := 89) (by decide +kernel) tw_862 (hB.1 34 _ rfl) (by decide) (Nat.le_of_ble_eq_true rfl) (mX3_fearedBy_ok hB hq1 hu1 ?_)
  change ab_WP l G mX3_fewestForAll 3 9 [some (.ref 34), some (.ref q1), none, none, none, none] [.int u1] S I J P 0 0 Q
  refine ab_istore_n (z := 2) (by decide +kernel) rfl (by decide) rfl ?_
  refine ab_ls (ls' := [some (.ref 34), some (.ref q1), some (.int u1), none, none, none]) rfl ?_
  refine ab_aload_n (z := 1) (by decide +kernel) rfl rfl ?_
  refine gX6_3 (ix := 72) (by decide +kernel) tw_257 hq1.1 ?_
  refine ab_istore_n (z := 3) (by decide +kernel) rfl (by decide) rfl ?_
  refine ab_ls (ls' := [some (.ref 34), some (.ref q1), some (.int u1), some (.int (I q1 3)), none, none]) rfl ?_
  refine ab_iconst (z := 0) (v := (0 : Int32)) (by decide +kernel) (by decide) ?_
  refine ab_istore (i := 4) (by decide +kernel) (by decide) rfl ?_
  refine ab_ls (ls' := [some (.ref 34), some (.ref q1), some (.int u1), some (.int (I q1 3)), some (.int (0 : Int32)), none]) rfl ?_
  exact ab_wk (ab_le_some (ab_le_some (ab_le_some (ab_le_some (ab_le_some (ab_le_none (ab_le_nil))))))) (ab_iter (W := fun s => ab_WP l G mX3_fewestForAll 3 18 [some (.ref 34), some (.ref q1), some (.int s.1), some (.int s.2.1), some (.int s.2.2), none] [] S I J P 0 0 Q) (fun s y hb h1 h2 => fX3_fewestForAll_18_ok hB hq1 hb h1 (fun r e => by have e2 := h2 _ e; subst e2; exact K0)) 5000 (u1, (I q1 3), (0 : Int32)) H)
abbrev mX11_chorus : ab_M := (yX11_chorus, cX11_chorus, 3, some .int, 0, 0)
def fX11_chorus_35 (a1 : Int32) (I : ab_I) (P : ab_P) (s0 : Int32) : Option Int32 :=
  some s0
set_option maxRecDepth 100000 in
theorem fX11_chorus_35_ok {l : Launch} {G : ab_G} {S : ab_S} {I : ab_I} {J : ab_J} {P : ab_P} {Q : ab_Q} {a1 : Int32} {s0 : Int32} (hB : bz_B S P) {x : Int32} (H : fX11_chorus_35 a1 I P s0 = some x) (K0 : Q (some (.int x)) S I J P) : ab_WP l G mX11_chorus 4 35 [some (.ref 0), some (.int a1), none] [.int s0] S I J P 0 0 Q := by
  unfold fX11_chorus_35 at H
  obtain rfl := Option.some.inj H
  exact ab_iret (by decide +kernel) rfl (Nat.le_refl _) (Nat.le_refl _) K0
def fX11_chorus (a1 : Int32) (I : ab_I) (P : ab_P) : Option Int32 :=
  (fX11_within a1 (0 : Int32) (1 : Int32)).bind fun u1 =>
  if u1 = 0 then
    some (-1 : Int32)
  else
    (P 0 12).bind fun z2 =>
    (fX3_fewestForAll z2 I).bind fun u3 =>
    if a1 = 0 then
      (fJ6_bitCount_0f7a4 u3).bind fun u4 =>
      fX11_chorus_35 a1 I P u4
    else
      fX11_chorus_35 a1 I P u3
set_option maxRecDepth 100000 in
theorem mX11_chorus_ok {l : Launch} {G : ab_G} {S : ab_S} {I : ab_I} {J : ab_J} {P : ab_P} {Q : ab_Q} {a1 : Int32} (hB : bz_B S P) {x : Int32} (H : fX11_chorus a1 I P = some x) (K0 : Q (some (.int x)) S I J P) : ab_Call l G mX11_chorus 4 [.ref 0, .int a1] S I J P Q := by
  unfold fX11_chorus at H
  refine ab_enter rfl (Nat.le_of_ble_eq_true rfl) (ab_wk (ls' := [some (.ref 0), some (.int a1), none]) (ab_le_some (ab_le_some (ab_le_non0 ab_le_nil))) ?_)
  refine ab_iload_n (z := 1) (by decide +kernel) rfl rfl ?_
  refine ab_iconst (z := 0) (v := (0 : Int32)) (by decide +kernel) (by decide) ?_
  refine ab_iconst (z := 1) (v := (1 : Int32)) (by decide +kernel) (by decide) ?_
  obtain ⟨u1, hu1, H⟩ := ab_bd_of H
  refine ksX11_within (D := 0) (ix := 191) (by decide +kernel) tw_746 (by decide) (Nat.le_of_ble_eq_true rfl) (mX11_within_ok hB hu1 ?_)
  change ab_WP l G mX11_chorus 4 6 [some (.ref 0), some (.int a1), none] [.int u1] S I J P 0 0 Q
  refine ab_if_ne (off := 5) (tgt := 11) (by decide +kernel) rfl (fun hc => ?_) (fun hc => ?_)
  · replace H := ab_ifn H hc
    refine ab_aload_n (z := 0) (by decide +kernel) rfl rfl ?_
    refine gX11_5 (ix := 53) (by decide +kernel) tw_413 (hB.1 0 _ rfl) (hB.2.1 5 (0, 5, 34) rfl) ?_
    refine ab_aload_n (z := 0) (by decide +kernel) rfl rfl ?_
    obtain ⟨z2, hz2, H⟩ := ab_bd_of H
    refine gX11_12 (ix := 89) (by decide +kernel) tw_420 (hB.1 0 _ rfl) hz2 ?_
    have sz2 := hB.2.2.1 _ hz2
    obtain ⟨u3, hu3, H⟩ := ab_bd_of H
    refine kvX3_fewestForAll (D := 3) (ix := 257) (by decide +kernel) tw_858 (hB.1 34 _ rfl) (by decide) (Nat.le_of_ble_eq_true rfl) (mX3_fewestForAll_ok hB sz2 hu3 ?_)
    change ab_WP l G mX11_chorus 4 22 [some (.ref 0), some (.int a1), none] [.int u3] S I J P 0 0 Q
    refine ab_istore_n (z := 2) (by decide +kernel) rfl (by decide) rfl ?_
    refine ab_ls (ls' := [some (.ref 0), some (.int a1), some (.int u3)]) rfl ?_
    refine ab_iload_n (z := 1) (by decide +kernel) rfl rfl ?_
    refine ab_if_ne (off := 10) (tgt := 34) (by decide +kernel) rfl (fun hc => ?_) (fun hc => ?_)
    · replace H := ab_ifn H hc
      refine ab_iload_n (z := 2) (by decide +kernel) rfl rfl ?_
      exact ab_wk (ab_le_some (ab_le_some (ab_le_none (ab_le_nil)))) (fX11_chorus_35_ok hB H  K0)
    · replace H := ab_ifp H hc
      refine ab_iload_n (z := 2) (by decide +kernel) rfl rfl ?_
      obtain ⟨u4, hu4, H⟩ := ab_bd_of H
      refine ksJ6_bitCount_0f7a4 (D := 0) (ix := 198) (by decide +kernel) tw_752 (by decide) (Nat.le_of_ble_eq_true rfl) (mJ6_bitCount_0f7a4_ok hB hu4 ?_)
      change ab_WP l G mX11_chorus 4 31 [some (.ref 0), some (.int a1), some (.int u3)] [.int u4] S I J P 0 0 Q
      refine ab_goto (off := 4) (tgt := 35) (by decide +kernel) rfl ?_
      exact ab_wk (ab_le_some (ab_le_some (ab_le_none (ab_le_nil)))) (fX11_chorus_35_ok hB H  K0)
  · replace H := ab_ifp H hc
    refine ab_iconst (z := -1) (v := (-1 : Int32)) (by decide +kernel) (by decide) ?_
    obtain rfl := Option.some.inj H
    exact ab_iret (by decide +kernel) rfl (Nat.le_refl _) (Nat.le_refl _) K0
abbrev mX1_leastToRing : ab_M := (yX1_leastToRing, cX1_leastToRing, 5, some .int, 0, 0)
theorem kvX1_leastToRing {l : Launch} {G : ab_G} {M : ab_M} {d pc : Nat} {ls : List (Option Value)} {st : List Value} {S : ab_S} {I : ab_I} {J : ab_J} {P : ab_P} {Q : ab_Q} {v0 v1 v2 : Value} {ix D r ln : Nat} (hd : decode M.2.1 pc = .ok (.invokevirtual ix, 3)) (h1 : Cond.methodLink M.1.cls ix mX1_leastToRing.1 ∈ ab_good) (hs : S[r]? = some (6, ln)) (hdg : D + 1 ≤ d) (hsum : (st.map fun v => v.category).sum ≤ 8) (kk : ab_Call l G mX1_leastToRing D (.ref r :: [v0, v1, v2]) S I J P (fun v S' I' J' P' => ab_WP l G M d (pc + 3) ls (ab_psh v st) S' I' J' P' 0 0 Q)) : ab_WP l G M d pc ls (v2 :: v1 :: v0 :: .ref r :: st) S I J P 0 0 Q := bz_kv (g := mX1_leastToRing) (as := [v0, v1, v2]) (cc := 1) rfl hd h1 tw_873 tw_874 tw_8 tw_875 ⟨by decide +kernel, by decide +kernel, (by decide +kernel : (parseMethodDescriptor mX1_leastToRing.1.desc).map (fun d => d.parameters.length) = some 3)⟩ (by decide) rfl rfl rfl hdg hsum hs kk
def fX1_leastToRing_68 (q1 : Nat) (a2 : Int32) (a3 : Int32) (I : ab_I) : Option (Int32 × ab_I) :=
  some ((-1 : Int32), I)
set_option maxRecDepth 100000 in
theorem fX1_leastToRing_68_ok {l : Launch} {G : ab_G} {S : ab_S} {I : ab_I} {J : ab_J} {P : ab_P} {Q : ab_Q} {q1 : Nat} {a2 : Int32} {a3 : Int32} (hB : bz_B S P) (hq1 : bz_st S P q1) {x : Int32 × ab_I} (H : fX1_leastToRing_68 q1 a2 a3 I = some x) (K0 : Q (some (.int x.1)) S x.2 J P) : ab_WP l G mX1_leastToRing 5 68 [some (.ref 25), some (.ref q1), some (.int a2), some (.int a3), none] [] S I J P 0 0 Q := by
  unfold fX1_leastToRing_68 at H
  refine ab_iconst (z := -1) (v := (-1 : Int32)) (by decide +kernel) (by decide) ?_
  obtain rfl := Option.some.inj H
  exact ab_iret (by decide +kernel) rfl (Nat.le_refl _) (Nat.le_refl _) K0
def fX1_leastToRing_59 (q1 : Nat) (a2 : Int32) (a3 : Int32) (a4 : Int32) (I : ab_I) : Option (Int32 × ab_I) :=
  some (a4, I)
set_option maxRecDepth 100000 in
theorem fX1_leastToRing_59_ok {l : Launch} {G : ab_G} {S : ab_S} {I : ab_I} {J : ab_J} {P : ab_P} {Q : ab_Q} {q1 : Nat} {a2 : Int32} {a3 : Int32} {a4 : Int32} (hB : bz_B S P) (hq1 : bz_st S P q1) {x : Int32 × ab_I} (H : fX1_leastToRing_59 q1 a2 a3 a4 I = some x) (K0 : Q (some (.int x.1)) S x.2 J P) : ab_WP l G mX1_leastToRing 5 59 [some (.ref 25), some (.ref q1), some (.int a2), some (.int a3), some (.int a4)] [] S I J P 0 0 Q := by
  unfold fX1_leastToRing_59 at H
  refine ab_iload (i := 4) (by decide +kernel) rfl ?_
  obtain rfl := Option.some.inj H
  exact ab_iret (by decide +kernel) rfl (Nat.le_refl _) (Nat.le_refl _) K0
def fX1_leastToRing_3 (q1 : Nat) (a2 : Int32) (a3 : Int32) (a4 : Int32) (I : ab_I) : Option ((Int32 × ab_I) ⊕ (Int32 × ab_I)) :=
  if (20 : Int32) < a4 then
    (fX1_leastToRing_68 q1 a2 a3 I).map .inr
  else
    (fX6_copyFrom 26 q1 I).bind fun u2 =>
    (fX11_cell a2 a3).bind fun u3 =>
    ab_gd (ab_ix u3 30 = true) (
      (fX5_passDay 26 (0 : Int32) (ab_u u2 (26 + 3) u3.toNatClampNeg a4)).bind fun u4 =>
      ab_gd (ab_ix a3 5 = true) (
        if (u4.2 24 a3.toNatClampNeg) = a2 then
          (fX1_leastToRing_59 q1 a2 a3 a4 u4.2).map .inr
        else
          some (.inl ((a4 + (1 : Int32)), u4.2))
      )
    )
set_option maxRecDepth 100000 in
theorem fX1_leastToRing_3_ok {l : Launch} {G : ab_G} {S : ab_S} {I : ab_I} {J : ab_J} {P : ab_P} {Q : ab_Q} {q1 : Nat} {a2 : Int32} {a3 : Int32} {a4 : Int32} (hB : bz_B S P) (hq1 : bz_st S P q1) {x : ((Int32 × ab_I) ⊕ (Int32 × ab_I))} (H : fX1_leastToRing_3 q1 a2 a3 a4 I = some x) (K1 : ∀ s, x = (.inl s) → ab_WP l G mX1_leastToRing 5 3 [some (.ref 25), some (.ref q1), some (.int a2), some (.int a3), some (.int s.1)] [] S s.2 J P 0 0 Q) (K0 : ∀ r, x = (.inr r) → Q (some (.int r.1)) S r.2 J P) : ab_WP l G mX1_leastToRing 5 3 [some (.ref 25), some (.ref q1), some (.int a2), some (.int a3), some (.int a4)] [] S I J P 0 0 Q := by
  unfold fX1_leastToRing_3 at H
  refine ab_iload (i := 4) (by decide +kernel) rfl ?_
  refine ab_bipush (z := 20) (v := (20 : Int32)) (by decide +kernel) (by decide) ?_
  refine ab_icmp_gt (off := 61) (tgt := 68) (by decide +kernel) rfl (fun hc => ?_) (fun hc => ?_)
  · replace H := ab_ifp H hc
    obtain ⟨y1, Hy, hx⟩ := ab_mp_of H
    subst hx
    replace H := Hy
    exact ab_wk (ab_le_some (ab_le_some (ab_le_some (ab_le_some (ab_le_none (ab_le_nil)))))) (fX1_leastToRing_68_ok hB hq1 H  (K0 _ rfl))
  · replace H := ab_ifn H hc
    refine ab_aload_n (z := 0) (by decide +kernel) rfl rfl ?_
    refine gX1_2 (ix := 12) (by decide +kernel) tw_283 (hB.1 25 _ rfl) (hB.2.1 34 (25, 2, 26) rfl) ?_
    refine ab_aload_n (z := 1) (by decide +kernel) rfl rfl ?_
    obtain ⟨u2, hu2, H⟩ := ab_bd_of H
    refine kvX6_copyFrom (D := 1) (ix := 39) (by decide +kernel) tw_653 (bz_st_26 hB).1 (by decide) (Nat.le_of_ble_eq_true rfl) (mX6_copyFrom_ok hB (bz_st_26 hB) hq1 hu2 ?_)
    change ab_WP l G mX1_leastToRing 5 18 [some (.ref 25), some (.ref q1), some (.int a2), some (.int a3), some (.int a4)] [] S u2 J P 0 0 Q
    refine ab_aload_n (z := 0) (by decide +kernel) rfl rfl ?_
    refine gX1_2 (ix := 12) (by decide +kernel) tw_283 (hB.1 25 _ rfl) (hB.2.1 34 (25, 2, 26) rfl) ?_
    refine gX6_2 (ix := 78) (by decide +kernel) tw_251 (bz_st_26 hB).1 (bz_st_26 hB).2.2.2.2.2.2 ?_
    refine ab_iload_n (z := 2) (by decide +kernel) rfl rfl ?_
    refine ab_iload_n (z := 3) (by decide +kernel) rfl rfl ?_
    obtain ⟨u3, hu3, H⟩ := ab_bd_of H
    refine knX11_cell (D := 0) (ix := 81) (host := "BellRingers") (by decide +kernel) tn_876 (by decide) (Nat.le_of_ble_eq_true rfl) (mX11_cell_ok hB hu3 ?_)
    change ab_WP l G mX1_leastToRing 5 30 [some (.ref 25), some (.ref q1), some (.int a2), some (.int a3), some (.int a4)] [.int u3, .ref (26 + 3)] S u2 J P 0 0 Q
    refine ab_iload (i := 4) (by decide +kernel) rfl ?_
    obtain ⟨hg, H⟩ := ab_gd_of H
    refine ab_iast (ln := 30) (by decide +kernel) (bz_st_26 hB).2.2.2.1 (ab_ix_in hg) ?_
    refine ab_aload_n (z := 0) (by decide +kernel) rfl rfl ?_
    refine gX1_1 (ix := 35) (by decide +kernel) tw_282 (hB.1 25 _ rfl) (hB.2.1 33 (25, 1, 23) rfl) ?_
    refine ab_aload_n (z := 0) (by decide +kernel) rfl rfl ?_
    refine gX1_2 (ix := 12) (by decide +kernel) tw_283 (hB.1 25 _ rfl) (hB.2.1 34 (25, 2, 26) rfl) ?_
    refine ab_iconst (z := 0) (v := (0 : Int32)) (by decide +kernel) (by decide) ?_
    obtain ⟨u4, hu4, H⟩ := ab_bd_of H
    refine kvX5_passDay (D := 4) (ix := 43) (by decide +kernel) tw_658 (hB.1 23 _ rfl) (by decide) (Nat.le_of_ble_eq_true rfl) (mX5_passDay_ok hB (bz_st_26 hB) hu4 ?_)
    change ab_WP l G mX1_leastToRing 5 45 [some (.ref 25), some (.ref q1), some (.int a2), some (.int a3), some (.int a4)] [.int u4.1] S u4.2 J P 0 0 Q
    refine ab_pop (by decide +kernel) rfl ?_
    refine ab_aload_n (z := 0) (by decide +kernel) rfl rfl ?_
    refine gX1_1 (ix := 35) (by decide +kernel) tw_282 (hB.1 25 _ rfl) (hB.2.1 33 (25, 1, 23) rfl) ?_
    refine gX5_1 (ix := 85) (by decide +kernel) tw_213 (hB.1 23 _ rfl) (hB.2.1 31 (23, 1, 24) rfl) ?_
    refine ab_iload_n (z := 3) (by decide +kernel) rfl rfl ?_
    obtain ⟨hg, H⟩ := ab_gd_of H
    refine ab_iald (ln := 5) (by decide +kernel) (hB.1 24 _ rfl) (ab_ix_in hg) ?_
    refine ab_iload_n (z := 2) (by decide +kernel) rfl rfl ?_
    refine ab_icmp_ne (off := 6) (tgt := 62) (by decide +kernel) rfl (fun hc => ?_) (fun hc => ?_)
    · replace H := ab_ifn H hc
      refine ab_iinc (i := 4) (z := 1) (v := (a4 + (1 : Int32))) (by decide +kernel) rfl rfl (by decide) rfl ?_
      refine ab_ls (ls' := [some (.ref 25), some (.ref q1), some (.int a2), some (.int a3), some (.int (a4 + (1 : Int32)))]) rfl ?_
      refine ab_goto (off := -62) (tgt := 3) (by decide +kernel) rfl ?_
      exact ab_wk (ab_le_some (ab_le_some (ab_le_some (ab_le_some (ab_le_some (ab_le_nil)))))) (K1 ((a4 + (1 : Int32)), u4.2) (Option.some.inj H).symm)
    · replace H := ab_ifp H hc
      obtain ⟨y5, Hy, hx⟩ := ab_mp_of H
      subst hx
      replace H := Hy
      exact ab_wk (ab_le_some (ab_le_some (ab_le_some (ab_le_some (ab_le_some (ab_le_nil)))))) (fX1_leastToRing_59_ok hB hq1 H  (K0 _ rfl))
def fX1_leastToRing (q1 : Nat) (a2 : Int32) (a3 : Int32) (I : ab_I) : Option (Int32 × ab_I) :=
  ab_it (fun s => fX1_leastToRing_3 q1 a2 a3 s.1 s.2) 5000 ((1 : Int32), I)
set_option maxRecDepth 100000 in
theorem mX1_leastToRing_ok {l : Launch} {G : ab_G} {S : ab_S} {I : ab_I} {J : ab_J} {P : ab_P} {Q : ab_Q} {q1 : Nat} {a2 : Int32} {a3 : Int32} (hB : bz_B S P) (hq1 : bz_st S P q1) {x : Int32 × ab_I} (H : fX1_leastToRing q1 a2 a3 I = some x) (K0 : Q (some (.int x.1)) S x.2 J P) : ab_Call l G mX1_leastToRing 5 [.ref 25, .ref q1, .int a2, .int a3] S I J P Q := by
  unfold fX1_leastToRing at H
  refine ab_enter rfl (Nat.le_of_ble_eq_true rfl) (ab_wk (ls' := [some (.ref 25), some (.ref q1), some (.int a2), some (.int a3), none]) (ab_le_some (ab_le_some (ab_le_some (ab_le_some (ab_le_non0 ab_le_nil))))) ?_)
  refine ab_iconst (z := 1) (v := (1 : Int32)) (by decide +kernel) (by decide) ?_
  refine ab_istore (i := 4) (by decide +kernel) (by decide) rfl ?_
  refine ab_ls (ls' := [some (.ref 25), some (.ref q1), some (.int a2), some (.int a3), some (.int (1 : Int32))]) rfl ?_
  exact ab_wk (ab_le_some (ab_le_some (ab_le_some (ab_le_some (ab_le_some (ab_le_nil)))))) (ab_iter (W := fun s => ab_WP l G mX1_leastToRing 5 3 [some (.ref 25), some (.ref q1), some (.int a2), some (.int a3), some (.int s.1)] [] S s.2 J P 0 0 Q) (fun s y hb h1 h2 => fX1_leastToRing_3_ok hB hq1 hb h1 (fun r e => by have e2 := h2 _ e; subst e2; exact K0)) 5000 ((1 : Int32), I) H)
abbrev mX11_wish : ab_M := (yX11_wish, cX11_wish, 3, some .int, 0, 0)
def fX11_wish_23 (a1 : Int32) (a2 : Int32) (P : ab_P) (I : ab_I) : Option (Int32 × ab_I) :=
  some ((-1 : Int32), I)
set_option maxRecDepth 100000 in
theorem fX11_wish_23_ok {l : Launch} {G : ab_G} {S : ab_S} {I : ab_I} {J : ab_J} {P : ab_P} {Q : ab_Q} {a1 : Int32} {a2 : Int32} (hB : bz_B S P) {x : Int32 × ab_I} (H : fX11_wish_23 a1 a2 P I = some x) (K0 : Q (some (.int x.1)) S x.2 J P) : ab_WP l G mX11_wish 6 23 [some (.ref 0), some (.int a1), some (.int a2)] [] S I J P 0 0 Q := by
  unfold fX11_wish_23 at H
  refine ab_iconst (z := -1) (v := (-1 : Int32)) (by decide +kernel) (by decide) ?_
  obtain rfl := Option.some.inj H
  exact ab_iret (by decide +kernel) rfl (Nat.le_refl _) (Nat.le_refl _) K0
def fX11_wish (a1 : Int32) (a2 : Int32) (I : ab_I) (P : ab_P) : Option (Int32 × ab_I) :=
  (fX9_isPair a1 a2 I).bind fun u1 =>
  if u1 = 0 then
    fX11_wish_23 a1 a2 P I
  else
    (P 0 12).bind fun z2 =>
    (fX6_isHere z2 a1 I).bind fun u3 =>
    if u3 = 0 then
      fX11_wish_23 a1 a2 P I
    else
      (P 0 12).bind fun z4 =>
      (fX1_leastToRing z4 a1 a2 I).bind fun u5 =>
      some (u5.1, u5.2)
set_option maxRecDepth 100000 in
theorem mX11_wish_ok {l : Launch} {G : ab_G} {S : ab_S} {I : ab_I} {J : ab_J} {P : ab_P} {Q : ab_Q} {a1 : Int32} {a2 : Int32} (hB : bz_B S P) {x : Int32 × ab_I} (H : fX11_wish a1 a2 I P = some x) (K0 : Q (some (.int x.1)) S x.2 J P) : ab_Call l G mX11_wish 6 [.ref 0, .int a1, .int a2] S I J P Q := by
  unfold fX11_wish at H
  refine ab_enter rfl (Nat.le_of_ble_eq_true rfl) (ab_wk (ls' := [some (.ref 0), some (.int a1), some (.int a2)]) (ab_le_some (ab_le_some (ab_le_some (ab_le_nil)))) ?_)
  refine ab_aload_n (z := 0) (by decide +kernel) rfl rfl ?_
  refine gX11_1 (ix := 19) (by decide +kernel) tw_409 (hB.1 0 _ rfl) (hB.2.1 1 (0, 1, 3) rfl) ?_
  refine ab_iload_n (z := 1) (by decide +kernel) rfl rfl ?_
  refine ab_iload_n (z := 2) (by decide +kernel) rfl rfl ?_
  obtain ⟨u1, hu1, H⟩ := ab_bd_of H
  refine kvX9_isPair (D := 1) (ix := 150) (by decide +kernel) tw_701 (hB.1 3 _ rfl) (by decide) (Nat.le_of_ble_eq_true rfl) (mX9_isPair_ok hB hu1 ?_)
  change ab_WP l G mX11_wish 6 9 [some (.ref 0), some (.int a1), some (.int a2)] [.int u1] S I J P 0 0 Q
  refine ab_if_eq (off := 14) (tgt := 23) (by decide +kernel) rfl (fun hc => ?_) (fun hc => ?_)
  · replace H := ab_ifp H hc
    exact ab_wk (ab_le_some (ab_le_some (ab_le_some (ab_le_nil)))) (fX11_wish_23_ok hB H  K0)
  · replace H := ab_ifn H hc
    refine ab_aload_n (z := 0) (by decide +kernel) rfl rfl ?_
    obtain ⟨z2, hz2, H⟩ := ab_bd_of H
    refine gX11_12 (ix := 89) (by decide +kernel) tw_420 (hB.1 0 _ rfl) hz2 ?_
    have sz2 := hB.2.2.1 _ hz2
    refine ab_iload_n (z := 1) (by decide +kernel) rfl rfl ?_
    obtain ⟨u3, hu3, H⟩ := ab_bd_of H
    refine kvX6_isHere (D := 0) (ix := 195) (by decide +kernel) tw_751 sz2.1 (by decide) (Nat.le_of_ble_eq_true rfl) (mX6_isHere_ok hB sz2 hu3 ?_)
    change ab_WP l G mX11_wish 6 20 [some (.ref 0), some (.int a1), some (.int a2)] [.int u3] S I J P 0 0 Q
    refine ab_if_ne (off := 5) (tgt := 25) (by decide +kernel) rfl (fun hc => ?_) (fun hc => ?_)
    · replace H := ab_ifn H hc
      refine ab_aload_n (z := 0) (by decide +kernel) rfl rfl ?_
      refine gX11_4 (ix := 46) (by decide +kernel) tw_412 (hB.1 0 _ rfl) (hB.2.1 4 (0, 4, 25) rfl) ?_
      refine ab_aload_n (z := 0) (by decide +kernel) rfl rfl ?_
      obtain ⟨z4, hz4, H⟩ := ab_bd_of H
      refine gX11_12 (ix := 89) (by decide +kernel) tw_420 (hB.1 0 _ rfl) hz4 ?_
      have sz4 := hB.2.2.1 _ hz4
      refine ab_iload_n (z := 1) (by decide +kernel) rfl rfl ?_
      refine ab_iload_n (z := 2) (by decide +kernel) rfl rfl ?_
      obtain ⟨u5, hu5, H⟩ := ab_bd_of H
      refine kvX1_leastToRing (D := 5) (ix := 260) (by decide +kernel) tw_872 (hB.1 25 _ rfl) (by decide) (Nat.le_of_ble_eq_true rfl) (mX1_leastToRing_ok hB sz4 hu5 ?_)
      change ab_WP l G mX11_wish 6 38 [some (.ref 0), some (.int a1), some (.int a2)] [.int u5.1] S u5.2 J P 0 0 Q
      obtain rfl := Option.some.inj H
      exact ab_iret (by decide +kernel) rfl (Nat.le_refl _) (Nat.le_refl _) K0
    · replace H := ab_ifp H hc
      exact ab_wk (ab_le_some (ab_le_some (ab_le_some (ab_le_nil)))) (fX11_wish_23_ok hB H  K0)
abbrev mX1_daysToNothing : ab_M := (yX1_daysToNothing, cX1_daysToNothing, 4, some .int, 0, 0)
theorem kvX1_daysToNothing {l : Launch} {G : ab_G} {M : ab_M} {d pc : Nat} {ls : List (Option Value)} {st : List Value} {S : ab_S} {I : ab_I} {J : ab_J} {P : ab_P} {Q : ab_Q} {v0 v1 : Value} {ix D r ln : Nat} (hd : decode M.2.1 pc = .ok (.invokevirtual ix, 3)) (h1 : Cond.methodLink M.1.cls ix mX1_daysToNothing.1 ∈ ab_good) (hs : S[r]? = some (6, ln)) (hdg : D + 1 ≤ d) (hsum : (st.map fun v => v.category).sum ≤ 8) (kk : ab_Call l G mX1_daysToNothing D (.ref r :: [v0, v1]) S I J P (fun v S' I' J' P' => ab_WP l G M d (pc + 3) ls (ab_psh v st) S' I' J' P' 0 0 Q)) : ab_WP l G M d pc ls (v1 :: v0 :: .ref r :: st) S I J P 0 0 Q := bz_kv (g := mX1_daysToNothing) (as := [v0, v1]) (cc := 1) rfl hd h1 tw_882 tw_883 tw_8 tw_884 ⟨by decide +kernel, by decide +kernel, (by decide +kernel : (parseMethodDescriptor mX1_daysToNothing.1.desc).map (fun d => d.parameters.length) = some 2)⟩ (by decide) rfl rfl rfl hdg hsum hs kk
def fX1_daysToNothing_49 (q1 : Nat) (a2 : Int32) (I : ab_I) : Option (Int32 × ab_I) :=
  some ((-1 : Int32), I)
set_option maxRecDepth 100000 in
theorem fX1_daysToNothing_49_ok {l : Launch} {G : ab_G} {S : ab_S} {I : ab_I} {J : ab_J} {P : ab_P} {Q : ab_Q} {q1 : Nat} {a2 : Int32} (hB : bz_B S P) (hq1 : bz_st S P q1) {x : Int32 × ab_I} (H : fX1_daysToNothing_49 q1 a2 I = some x) (K0 : Q (some (.int x.1)) S x.2 J P) : ab_WP l G mX1_daysToNothing 5 49 [some (.ref 25), some (.ref q1), some (.int a2), none] [] S I J P 0 0 Q := by
  unfold fX1_daysToNothing_49 at H
  refine ab_iconst (z := -1) (v := (-1 : Int32)) (by decide +kernel) (by decide) ?_
  obtain rfl := Option.some.inj H
  exact ab_iret (by decide +kernel) rfl (Nat.le_refl _) (Nat.le_refl _) K0
def fX1_daysToNothing_28 (q1 : Nat) (a2 : Int32) (a3 : Int32) (I : ab_I) : Option (Int32 × ab_I) :=
  some (a3, I)
set_option maxRecDepth 100000 in
theorem fX1_daysToNothing_28_ok {l : Launch} {G : ab_G} {S : ab_S} {I : ab_I} {J : ab_J} {P : ab_P} {Q : ab_Q} {q1 : Nat} {a2 : Int32} {a3 : Int32} (hB : bz_B S P) (hq1 : bz_st S P q1) {x : Int32 × ab_I} (H : fX1_daysToNothing_28 q1 a2 a3 I = some x) (K0 : Q (some (.int x.1)) S x.2 J P) : ab_WP l G mX1_daysToNothing 5 28 [some (.ref 25), some (.ref q1), some (.int a2), some (.int a3)] [] S I J P 0 0 Q := by
  unfold fX1_daysToNothing_28 at H
  refine ab_iload_n (z := 3) (by decide +kernel) rfl rfl ?_
  obtain rfl := Option.some.inj H
  exact ab_iret (by decide +kernel) rfl (Nat.le_refl _) (Nat.le_refl _) K0
def fX1_daysToNothing_10 (q1 : Nat) (a2 : Int32) (a3 : Int32) (I : ab_I) : Option ((Int32 × ab_I) ⊕ (Int32 × ab_I)) :=
  if (60 : Int32) < a3 then
    (fX1_daysToNothing_49 q1 a2 I).map .inr
  else
    ab_gd (ab_ix a2 6 = true) (
      if (I (26 + 1) a2.toNatClampNeg) = 0 then
        (fX1_daysToNothing_28 q1 a2 a3 I).map .inr
      else
        (fX5_passDay 26 (0 : Int32) I).bind fun u3 =>
        some (.inl ((a3 + (1 : Int32)), u3.2))
    )
set_option maxRecDepth 100000 in
theorem fX1_daysToNothing_10_ok {l : Launch} {G : ab_G} {S : ab_S} {I : ab_I} {J : ab_J} {P : ab_P} {Q : ab_Q} {q1 : Nat} {a2 : Int32} {a3 : Int32} (hB : bz_B S P) (hq1 : bz_st S P q1) {x : ((Int32 × ab_I) ⊕ (Int32 × ab_I))} (H : fX1_daysToNothing_10 q1 a2 a3 I = some x) (K1 : ∀ s, x = (.inl s) → ab_WP l G mX1_daysToNothing 5 10 [some (.ref 25), some (.ref q1), some (.int a2), some (.int s.1)] [] S s.2 J P 0 0 Q) (K0 : ∀ r, x = (.inr r) → Q (some (.int r.1)) S r.2 J P) : ab_WP l G mX1_daysToNothing 5 10 [some (.ref 25), some (.ref q1), some (.int a2), some (.int a3)] [] S I J P 0 0 Q := by
  unfold fX1_daysToNothing_10 at H
  refine ab_iload_n (z := 3) (by decide +kernel) rfl rfl ?_
  refine ab_bipush (z := 60) (v := (60 : Int32)) (by decide +kernel) (by decide) ?_
  refine ab_icmp_gt (off := 36) (tgt := 49) (by decide +kernel) rfl (fun hc => ?_) (fun hc => ?_)
  · replace H := ab_ifp H hc
    obtain ⟨y2, Hy, hx⟩ := ab_mp_of H
    subst hx
    replace H := Hy
    exact ab_wk (ab_le_some (ab_le_some (ab_le_some (ab_le_none (ab_le_nil))))) (fX1_daysToNothing_49_ok hB hq1 H  (K0 _ rfl))
  · replace H := ab_ifn H hc
    refine ab_aload_n (z := 0) (by decide +kernel) rfl rfl ?_
    refine gX1_2 (ix := 12) (by decide +kernel) tw_283 (hB.1 25 _ rfl) (hB.2.1 34 (25, 2, 26) rfl) ?_
    refine gX6_0 (ix := 88) (by decide +kernel) tw_238 (bz_st_26 hB).1 (bz_st_26 hB).2.2.2.2.1 ?_
    refine ab_iload_n (z := 2) (by decide +kernel) rfl rfl ?_
    obtain ⟨hg, H⟩ := ab_gd_of H
    refine ab_iald (ln := 6) (by decide +kernel) (bz_st_26 hB).2.1 (ab_ix_in hg) ?_
    refine ab_if_ne (off := 5) (tgt := 30) (by decide +kernel) rfl (fun hc => ?_) (fun hc => ?_)
    · replace H := ab_ifn H hc
      refine ab_aload_n (z := 0) (by decide +kernel) rfl rfl ?_
      refine gX1_1 (ix := 35) (by decide +kernel) tw_282 (hB.1 25 _ rfl) (hB.2.1 33 (25, 1, 23) rfl) ?_
      refine ab_aload_n (z := 0) (by decide +kernel) rfl rfl ?_
      refine gX1_2 (ix := 12) (by decide +kernel) tw_283 (hB.1 25 _ rfl) (hB.2.1 34 (25, 2, 26) rfl) ?_
      refine ab_iconst (z := 0) (v := (0 : Int32)) (by decide +kernel) (by decide) ?_
      obtain ⟨u3, hu3, H⟩ := ab_bd_of H
      refine kvX5_passDay (D := 4) (ix := 43) (by decide +kernel) tw_658 (hB.1 23 _ rfl) (by decide) (Nat.le_of_ble_eq_true rfl) (mX5_passDay_ok hB (bz_st_26 hB) hu3 ?_)
      change ab_WP l G mX1_daysToNothing 5 42 [some (.ref 25), some (.ref q1), some (.int a2), some (.int a3)] [.int u3.1] S u3.2 J P 0 0 Q
      refine ab_pop (by decide +kernel) rfl ?_
      refine ab_iinc (i := 3) (z := 1) (v := (a3 + (1 : Int32))) (by decide +kernel) rfl rfl (by decide) rfl ?_
      refine ab_ls (ls' := [some (.ref 25), some (.ref q1), some (.int a2), some (.int (a3 + (1 : Int32)))]) rfl ?_
      refine ab_goto (off := -36) (tgt := 10) (by decide +kernel) rfl ?_
      exact ab_wk (ab_le_some (ab_le_some (ab_le_some (ab_le_some (ab_le_nil))))) (K1 ((a3 + (1 : Int32)), u3.2) (Option.some.inj H).symm)
    · replace H := ab_ifp H hc
      obtain ⟨y4, Hy, hx⟩ := ab_mp_of H
      subst hx
      replace H := Hy
      exact ab_wk (ab_le_some (ab_le_some (ab_le_some (ab_le_some (ab_le_nil))))) (fX1_daysToNothing_28_ok hB hq1 H  (K0 _ rfl))
def fX1_daysToNothing (q1 : Nat) (a2 : Int32) (I : ab_I) : Option (Int32 × ab_I) :=
  (fX6_copyFrom 26 q1 I).bind fun u1 =>
  ab_it (fun s => fX1_daysToNothing_10 q1 a2 s.1 s.2) 5000 ((0 : Int32), u1)
set_option maxRecDepth 100000 in
theorem mX1_daysToNothing_ok {l : Launch} {G : ab_G} {S : ab_S} {I : ab_I} {J : ab_J} {P : ab_P} {Q : ab_Q} {q1 : Nat} {a2 : Int32} (hB : bz_B S P) (hq1 : bz_st S P q1) {x : Int32 × ab_I} (H : fX1_daysToNothing q1 a2 I = some x) (K0 : Q (some (.int x.1)) S x.2 J P) : ab_Call l G mX1_daysToNothing 5 [.ref 25, .ref q1, .int a2] S I J P Q := by
  unfold fX1_daysToNothing at H
  refine ab_enter rfl (Nat.le_of_ble_eq_true rfl) (ab_wk (ls' := [some (.ref 25), some (.ref q1), some (.int a2), none]) (ab_le_some (ab_le_some (ab_le_some (ab_le_non0 ab_le_nil)))) ?_)
  refine ab_aload_n (z := 0) (by decide +kernel) rfl rfl ?_
  refine gX1_2 (ix := 12) (by decide +kernel) tw_283 (hB.1 25 _ rfl) (hB.2.1 34 (25, 2, 26) rfl) ?_
  refine ab_aload_n (z := 1) (by decide +kernel) rfl rfl ?_
  obtain ⟨u1, hu1, H⟩ := ab_bd_of H
  refine kvX6_copyFrom (D := 1) (ix := 39) (by decide +kernel) tw_653 (bz_st_26 hB).1 (by decide) (Nat.le_of_ble_eq_true rfl) (mX6_copyFrom_ok hB (bz_st_26 hB) hq1 hu1 ?_)
  change ab_WP l G mX1_daysToNothing 5 8 [some (.ref 25), some (.ref q1), some (.int a2), none] [] S u1 J P 0 0 Q
  refine ab_iconst (z := 0) (v := (0 : Int32)) (by decide +kernel) (by decide) ?_
  refine ab_istore_n (z := 3) (by decide +kernel) rfl (by decide) rfl ?_
  refine ab_ls (ls' := [some (.ref 25), some (.ref q1), some (.int a2), some (.int (0 : Int32))]) rfl ?_
  exact ab_wk (ab_le_some (ab_le_some (ab_le_some (ab_le_some (ab_le_nil))))) (ab_iter (W := fun s => ab_WP l G mX1_daysToNothing 5 10 [some (.ref 25), some (.ref q1), some (.int a2), some (.int s.1)] [] S s.2 J P 0 0 Q) (fun s y hb h1 h2 => fX1_daysToNothing_10_ok hB hq1 hb h1 (fun r e => by have e2 := h2 _ e; subst e2; exact K0)) 5000 ((0 : Int32), u1) H)
abbrev mX11_ruin : ab_M := (yX11_ruin, cX11_ruin, 2, some .int, 0, 0)
def fX11_ruin_27 (a1 : Int32) (P : ab_P) (s0 : Int32) (I : ab_I) : Option (Int32 × ab_I) :=
  some (s0, I)
set_option maxRecDepth 100000 in
theorem fX11_ruin_27_ok {l : Launch} {G : ab_G} {S : ab_S} {I : ab_I} {J : ab_J} {P : ab_P} {Q : ab_Q} {a1 : Int32} {s0 : Int32} (hB : bz_B S P) {x : Int32 × ab_I} (H : fX11_ruin_27 a1 P s0 I = some x) (K0 : Q (some (.int x.1)) S x.2 J P) : ab_WP l G mX11_ruin 6 27 [some (.ref 0), some (.int a1)] [.int s0] S I J P 0 0 Q := by
  unfold fX11_ruin_27 at H
  obtain rfl := Option.some.inj H
  exact ab_iret (by decide +kernel) rfl (Nat.le_refl _) (Nat.le_refl _) K0
def fX11_ruin (a1 : Int32) (I : ab_I) (P : ab_P) : Option (Int32 × ab_I) :=
  (fX9_isPerson a1 I).bind fun u1 =>
  if u1 = 0 then
    fX11_ruin_27 a1 P (-1 : Int32) I
  else
    (P 0 12).bind fun z2 =>
    (fX1_daysToNothing z2 a1 I).bind fun u3 =>
    fX11_ruin_27 a1 P u3.1 u3.2
set_option maxRecDepth 100000 in
theorem mX11_ruin_ok {l : Launch} {G : ab_G} {S : ab_S} {I : ab_I} {J : ab_J} {P : ab_P} {Q : ab_Q} {a1 : Int32} (hB : bz_B S P) {x : Int32 × ab_I} (H : fX11_ruin a1 I P = some x) (K0 : Q (some (.int x.1)) S x.2 J P) : ab_Call l G mX11_ruin 6 [.ref 0, .int a1] S I J P Q := by
  unfold fX11_ruin at H
  refine ab_enter rfl (Nat.le_of_ble_eq_true rfl) (ab_wk (ls' := [some (.ref 0), some (.int a1)]) (ab_le_some (ab_le_some (ab_le_nil))) ?_)
  refine ab_aload_n (z := 0) (by decide +kernel) rfl rfl ?_
  refine gX11_1 (ix := 19) (by decide +kernel) tw_409 (hB.1 0 _ rfl) (hB.2.1 1 (0, 1, 3) rfl) ?_
  refine ab_iload_n (z := 1) (by decide +kernel) rfl rfl ?_
  obtain ⟨u1, hu1, H⟩ := ab_bd_of H
  refine kvX9_isPerson (D := 0) (ix := 129) (by decide +kernel) tw_636 (hB.1 3 _ rfl) (by decide) (Nat.le_of_ble_eq_true rfl) (mX9_isPerson_ok hB hu1 ?_)
  change ab_WP l G mX11_ruin 6 8 [some (.ref 0), some (.int a1)] [.int u1] S I J P 0 0 Q
  refine ab_if_eq (off := 18) (tgt := 26) (by decide +kernel) rfl (fun hc => ?_) (fun hc => ?_)
  · replace H := ab_ifp H hc
    refine ab_iconst (z := -1) (v := (-1 : Int32)) (by decide +kernel) (by decide) ?_
    exact ab_wk (ab_le_some (ab_le_some (ab_le_nil))) (fX11_ruin_27_ok hB H  K0)
  · replace H := ab_ifn H hc
    refine ab_aload_n (z := 0) (by decide +kernel) rfl rfl ?_
    refine gX11_4 (ix := 46) (by decide +kernel) tw_412 (hB.1 0 _ rfl) (hB.2.1 4 (0, 4, 25) rfl) ?_
    refine ab_aload_n (z := 0) (by decide +kernel) rfl rfl ?_
    obtain ⟨z2, hz2, H⟩ := ab_bd_of H
    refine gX11_12 (ix := 89) (by decide +kernel) tw_420 (hB.1 0 _ rfl) hz2 ?_
    have sz2 := hB.2.2.1 _ hz2
    refine ab_iload_n (z := 1) (by decide +kernel) rfl rfl ?_
    obtain ⟨u3, hu3, H⟩ := ab_bd_of H
    refine kvX1_daysToNothing (D := 5) (ix := 264) (by decide +kernel) tw_881 (hB.1 25 _ rfl) (by decide) (Nat.le_of_ble_eq_true rfl) (mX1_daysToNothing_ok hB sz2 hu3 ?_)
    change ab_WP l G mX11_ruin 6 23 [some (.ref 0), some (.int a1)] [.int u3.1] S u3.2 J P 0 0 Q
    refine ab_goto (off := 4) (tgt := 27) (by decide +kernel) rfl ?_
    exact ab_wk (ab_le_some (ab_le_some (ab_le_nil))) (fX11_ruin_27_ok hB H  K0)
abbrev mX1_hiddenBehind : ab_M := (yX1_hiddenBehind, cX1_hiddenBehind, 5, some .int, 0, 0)
theorem kvX1_hiddenBehind {l : Launch} {G : ab_G} {M : ab_M} {d pc : Nat} {ls : List (Option Value)} {st : List Value} {S : ab_S} {I : ab_I} {J : ab_J} {P : ab_P} {Q : ab_Q} {v0 v1 : Value} {ix D r ln : Nat} (hd : decode M.2.1 pc = .ok (.invokevirtual ix, 3)) (h1 : Cond.methodLink M.1.cls ix mX1_hiddenBehind.1 ∈ ab_good) (hs : S[r]? = some (6, ln)) (hdg : D + 1 ≤ d) (hsum : (st.map fun v => v.category).sum ≤ 8) (kk : ab_Call l G mX1_hiddenBehind D (.ref r :: [v0, v1]) S I J P (fun v S' I' J' P' => ab_WP l G M d (pc + 3) ls (ab_psh v st) S' I' J' P' 0 0 Q)) : ab_WP l G M d pc ls (v1 :: v0 :: .ref r :: st) S I J P 0 0 Q := bz_kv (g := mX1_hiddenBehind) (as := [v0, v1]) (cc := 1) rfl hd h1 tw_890 tw_891 tw_8 tw_892 ⟨by decide +kernel, by decide +kernel, (by decide +kernel : (parseMethodDescriptor mX1_hiddenBehind.1.desc).map (fun d => d.parameters.length) = some 2)⟩ (by decide) rfl rfl rfl hdg hsum hs kk
def fX1_hiddenBehind_101 (q1 : Nat) (a2 : Int32) (a3 : Int32) (I : ab_I) : Option (Int32 × ab_I) :=
  some (a3, I)
set_option maxRecDepth 100000 in
theorem fX1_hiddenBehind_101_ok {l : Launch} {G : ab_G} {S : ab_S} {I : ab_I} {J : ab_J} {P : ab_P} {Q : ab_Q} {q1 : Nat} {a2 : Int32} {a3 : Int32} (hB : bz_B S P) (hq1 : bz_st S P q1) {x : Int32 × ab_I} (H : fX1_hiddenBehind_101 q1 a2 a3 I = some x) (K0 : Q (some (.int x.1)) S x.2 J P) : ab_WP l G mX1_hiddenBehind 6 101 [some (.ref 25), some (.ref q1), some (.int a2), some (.int a3), none] [] S I J P 0 0 Q := by
  unfold fX1_hiddenBehind_101 at H
  refine ab_iload_n (z := 3) (by decide +kernel) rfl rfl ?_
  obtain rfl := Option.some.inj H
  exact ab_iret (by decide +kernel) rfl (Nat.le_refl _) (Nat.le_refl _) K0
def fX1_hiddenBehind_95 (q1 : Nat) (a2 : Int32) (a3 : Int32) (a4 : Int32) (I : ab_I) : Option ((Int32 × Int32 × ab_I) ⊕ (Int32 × ab_I)) :=
  some (.inl (a3, (a4 + (1 : Int32)), I))
set_option maxRecDepth 100000 in
theorem fX1_hiddenBehind_95_ok {l : Launch} {G : ab_G} {S : ab_S} {I : ab_I} {J : ab_J} {P : ab_P} {Q : ab_Q} {q1 : Nat} {a2 : Int32} {a3 : Int32} {a4 : Int32} (hB : bz_B S P) (hq1 : bz_st S P q1) {x : ((Int32 × Int32 × ab_I) ⊕ (Int32 × ab_I))} (H : fX1_hiddenBehind_95 q1 a2 a3 a4 I = some x) (K1 : ∀ s, x = (.inl s) → ab_WP l G mX1_hiddenBehind 6 54 [some (.ref 25), some (.ref q1), some (.int a2), some (.int s.1), some (.int s.2.1)] [] S s.2.2 J P 0 0 Q) (K0 : ∀ r, x = (.inr r) → Q (some (.int r.1)) S r.2 J P) : ab_WP l G mX1_hiddenBehind 6 95 [some (.ref 25), some (.ref q1), some (.int a2), some (.int a3), some (.int a4)] [] S I J P 0 0 Q := by
  unfold fX1_hiddenBehind_95 at H
  refine ab_iinc (i := 4) (z := 1) (v := (a4 + (1 : Int32))) (by decide +kernel) rfl rfl (by decide) rfl ?_
  refine ab_ls (ls' := [some (.ref 25), some (.ref q1), some (.int a2), some (.int a3), some (.int (a4 + (1 : Int32)))]) rfl ?_
  refine ab_goto (off := -44) (tgt := 54) (by decide +kernel) rfl ?_
  exact ab_wk (ab_le_some (ab_le_some (ab_le_some (ab_le_some (ab_le_some (ab_le_nil)))))) (K1 (a3, (a4 + (1 : Int32)), I) (Option.some.inj H).symm)
def fX1_hiddenBehind_54 (q1 : Nat) (a2 : Int32) (a3 : Int32) (a4 : Int32) (I : ab_I) : Option ((Int32 × Int32 × ab_I) ⊕ (Int32 × ab_I)) :=
  if (I 3 4) ≤ a4 then
    (fX1_hiddenBehind_101 q1 a2 a3 I).map .inr
  else
    (fX5_rungBy a4 I).bind fun u6 =>
    ab_gd (ab_ix a4 6 = true) (
      if (u6 &&& ((I 30 a4.toNatClampNeg) ^^^ (-1 : Int32))) = 0 then
        fX1_hiddenBehind_95 q1 a2 a3 a4 I
      else
        fX1_hiddenBehind_95 q1 a2 (a3 ||| ((1 : Int32) <<< (a4 &&& 31))) a4 I
    )
set_option maxRecDepth 100000 in
theorem fX1_hiddenBehind_54_ok {l : Launch} {G : ab_G} {S : ab_S} {I : ab_I} {J : ab_J} {P : ab_P} {Q : ab_Q} {q1 : Nat} {a2 : Int32} {a3 : Int32} {a4 : Int32} (hB : bz_B S P) (hq1 : bz_st S P q1) {x : ((Int32 × Int32 × ab_I) ⊕ (Int32 × ab_I))} (H : fX1_hiddenBehind_54 q1 a2 a3 a4 I = some x) (K1 : ∀ s, x = (.inl s) → ab_WP l G mX1_hiddenBehind 6 54 [some (.ref 25), some (.ref q1), some (.int a2), some (.int s.1), some (.int s.2.1)] [] S s.2.2 J P 0 0 Q) (K0 : ∀ r, x = (.inr r) → Q (some (.int r.1)) S r.2 J P) : ab_WP l G mX1_hiddenBehind 6 54 [some (.ref 25), some (.ref q1), some (.int a2), some (.int a3), some (.int a4)] [] S I J P 0 0 Q := by
  unfold fX1_hiddenBehind_54 at H
  refine ab_iload (i := 4) (by decide +kernel) rfl ?_
  refine ab_aload_n (z := 0) (by decide +kernel) rfl rfl ?_
  refine gX1_0 (ix := 31) (by decide +kernel) tw_281 (hB.1 25 _ rfl) (hB.2.1 32 (25, 0, 3) rfl) ?_
  refine gX9_4 (ix := 61) (by decide +kernel) tw_89 (hB.1 3 _ rfl) ?_
  refine ab_icmp_ge (off := 38) (tgt := 101) (by decide +kernel) rfl (fun hc => ?_) (fun hc => ?_)
  · replace H := ab_ifp H hc
    obtain ⟨y5, Hy, hx⟩ := ab_mp_of H
    subst hx
    replace H := Hy
    exact ab_wk (ab_le_some (ab_le_some (ab_le_some (ab_le_some (ab_le_none (ab_le_nil)))))) (fX1_hiddenBehind_101_ok hB hq1 H  (K0 _ rfl))
  · replace H := ab_ifn H hc
    refine ab_aload_n (z := 0) (by decide +kernel) rfl rfl ?_
    refine gX1_1 (ix := 35) (by decide +kernel) tw_282 (hB.1 25 _ rfl) (hB.2.1 33 (25, 1, 23) rfl) ?_
    refine ab_iload (i := 4) (by decide +kernel) rfl ?_
    obtain ⟨u6, hu6, H⟩ := ab_bd_of H
    refine kvX5_rungBy (D := 0) (ix := 57) (by decide +kernel) tw_693 (hB.1 23 _ rfl) (by decide) (Nat.le_of_ble_eq_true rfl) (mX5_rungBy_ok hB hu6 ?_)
    change ab_WP l G mX1_hiddenBehind 6 75 [some (.ref 25), some (.ref q1), some (.int a2), some (.int a3), some (.int a4)] [.int u6] S I J P 0 0 Q
    refine ab_aload_n (z := 0) (by decide +kernel) rfl rfl ?_
    refine gX1_3 (ix := 18) (by decide +kernel) tw_285 (hB.1 25 _ rfl) (hB.2.1 35 (25, 3, 30) rfl) ?_
    refine ab_iload (i := 4) (by decide +kernel) rfl ?_
    obtain ⟨hg, H⟩ := ab_gd_of H
    refine ab_iald (ln := 6) (by decide +kernel) (hB.1 30 _ rfl) (ab_ix_in hg) ?_
    refine ab_iconst (z := -1) (v := (-1 : Int32)) (by decide +kernel) (by decide) ?_
    refine ab_ixor (by decide +kernel) ?_
    refine ab_iand (by decide +kernel) ?_
    refine ab_if_eq (off := 10) (tgt := 95) (by decide +kernel) rfl (fun hc => ?_) (fun hc => ?_)
    · replace H := ab_ifp H hc
      exact ab_wk (ab_le_some (ab_le_some (ab_le_some (ab_le_some (ab_le_some (ab_le_nil)))))) (fX1_hiddenBehind_95_ok hB hq1 H K1 K0)
    · replace H := ab_ifn H hc
      refine ab_iload_n (z := 3) (by decide +kernel) rfl rfl ?_
      refine ab_iconst (z := 1) (v := (1 : Int32)) (by decide +kernel) (by decide) ?_
      refine ab_iload (i := 4) (by decide +kernel) rfl ?_
      refine ab_ishl (by decide +kernel) ?_
      refine ab_ior (by decide +kernel) ?_
      refine ab_istore_n (z := 3) (by decide +kernel) rfl (by decide) rfl ?_
      refine ab_ls (ls' := [some (.ref 25), some (.ref q1), some (.int a2), some (.int (a3 ||| ((1 : Int32) <<< (a4 &&& 31)))), some (.int a4)]) rfl ?_
      exact ab_wk (ab_le_some (ab_le_some (ab_le_some (ab_le_some (ab_le_some (ab_le_nil)))))) (fX1_hiddenBehind_95_ok hB hq1 H K1 K0)
def fX1_hiddenBehind_40 (q1 : Nat) (a2 : Int32) (I : ab_I) : Option (Int32 × ab_I) :=
  (fX1_passWithout q1 ((1 : Int32) <<< (a2 &&& 31)) I).bind fun u4 =>
  ab_it (fun s => fX1_hiddenBehind_54 q1 a2 s.1 s.2.1 s.2.2) 5000 ((0 : Int32), (0 : Int32), u4.2)
set_option maxRecDepth 100000 in
theorem fX1_hiddenBehind_40_ok {l : Launch} {G : ab_G} {S : ab_S} {I : ab_I} {J : ab_J} {P : ab_P} {Q : ab_Q} {q1 : Nat} {a2 : Int32} (hB : bz_B S P) (hq1 : bz_st S P q1) {x : Int32 × ab_I} (H : fX1_hiddenBehind_40 q1 a2 I = some x) (K0 : Q (some (.int x.1)) S x.2 J P) : ab_WP l G mX1_hiddenBehind 6 40 [some (.ref 25), some (.ref q1), some (.int a2), none, none] [] S I J P 0 0 Q := by
  unfold fX1_hiddenBehind_40 at H
  refine ab_aload_n (z := 0) (by decide +kernel) rfl rfl ?_
  refine ab_aload_n (z := 1) (by decide +kernel) rfl rfl ?_
  refine ab_iconst (z := 1) (v := (1 : Int32)) (by decide +kernel) (by decide) ?_
  refine ab_iload_n (z := 2) (by decide +kernel) rfl rfl ?_
  refine ab_ishl (by decide +kernel) ?_
  obtain ⟨u4, hu4, H⟩ := ab_bd_of H
  refine kvX1_passWithout (D := 5) (ix := 53) (by decide +kernel) tw_649 (hB.1 25 _ rfl) (by decide) (Nat.le_of_ble_eq_true rfl) (mX1_passWithout_ok hB hq1 hu4 ?_)
  change ab_WP l G mX1_hiddenBehind 6 48 [some (.ref 25), some (.ref q1), some (.int a2), none, none] [.int u4.1] S u4.2 J P 0 0 Q
  refine ab_pop (by decide +kernel) rfl ?_
  refine ab_iconst (z := 0) (v := (0 : Int32)) (by decide +kernel) (by decide) ?_
  refine ab_istore_n (z := 3) (by decide +kernel) rfl (by decide) rfl ?_
  refine ab_ls (ls' := [some (.ref 25), some (.ref q1), some (.int a2), some (.int (0 : Int32)), none]) rfl ?_
  refine ab_iconst (z := 0) (v := (0 : Int32)) (by decide +kernel) (by decide) ?_
  refine ab_istore (i := 4) (by decide +kernel) (by decide) rfl ?_
  refine ab_ls (ls' := [some (.ref 25), some (.ref q1), some (.int a2), some (.int (0 : Int32)), some (.int (0 : Int32))]) rfl ?_
  exact ab_wk (ab_le_some (ab_le_some (ab_le_some (ab_le_some (ab_le_some (ab_le_nil)))))) (ab_iter (W := fun s => ab_WP l G mX1_hiddenBehind 6 54 [some (.ref 25), some (.ref q1), some (.int a2), some (.int s.1), some (.int s.2.1)] [] S s.2.2 J P 0 0 Q) (fun s y hb h1 h2 => fX1_hiddenBehind_54_ok hB hq1 hb h1 (fun r e => by have e2 := h2 _ e; subst e2; exact K0)) 5000 ((0 : Int32), (0 : Int32), u4.2) H)
def fX1_hiddenBehind_9 (q1 : Nat) (a2 : Int32) (a3 : Int32) (I : ab_I) : Option ((Int32 × ab_I) ⊕ (Int32 × ab_I)) :=
  if (I 3 4) ≤ a3 then
    (fX1_hiddenBehind_40 q1 a2 I).map .inr
  else
    (fX5_rungBy a3 I).bind fun u3 =>
    ab_gd (ab_ix a3 6 = true) (
      some (.inl ((a3 + (1 : Int32)), (ab_u I 30 a3.toNatClampNeg u3)))
    )
set_option maxRecDepth 100000 in
theorem fX1_hiddenBehind_9_ok {l : Launch} {G : ab_G} {S : ab_S} {I : ab_I} {J : ab_J} {P : ab_P} {Q : ab_Q} {q1 : Nat} {a2 : Int32} {a3 : Int32} (hB : bz_B S P) (hq1 : bz_st S P q1) {x : ((Int32 × ab_I) ⊕ (Int32 × ab_I))} (H : fX1_hiddenBehind_9 q1 a2 a3 I = some x) (K1 : ∀ s, x = (.inl s) → ab_WP l G mX1_hiddenBehind 6 9 [some (.ref 25), some (.ref q1), some (.int a2), some (.int s.1), none] [] S s.2 J P 0 0 Q) (K0 : ∀ r, x = (.inr r) → Q (some (.int r.1)) S r.2 J P) : ab_WP l G mX1_hiddenBehind 6 9 [some (.ref 25), some (.ref q1), some (.int a2), some (.int a3), none] [] S I J P 0 0 Q := by
  unfold fX1_hiddenBehind_9 at H
  refine ab_iload_n (z := 3) (by decide +kernel) rfl rfl ?_
  refine ab_aload_n (z := 0) (by decide +kernel) rfl rfl ?_
  refine gX1_0 (ix := 31) (by decide +kernel) tw_281 (hB.1 25 _ rfl) (hB.2.1 32 (25, 0, 3) rfl) ?_
  refine gX9_4 (ix := 61) (by decide +kernel) tw_89 (hB.1 3 _ rfl) ?_
  refine ab_icmp_ge (off := 23) (tgt := 40) (by decide +kernel) rfl (fun hc => ?_) (fun hc => ?_)
  · replace H := ab_ifp H hc
    obtain ⟨y2, Hy, hx⟩ := ab_mp_of H
    subst hx
    replace H := Hy
    exact ab_wk (ab_le_some (ab_le_some (ab_le_some (ab_le_none (ab_le_none (ab_le_nil)))))) (fX1_hiddenBehind_40_ok hB hq1 H  (K0 _ rfl))
  · replace H := ab_ifn H hc
    refine ab_aload_n (z := 0) (by decide +kernel) rfl rfl ?_
    refine gX1_3 (ix := 18) (by decide +kernel) tw_285 (hB.1 25 _ rfl) (hB.2.1 35 (25, 3, 30) rfl) ?_
    refine ab_iload_n (z := 3) (by decide +kernel) rfl rfl ?_
    refine ab_aload_n (z := 0) (by decide +kernel) rfl rfl ?_
    refine gX1_1 (ix := 35) (by decide +kernel) tw_282 (hB.1 25 _ rfl) (hB.2.1 33 (25, 1, 23) rfl) ?_
    refine ab_iload_n (z := 3) (by decide +kernel) rfl rfl ?_
    obtain ⟨u3, hu3, H⟩ := ab_bd_of H
    refine kvX5_rungBy (D := 0) (ix := 57) (by decide +kernel) tw_693 (hB.1 23 _ rfl) (by decide) (Nat.le_of_ble_eq_true rfl) (mX5_rungBy_ok hB hu3 ?_)
    change ab_WP l G mX1_hiddenBehind 6 33 [some (.ref 25), some (.ref q1), some (.int a2), some (.int a3), none] [.int u3, .int a3, .ref 30] S I J P 0 0 Q
    obtain ⟨hg, H⟩ := ab_gd_of H
    refine ab_iast (ln := 6) (by decide +kernel) (hB.1 30 _ rfl) (ab_ix_in hg) ?_
    refine ab_iinc (i := 3) (z := 1) (v := (a3 + (1 : Int32))) (by decide +kernel) rfl rfl (by decide) rfl ?_
    refine ab_ls (ls' := [some (.ref 25), some (.ref q1), some (.int a2), some (.int (a3 + (1 : Int32))), none]) rfl ?_
    refine ab_goto (off := -28) (tgt := 9) (by decide +kernel) rfl ?_
    exact ab_wk (ab_le_some (ab_le_some (ab_le_some (ab_le_some (ab_le_none (ab_le_nil)))))) (K1 ((a3 + (1 : Int32)), (ab_u I 30 a3.toNatClampNeg u3)) (Option.some.inj H).symm)
def fX1_hiddenBehind (q1 : Nat) (a2 : Int32) (I : ab_I) : Option (Int32 × ab_I) :=
  (fX1_passWithout q1 (0 : Int32) I).bind fun u1 =>
  ab_it (fun s => fX1_hiddenBehind_9 q1 a2 s.1 s.2) 5000 ((0 : Int32), u1.2)
set_option maxRecDepth 100000 in
theorem mX1_hiddenBehind_ok {l : Launch} {G : ab_G} {S : ab_S} {I : ab_I} {J : ab_J} {P : ab_P} {Q : ab_Q} {q1 : Nat} {a2 : Int32} (hB : bz_B S P) (hq1 : bz_st S P q1) {x : Int32 × ab_I} (H : fX1_hiddenBehind q1 a2 I = some x) (K0 : Q (some (.int x.1)) S x.2 J P) : ab_Call l G mX1_hiddenBehind 6 [.ref 25, .ref q1, .int a2] S I J P Q := by
  unfold fX1_hiddenBehind at H
  refine ab_enter rfl (Nat.le_of_ble_eq_true rfl) (ab_wk (ls' := [some (.ref 25), some (.ref q1), some (.int a2), none, none]) (ab_le_some (ab_le_some (ab_le_some (ab_le_non0 (ab_le_non0 ab_le_nil))))) ?_)
  refine ab_aload_n (z := 0) (by decide +kernel) rfl rfl ?_
  refine ab_aload_n (z := 1) (by decide +kernel) rfl rfl ?_
  refine ab_iconst (z := 0) (v := (0 : Int32)) (by decide +kernel) (by decide) ?_
  obtain ⟨u1, hu1, H⟩ := ab_bd_of H
  refine kvX1_passWithout (D := 5) (ix := 53) (by decide +kernel) tw_649 (hB.1 25 _ rfl) (by decide) (Nat.le_of_ble_eq_true rfl) (mX1_passWithout_ok hB hq1 hu1 ?_)
  change ab_WP l G mX1_hiddenBehind 6 6 [some (.ref 25), some (.ref q1), some (.int a2), none, none] [.int u1.1] S u1.2 J P 0 0 Q
  refine ab_pop (by decide +kernel) rfl ?_
  refine ab_iconst (z := 0) (v := (0 : Int32)) (by decide +kernel) (by decide) ?_
  refine ab_istore_n (z := 3) (by decide +kernel) rfl (by decide) rfl ?_
  refine ab_ls (ls' := [some (.ref 25), some (.ref q1), some (.int a2), some (.int (0 : Int32)), none]) rfl ?_
  exact ab_wk (ab_le_some (ab_le_some (ab_le_some (ab_le_some (ab_le_none (ab_le_nil)))))) (ab_iter (W := fun s => ab_WP l G mX1_hiddenBehind 6 9 [some (.ref 25), some (.ref q1), some (.int a2), some (.int s.1), none] [] S s.2 J P 0 0 Q) (fun s y hb h1 h2 => fX1_hiddenBehind_9_ok hB hq1 hb h1 (fun r e => by have e2 := h2 _ e; subst e2; exact K0)) 5000 ((0 : Int32), u1.2) H)
abbrev mX11_hides : ab_M := (yX11_hides, cX11_hides, 2, some .int, 0, 0)
def fX11_hides_22 (a1 : Int32) (P : ab_P) (I : ab_I) : Option (Int32 × ab_I) :=
  some ((-1 : Int32), I)
set_option maxRecDepth 100000 in
theorem fX11_hides_22_ok {l : Launch} {G : ab_G} {S : ab_S} {I : ab_I} {J : ab_J} {P : ab_P} {Q : ab_Q} {a1 : Int32} (hB : bz_B S P) {x : Int32 × ab_I} (H : fX11_hides_22 a1 P I = some x) (K0 : Q (some (.int x.1)) S x.2 J P) : ab_WP l G mX11_hides 7 22 [some (.ref 0), some (.int a1)] [] S I J P 0 0 Q := by
  unfold fX11_hides_22 at H
  refine ab_iconst (z := -1) (v := (-1 : Int32)) (by decide +kernel) (by decide) ?_
  obtain rfl := Option.some.inj H
  exact ab_iret (by decide +kernel) rfl (Nat.le_refl _) (Nat.le_refl _) K0
def fX11_hides (a1 : Int32) (I : ab_I) (P : ab_P) : Option (Int32 × ab_I) :=
  (fX9_isPerson a1 I).bind fun u1 =>
  if u1 = 0 then
    fX11_hides_22 a1 P I
  else
    (P 0 12).bind fun z2 =>
    (fX6_isHere z2 a1 I).bind fun u3 =>
    if u3 = 0 then
      fX11_hides_22 a1 P I
    else
      (P 0 12).bind fun z4 =>
      (fX1_hiddenBehind z4 a1 I).bind fun u5 =>
      some (u5.1, u5.2)
set_option maxRecDepth 100000 in
theorem mX11_hides_ok {l : Launch} {G : ab_G} {S : ab_S} {I : ab_I} {J : ab_J} {P : ab_P} {Q : ab_Q} {a1 : Int32} (hB : bz_B S P) {x : Int32 × ab_I} (H : fX11_hides a1 I P = some x) (K0 : Q (some (.int x.1)) S x.2 J P) : ab_Call l G mX11_hides 7 [.ref 0, .int a1] S I J P Q := by
  unfold fX11_hides at H
  refine ab_enter rfl (Nat.le_of_ble_eq_true rfl) (ab_wk (ls' := [some (.ref 0), some (.int a1)]) (ab_le_some (ab_le_some (ab_le_nil))) ?_)
  refine ab_aload_n (z := 0) (by decide +kernel) rfl rfl ?_
  refine gX11_1 (ix := 19) (by decide +kernel) tw_409 (hB.1 0 _ rfl) (hB.2.1 1 (0, 1, 3) rfl) ?_
  refine ab_iload_n (z := 1) (by decide +kernel) rfl rfl ?_
  obtain ⟨u1, hu1, H⟩ := ab_bd_of H
  refine kvX9_isPerson (D := 0) (ix := 129) (by decide +kernel) tw_636 (hB.1 3 _ rfl) (by decide) (Nat.le_of_ble_eq_true rfl) (mX9_isPerson_ok hB hu1 ?_)
  change ab_WP l G mX11_hides 7 8 [some (.ref 0), some (.int a1)] [.int u1] S I J P 0 0 Q
  refine ab_if_eq (off := 14) (tgt := 22) (by decide +kernel) rfl (fun hc => ?_) (fun hc => ?_)
  · replace H := ab_ifp H hc
    exact ab_wk (ab_le_some (ab_le_some (ab_le_nil))) (fX11_hides_22_ok hB H  K0)
  · replace H := ab_ifn H hc
    refine ab_aload_n (z := 0) (by decide +kernel) rfl rfl ?_
    obtain ⟨z2, hz2, H⟩ := ab_bd_of H
    refine gX11_12 (ix := 89) (by decide +kernel) tw_420 (hB.1 0 _ rfl) hz2 ?_
    have sz2 := hB.2.2.1 _ hz2
    refine ab_iload_n (z := 1) (by decide +kernel) rfl rfl ?_
    obtain ⟨u3, hu3, H⟩ := ab_bd_of H
    refine kvX6_isHere (D := 0) (ix := 195) (by decide +kernel) tw_751 sz2.1 (by decide) (Nat.le_of_ble_eq_true rfl) (mX6_isHere_ok hB sz2 hu3 ?_)
    change ab_WP l G mX11_hides 7 19 [some (.ref 0), some (.int a1)] [.int u3] S I J P 0 0 Q
    refine ab_if_ne (off := 5) (tgt := 24) (by decide +kernel) rfl (fun hc => ?_) (fun hc => ?_)
    · replace H := ab_ifn H hc
      refine ab_aload_n (z := 0) (by decide +kernel) rfl rfl ?_
      refine gX11_4 (ix := 46) (by decide +kernel) tw_412 (hB.1 0 _ rfl) (hB.2.1 4 (0, 4, 25) rfl) ?_
      refine ab_aload_n (z := 0) (by decide +kernel) rfl rfl ?_
      obtain ⟨z4, hz4, H⟩ := ab_bd_of H
      refine gX11_12 (ix := 89) (by decide +kernel) tw_420 (hB.1 0 _ rfl) hz4 ?_
      have sz4 := hB.2.2.1 _ hz4
      refine ab_iload_n (z := 1) (by decide +kernel) rfl rfl ?_
      obtain ⟨u5, hu5, H⟩ := ab_bd_of H
      refine kvX1_hiddenBehind (D := 6) (ix := 267) (by decide +kernel) tw_889 (hB.1 25 _ rfl) (by decide) (Nat.le_of_ble_eq_true rfl) (mX1_hiddenBehind_ok hB sz4 hu5 ?_)
      change ab_WP l G mX11_hides 7 36 [some (.ref 0), some (.int a1)] [.int u5.1] S u5.2 J P 0 0 Q
      obtain rfl := Option.some.inj H
      exact ab_iret (by decide +kernel) rfl (Nat.le_refl _) (Nat.le_refl _) K0
    · replace H := ab_ifp H hc
      exact ab_wk (ab_le_some (ab_le_some (ab_le_nil))) (fX11_hides_22_ok hB H  K0)
abbrev mX1_lostBy : ab_M := (yX1_lostBy, cX1_lostBy, 3, some .int, 0, 0)
theorem kvX1_lostBy {l : Launch} {G : ab_G} {M : ab_M} {d pc : Nat} {ls : List (Option Value)} {st : List Value} {S : ab_S} {I : ab_I} {J : ab_J} {P : ab_P} {Q : ab_Q} {v0 v1 : Value} {ix D r ln : Nat} (hd : decode M.2.1 pc = .ok (.invokevirtual ix, 3)) (h1 : Cond.methodLink M.1.cls ix mX1_lostBy.1 ∈ ab_good) (hs : S[r]? = some (6, ln)) (hdg : D + 1 ≤ d) (hsum : (st.map fun v => v.category).sum ≤ 8) (kk : ab_Call l G mX1_lostBy D (.ref r :: [v0, v1]) S I J P (fun v S' I' J' P' => ab_WP l G M d (pc + 3) ls (ab_psh v st) S' I' J' P' 0 0 Q)) : ab_WP l G M d pc ls (v1 :: v0 :: .ref r :: st) S I J P 0 0 Q := bz_kv (g := mX1_lostBy) (as := [v0, v1]) (cc := 1) rfl hd h1 tw_903 tw_p26 tw_8 tw_904 ⟨by decide +kernel, by decide +kernel, (by decide +kernel : (parseMethodDescriptor mX1_lostBy.1.desc).map (fun d => d.parameters.length) = some 2)⟩ (by decide) rfl rfl rfl hdg hsum hs kk
def fX1_lostBy_31 (q1 : Nat) (a2 : Int32) (I : ab_I) (s0 : Int32) : Option Int32 :=
  some s0
set_option maxRecDepth 100000 in
theorem fX1_lostBy_31_ok {l : Launch} {G : ab_G} {S : ab_S} {I : ab_I} {J : ab_J} {P : ab_P} {Q : ab_Q} {q1 : Nat} {a2 : Int32} {s0 : Int32} (hB : bz_B S P) (hq1 : bz_st S P q1) {x : Int32} (H : fX1_lostBy_31 q1 a2 I s0 = some x) (K0 : Q (some (.int x)) S I J P) : ab_WP l G mX1_lostBy 1 31 [some (.ref 25), some (.ref q1), some (.int a2)] [.int s0] S I J P 0 0 Q := by
  unfold fX1_lostBy_31 at H
  obtain rfl := Option.some.inj H
  exact ab_iret (by decide +kernel) rfl (Nat.le_refl _) (Nat.le_refl _) K0
def fX1_lostBy (q1 : Nat) (a2 : Int32) (I : ab_I) : Option Int32 :=
  (fX6_isHere 26 a2 I).bind fun u1 =>
  if u1 = 0 then
    fX1_lostBy_31 q1 a2 I (3 : Int32)
  else
    ab_gd (ab_ix a2 6 = true) (
      ab_gd (ab_ix a2 6 = true) (
        fX1_lostBy_31 q1 a2 I ((I (q1 + 1) a2.toNatClampNeg) - (I (26 + 1) a2.toNatClampNeg))
      )
    )
set_option maxRecDepth 100000 in
theorem mX1_lostBy_ok {l : Launch} {G : ab_G} {S : ab_S} {I : ab_I} {J : ab_J} {P : ab_P} {Q : ab_Q} {q1 : Nat} {a2 : Int32} (hB : bz_B S P) (hq1 : bz_st S P q1) {x : Int32} (H : fX1_lostBy q1 a2 I = some x) (K0 : Q (some (.int x)) S I J P) : ab_Call l G mX1_lostBy 1 [.ref 25, .ref q1, .int a2] S I J P Q := by
  unfold fX1_lostBy at H
  refine ab_enter rfl (Nat.le_of_ble_eq_true rfl) (ab_wk (ls' := [some (.ref 25), some (.ref q1), some (.int a2)]) (ab_le_some (ab_le_some (ab_le_some (ab_le_nil)))) ?_)
  refine ab_aload_n (z := 0) (by decide +kernel) rfl rfl ?_
  refine gX1_2 (ix := 12) (by decide +kernel) tw_283 (hB.1 25 _ rfl) (hB.2.1 34 (25, 2, 26) rfl) ?_
  refine ab_iload_n (z := 2) (by decide +kernel) rfl rfl ?_
  obtain ⟨u1, hu1, H⟩ := ab_bd_of H
  refine kvX6_isHere (D := 0) (ix := 74) (by decide +kernel) tw_852 (bz_st_26 hB).1 (by decide) (Nat.le_of_ble_eq_true rfl) (mX6_isHere_ok hB (bz_st_26 hB) hu1 ?_)
  change ab_WP l G mX1_lostBy 1 8 [some (.ref 25), some (.ref q1), some (.int a2)] [.int u1] S I J P 0 0 Q
  refine ab_if_eq (off := 22) (tgt := 30) (by decide +kernel) rfl (fun hc => ?_) (fun hc => ?_)
  · replace H := ab_ifp H hc
    refine ab_iconst (z := 3) (v := (3 : Int32)) (by decide +kernel) (by decide) ?_
    exact ab_wk (ab_le_some (ab_le_some (ab_le_some (ab_le_nil)))) (fX1_lostBy_31_ok hB hq1 H  K0)
  · replace H := ab_ifn H hc
    refine ab_aload_n (z := 1) (by decide +kernel) rfl rfl ?_
    refine gX6_0 (ix := 88) (by decide +kernel) tw_238 hq1.1 hq1.2.2.2.2.1 ?_
    refine ab_iload_n (z := 2) (by decide +kernel) rfl rfl ?_
    obtain ⟨hg, H⟩ := ab_gd_of H
    refine ab_iald (ln := 6) (by decide +kernel) hq1.2.1 (ab_ix_in hg) ?_
    refine ab_aload_n (z := 0) (by decide +kernel) rfl rfl ?_
    refine gX1_2 (ix := 12) (by decide +kernel) tw_283 (hB.1 25 _ rfl) (hB.2.1 34 (25, 2, 26) rfl) ?_
    refine gX6_0 (ix := 88) (by decide +kernel) tw_238 (bz_st_26 hB).1 (bz_st_26 hB).2.2.2.2.1 ?_
    refine ab_iload_n (z := 2) (by decide +kernel) rfl rfl ?_
    obtain ⟨hg, H⟩ := ab_gd_of H
    refine ab_iald (ln := 6) (by decide +kernel) (bz_st_26 hB).2.1 (ab_ix_in hg) ?_
    refine ab_isub (by decide +kernel) ?_
    refine ab_goto (off := 4) (tgt := 31) (by decide +kernel) rfl ?_
    exact ab_wk (ab_le_some (ab_le_some (ab_le_some (ab_le_nil)))) (fX1_lostBy_31_ok hB hq1 H  K0)
