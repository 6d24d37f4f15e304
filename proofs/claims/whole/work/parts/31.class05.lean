abbrev mX5_chosen : ab_M := (yX5_chosen, cX5_chosen, 7, some .int, 0, 0)
theorem kvX5_chosen {l : Launch} {G : ab_G} {M : ab_M} {d pc : Nat} {ls : List (Option Value)} {st : List Value} {S : ab_S} {I : ab_I} {J : ab_J} {P : ab_P} {Q : ab_Q} {v0 v1 : Value} {ix D r ln : Nat} (hd : decode M.2.1 pc = .ok (.invokevirtual ix, 3)) (h1 : Cond.methodLink M.1.cls ix mX5_chosen.1 ∈ ab_good) (hs : S[r]? = some (10, ln)) (hdg : D + 1 ≤ d) (hsum : (st.map fun v => v.category).sum ≤ 8) (kk : ab_Call l G mX5_chosen D (.ref r :: [v0, v1]) S I J P (fun v S' I' J' P' => ab_WP l G M d (pc + 3) ls (ab_psh v st) S' I' J' P' 0 0 Q)) : ab_WP l G M d pc ls (v1 :: v0 :: .ref r :: st) S I J P 0 0 Q := bz_kv (g := mX5_chosen) (as := [v0, v1]) (cc := 5) rfl hd h1 tw_667 tw_668 tw_7 tw_669 ⟨by decide +kernel, by decide +kernel, (by decide +kernel : (parseMethodDescriptor mX5_chosen.1.desc).map (fun d => d.parameters.length) = some 2)⟩ (by decide) rfl rfl rfl hdg hsum hs kk
def fX5_chosen_88 (q1 : Nat) (a2 : Int32) (a3 : Int32) (I : ab_I) : Option (Int32 × ab_I) :=
  some (a3, I)
set_option maxRecDepth 100000 in
theorem fX5_chosen_88_ok {l : Launch} {G : ab_G} {S : ab_S} {I : ab_I} {J : ab_J} {P : ab_P} {Q : ab_Q} {q1 : Nat} {a2 : Int32} {a3 : Int32} (hB : bz_B S P) (hq1 : bz_st S P q1) {x : Int32 × ab_I} (H : fX5_chosen_88 q1 a2 a3 I = some x) (K0 : Q (some (.int x.1)) S x.2 J P) : ab_WP l G mX5_chosen 2 88 [some (.ref 23), some (.ref q1), some (.int a2), some (.int a3), none, none, none] [] S I J P 0 0 Q := by
  unfold fX5_chosen_88 at H
  refine ab_iload_n (z := 3) (by decide +kernel) rfl rfl ?_
  obtain rfl := Option.some.inj H
  exact ab_iret (by decide +kernel) rfl (Nat.le_refl _) (Nat.le_refl _) K0
def fX5_chosen_82 (q1 : Nat) (a2 : Int32) (a3 : Int32) (a4 : Int32) (a5 : Int32) (I : ab_I) : Option ((Int32 × Int32 × Int32 × ab_I) ⊕ (Int32 × ab_I)) :=
  some (.inl (a3, a4, (a5 + (1 : Int32)), I))
set_option maxRecDepth 100000 in
theorem fX5_chosen_82_ok {l : Launch} {G : ab_G} {S : ab_S} {I : ab_I} {J : ab_J} {P : ab_P} {Q : ab_Q} {q1 : Nat} {a2 : Int32} {a3 : Int32} {a4 : Int32} {a5 : Int32} (hB : bz_B S P) (hq1 : bz_st S P q1) {x : ((Int32 × Int32 × Int32 × ab_I) ⊕ (Int32 × ab_I))} (H : fX5_chosen_82 q1 a2 a3 a4 a5 I = some x) (K1 : ∀ s, x = (.inl s) → ab_WP l G mX5_chosen 2 8 [some (.ref 23), some (.ref q1), some (.int a2), some (.int s.1), some (.int s.2.1), some (.int s.2.2.1), none] [] S s.2.2.2 J P 0 0 Q) (K0 : ∀ r, x = (.inr r) → Q (some (.int r.1)) S r.2 J P) : ab_WP l G mX5_chosen 2 82 [some (.ref 23), some (.ref q1), some (.int a2), some (.int a3), some (.int a4), some (.int a5), none] [] S I J P 0 0 Q := by
  unfold fX5_chosen_82 at H
  refine ab_iinc (i := 5) (z := 1) (v := (a5 + (1 : Int32))) (by decide +kernel) rfl rfl (by decide) rfl ?_
  refine ab_ls (ls' := [some (.ref 23), some (.ref q1), some (.int a2), some (.int a3), some (.int a4), some (.int (a5 + (1 : Int32))), none]) rfl ?_
  refine ab_goto (off := -77) (tgt := 8) (by decide +kernel) rfl ?_
  exact ab_wk (ab_le_some (ab_le_some (ab_le_some (ab_le_some (ab_le_some (ab_le_some (ab_le_none (ab_le_nil)))))))) (K1 (a3, a4, (a5 + (1 : Int32)), I) (Option.some.inj H).symm)
def fX5_chosen_8 (q1 : Nat) (a2 : Int32) (a3 : Int32) (a4 : Int32) (a5 : Int32) (I : ab_I) : Option ((Int32 × Int32 × Int32 × ab_I) ⊕ (Int32 × ab_I)) :=
  if (I 3 4) ≤ a5 then
    (fX5_chosen_88 q1 a2 a3 I).map .inr
  else
    (fX6_isHere q1 a5 I).bind fun u2 =>
    if u2 = 0 then
      fX5_chosen_82 q1 a2 a3 a4 a5 I
    else
      (fX11_cell a5 a2).bind fun u3 =>
      ab_gd (ab_ix u3 30 = true) (
        if (I (q1 + 3) u3.toNatClampNeg) ≤ 0 then
          fX5_chosen_82 q1 a2 a3 a4 a5 I
        else
          ab_gd (ab_ix a2 5 = true) (
            (fX2_comesTo q1 a5 a2 (I 5 a2.toNatClampNeg) I).bind fun u4 =>
            if u4.1 ≤ a4 then
              fX5_chosen_82 q1 a2 a3 a4 a5 u4.2
            else
              fX5_chosen_82 q1 a2 a5 u4.1 a5 u4.2
          )
      )
set_option maxRecDepth 100000 in
theorem fX5_chosen_8_ok {l : Launch} {G : ab_G} {S : ab_S} {I : ab_I} {J : ab_J} {P : ab_P} {Q : ab_Q} {q1 : Nat} {a2 : Int32} {a3 : Int32} {a4 : Int32} {a5 : Int32} (hB : bz_B S P) (hq1 : bz_st S P q1) {x : ((Int32 × Int32 × Int32 × ab_I) ⊕ (Int32 × ab_I))} (H : fX5_chosen_8 q1 a2 a3 a4 a5 I = some x) (K1 : ∀ s, x = (.inl s) → ab_WP l G mX5_chosen 2 8 [some (.ref 23), some (.ref q1), some (.int a2), some (.int s.1), some (.int s.2.1), some (.int s.2.2.1), none] [] S s.2.2.2 J P 0 0 Q) (K0 : ∀ r, x = (.inr r) → Q (some (.int r.1)) S r.2 J P) : ab_WP l G mX5_chosen 2 8 [some (.ref 23), some (.ref q1), some (.int a2), some (.int a3), some (.int a4), some (.int a5), none] [] S I J P 0 0 Q := by
  unfold fX5_chosen_8 at H
  refine ab_iload (i := 5) (by decide +kernel) rfl ?_
  refine ab_aload_n (z := 0) (by decide +kernel) rfl rfl ?_
  refine gX5_0 (ix := 15) (by decide +kernel) tw_211 (hB.1 23 _ rfl) (hB.2.1 30 (23, 0, 3) rfl) ?_
  refine gX9_4 (ix := 19) (by decide +kernel) tw_86 (hB.1 3 _ rfl) ?_
  refine ab_icmp_ge (off := 71) (tgt := 88) (by decide +kernel) rfl (fun hc => ?_) (fun hc => ?_)
  · replace H := ab_ifp H hc
    obtain ⟨y1, Hy, hx⟩ := ab_mp_of H
    subst hx
    replace H := Hy
    exact ab_wk (ab_le_some (ab_le_some (ab_le_some (ab_le_some (ab_le_none (ab_le_none (ab_le_none (ab_le_nil)))))))) (fX5_chosen_88_ok hB hq1 H  (K0 _ rfl))
  · replace H := ab_ifn H hc
    refine ab_aload_n (z := 1) (by decide +kernel) rfl rfl ?_
    refine ab_iload (i := 5) (by decide +kernel) rfl ?_
    obtain ⟨u2, hu2, H⟩ := ab_bd_of H
    refine kvX6_isHere (D := 0) (ix := 25) (by decide +kernel) tw_670 hq1.1 (by decide) (Nat.le_of_ble_eq_true rfl) (mX6_isHere_ok hB hq1 hu2 ?_)
    change ab_WP l G mX5_chosen 2 26 [some (.ref 23), some (.ref q1), some (.int a2), some (.int a3), some (.int a4), some (.int a5), none] [.int u2] S I J P 0 0 Q
    refine ab_if_eq (off := 56) (tgt := 82) (by decide +kernel) rfl (fun hc => ?_) (fun hc => ?_)
    · replace H := ab_ifp H hc
      exact ab_wk (ab_le_some (ab_le_some (ab_le_some (ab_le_some (ab_le_some (ab_le_some (ab_le_none (ab_le_nil)))))))) (fX5_chosen_82_ok hB hq1 H K1 K0)
    · replace H := ab_ifn H hc
      refine ab_aload_n (z := 1) (by decide +kernel) rfl rfl ?_
      refine gX6_2 (ix := 31) (by decide +kernel) tw_246 hq1.1 hq1.2.2.2.2.2.2 ?_
      refine ab_iload (i := 5) (by decide +kernel) rfl ?_
      refine ab_iload_n (z := 2) (by decide +kernel) rfl rfl ?_
      obtain ⟨u3, hu3, H⟩ := ab_bd_of H
      refine knX11_cell (D := 0) (ix := 34) (host := "BellRingers") (by decide +kernel) tn_674 (by decide) (Nat.le_of_ble_eq_true rfl) (mX11_cell_ok hB hu3 ?_)
      change ab_WP l G mX5_chosen 2 39 [some (.ref 23), some (.ref q1), some (.int a2), some (.int a3), some (.int a4), some (.int a5), none] [.int u3, .ref (q1 + 3)] S I J P 0 0 Q
      obtain ⟨hg, H⟩ := ab_gd_of H
      refine ab_iald (ln := 30) (by decide +kernel) hq1.2.2.2.1 (ab_ix_in hg) ?_
      refine ab_if_le (off := 42) (tgt := 82) (by decide +kernel) rfl (fun hc => ?_) (fun hc => ?_)
      · replace H := ab_ifp H hc
        exact ab_wk (ab_le_some (ab_le_some (ab_le_some (ab_le_some (ab_le_some (ab_le_some (ab_le_none (ab_le_nil)))))))) (fX5_chosen_82_ok hB hq1 H K1 K0)
      · replace H := ab_ifn H hc
        refine ab_aload_n (z := 0) (by decide +kernel) rfl rfl ?_
        refine gX5_0 (ix := 15) (by decide +kernel) tw_211 (hB.1 23 _ rfl) (hB.2.1 30 (23, 0, 3) rfl) ?_
        refine gX9_3 (ix := 38) (by decide +kernel) tw_82 (hB.1 3 _ rfl) (hB.2.1 14 (3, 3, 7) rfl) ?_
        refine ab_aload_n (z := 1) (by decide +kernel) rfl rfl ?_
        refine ab_iload (i := 5) (by decide +kernel) rfl ?_
        refine ab_iload_n (z := 2) (by decide +kernel) rfl rfl ?_
        refine ab_aload_n (z := 0) (by decide +kernel) rfl rfl ?_
        refine gX5_0 (ix := 15) (by decide +kernel) tw_211 (hB.1 23 _ rfl) (hB.2.1 30 (23, 0, 3) rfl) ?_
        refine gX9_1 (ix := 42) (by decide +kernel) tw_76 (hB.1 3 _ rfl) (hB.2.1 12 (3, 1, 5) rfl) ?_
        refine ab_iload_n (z := 2) (by decide +kernel) rfl rfl ?_
        obtain ⟨hg, H⟩ := ab_gd_of H
        refine ab_iald (ln := 5) (by decide +kernel) (hB.1 5 _ rfl) (ab_ix_in hg) ?_
        obtain ⟨u4, hu4, H⟩ := ab_bd_of H
        refine kvX2_comesTo (D := 1) (ix := 45) (by decide +kernel) tw_675 (hB.1 7 _ rfl) (by decide) (Nat.le_of_ble_eq_true rfl) (mX2_comesTo_ok hB hq1 hu4 ?_)
        change ab_WP l G mX5_chosen 2 66 [some (.ref 23), some (.ref q1), some (.int a2), some (.int a3), some (.int a4), some (.int a5), none] [.int u4.1] S u4.2 J P 0 0 Q
        refine ab_istore (i := 6) (by decide +kernel) (by decide) rfl ?_
        refine ab_ls (ls' := [some (.ref 23), some (.ref q1), some (.int a2), some (.int a3), some (.int a4), some (.int a5), some (.int u4.1)]) rfl ?_
        refine ab_iload (i := 6) (by decide +kernel) rfl ?_
        refine ab_iload (i := 4) (by decide +kernel) rfl ?_
        refine ab_icmp_le (off := 10) (tgt := 82) (by decide +kernel) rfl (fun hc => ?_) (fun hc => ?_)
        · replace H := ab_ifp H hc
          exact ab_wk (ab_le_some (ab_le_some (ab_le_some (ab_le_some (ab_le_some (ab_le_some (ab_le_none (ab_le_nil)))))))) (fX5_chosen_82_ok hB hq1 H K1 K0)
        · replace H := ab_ifn H hc
          refine ab_iload (i := 5) (by decide +kernel) rfl ?_
          refine ab_istore_n (z := 3) (by decide +kernel) rfl (by decide) rfl ?_
          refine ab_ls (ls' := [some (.ref 23), some (.ref q1), some (.int a2), some (.int a5), some (.int a4), some (.int a5), some (.int u4.1)]) rfl ?_
          refine ab_iload (i := 6) (by decide +kernel) rfl ?_
          refine ab_istore (i := 4) (by decide +kernel) (by decide) rfl ?_
          refine ab_ls (ls' := [some (.ref 23), some (.ref q1), some (.int a2), some (.int a5), some (.int u4.1), some (.int a5), some (.int u4.1)]) rfl ?_
          exact ab_wk (ab_le_some (ab_le_some (ab_le_some (ab_le_some (ab_le_some (ab_le_some (ab_le_none (ab_le_nil)))))))) (fX5_chosen_82_ok hB hq1 H K1 K0)
def fX5_chosen (q1 : Nat) (a2 : Int32) (I : ab_I) : Option (Int32 × ab_I) :=
  ab_it (fun s => fX5_chosen_8 q1 a2 s.1 s.2.1 s.2.2.1 s.2.2.2) 5000 ((-1 : Int32), (0 : Int32), (0 : Int32), I)
set_option maxRecDepth 100000 in
theorem mX5_chosen_ok {l : Launch} {G : ab_G} {S : ab_S} {I : ab_I} {J : ab_J} {P : ab_P} {Q : ab_Q} {q1 : Nat} {a2 : Int32} (hB : bz_B S P) (hq1 : bz_st S P q1) {x : Int32 × ab_I} (H : fX5_chosen q1 a2 I = some x) (K0 : Q (some (.int x.1)) S x.2 J P) : ab_Call l G mX5_chosen 2 [.ref 23, .ref q1, .int a2] S I J P Q := by
  unfold fX5_chosen at H
  refine ab_enter rfl (Nat.le_of_ble_eq_true rfl) (ab_wk (ls' := [some (.ref 23), some (.ref q1), some (.int a2), none, none, none, none]) (ab_le_some (ab_le_some (ab_le_some (ab_le_non0 (ab_le_non0 (ab_le_non0 (ab_le_non0 ab_le_nil))))))) ?_)
  refine ab_iconst (z := -1) (v := (-1 : Int32)) (by decide +kernel) (by decide) ?_
  refine ab_istore_n (z := 3) (by decide +kernel) rfl (by decide) rfl ?_
  refine ab_ls (ls' := [some (.ref 23), some (.ref q1), some (.int a2), some (.int (-1 : Int32)), none, none, none]) rfl ?_
  refine ab_iconst (z := 0) (v := (0 : Int32)) (by decide +kernel) (by decide) ?_
  refine ab_istore (i := 4) (by decide +kernel) (by decide) rfl ?_
  refine ab_ls (ls' := [some (.ref 23), some (.ref q1), some (.int a2), some (.int (-1 : Int32)), some (.int (0 : Int32)), none, none]) rfl ?_
  refine ab_iconst (z := 0) (v := (0 : Int32)) (by decide +kernel) (by decide) ?_
  refine ab_istore (i := 5) (by decide +kernel) (by decide) rfl ?_
  refine ab_ls (ls' := [some (.ref 23), some (.ref q1), some (.int a2), some (.int (-1 : Int32)), some (.int (0 : Int32)), some (.int (0 : Int32)), none]) rfl ?_
  exact ab_wk (ab_le_some (ab_le_some (ab_le_some (ab_le_some (ab_le_some (ab_le_some (ab_le_none (ab_le_nil)))))))) (ab_iter (W := fun s => ab_WP l G mX5_chosen 2 8 [some (.ref 23), some (.ref q1), some (.int a2), some (.int s.1), some (.int s.2.1), some (.int s.2.2.1), none] [] S s.2.2.2 J P 0 0 Q) (fun s y hb h1 h2 => fX5_chosen_8_ok hB hq1 hb h1 (fun r e => by have e2 := h2 _ e; subst e2; exact K0)) 5000 ((-1 : Int32), (0 : Int32), (0 : Int32), I) H)
abbrev mX5_ringBell : ab_M := (yX5_ringBell, cX5_ringBell, 6, some .int, 0, 0)
theorem kvX5_ringBell {l : Launch} {G : ab_G} {M : ab_M} {d pc : Nat} {ls : List (Option Value)} {st : List Value} {S : ab_S} {I : ab_I} {J : ab_J} {P : ab_P} {Q : ab_Q} {v0 v1 v2 : Value} {ix D r ln : Nat} (hd : decode M.2.1 pc = .ok (.invokevirtual ix, 3)) (h1 : Cond.methodLink M.1.cls ix mX5_ringBell.1 ∈ ab_good) (hs : S[r]? = some (10, ln)) (hdg : D + 1 ≤ d) (hsum : (st.map fun v => v.category).sum ≤ 8) (kk : ab_Call l G mX5_ringBell D (.ref r :: [v0, v1, v2]) S I J P (fun v S' I' J' P' => ab_WP l G M d (pc + 3) ls (ab_psh v st) S' I' J' P' 0 0 Q)) : ab_WP l G M d pc ls (v2 :: v1 :: v0 :: .ref r :: st) S I J P 0 0 Q := bz_kv (g := mX5_ringBell) (as := [v0, v1, v2]) (cc := 5) rfl hd h1 tw_663 tw_664 tw_7 tw_665 ⟨by decide +kernel, by decide +kernel, (by decide +kernel : (parseMethodDescriptor mX5_ringBell.1.desc).map (fun d => d.parameters.length) = some 3)⟩ (by decide) rfl rfl rfl hdg hsum hs kk
def fX5_ringBell_133 (q1 : Nat) (a2 : Int32) (a3 : Int32) (a5 : Int32) (I : ab_I) : Option (Int32 × ab_I) :=
  some (a5, I)
set_option maxRecDepth 100000 in
theorem fX5_ringBell_133_ok {l : Launch} {G : ab_G} {S : ab_S} {I : ab_I} {J : ab_J} {P : ab_P} {Q : ab_Q} {q1 : Nat} {a2 : Int32} {a3 : Int32} {a5 : Int32} (hB : bz_B S P) (hq1 : bz_st S P q1) {x : Int32 × ab_I} (H : fX5_ringBell_133 q1 a2 a3 a5 I = some x) (K0 : Q (some (.int x.1)) S x.2 J P) : ab_WP l G mX5_ringBell 3 133 [some (.ref 23), some (.ref q1), some (.int a2), some (.int a3), none, some (.int a5)] [] S I J P 0 0 Q := by
  unfold fX5_ringBell_133 at H
  refine ab_iload (i := 5) (by decide +kernel) rfl ?_
  obtain rfl := Option.some.inj H
  exact ab_iret (by decide +kernel) rfl (Nat.le_refl _) (Nat.le_refl _) K0
def fX5_ringBell (q1 : Nat) (a2 : Int32) (a3 : Int32) (I : ab_I) : Option (Int32 × ab_I) :=
  (fX5_chosen q1 a2 I).bind fun u1 =>
  ab_gd (ab_ix a2 5 = true) (
    if u1.1 = (-1 : Int32) then
      some ((0 : Int32), (ab_u u1.2 24 a2.toNatClampNeg u1.1))
    else
      ab_gd (ab_ix u1.1 6 = true) (
        (fX11_cell u1.1 a2).bind fun u2 =>
        ab_gd (ab_ix u2 30 = true) (
          ab_gd (ab_ix u1.1 6 = true) (
            ab_gd (ab_ix u1.1 6 = true) (
              ab_gd (ab_ix u1.1 6 = true) (
                ab_gd (ab_ix u1.1 6 = true) (
                  if a3 = 0 then
                    fX5_ringBell_133 q1 a2 a3 (if ((ab_u u1.2 24 a2.toNatClampNeg u1.1) (q1 + 3) u2.toNatClampNeg) < ((ab_u u1.2 24 a2.toNatClampNeg u1.1) (q1 + 1) u1.1.toNatClampNeg) then ((ab_u u1.2 24 a2.toNatClampNeg u1.1) (q1 + 3) u2.toNatClampNeg) else ((ab_u u1.2 24 a2.toNatClampNeg u1.1) (q1 + 1) u1.1.toNatClampNeg)) (ab_u (ab_u (ab_u u1.2 24 a2.toNatClampNeg u1.1) (q1 + 2) u1.1.toNatClampNeg (if (((ab_u u1.2 24 a2.toNatClampNeg u1.1) (q1 + 2) u1.1.toNatClampNeg) + (1 : Int32)) < (999 : Int32) then (((ab_u u1.2 24 a2.toNatClampNeg u1.1) (q1 + 2) u1.1.toNatClampNeg) + (1 : Int32)) else (999 : Int32))) (q1 + 1) u1.1.toNatClampNeg (((ab_u (ab_u u1.2 24 a2.toNatClampNeg u1.1) (q1 + 2) u1.1.toNatClampNeg (if (((ab_u u1.2 24 a2.toNatClampNeg u1.1) (q1 + 2) u1.1.toNatClampNeg) + (1 : Int32)) < (999 : Int32) then (((ab_u u1.2 24 a2.toNatClampNeg u1.1) (q1 + 2) u1.1.toNatClampNeg) + (1 : Int32)) else (999 : Int32))) (q1 + 1) u1.1.toNatClampNeg) - (if ((ab_u u1.2 24 a2.toNatClampNeg u1.1) (q1 + 3) u2.toNatClampNeg) < ((ab_u u1.2 24 a2.toNatClampNeg u1.1) (q1 + 1) u1.1.toNatClampNeg) then ((ab_u u1.2 24 a2.toNatClampNeg u1.1) (q1 + 3) u2.toNatClampNeg) else ((ab_u u1.2 24 a2.toNatClampNeg u1.1) (q1 + 1) u1.1.toNatClampNeg))))
                  else
                    if ((ab_u (ab_u (ab_u (ab_u u1.2 24 a2.toNatClampNeg u1.1) (q1 + 2) u1.1.toNatClampNeg (if (((ab_u u1.2 24 a2.toNatClampNeg u1.1) (q1 + 2) u1.1.toNatClampNeg) + (1 : Int32)) < (999 : Int32) then (((ab_u u1.2 24 a2.toNatClampNeg u1.1) (q1 + 2) u1.1.toNatClampNeg) + (1 : Int32)) else (999 : Int32))) (q1 + 1) u1.1.toNatClampNeg (((ab_u (ab_u u1.2 24 a2.toNatClampNeg u1.1) (q1 + 2) u1.1.toNatClampNeg (if (((ab_u u1.2 24 a2.toNatClampNeg u1.1) (q1 + 2) u1.1.toNatClampNeg) + (1 : Int32)) < (999 : Int32) then (((ab_u u1.2 24 a2.toNatClampNeg u1.1) (q1 + 2) u1.1.toNatClampNeg) + (1 : Int32)) else (999 : Int32))) (q1 + 1) u1.1.toNatClampNeg) - (if ((ab_u u1.2 24 a2.toNatClampNeg u1.1) (q1 + 3) u2.toNatClampNeg) < ((ab_u u1.2 24 a2.toNatClampNeg u1.1) (q1 + 1) u1.1.toNatClampNeg) then ((ab_u u1.2 24 a2.toNatClampNeg u1.1) (q1 + 3) u2.toNatClampNeg) else ((ab_u u1.2 24 a2.toNatClampNeg u1.1) (q1 + 1) u1.1.toNatClampNeg)))) q1 5 (((((ab_u (ab_u (ab_u u1.2 24 a2.toNatClampNeg u1.1) (q1 + 2) u1.1.toNatClampNeg (if (((ab_u u1.2 24 a2.toNatClampNeg u1.1) (q1 + 2) u1.1.toNatClampNeg) + (1 : Int32)) < (999 : Int32) then (((ab_u u1.2 24 a2.toNatClampNeg u1.1) (q1 + 2) u1.1.toNatClampNeg) + (1 : Int32)) else (999 : Int32))) (q1 + 1) u1.1.toNatClampNeg (((ab_u (ab_u u1.2 24 a2.toNatClampNeg u1.1) (q1 + 2) u1.1.toNatClampNeg (if (((ab_u u1.2 24 a2.toNatClampNeg u1.1) (q1 + 2) u1.1.toNatClampNeg) + (1 : Int32)) < (999 : Int32) then (((ab_u u1.2 24 a2.toNatClampNeg u1.1) (q1 + 2) u1.1.toNatClampNeg) + (1 : Int32)) else (999 : Int32))) (q1 + 1) u1.1.toNatClampNeg) - (if ((ab_u u1.2 24 a2.toNatClampNeg u1.1) (q1 + 3) u2.toNatClampNeg) < ((ab_u u1.2 24 a2.toNatClampNeg u1.1) (q1 + 1) u1.1.toNatClampNeg) then ((ab_u u1.2 24 a2.toNatClampNeg u1.1) (q1 + 3) u2.toNatClampNeg) else ((ab_u u1.2 24 a2.toNatClampNeg u1.1) (q1 + 1) u1.1.toNatClampNeg)))) q1 5) * (137 : Int32)) + (71 : Int32)) - ((((ab_u (ab_u (ab_u u1.2 24 a2.toNatClampNeg u1.1) (q1 + 2) u1.1.toNatClampNeg (if (((ab_u u1.2 24 a2.toNatClampNeg u1.1) (q1 + 2) u1.1.toNatClampNeg) + (1 : Int32)) < (999 : Int32) then (((ab_u u1.2 24 a2.toNatClampNeg u1.1) (q1 + 2) u1.1.toNatClampNeg) + (1 : Int32)) else (999 : Int32))) (q1 + 1) u1.1.toNatClampNeg (((ab_u (ab_u u1.2 24 a2.toNatClampNeg u1.1) (q1 + 2) u1.1.toNatClampNeg (if (((ab_u u1.2 24 a2.toNatClampNeg u1.1) (q1 + 2) u1.1.toNatClampNeg) + (1 : Int32)) < (999 : Int32) then (((ab_u u1.2 24 a2.toNatClampNeg u1.1) (q1 + 2) u1.1.toNatClampNeg) + (1 : Int32)) else (999 : Int32))) (q1 + 1) u1.1.toNatClampNeg) - (if ((ab_u u1.2 24 a2.toNatClampNeg u1.1) (q1 + 3) u2.toNatClampNeg) < ((ab_u u1.2 24 a2.toNatClampNeg u1.1) (q1 + 1) u1.1.toNatClampNeg) then ((ab_u u1.2 24 a2.toNatClampNeg u1.1) (q1 + 3) u2.toNatClampNeg) else ((ab_u u1.2 24 a2.toNatClampNeg u1.1) (q1 + 1) u1.1.toNatClampNeg)))) q1 5) * (137 : Int32)) + (71 : Int32)) / (1000 : Int32) * (1000 : Int32))) 3 8) ≤ (((ab_u (ab_u (ab_u (ab_u u1.2 24 a2.toNatClampNeg u1.1) (q1 + 2) u1.1.toNatClampNeg (if (((ab_u u1.2 24 a2.toNatClampNeg u1.1) (q1 + 2) u1.1.toNatClampNeg) + (1 : Int32)) < (999 : Int32) then (((ab_u u1.2 24 a2.toNatClampNeg u1.1) (q1 + 2) u1.1.toNatClampNeg) + (1 : Int32)) else (999 : Int32))) (q1 + 1) u1.1.toNatClampNeg (((ab_u (ab_u u1.2 24 a2.toNatClampNeg u1.1) (q1 + 2) u1.1.toNatClampNeg (if (((ab_u u1.2 24 a2.toNatClampNeg u1.1) (q1 + 2) u1.1.toNatClampNeg) + (1 : Int32)) < (999 : Int32) then (((ab_u u1.2 24 a2.toNatClampNeg u1.1) (q1 + 2) u1.1.toNatClampNeg) + (1 : Int32)) else (999 : Int32))) (q1 + 1) u1.1.toNatClampNeg) - (if ((ab_u u1.2 24 a2.toNatClampNeg u1.1) (q1 + 3) u2.toNatClampNeg) < ((ab_u u1.2 24 a2.toNatClampNeg u1.1) (q1 + 1) u1.1.toNatClampNeg) then ((ab_u u1.2 24 a2.toNatClampNeg u1.1) (q1 + 3) u2.toNatClampNeg) else ((ab_u u1.2 24 a2.toNatClampNeg u1.1) (q1 + 1) u1.1.toNatClampNeg)))) q1 5 (((((ab_u (ab_u (ab_u u1.2 24 a2.toNatClampNeg u1.1) (q1 + 2) u1.1.toNatClampNeg (if (((ab_u u1.2 24 a2.toNatClampNeg u1.1) (q1 + 2) u1.1.toNatClampNeg) + (1 : Int32)) < (999 : Int32) then (((ab_u u1.2 24 a2.toNatClampNeg u1.1) (q1 + 2) u1.1.toNatClampNeg) + (1 : Int32)) else (999 : Int32))) (q1 + 1) u1.1.toNatClampNeg (((ab_u (ab_u u1.2 24 a2.toNatClampNeg u1.1) (q1 + 2) u1.1.toNatClampNeg (if (((ab_u u1.2 24 a2.toNatClampNeg u1.1) (q1 + 2) u1.1.toNatClampNeg) + (1 : Int32)) < (999 : Int32) then (((ab_u u1.2 24 a2.toNatClampNeg u1.1) (q1 + 2) u1.1.toNatClampNeg) + (1 : Int32)) else (999 : Int32))) (q1 + 1) u1.1.toNatClampNeg) - (if ((ab_u u1.2 24 a2.toNatClampNeg u1.1) (q1 + 3) u2.toNatClampNeg) < ((ab_u u1.2 24 a2.toNatClampNeg u1.1) (q1 + 1) u1.1.toNatClampNeg) then ((ab_u u1.2 24 a2.toNatClampNeg u1.1) (q1 + 3) u2.toNatClampNeg) else ((ab_u u1.2 24 a2.toNatClampNeg u1.1) (q1 + 1) u1.1.toNatClampNeg)))) q1 5) * (137 : Int32)) + (71 : Int32)) - ((((ab_u (ab_u (ab_u u1.2 24 a2.toNatClampNeg u1.1) (q1 + 2) u1.1.toNatClampNeg (if (((ab_u u1.2 24 a2.toNatClampNeg u1.1) (q1 + 2) u1.1.toNatClampNeg) + (1 : Int32)) < (999 : Int32) then (((ab_u u1.2 24 a2.toNatClampNeg u1.1) (q1 + 2) u1.1.toNatClampNeg) + (1 : Int32)) else (999 : Int32))) (q1 + 1) u1.1.toNatClampNeg (((ab_u (ab_u u1.2 24 a2.toNatClampNeg u1.1) (q1 + 2) u1.1.toNatClampNeg (if (((ab_u u1.2 24 a2.toNatClampNeg u1.1) (q1 + 2) u1.1.toNatClampNeg) + (1 : Int32)) < (999 : Int32) then (((ab_u u1.2 24 a2.toNatClampNeg u1.1) (q1 + 2) u1.1.toNatClampNeg) + (1 : Int32)) else (999 : Int32))) (q1 + 1) u1.1.toNatClampNeg) - (if ((ab_u u1.2 24 a2.toNatClampNeg u1.1) (q1 + 3) u2.toNatClampNeg) < ((ab_u u1.2 24 a2.toNatClampNeg u1.1) (q1 + 1) u1.1.toNatClampNeg) then ((ab_u u1.2 24 a2.toNatClampNeg u1.1) (q1 + 3) u2.toNatClampNeg) else ((ab_u u1.2 24 a2.toNatClampNeg u1.1) (q1 + 1) u1.1.toNatClampNeg)))) q1 5) * (137 : Int32)) + (71 : Int32)) / (1000 : Int32) * (1000 : Int32))) q1 5) - ((ab_u (ab_u (ab_u (ab_u u1.2 24 a2.toNatClampNeg u1.1) (q1 + 2) u1.1.toNatClampNeg (if (((ab_u u1.2 24 a2.toNatClampNeg u1.1) (q1 + 2) u1.1.toNatClampNeg) + (1 : Int32)) < (999 : Int32) then (((ab_u u1.2 24 a2.toNatClampNeg u1.1) (q1 + 2) u1.1.toNatClampNeg) + (1 : Int32)) else (999 : Int32))) (q1 + 1) u1.1.toNatClampNeg (((ab_u (ab_u u1.2 24 a2.toNatClampNeg u1.1) (q1 + 2) u1.1.toNatClampNeg (if (((ab_u u1.2 24 a2.toNatClampNeg u1.1) (q1 + 2) u1.1.toNatClampNeg) + (1 : Int32)) < (999 : Int32) then (((ab_u u1.2 24 a2.toNatClampNeg u1.1) (q1 + 2) u1.1.toNatClampNeg) + (1 : Int32)) else (999 : Int32))) (q1 + 1) u1.1.toNatClampNeg) - (if ((ab_u u1.2 24 a2.toNatClampNeg u1.1) (q1 + 3) u2.toNatClampNeg) < ((ab_u u1.2 24 a2.toNatClampNeg u1.1) (q1 + 1) u1.1.toNatClampNeg) then ((ab_u u1.2 24 a2.toNatClampNeg u1.1) (q1 + 3) u2.toNatClampNeg) else ((ab_u u1.2 24 a2.toNatClampNeg u1.1) (q1 + 1) u1.1.toNatClampNeg)))) q1 5 (((((ab_u (ab_u (ab_u u1.2 24 a2.toNatClampNeg u1.1) (q1 + 2) u1.1.toNatClampNeg (if (((ab_u u1.2 24 a2.toNatClampNeg u1.1) (q1 + 2) u1.1.toNatClampNeg) + (1 : Int32)) < (999 : Int32) then (((ab_u u1.2 24 a2.toNatClampNeg u1.1) (q1 + 2) u1.1.toNatClampNeg) + (1 : Int32)) else (999 : Int32))) (q1 + 1) u1.1.toNatClampNeg (((ab_u (ab_u u1.2 24 a2.toNatClampNeg u1.1) (q1 + 2) u1.1.toNatClampNeg (if (((ab_u u1.2 24 a2.toNatClampNeg u1.1) (q1 + 2) u1.1.toNatClampNeg) + (1 : Int32)) < (999 : Int32) then (((ab_u u1.2 24 a2.toNatClampNeg u1.1) (q1 + 2) u1.1.toNatClampNeg) + (1 : Int32)) else (999 : Int32))) (q1 + 1) u1.1.toNatClampNeg) - (if ((ab_u u1.2 24 a2.toNatClampNeg u1.1) (q1 + 3) u2.toNatClampNeg) < ((ab_u u1.2 24 a2.toNatClampNeg u1.1) (q1 + 1) u1.1.toNatClampNeg) then ((ab_u u1.2 24 a2.toNatClampNeg u1.1) (q1 + 3) u2.toNatClampNeg) else ((ab_u u1.2 24 a2.toNatClampNeg u1.1) (q1 + 1) u1.1.toNatClampNeg)))) q1 5) * (137 : Int32)) + (71 : Int32)) - ((((ab_u (ab_u (ab_u u1.2 24 a2.toNatClampNeg u1.1) (q1 + 2) u1.1.toNatClampNeg (if (((ab_u u1.2 24 a2.toNatClampNeg u1.1) (q1 + 2) u1.1.toNatClampNeg) + (1 : Int32)) < (999 : Int32) then (((ab_u u1.2 24 a2.toNatClampNeg u1.1) (q1 + 2) u1.1.toNatClampNeg) + (1 : Int32)) else (999 : Int32))) (q1 + 1) u1.1.toNatClampNeg (((ab_u (ab_u u1.2 24 a2.toNatClampNeg u1.1) (q1 + 2) u1.1.toNatClampNeg (if (((ab_u u1.2 24 a2.toNatClampNeg u1.1) (q1 + 2) u1.1.toNatClampNeg) + (1 : Int32)) < (999 : Int32) then (((ab_u u1.2 24 a2.toNatClampNeg u1.1) (q1 + 2) u1.1.toNatClampNeg) + (1 : Int32)) else (999 : Int32))) (q1 + 1) u1.1.toNatClampNeg) - (if ((ab_u u1.2 24 a2.toNatClampNeg u1.1) (q1 + 3) u2.toNatClampNeg) < ((ab_u u1.2 24 a2.toNatClampNeg u1.1) (q1 + 1) u1.1.toNatClampNeg) then ((ab_u u1.2 24 a2.toNatClampNeg u1.1) (q1 + 3) u2.toNatClampNeg) else ((ab_u u1.2 24 a2.toNatClampNeg u1.1) (q1 + 1) u1.1.toNatClampNeg)))) q1 5) * (137 : Int32)) + (71 : Int32)) / (1000 : Int32) * (1000 : Int32))) q1 5) / (100 : Int32) * (100 : Int32)) then
                      fX5_ringBell_133 q1 a2 a3 (if ((ab_u u1.2 24 a2.toNatClampNeg u1.1) (q1 + 3) u2.toNatClampNeg) < ((ab_u u1.2 24 a2.toNatClampNeg u1.1) (q1 + 1) u1.1.toNatClampNeg) then ((ab_u u1.2 24 a2.toNatClampNeg u1.1) (q1 + 3) u2.toNatClampNeg) else ((ab_u u1.2 24 a2.toNatClampNeg u1.1) (q1 + 1) u1.1.toNatClampNeg)) (ab_u (ab_u (ab_u (ab_u u1.2 24 a2.toNatClampNeg u1.1) (q1 + 2) u1.1.toNatClampNeg (if (((ab_u u1.2 24 a2.toNatClampNeg u1.1) (q1 + 2) u1.1.toNatClampNeg) + (1 : Int32)) < (999 : Int32) then (((ab_u u1.2 24 a2.toNatClampNeg u1.1) (q1 + 2) u1.1.toNatClampNeg) + (1 : Int32)) else (999 : Int32))) (q1 + 1) u1.1.toNatClampNeg (((ab_u (ab_u u1.2 24 a2.toNatClampNeg u1.1) (q1 + 2) u1.1.toNatClampNeg (if (((ab_u u1.2 24 a2.toNatClampNeg u1.1) (q1 + 2) u1.1.toNatClampNeg) + (1 : Int32)) < (999 : Int32) then (((ab_u u1.2 24 a2.toNatClampNeg u1.1) (q1 + 2) u1.1.toNatClampNeg) + (1 : Int32)) else (999 : Int32))) (q1 + 1) u1.1.toNatClampNeg) - (if ((ab_u u1.2 24 a2.toNatClampNeg u1.1) (q1 + 3) u2.toNatClampNeg) < ((ab_u u1.2 24 a2.toNatClampNeg u1.1) (q1 + 1) u1.1.toNatClampNeg) then ((ab_u u1.2 24 a2.toNatClampNeg u1.1) (q1 + 3) u2.toNatClampNeg) else ((ab_u u1.2 24 a2.toNatClampNeg u1.1) (q1 + 1) u1.1.toNatClampNeg)))) q1 5 (((((ab_u (ab_u (ab_u u1.2 24 a2.toNatClampNeg u1.1) (q1 + 2) u1.1.toNatClampNeg (if (((ab_u u1.2 24 a2.toNatClampNeg u1.1) (q1 + 2) u1.1.toNatClampNeg) + (1 : Int32)) < (999 : Int32) then (((ab_u u1.2 24 a2.toNatClampNeg u1.1) (q1 + 2) u1.1.toNatClampNeg) + (1 : Int32)) else (999 : Int32))) (q1 + 1) u1.1.toNatClampNeg (((ab_u (ab_u u1.2 24 a2.toNatClampNeg u1.1) (q1 + 2) u1.1.toNatClampNeg (if (((ab_u u1.2 24 a2.toNatClampNeg u1.1) (q1 + 2) u1.1.toNatClampNeg) + (1 : Int32)) < (999 : Int32) then (((ab_u u1.2 24 a2.toNatClampNeg u1.1) (q1 + 2) u1.1.toNatClampNeg) + (1 : Int32)) else (999 : Int32))) (q1 + 1) u1.1.toNatClampNeg) - (if ((ab_u u1.2 24 a2.toNatClampNeg u1.1) (q1 + 3) u2.toNatClampNeg) < ((ab_u u1.2 24 a2.toNatClampNeg u1.1) (q1 + 1) u1.1.toNatClampNeg) then ((ab_u u1.2 24 a2.toNatClampNeg u1.1) (q1 + 3) u2.toNatClampNeg) else ((ab_u u1.2 24 a2.toNatClampNeg u1.1) (q1 + 1) u1.1.toNatClampNeg)))) q1 5) * (137 : Int32)) + (71 : Int32)) - ((((ab_u (ab_u (ab_u u1.2 24 a2.toNatClampNeg u1.1) (q1 + 2) u1.1.toNatClampNeg (if (((ab_u u1.2 24 a2.toNatClampNeg u1.1) (q1 + 2) u1.1.toNatClampNeg) + (1 : Int32)) < (999 : Int32) then (((ab_u u1.2 24 a2.toNatClampNeg u1.1) (q1 + 2) u1.1.toNatClampNeg) + (1 : Int32)) else (999 : Int32))) (q1 + 1) u1.1.toNatClampNeg (((ab_u (ab_u u1.2 24 a2.toNatClampNeg u1.1) (q1 + 2) u1.1.toNatClampNeg (if (((ab_u u1.2 24 a2.toNatClampNeg u1.1) (q1 + 2) u1.1.toNatClampNeg) + (1 : Int32)) < (999 : Int32) then (((ab_u u1.2 24 a2.toNatClampNeg u1.1) (q1 + 2) u1.1.toNatClampNeg) + (1 : Int32)) else (999 : Int32))) (q1 + 1) u1.1.toNatClampNeg) - (if ((ab_u u1.2 24 a2.toNatClampNeg u1.1) (q1 + 3) u2.toNatClampNeg) < ((ab_u u1.2 24 a2.toNatClampNeg u1.1) (q1 + 1) u1.1.toNatClampNeg) then ((ab_u u1.2 24 a2.toNatClampNeg u1.1) (q1 + 3) u2.toNatClampNeg) else ((ab_u u1.2 24 a2.toNatClampNeg u1.1) (q1 + 1) u1.1.toNatClampNeg)))) q1 5) * (137 : Int32)) + (71 : Int32)) / (1000 : Int32) * (1000 : Int32)))
                    else
                      (fX11_cell u1.1 a2).bind fun u3 =>
                      ab_gd (ab_ix u3 30 = true) (
                        fX5_ringBell_133 q1 a2 a3 (if ((ab_u u1.2 24 a2.toNatClampNeg u1.1) (q1 + 3) u2.toNatClampNeg) < ((ab_u u1.2 24 a2.toNatClampNeg u1.1) (q1 + 1) u1.1.toNatClampNeg) then ((ab_u u1.2 24 a2.toNatClampNeg u1.1) (q1 + 3) u2.toNatClampNeg) else ((ab_u u1.2 24 a2.toNatClampNeg u1.1) (q1 + 1) u1.1.toNatClampNeg)) (ab_u (ab_u (ab_u (ab_u (ab_u u1.2 24 a2.toNatClampNeg u1.1) (q1 + 2) u1.1.toNatClampNeg (if (((ab_u u1.2 24 a2.toNatClampNeg u1.1) (q1 + 2) u1.1.toNatClampNeg) + (1 : Int32)) < (999 : Int32) then (((ab_u u1.2 24 a2.toNatClampNeg u1.1) (q1 + 2) u1.1.toNatClampNeg) + (1 : Int32)) else (999 : Int32))) (q1 + 1) u1.1.toNatClampNeg (((ab_u (ab_u u1.2 24 a2.toNatClampNeg u1.1) (q1 + 2) u1.1.toNatClampNeg (if (((ab_u u1.2 24 a2.toNatClampNeg u1.1) (q1 + 2) u1.1.toNatClampNeg) + (1 : Int32)) < (999 : Int32) then (((ab_u u1.2 24 a2.toNatClampNeg u1.1) (q1 + 2) u1.1.toNatClampNeg) + (1 : Int32)) else (999 : Int32))) (q1 + 1) u1.1.toNatClampNeg) - (if ((ab_u u1.2 24 a2.toNatClampNeg u1.1) (q1 + 3) u2.toNatClampNeg) < ((ab_u u1.2 24 a2.toNatClampNeg u1.1) (q1 + 1) u1.1.toNatClampNeg) then ((ab_u u1.2 24 a2.toNatClampNeg u1.1) (q1 + 3) u2.toNatClampNeg) else ((ab_u u1.2 24 a2.toNatClampNeg u1.1) (q1 + 1) u1.1.toNatClampNeg)))) q1 5 (((((ab_u (ab_u (ab_u u1.2 24 a2.toNatClampNeg u1.1) (q1 + 2) u1.1.toNatClampNeg (if (((ab_u u1.2 24 a2.toNatClampNeg u1.1) (q1 + 2) u1.1.toNatClampNeg) + (1 : Int32)) < (999 : Int32) then (((ab_u u1.2 24 a2.toNatClampNeg u1.1) (q1 + 2) u1.1.toNatClampNeg) + (1 : Int32)) else (999 : Int32))) (q1 + 1) u1.1.toNatClampNeg (((ab_u (ab_u u1.2 24 a2.toNatClampNeg u1.1) (q1 + 2) u1.1.toNatClampNeg (if (((ab_u u1.2 24 a2.toNatClampNeg u1.1) (q1 + 2) u1.1.toNatClampNeg) + (1 : Int32)) < (999 : Int32) then (((ab_u u1.2 24 a2.toNatClampNeg u1.1) (q1 + 2) u1.1.toNatClampNeg) + (1 : Int32)) else (999 : Int32))) (q1 + 1) u1.1.toNatClampNeg) - (if ((ab_u u1.2 24 a2.toNatClampNeg u1.1) (q1 + 3) u2.toNatClampNeg) < ((ab_u u1.2 24 a2.toNatClampNeg u1.1) (q1 + 1) u1.1.toNatClampNeg) then ((ab_u u1.2 24 a2.toNatClampNeg u1.1) (q1 + 3) u2.toNatClampNeg) else ((ab_u u1.2 24 a2.toNatClampNeg u1.1) (q1 + 1) u1.1.toNatClampNeg)))) q1 5) * (137 : Int32)) + (71 : Int32)) - ((((ab_u (ab_u (ab_u u1.2 24 a2.toNatClampNeg u1.1) (q1 + 2) u1.1.toNatClampNeg (if (((ab_u u1.2 24 a2.toNatClampNeg u1.1) (q1 + 2) u1.1.toNatClampNeg) + (1 : Int32)) < (999 : Int32) then (((ab_u u1.2 24 a2.toNatClampNeg u1.1) (q1 + 2) u1.1.toNatClampNeg) + (1 : Int32)) else (999 : Int32))) (q1 + 1) u1.1.toNatClampNeg (((ab_u (ab_u u1.2 24 a2.toNatClampNeg u1.1) (q1 + 2) u1.1.toNatClampNeg (if (((ab_u u1.2 24 a2.toNatClampNeg u1.1) (q1 + 2) u1.1.toNatClampNeg) + (1 : Int32)) < (999 : Int32) then (((ab_u u1.2 24 a2.toNatClampNeg u1.1) (q1 + 2) u1.1.toNatClampNeg) + (1 : Int32)) else (999 : Int32))) (q1 + 1) u1.1.toNatClampNeg) - (if ((ab_u u1.2 24 a2.toNatClampNeg u1.1) (q1 + 3) u2.toNatClampNeg) < ((ab_u u1.2 24 a2.toNatClampNeg u1.1) (q1 + 1) u1.1.toNatClampNeg) then ((ab_u u1.2 24 a2.toNatClampNeg u1.1) (q1 + 3) u2.toNatClampNeg) else ((ab_u u1.2 24 a2.toNatClampNeg u1.1) (q1 + 1) u1.1.toNatClampNeg)))) q1 5) * (137 : Int32)) + (71 : Int32)) / (1000 : Int32) * (1000 : Int32))) (q1 + 3) u3.toNatClampNeg (0 : Int32))
                      )
                )
              )
            )
          )
        )
      )
  )
set_option maxRecDepth 100000 in
theorem mX5_ringBell_ok {l : Launch} {G : ab_G} {S : ab_S} {I : ab_I} {J : ab_J} {P : ab_P} {Q : ab_Q} {q1 : Nat} {a2 : Int32} {a3 : Int32} (hB : bz_B S P) (hq1 : bz_st S P q1) {x : Int32 × ab_I} (H : fX5_ringBell q1 a2 a3 I = some x) (K0 : Q (some (.int x.1)) S x.2 J P) : ab_Call l G mX5_ringBell 3 [.ref 23, .ref q1, .int a2, .int a3] S I J P Q := by
  unfold fX5_ringBell at H
  refine ab_enter rfl (Nat.le_of_ble_eq_true rfl) (ab_wk (ls' := [some (.ref 23), some (.ref q1), some (.int a2), some (.int a3), none, none]) (ab_le_some (ab_le_some (ab_le_some (ab_le_some (ab_le_non0 (ab_le_non0 ab_le_nil)))))) ?_)
  refine ab_aload_n (z := 0) (by decide +kernel) rfl rfl ?_
  refine ab_aload_n (z := 1) (by decide +kernel) rfl rfl ?_
  refine ab_iload_n (z := 2) (by decide +kernel) rfl rfl ?_
  obtain ⟨u1, hu1, H⟩ := ab_bd_of H
  refine kvX5_chosen (D := 2) (ix := 51) (by decide +kernel) tw_666 (hB.1 23 _ rfl) (by decide) (Nat.le_of_ble_eq_true rfl) (mX5_chosen_ok hB hq1 hu1 ?_)
  change ab_WP l G mX5_ringBell 3 6 [some (.ref 23), some (.ref q1), some (.int a2), some (.int a3), none, none] [.int u1.1] S u1.2 J P 0 0 Q
  refine ab_istore (i := 4) (by decide +kernel) (by decide) rfl ?_
  refine ab_ls (ls' := [some (.ref 23), some (.ref q1), some (.int a2), some (.int a3), some (.int u1.1), none]) rfl ?_
  refine ab_aload_n (z := 0) (by decide +kernel) rfl rfl ?_
  refine gX5_1 (ix := 9) (by decide +kernel) tw_212 (hB.1 23 _ rfl) (hB.2.1 31 (23, 1, 24) rfl) ?_
  refine ab_iload_n (z := 2) (by decide +kernel) rfl rfl ?_
  refine ab_iload (i := 4) (by decide +kernel) rfl ?_
  obtain ⟨hg, H⟩ := ab_gd_of H
  refine ab_iast (ln := 5) (by decide +kernel) (hB.1 24 _ rfl) (ab_ix_in hg) ?_
  refine ab_iload (i := 4) (by decide +kernel) rfl ?_
  refine ab_iconst (z := -1) (v := (-1 : Int32)) (by decide +kernel) (by decide) ?_
  refine ab_icmp_ne (off := 5) (tgt := 24) (by decide +kernel) rfl (fun hc => ?_) (fun hc => ?_)
  · replace H := ab_ifn H hc
    refine ab_aload_n (z := 1) (by decide +kernel) rfl rfl ?_
    refine gX6_0 (ix := 55) (by decide +kernel) tw_234 hq1.1 hq1.2.2.2.2.1 ?_
    refine ab_iload (i := 4) (by decide +kernel) rfl ?_
    obtain ⟨hg, H⟩ := ab_gd_of H
    refine ab_iald (ln := 6) (by decide +kernel) hq1.2.1 (ab_ix_in hg) ?_
    refine ab_aload_n (z := 1) (by decide +kernel) rfl rfl ?_
    refine gX6_2 (ix := 31) (by decide +kernel) tw_246 hq1.1 hq1.2.2.2.2.2.2 ?_
    refine ab_iload (i := 4) (by decide +kernel) rfl ?_
    refine ab_iload_n (z := 2) (by decide +kernel) rfl rfl ?_
    obtain ⟨u2, hu2, H⟩ := ab_bd_of H
    refine knX11_cell (D := 0) (ix := 34) (host := "BellRingers") (by decide +kernel) tn_674 (by decide) (Nat.le_of_ble_eq_true rfl) (mX11_cell_ok hB hu2 ?_)
    change ab_WP l G mX5_ringBell 3 41 [some (.ref 23), some (.ref q1), some (.int a2), some (.int a3), some (.int u1.1), none] [.int u2, .ref (q1 + 3), .int ((ab_u u1.2 24 a2.toNatClampNeg u1.1) (q1 + 1) u1.1.toNatClampNeg)] S (ab_u u1.2 24 a2.toNatClampNeg u1.1) J P 0 0 Q
    obtain ⟨hg, H⟩ := ab_gd_of H
    refine ab_iald (ln := 30) (by decide +kernel) hq1.2.2.2.1 (ab_ix_in hg) ?_
    refine ab_mmin (ix := 58) (by decide +kernel) tw_690 tw_691 tw_17 tw_692 (by decide) (Nat.le_of_ble_eq_true rfl) (Nat.le_refl _) (Nat.le_refl _) ?_
    refine ab_istore (i := 5) (by decide +kernel) (by decide) rfl ?_
    refine ab_ls (ls' := [some (.ref 23), some (.ref q1), some (.int a2), some (.int a3), some (.int u1.1), some (.int (if ((ab_u u1.2 24 a2.toNatClampNeg u1.1) (q1 + 3) u2.toNatClampNeg) < ((ab_u u1.2 24 a2.toNatClampNeg u1.1) (q1 + 1) u1.1.toNatClampNeg) then ((ab_u u1.2 24 a2.toNatClampNeg u1.1) (q1 + 3) u2.toNatClampNeg) else ((ab_u u1.2 24 a2.toNatClampNeg u1.1) (q1 + 1) u1.1.toNatClampNeg)))]) rfl ?_
    refine ab_aload_n (z := 1) (by decide +kernel) rfl rfl ?_
    refine gX6_1 (ix := 63) (by decide +kernel) tw_240 hq1.1 hq1.2.2.2.2.2.1 ?_
    refine ab_iload (i := 4) (by decide +kernel) rfl ?_
    refine ab_sipush (z := 999) (v := (999 : Int32)) (by decide +kernel) (by decide) ?_
    refine ab_aload_n (z := 1) (by decide +kernel) rfl rfl ?_
    refine gX6_1 (ix := 63) (by decide +kernel) tw_240 hq1.1 hq1.2.2.2.2.2.1 ?_
    refine ab_iload (i := 4) (by decide +kernel) rfl ?_
    obtain ⟨hg, H⟩ := ab_gd_of H
    refine ab_iald (ln := 6) (by decide +kernel) hq1.2.2.1 (ab_ix_in hg) ?_
    refine ab_iconst (z := 1) (v := (1 : Int32)) (by decide +kernel) (by decide) ?_
    refine ab_iadd (by decide +kernel) ?_
    refine ab_mmin (ix := 58) (by decide +kernel) tw_690 tw_691 tw_17 tw_692 (by decide) (Nat.le_of_ble_eq_true rfl) (Nat.le_refl _) (Nat.le_refl _) ?_
    obtain ⟨hg, H⟩ := ab_gd_of H
    refine ab_iast (ln := 6) (by decide +kernel) hq1.2.2.1 (ab_ix_in hg) ?_
    refine ab_aload_n (z := 1) (by decide +kernel) rfl rfl ?_
    refine gX6_0 (ix := 55) (by decide +kernel) tw_234 hq1.1 hq1.2.2.2.2.1 ?_
    refine ab_iload (i := 4) (by decide +kernel) rfl ?_
    refine ab_dup2 (by decide +kernel) rfl rfl ?_
    obtain ⟨hg, H⟩ := ab_gd_of H
    refine ab_iald (ln := 6) (by decide +kernel) hq1.2.1 (ab_ix_in hg) ?_
    refine ab_iload (i := 5) (by decide +kernel) rfl ?_
    refine ab_isub (by decide +kernel) ?_
    obtain ⟨hg, H⟩ := ab_gd_of H
    refine ab_iast (ln := 6) (by decide +kernel) hq1.2.1 (ab_ix_in hg) ?_
    refine ab_iload_n (z := 3) (by decide +kernel) rfl rfl ?_
    refine ab_if_eq (off := 51) (tgt := 133) (by decide +kernel) rfl (fun hc => ?_) (fun hc => ?_)
    · replace H := ab_ifp H hc
      exact ab_wk (ab_le_some (ab_le_some (ab_le_some (ab_le_some (ab_le_none (ab_le_some (ab_le_nil))))))) (fX5_ringBell_133_ok hB hq1 H  K0)
    · replace H := ab_ifn H hc
      refine ab_aload_n (z := 1) (by decide +kernel) rfl rfl ?_
      refine ab_aload_n (z := 1) (by decide +kernel) rfl rfl ?_
      refine gX6_5 (ix := 66) (by decide +kernel) tw_265 hq1.1 ?_
      refine ab_sipush (z := 137) (v := (137 : Int32)) (by decide +kernel) (by decide) ?_
      refine ab_imul (by decide +kernel) ?_
      refine ab_bipush (z := 71) (v := (71 : Int32)) (by decide +kernel) (by decide) ?_
      refine ab_iadd (by decide +kernel) ?_
      refine ab_sipush (z := 1000) (v := (1000 : Int32)) (by decide +kernel) (by decide) ?_
      refine ab_irem (by decide +kernel) (by decide) ?_
      refine pX6_5 (ix := 66) (by decide +kernel) tw_265 hq1.1 ?_
      refine ab_aload_n (z := 1) (by decide +kernel) rfl rfl ?_
      refine gX6_5 (ix := 66) (by decide +kernel) tw_265 hq1.1 ?_
      refine ab_bipush (z := 100) (v := (100 : Int32)) (by decide +kernel) (by decide) ?_
      refine ab_irem (by decide +kernel) (by decide) ?_
      refine ab_aload_n (z := 0) (by decide +kernel) rfl rfl ?_
      refine gX5_0 (ix := 15) (by decide +kernel) tw_211 (hB.1 23 _ rfl) (hB.2.1 30 (23, 0, 3) rfl) ?_
      refine gX9_8 (ix := 69) (by decide +kernel) tw_107 (hB.1 3 _ rfl) ?_
      refine ab_icmp_ge (off := 15) (tgt := 133) (by decide +kernel) rfl (fun hc => ?_) (fun hc => ?_)
      · replace H := ab_ifp H hc
        exact ab_wk (ab_le_some (ab_le_some (ab_le_some (ab_le_some (ab_le_none (ab_le_some (ab_le_nil))))))) (fX5_ringBell_133_ok hB hq1 H  K0)
      · replace H := ab_ifn H hc
        refine ab_aload_n (z := 1) (by decide +kernel) rfl rfl ?_
        refine gX6_2 (ix := 31) (by decide +kernel) tw_246 hq1.1 hq1.2.2.2.2.2.2 ?_
        refine ab_iload (i := 4) (by decide +kernel) rfl ?_
        refine ab_iload_n (z := 2) (by decide +kernel) rfl rfl ?_
        obtain ⟨u3, hu3, H⟩ := ab_bd_of H
        refine knX11_cell (D := 0) (ix := 34) (host := "BellRingers") (by decide +kernel) tn_674 (by decide) (Nat.le_of_ble_eq_true rfl) (mX11_cell_ok hB hu3 ?_)
        change ab_WP l G mX5_ringBell 3 131 [some (.ref 23), some (.ref q1), some (.int a2), some (.int a3), some (.int u1.1), some (.int (if ((ab_u u1.2 24 a2.toNatClampNeg u1.1) (q1 + 3) u2.toNatClampNeg) < ((ab_u u1.2 24 a2.toNatClampNeg u1.1) (q1 + 1) u1.1.toNatClampNeg) then ((ab_u u1.2 24 a2.toNatClampNeg u1.1) (q1 + 3) u2.toNatClampNeg) else ((ab_u u1.2 24 a2.toNatClampNeg u1.1) (q1 + 1) u1.1.toNatClampNeg)))] [.int u3, .ref (q1 + 3)] S (ab_u (ab_u (ab_u (ab_u u1.2 24 a2.toNatClampNeg u1.1) (q1 + 2) u1.1.toNatClampNeg (if (((ab_u u1.2 24 a2.toNatClampNeg u1.1) (q1 + 2) u1.1.toNatClampNeg) + (1 : Int32)) < (999 : Int32) then (((ab_u u1.2 24 a2.toNatClampNeg u1.1) (q1 + 2) u1.1.toNatClampNeg) + (1 : Int32)) else (999 : Int32))) (q1 + 1) u1.1.toNatClampNeg (((ab_u (ab_u u1.2 24 a2.toNatClampNeg u1.1) (q1 + 2) u1.1.toNatClampNeg (if (((ab_u u1.2 24 a2.toNatClampNeg u1.1) (q1 + 2) u1.1.toNatClampNeg) + (1 : Int32)) < (999 : Int32) then (((ab_u u1.2 24 a2.toNatClampNeg u1.1) (q1 + 2) u1.1.toNatClampNeg) + (1 : Int32)) else (999 : Int32))) (q1 + 1) u1.1.toNatClampNeg) - (if ((ab_u u1.2 24 a2.toNatClampNeg u1.1) (q1 + 3) u2.toNatClampNeg) < ((ab_u u1.2 24 a2.toNatClampNeg u1.1) (q1 + 1) u1.1.toNatClampNeg) then ((ab_u u1.2 24 a2.toNatClampNeg u1.1) (q1 + 3) u2.toNatClampNeg) else ((ab_u u1.2 24 a2.toNatClampNeg u1.1) (q1 + 1) u1.1.toNatClampNeg)))) q1 5 (((((ab_u (ab_u (ab_u u1.2 24 a2.toNatClampNeg u1.1) (q1 + 2) u1.1.toNatClampNeg (if (((ab_u u1.2 24 a2.toNatClampNeg u1.1) (q1 + 2) u1.1.toNatClampNeg) + (1 : Int32)) < (999 : Int32) then (((ab_u u1.2 24 a2.toNatClampNeg u1.1) (q1 + 2) u1.1.toNatClampNeg) + (1 : Int32)) else (999 : Int32))) (q1 + 1) u1.1.toNatClampNeg (((ab_u (ab_u u1.2 24 a2.toNatClampNeg u1.1) (q1 + 2) u1.1.toNatClampNeg (if (((ab_u u1.2 24 a2.toNatClampNeg u1.1) (q1 + 2) u1.1.toNatClampNeg) + (1 : Int32)) < (999 : Int32) then (((ab_u u1.2 24 a2.toNatClampNeg u1.1) (q1 + 2) u1.1.toNatClampNeg) + (1 : Int32)) else (999 : Int32))) (q1 + 1) u1.1.toNatClampNeg) - (if ((ab_u u1.2 24 a2.toNatClampNeg u1.1) (q1 + 3) u2.toNatClampNeg) < ((ab_u u1.2 24 a2.toNatClampNeg u1.1) (q1 + 1) u1.1.toNatClampNeg) then ((ab_u u1.2 24 a2.toNatClampNeg u1.1) (q1 + 3) u2.toNatClampNeg) else ((ab_u u1.2 24 a2.toNatClampNeg u1.1) (q1 + 1) u1.1.toNatClampNeg)))) q1 5) * (137 : Int32)) + (71 : Int32)) - ((((ab_u (ab_u (ab_u u1.2 24 a2.toNatClampNeg u1.1) (q1 + 2) u1.1.toNatClampNeg (if (((ab_u u1.2 24 a2.toNatClampNeg u1.1) (q1 + 2) u1.1.toNatClampNeg) + (1 : Int32)) < (999 : Int32) then (((ab_u u1.2 24 a2.toNatClampNeg u1.1) (q1 + 2) u1.1.toNatClampNeg) + (1 : Int32)) else (999 : Int32))) (q1 + 1) u1.1.toNatClampNeg (((ab_u (ab_u u1.2 24 a2.toNatClampNeg u1.1) (q1 + 2) u1.1.toNatClampNeg (if (((ab_u u1.2 24 a2.toNatClampNeg u1.1) (q1 + 2) u1.1.toNatClampNeg) + (1 : Int32)) < (999 : Int32) then (((ab_u u1.2 24 a2.toNatClampNeg u1.1) (q1 + 2) u1.1.toNatClampNeg) + (1 : Int32)) else (999 : Int32))) (q1 + 1) u1.1.toNatClampNeg) - (if ((ab_u u1.2 24 a2.toNatClampNeg u1.1) (q1 + 3) u2.toNatClampNeg) < ((ab_u u1.2 24 a2.toNatClampNeg u1.1) (q1 + 1) u1.1.toNatClampNeg) then ((ab_u u1.2 24 a2.toNatClampNeg u1.1) (q1 + 3) u2.toNatClampNeg) else ((ab_u u1.2 24 a2.toNatClampNeg u1.1) (q1 + 1) u1.1.toNatClampNeg)))) q1 5) * (137 : Int32)) + (71 : Int32)) / (1000 : Int32) * (1000 : Int32))) J P 0 0 Q
        refine ab_iconst (z := 0) (v := (0 : Int32)) (by decide +kernel) (by decide) ?_
        obtain ⟨hg, H⟩ := ab_gd_of H
        refine ab_iast (ln := 30) (by decide +kernel) hq1.2.2.2.1 (ab_ix_in hg) ?_
        exact ab_wk (ab_le_some (ab_le_some (ab_le_some (ab_le_some (ab_le_none (ab_le_some (ab_le_nil))))))) (fX5_ringBell_133_ok hB hq1 H  K0)
  · replace H := ab_ifp H hc
    refine ab_iconst (z := 0) (v := (0 : Int32)) (by decide +kernel) (by decide) ?_
    obtain rfl := Option.some.inj H
    exact ab_iret (by decide +kernel) rfl (Nat.le_refl _) (Nat.le_refl _) K0
abbrev mX5_passDay : ab_M := (yX5_passDay, cX5_passDay, 5, some .int, 0, 0)
theorem kvX5_passDay {l : Launch} {G : ab_G} {M : ab_M} {d pc : Nat} {ls : List (Option Value)} {st : List Value} {S : ab_S} {I : ab_I} {J : ab_J} {P : ab_P} {Q : ab_Q} {v0 v1 : Value} {ix D r ln : Nat} (hd : decode M.2.1 pc = .ok (.invokevirtual ix, 3)) (h1 : Cond.methodLink M.1.cls ix mX5_passDay.1 ∈ ab_good) (hs : S[r]? = some (10, ln)) (hdg : D + 1 ≤ d) (hsum : (st.map fun v => v.category).sum ≤ 8) (kk : ab_Call l G mX5_passDay D (.ref r :: [v0, v1]) S I J P (fun v S' I' J' P' => ab_WP l G M d (pc + 3) ls (ab_psh v st) S' I' J' P' 0 0 Q)) : ab_WP l G M d pc ls (v1 :: v0 :: .ref r :: st) S I J P 0 0 Q := bz_kv (g := mX5_passDay) (as := [v0, v1]) (cc := 5) rfl hd h1 tw_659 tw_660 tw_7 tw_661 ⟨by decide +kernel, by decide +kernel, (by decide +kernel : (parseMethodDescriptor mX5_passDay.1.desc).map (fun d => d.parameters.length) = some 2)⟩ (by decide) rfl rfl rfl hdg hsum hs kk
def fX5_passDay_34 (q1 : Nat) (a2 : Int32) (a3 : Int32) (I : ab_I) : Option (Int32 × ab_I) :=
  some (a3, (ab_u I q1 4 ((I q1 4) + (1 : Int32))))
set_option maxRecDepth 100000 in
theorem fX5_passDay_34_ok {l : Launch} {G : ab_G} {S : ab_S} {I : ab_I} {J : ab_J} {P : ab_P} {Q : ab_Q} {q1 : Nat} {a2 : Int32} {a3 : Int32} (hB : bz_B S P) (hq1 : bz_st S P q1) {x : Int32 × ab_I} (H : fX5_passDay_34 q1 a2 a3 I = some x) (K0 : Q (some (.int x.1)) S x.2 J P) : ab_WP l G mX5_passDay 4 34 [some (.ref 23), some (.ref q1), some (.int a2), some (.int a3), none] [] S I J P 0 0 Q := by
  unfold fX5_passDay_34 at H
  refine ab_aload_n (z := 1) (by decide +kernel) rfl rfl ?_
  refine ab_dup (by decide +kernel) rfl ?_
  refine gX6_4 (ix := 79) (by decide +kernel) tw_260 hq1.1 ?_
  refine ab_iconst (z := 1) (v := (1 : Int32)) (by decide +kernel) (by decide) ?_
  refine ab_iadd (by decide +kernel) ?_
  refine pX6_4 (ix := 79) (by decide +kernel) tw_260 hq1.1 ?_
  refine ab_iload_n (z := 3) (by decide +kernel) rfl rfl ?_
  obtain rfl := Option.some.inj H
  exact ab_iret (by decide +kernel) rfl (Nat.le_refl _) (Nat.le_refl _) K0
def fX5_passDay_5 (q1 : Nat) (a2 : Int32) (a3 : Int32) (a4 : Int32) (I : ab_I) : Option ((Int32 × Int32 × ab_I) ⊕ (Int32 × ab_I)) :=
  if (I 3 5) ≤ a4 then
    (fX5_passDay_34 q1 a2 a3 I).map .inr
  else
    (fX5_ringBell q1 a4 a2 I).bind fun u2 =>
    some (.inl ((a3 + u2.1), (a4 + (1 : Int32)), u2.2))
set_option maxRecDepth 100000 in
theorem fX5_passDay_5_ok {l : Launch} {G : ab_G} {S : ab_S} {I : ab_I} {J : ab_J} {P : ab_P} {Q : ab_Q} {q1 : Nat} {a2 : Int32} {a3 : Int32} {a4 : Int32} (hB : bz_B S P) (hq1 : bz_st S P q1) {x : ((Int32 × Int32 × ab_I) ⊕ (Int32 × ab_I))} (H : fX5_passDay_5 q1 a2 a3 a4 I = some x) (K1 : ∀ s, x = (.inl s) → ab_WP l G mX5_passDay 4 5 [some (.ref 23), some (.ref q1), some (.int a2), some (.int s.1), some (.int s.2.1)] [] S s.2.2 J P 0 0 Q) (K0 : ∀ r, x = (.inr r) → Q (some (.int r.1)) S r.2 J P) : ab_WP l G mX5_passDay 4 5 [some (.ref 23), some (.ref q1), some (.int a2), some (.int a3), some (.int a4)] [] S I J P 0 0 Q := by
  unfold fX5_passDay_5 at H
  refine ab_iload (i := 4) (by decide +kernel) rfl ?_
  refine ab_aload_n (z := 0) (by decide +kernel) rfl rfl ?_
  refine gX5_0 (ix := 15) (by decide +kernel) tw_211 (hB.1 23 _ rfl) (hB.2.1 30 (23, 0, 3) rfl) ?_
  refine gX9_5 (ix := 72) (by decide +kernel) tw_94 (hB.1 3 _ rfl) ?_
  refine ab_icmp_ge (off := 20) (tgt := 34) (by decide +kernel) rfl (fun hc => ?_) (fun hc => ?_)
  · replace H := ab_ifp H hc
    obtain ⟨y1, Hy, hx⟩ := ab_mp_of H
    subst hx
    replace H := Hy
    exact ab_wk (ab_le_some (ab_le_some (ab_le_some (ab_le_some (ab_le_none (ab_le_nil)))))) (fX5_passDay_34_ok hB hq1 H  (K0 _ rfl))
  · replace H := ab_ifn H hc
    refine ab_iload_n (z := 3) (by decide +kernel) rfl rfl ?_
    refine ab_aload_n (z := 0) (by decide +kernel) rfl rfl ?_
    refine ab_aload_n (z := 1) (by decide +kernel) rfl rfl ?_
    refine ab_iload (i := 4) (by decide +kernel) rfl ?_
    refine ab_iload_n (z := 2) (by decide +kernel) rfl rfl ?_
    obtain ⟨u2, hu2, H⟩ := ab_bd_of H
    refine kvX5_ringBell (D := 3) (ix := 75) (by decide +kernel) tw_662 (hB.1 23 _ rfl) (by decide) (Nat.le_of_ble_eq_true rfl) (mX5_ringBell_ok hB hq1 hu2 ?_)
    change ab_WP l G mX5_passDay 4 26 [some (.ref 23), some (.ref q1), some (.int a2), some (.int a3), some (.int a4)] [.int u2.1, .int a3] S u2.2 J P 0 0 Q
    refine ab_iadd (by decide +kernel) ?_
    refine ab_istore_n (z := 3) (by decide +kernel) rfl (by decide) rfl ?_
    refine ab_ls (ls' := [some (.ref 23), some (.ref q1), some (.int a2), some (.int (a3 + u2.1)), some (.int a4)]) rfl ?_
    refine ab_iinc (i := 4) (z := 1) (v := (a4 + (1 : Int32))) (by decide +kernel) rfl rfl (by decide) rfl ?_
    refine ab_ls (ls' := [some (.ref 23), some (.ref q1), some (.int a2), some (.int (a3 + u2.1)), some (.int (a4 + (1 : Int32)))]) rfl ?_
    refine ab_goto (off := -26) (tgt := 5) (by decide +kernel) rfl ?_
    exact ab_wk (ab_le_some (ab_le_some (ab_le_some (ab_le_some (ab_le_some (ab_le_nil)))))) (K1 ((a3 + u2.1), (a4 + (1 : Int32)), u2.2) (Option.some.inj H).symm)
def fX5_passDay (q1 : Nat) (a2 : Int32) (I : ab_I) : Option (Int32 × ab_I) :=
  ab_it (fun s => fX5_passDay_5 q1 a2 s.1 s.2.1 s.2.2) 5000 ((0 : Int32), (0 : Int32), I)
set_option maxRecDepth 100000 in
theorem mX5_passDay_ok {l : Launch} {G : ab_G} {S : ab_S} {I : ab_I} {J : ab_J} {P : ab_P} {Q : ab_Q} {q1 : Nat} {a2 : Int32} (hB : bz_B S P) (hq1 : bz_st S P q1) {x : Int32 × ab_I} (H : fX5_passDay q1 a2 I = some x) (K0 : Q (some (.int x.1)) S x.2 J P) : ab_Call l G mX5_passDay 4 [.ref 23, .ref q1, .int a2] S I J P Q := by
  unfold fX5_passDay at H
  refine ab_enter rfl (Nat.le_of_ble_eq_true rfl) (ab_wk (ls' := [some (.ref 23), some (.ref q1), some (.int a2), none, none]) (ab_le_some (ab_le_some (ab_le_some (ab_le_non0 (ab_le_non0 ab_le_nil))))) ?_)
  refine ab_iconst (z := 0) (v := (0 : Int32)) (by decide +kernel) (by decide) ?_
  refine ab_istore_n (z := 3) (by decide +kernel) rfl (by decide) rfl ?_
  refine ab_ls (ls' := [some (.ref 23), some (.ref q1), some (.int a2), some (.int (0 : Int32)), none]) rfl ?_
  refine ab_iconst (z := 0) (v := (0 : Int32)) (by decide +kernel) (by decide) ?_
  refine ab_istore (i := 4) (by decide +kernel) (by decide) rfl ?_
  refine ab_ls (ls' := [some (.ref 23), some (.ref q1), some (.int a2), some (.int (0 : Int32)), some (.int (0 : Int32))]) rfl ?_
  exact ab_wk (ab_le_some (ab_le_some (ab_le_some (ab_le_some (ab_le_some (ab_le_nil)))))) (ab_iter (W := fun s => ab_WP l G mX5_passDay 4 5 [some (.ref 23), some (.ref q1), some (.int a2), some (.int s.1), some (.int s.2.1)] [] S s.2.2 J P 0 0 Q) (fun s y hb h1 h2 => fX5_passDay_5_ok hB hq1 hb h1 (fun r e => by have e2 := h2 _ e; subst e2; exact K0)) 5000 ((0 : Int32), (0 : Int32), I) H)
abbrev mX1_passWithout : ab_M := (yX1_passWithout, cX1_passWithout, 3, some .int, 0, 0)
theorem kvX1_passWithout {l : Launch} {G : ab_G} {M : ab_M} {d pc : Nat} {ls : List (Option Value)} {st : List Value} {S : ab_S} {I : ab_I} {J : ab_J} {P : ab_P} {Q : ab_Q} {v0 v1 : Value} {ix D r ln : Nat} (hd : decode M.2.1 pc = .ok (.invokevirtual ix, 3)) (h1 : Cond.methodLink M.1.cls ix mX1_passWithout.1 ∈ ab_good) (hs : S[r]? = some (6, ln)) (hdg : D + 1 ≤ d) (hsum : (st.map fun v => v.category).sum ≤ 8) (kk : ab_Call l G mX1_passWithout D (.ref r :: [v0, v1]) S I J P (fun v S' I' J' P' => ab_WP l G M d (pc + 3) ls (ab_psh v st) S' I' J' P' 0 0 Q)) : ab_WP l G M d pc ls (v1 :: v0 :: .ref r :: st) S I J P 0 0 Q := bz_kv (g := mX1_passWithout) (as := [v0, v1]) (cc := 1) rfl hd h1 tw_650 tw_651 tw_8 tw_652 ⟨by decide +kernel, by decide +kernel, (by decide +kernel : (parseMethodDescriptor mX1_passWithout.1.desc).map (fun d => d.parameters.length) = some 2)⟩ (by decide) rfl rfl rfl hdg hsum hs kk
def fX1_passWithout (q1 : Nat) (a2 : Int32) (I : ab_I) : Option (Int32 × ab_I) :=
  (fX6_copyFrom 26 q1 I).bind fun u1 =>
  (fX5_passDay 26 (0 : Int32) (ab_u u1 26 3 ((u1 26 3) &&& (a2 ^^^ (-1 : Int32))))).bind fun u2 =>
  some (u2.1, u2.2)
set_option maxRecDepth 100000 in
theorem mX1_passWithout_ok {l : Launch} {G : ab_G} {S : ab_S} {I : ab_I} {J : ab_J} {P : ab_P} {Q : ab_Q} {q1 : Nat} {a2 : Int32} (hB : bz_B S P) (hq1 : bz_st S P q1) {x : Int32 × ab_I} (H : fX1_passWithout q1 a2 I = some x) (K0 : Q (some (.int x.1)) S x.2 J P) : ab_Call l G mX1_passWithout 5 [.ref 25, .ref q1, .int a2] S I J P Q := by
  unfold fX1_passWithout at H
  refine ab_enter rfl (Nat.le_of_ble_eq_true rfl) (ab_wk (ls' := [some (.ref 25), some (.ref q1), some (.int a2)]) (ab_le_some (ab_le_some (ab_le_some (ab_le_nil)))) ?_)
  refine ab_aload_n (z := 0) (by decide +kernel) rfl rfl ?_
  refine gX1_2 (ix := 12) (by decide +kernel) tw_283 (hB.1 25 _ rfl) (hB.2.1 34 (25, 2, 26) rfl) ?_
  refine ab_aload_n (z := 1) (by decide +kernel) rfl rfl ?_
  obtain ⟨u1, hu1, H⟩ := ab_bd_of H
  refine kvX6_copyFrom (D := 1) (ix := 39) (by decide +kernel) tw_653 (bz_st_26 hB).1 (by decide) (Nat.le_of_ble_eq_true rfl) (mX6_copyFrom_ok hB (bz_st_26 hB) hq1 hu1 ?_)
  change ab_WP l G mX1_passWithout 5 8 [some (.ref 25), some (.ref q1), some (.int a2)] [] S u1 J P 0 0 Q
  refine ab_aload_n (z := 0) (by decide +kernel) rfl rfl ?_
  refine gX1_2 (ix := 12) (by decide +kernel) tw_283 (hB.1 25 _ rfl) (hB.2.1 34 (25, 2, 26) rfl) ?_
  refine ab_dup (by decide +kernel) rfl ?_
  refine gX6_3 (ix := 49) (by decide +kernel) tw_254 (bz_st_26 hB).1 ?_
  refine ab_iload_n (z := 2) (by decide +kernel) rfl rfl ?_
  refine ab_iconst (z := -1) (v := (-1 : Int32)) (by decide +kernel) (by decide) ?_
  refine ab_ixor (by decide +kernel) ?_
  refine ab_iand (by decide +kernel) ?_
  refine pX6_3 (ix := 49) (by decide +kernel) tw_254 (bz_st_26 hB).1 ?_
  refine ab_aload_n (z := 0) (by decide +kernel) rfl rfl ?_
  refine gX1_1 (ix := 35) (by decide +kernel) tw_282 (hB.1 25 _ rfl) (hB.2.1 33 (25, 1, 23) rfl) ?_
  refine ab_aload_n (z := 0) (by decide +kernel) rfl rfl ?_
  refine gX1_2 (ix := 12) (by decide +kernel) tw_283 (hB.1 25 _ rfl) (hB.2.1 34 (25, 2, 26) rfl) ?_
  refine ab_iconst (z := 0) (v := (0 : Int32)) (by decide +kernel) (by decide) ?_
  obtain ⟨u2, hu2, H⟩ := ab_bd_of H
  refine kvX5_passDay (D := 4) (ix := 43) (by decide +kernel) tw_658 (hB.1 23 _ rfl) (by decide) (Nat.le_of_ble_eq_true rfl) (mX5_passDay_ok hB (bz_st_26 hB) hu2 ?_)
  change ab_WP l G mX1_passWithout 5 35 [some (.ref 25), some (.ref q1), some (.int a2)] [.int u2.1] S u2.2 J P 0 0 Q
  obtain rfl := Option.some.inj H
  exact ab_iret (by decide +kernel) rfl (Nat.le_refl _) (Nat.le_refl _) K0
abbrev mX5_rungBy : ab_M := (yX5_rungBy, cX5_rungBy, 4, some .int, 0, 0)
theorem kvX5_rungBy {l : Launch} {G : ab_G} {M : ab_M} {d pc : Nat} {ls : List (Option Value)} {st : List Value} {S : ab_S} {I : ab_I} {J : ab_J} {P : ab_P} {Q : ab_Q} {v0 : Value} {ix D r ln : Nat} (hd : decode M.2.1 pc = .ok (.invokevirtual ix, 3)) (h1 : Cond.methodLink M.1.cls ix mX5_rungBy.1 ∈ ab_good) (hs : S[r]? = some (10, ln)) (hdg : D + 1 ≤ d) (hsum : (st.map fun v => v.category).sum ≤ 8) (kk : ab_Call l G mX5_rungBy D (.ref r :: [v0]) S I J P (fun v S' I' J' P' => ab_WP l G M d (pc + 3) ls (ab_psh v st) S' I' J' P' 0 0 Q)) : ab_WP l G M d pc ls (v0 :: .ref r :: st) S I J P 0 0 Q := bz_kv (g := mX5_rungBy) (as := [v0]) (cc := 5) rfl hd h1 tw_694 tw_695 tw_7 tw_696 ⟨by decide +kernel, by decide +kernel, (by decide +kernel : (parseMethodDescriptor mX5_rungBy.1.desc).map (fun d => d.parameters.length) = some 1)⟩ (by decide) rfl rfl rfl hdg hsum hs kk
def fX5_rungBy_37 (a1 : Int32) (I : ab_I) (a2 : Int32) : Option Int32 :=
  some a2
set_option maxRecDepth 100000 in
theorem fX5_rungBy_37_ok {l : Launch} {G : ab_G} {S : ab_S} {I : ab_I} {J : ab_J} {P : ab_P} {Q : ab_Q} {a1 : Int32} {a2 : Int32} (hB : bz_B S P) {x : Int32} (H : fX5_rungBy_37 a1 I a2 = some x) (K0 : Q (some (.int x)) S I J P) : ab_WP l G mX5_rungBy 0 37 [some (.ref 23), some (.int a1), some (.int a2), none] [] S I J P 0 0 Q := by
  unfold fX5_rungBy_37 at H
  refine ab_iload_n (z := 2) (by decide +kernel) rfl rfl ?_
  obtain rfl := Option.some.inj H
  exact ab_iret (by decide +kernel) rfl (Nat.le_refl _) (Nat.le_refl _) K0
def fX5_rungBy_31 (a1 : Int32) (I : ab_I) (a2 : Int32) (a3 : Int32) : Option ((Int32 × Int32) ⊕ Int32) :=
  some (.inl (a2, (a3 + (1 : Int32))))
set_option maxRecDepth 100000 in
theorem fX5_rungBy_31_ok {l : Launch} {G : ab_G} {S : ab_S} {I : ab_I} {J : ab_J} {P : ab_P} {Q : ab_Q} {a1 : Int32} {a2 : Int32} {a3 : Int32} (hB : bz_B S P) {x : ((Int32 × Int32) ⊕ Int32)} (H : fX5_rungBy_31 a1 I a2 a3 = some x) (K1 : ∀ s, x = (.inl s) → ab_WP l G mX5_rungBy 0 4 [some (.ref 23), some (.int a1), some (.int s.1), some (.int s.2)] [] S I J P 0 0 Q) (K0 : ∀ r, x = (.inr r) → Q (some (.int r)) S I J P) : ab_WP l G mX5_rungBy 0 31 [some (.ref 23), some (.int a1), some (.int a2), some (.int a3)] [] S I J P 0 0 Q := by
  unfold fX5_rungBy_31 at H
  refine ab_iinc (i := 3) (z := 1) (v := (a3 + (1 : Int32))) (by decide +kernel) rfl rfl (by decide) rfl ?_
  refine ab_ls (ls' := [some (.ref 23), some (.int a1), some (.int a2), some (.int (a3 + (1 : Int32)))]) rfl ?_
  refine ab_goto (off := -30) (tgt := 4) (by decide +kernel) rfl ?_
  exact ab_wk (ab_le_some (ab_le_some (ab_le_some (ab_le_some (ab_le_nil))))) (K1 (a2, (a3 + (1 : Int32))) (Option.some.inj H).symm)
def fX5_rungBy_4 (a1 : Int32) (I : ab_I) (a2 : Int32) (a3 : Int32) : Option ((Int32 × Int32) ⊕ Int32) :=
  if (I 3 5) ≤ a3 then
    (fX5_rungBy_37 a1 I a2).map .inr
  else
    ab_gd (ab_ix a3 5 = true) (
      if (I 24 a3.toNatClampNeg) = a1 then
        fX5_rungBy_31 a1 I (a2 ||| ((1 : Int32) <<< (a3 &&& 31))) a3
      else
        fX5_rungBy_31 a1 I a2 a3
    )
set_option maxRecDepth 100000 in
theorem fX5_rungBy_4_ok {l : Launch} {G : ab_G} {S : ab_S} {I : ab_I} {J : ab_J} {P : ab_P} {Q : ab_Q} {a1 : Int32} {a2 : Int32} {a3 : Int32} (hB : bz_B S P) {x : ((Int32 × Int32) ⊕ Int32)} (H : fX5_rungBy_4 a1 I a2 a3 = some x) (K1 : ∀ s, x = (.inl s) → ab_WP l G mX5_rungBy 0 4 [some (.ref 23), some (.int a1), some (.int s.1), some (.int s.2)] [] S I J P 0 0 Q) (K0 : ∀ r, x = (.inr r) → Q (some (.int r)) S I J P) : ab_WP l G mX5_rungBy 0 4 [some (.ref 23), some (.int a1), some (.int a2), some (.int a3)] [] S I J P 0 0 Q := by
  unfold fX5_rungBy_4 at H
  refine ab_iload_n (z := 3) (by decide +kernel) rfl rfl ?_
  refine ab_aload_n (z := 0) (by decide +kernel) rfl rfl ?_
  refine gX5_0 (ix := 15) (by decide +kernel) tw_211 (hB.1 23 _ rfl) (hB.2.1 30 (23, 0, 3) rfl) ?_
  refine gX9_5 (ix := 72) (by decide +kernel) tw_94 (hB.1 3 _ rfl) ?_
  refine ab_icmp_ge (off := 25) (tgt := 37) (by decide +kernel) rfl (fun hc => ?_) (fun hc => ?_)
  · replace H := ab_ifp H hc
    obtain ⟨y1, Hy, hx⟩ := ab_mp_of H
    subst hx
    replace H := Hy
    exact ab_wk (ab_le_some (ab_le_some (ab_le_some (ab_le_none (ab_le_nil))))) (fX5_rungBy_37_ok hB H  (K0 _ rfl))
  · replace H := ab_ifn H hc
    refine ab_aload_n (z := 0) (by decide +kernel) rfl rfl ?_
    refine gX5_1 (ix := 9) (by decide +kernel) tw_212 (hB.1 23 _ rfl) (hB.2.1 31 (23, 1, 24) rfl) ?_
    refine ab_iload_n (z := 3) (by decide +kernel) rfl rfl ?_
    obtain ⟨hg, H⟩ := ab_gd_of H
    refine ab_iald (ln := 5) (by decide +kernel) (hB.1 24 _ rfl) (ab_ix_in hg) ?_
    refine ab_iload_n (z := 1) (by decide +kernel) rfl rfl ?_
    refine ab_icmp_ne (off := 9) (tgt := 31) (by decide +kernel) rfl (fun hc => ?_) (fun hc => ?_)
    · replace H := ab_ifn H hc
      exact ab_wk (ab_le_some (ab_le_some (ab_le_some (ab_le_some (ab_le_nil))))) (fX5_rungBy_31_ok hB H K1 K0)
    · replace H := ab_ifp H hc
      refine ab_iload_n (z := 2) (by decide +kernel) rfl rfl ?_
      refine ab_iconst (z := 1) (v := (1 : Int32)) (by decide +kernel) (by decide) ?_
      refine ab_iload_n (z := 3) (by decide +kernel) rfl rfl ?_
      refine ab_ishl (by decide +kernel) ?_
      refine ab_ior (by decide +kernel) ?_
      refine ab_istore_n (z := 2) (by decide +kernel) rfl (by decide) rfl ?_
      refine ab_ls (ls' := [some (.ref 23), some (.int a1), some (.int (a2 ||| ((1 : Int32) <<< (a3 &&& 31)))), some (.int a3)]) rfl ?_
      exact ab_wk (ab_le_some (ab_le_some (ab_le_some (ab_le_some (ab_le_nil))))) (fX5_rungBy_31_ok hB H K1 K0)
def fX5_rungBy (a1 : Int32) (I : ab_I) : Option Int32 :=
  ab_it (fun s => fX5_rungBy_4 a1 I s.1 s.2) 5000 ((0 : Int32), (0 : Int32))
set_option maxRecDepth 100000 in
theorem mX5_rungBy_ok {l : Launch} {G : ab_G} {S : ab_S} {I : ab_I} {J : ab_J} {P : ab_P} {Q : ab_Q} {a1 : Int32} (hB : bz_B S P) {x : Int32} (H : fX5_rungBy a1 I = some x) (K0 : Q (some (.int x)) S I J P) : ab_Call l G mX5_rungBy 0 [.ref 23, .int a1] S I J P Q := by
  unfold fX5_rungBy at H
  refine ab_enter rfl (Nat.le_of_ble_eq_true rfl) (ab_wk (ls' := [some (.ref 23), some (.int a1), none, none]) (ab_le_some (ab_le_some (ab_le_non0 (ab_le_non0 ab_le_nil)))) ?_)
  refine ab_iconst (z := 0) (v := (0 : Int32)) (by decide +kernel) (by decide) ?_
  refine ab_istore_n (z := 2) (by decide +kernel) rfl (by decide) rfl ?_
  refine ab_ls (ls' := [some (.ref 23), some (.int a1), some (.int (0 : Int32)), none]) rfl ?_
  refine ab_iconst (z := 0) (v := (0 : Int32)) (by decide +kernel) (by decide) ?_
  refine ab_istore_n (z := 3) (by decide +kernel) rfl (by decide) rfl ?_
  refine ab_ls (ls' := [some (.ref 23), some (.int a1), some (.int (0 : Int32)), some (.int (0 : Int32))]) rfl ?_
  exact ab_wk (ab_le_some (ab_le_some (ab_le_some (ab_le_some (ab_le_nil))))) (ab_iter (W := fun s => ab_WP l G mX5_rungBy 0 4 [some (.ref 23), some (.int a1), some (.int s.1), some (.int s.2)] [] S I J P 0 0 Q) (fun s y hb h1 h2 => fX5_rungBy_4_ok hB hb h1 (fun r e => by have e2 := h2 _ e; subst e2; exact K0)) 5000 ((0 : Int32), (0 : Int32)) H)
abbrev mX1_bellsNextDay : ab_M := (yX1_bellsNextDay, cX1_bellsNextDay, 3, some .int, 0, 0)
theorem kvX1_bellsNextDay {l : Launch} {G : ab_G} {M : ab_M} {d pc : Nat} {ls : List (Option Value)} {st : List Value} {S : ab_S} {I : ab_I} {J : ab_J} {P : ab_P} {Q : ab_Q} {v0 v1 : Value} {ix D r ln : Nat} (hd : decode M.2.1 pc = .ok (.invokevirtual ix, 3)) (h1 : Cond.methodLink M.1.cls ix mX1_bellsNextDay.1 ∈ ab_good) (hs : S[r]? = some (6, ln)) (hdg : D + 1 ≤ d) (hsum : (st.map fun v => v.category).sum ≤ 8) (kk : ab_Call l G mX1_bellsNextDay D (.ref r :: [v0, v1]) S I J P (fun v S' I' J' P' => ab_WP l G M d (pc + 3) ls (ab_psh v st) S' I' J' P' 0 0 Q)) : ab_WP l G M d pc ls (v1 :: v0 :: .ref r :: st) S I J P 0 0 Q := bz_kv (g := mX1_bellsNextDay) (as := [v0, v1]) (cc := 1) rfl hd h1 tw_646 tw_647 tw_8 tw_648 ⟨by decide +kernel, by decide +kernel, (by decide +kernel : (parseMethodDescriptor mX1_bellsNextDay.1.desc).map (fun d => d.parameters.length) = some 2)⟩ (by decide) rfl rfl rfl hdg hsum hs kk
def fX1_bellsNextDay (q1 : Nat) (a2 : Int32) (I : ab_I) : Option (Int32 × ab_I) :=
  (fX1_passWithout q1 (0 : Int32) I).bind fun u1 =>
  (fX5_rungBy a2 u1.2).bind fun u2 =>
  some (u2, u1.2)
set_option maxRecDepth 100000 in
theorem mX1_bellsNextDay_ok {l : Launch} {G : ab_G} {S : ab_S} {I : ab_I} {J : ab_J} {P : ab_P} {Q : ab_Q} {q1 : Nat} {a2 : Int32} (hB : bz_B S P) (hq1 : bz_st S P q1) {x : Int32 × ab_I} (H : fX1_bellsNextDay q1 a2 I = some x) (K0 : Q (some (.int x.1)) S x.2 J P) : ab_Call l G mX1_bellsNextDay 6 [.ref 25, .ref q1, .int a2] S I J P Q := by
  unfold fX1_bellsNextDay at H
  refine ab_enter rfl (Nat.le_of_ble_eq_true rfl) (ab_wk (ls' := [some (.ref 25), some (.ref q1), some (.int a2)]) (ab_le_some (ab_le_some (ab_le_some (ab_le_nil)))) ?_)
  refine ab_aload_n (z := 0) (by decide +kernel) rfl rfl ?_
  refine ab_aload_n (z := 1) (by decide +kernel) rfl rfl ?_
  refine ab_iconst (z := 0) (v := (0 : Int32)) (by decide +kernel) (by decide) ?_
  obtain ⟨u1, hu1, H⟩ := ab_bd_of H
  refine kvX1_passWithout (D := 5) (ix := 53) (by decide +kernel) tw_649 (hB.1 25 _ rfl) (by decide) (Nat.le_of_ble_eq_true rfl) (mX1_passWithout_ok hB hq1 hu1 ?_)
  change ab_WP l G mX1_bellsNextDay 6 6 [some (.ref 25), some (.ref q1), some (.int a2)] [.int u1.1] S u1.2 J P 0 0 Q
  refine ab_pop (by decide +kernel) rfl ?_
  refine ab_aload_n (z := 0) (by decide +kernel) rfl rfl ?_
  refine gX1_1 (ix := 35) (by decide +kernel) tw_282 (hB.1 25 _ rfl) (hB.2.1 33 (25, 1, 23) rfl) ?_
  refine ab_iload_n (z := 2) (by decide +kernel) rfl rfl ?_
  obtain ⟨u2, hu2, H⟩ := ab_bd_of H
  refine kvX5_rungBy (D := 0) (ix := 57) (by decide +kernel) tw_693 (hB.1 23 _ rfl) (by decide) (Nat.le_of_ble_eq_true rfl) (mX5_rungBy_ok hB hu2 ?_)
  change ab_WP l G mX1_bellsNextDay 6 15 [some (.ref 25), some (.ref q1), some (.int a2)] [.int u2] S u1.2 J P 0 0 Q
  obtain rfl := Option.some.inj H
  exact ab_iret (by decide +kernel) rfl (Nat.le_refl _) (Nat.le_refl _) K0
abbrev mX11_person : ab_M := (yX11_person, cX11_person, 3, some .int, 0, 0)
def fX11_person_113 (a1 : Int32) (a2 : Int32) (P : ab_P) (s0 : Int32) (I : ab_I) : Option (Int32 × ab_I) :=
  some (s0, I)
set_option maxRecDepth 100000 in
theorem fX11_person_113_ok {l : Launch} {G : ab_G} {S : ab_S} {I : ab_I} {J : ab_J} {P : ab_P} {Q : ab_Q} {a1 : Int32} {a2 : Int32} {s0 : Int32} (hB : bz_B S P) {x : Int32 × ab_I} (H : fX11_person_113 a1 a2 P s0 I = some x) (K0 : Q (some (.int x.1)) S x.2 J P) : ab_WP l G mX11_person 7 113 [some (.ref 0), some (.int a1), some (.int a2)] [.int s0] S I J P 0 0 Q := by
  unfold fX11_person_113 at H
  obtain rfl := Option.some.inj H
  exact ab_iret (by decide +kernel) rfl (Nat.le_refl _) (Nat.le_refl _) K0
def fX11_person (a1 : Int32) (a2 : Int32) (I : ab_I) (P : ab_P) : Option (Int32 × ab_I) :=
  (fX9_isPerson a1 I).bind fun u1 =>
  if u1 = 0 then
    some ((-1 : Int32), I)
  else
    if a2 = (0 : Int32) then
      (P 0 12).bind fun z2 =>
      ab_gd (ab_ix a1 6 = true) (
        fX11_person_113 a1 a2 P (I (z2 + 1) a1.toNatClampNeg) I
      )
    else
      if a2 = (1 : Int32) then
        (P 0 12).bind fun z3 =>
        ab_gd (ab_ix a1 6 = true) (
          fX11_person_113 a1 a2 P (I (z3 + 2) a1.toNatClampNeg) I
        )
      else
        if a2 = (2 : Int32) then
          (P 0 12).bind fun z4 =>
          fX11_person_113 a1 a2 P (((I z4 3) >>> (a1 &&& 31)) &&& (1 : Int32)) I
        else
          if a2 = (3 : Int32) then
            (P 0 12).bind fun z5 =>
            (fX6_fears z5 a1 I).bind fun u6 =>
            fX11_person_113 a1 a2 P u6 I
          else
            if a2 = (4 : Int32) then
              (P 0 12).bind fun z7 =>
              (fX1_bellsNextDay z7 a1 I).bind fun u8 =>
              fX11_person_113 a1 a2 P u8.1 u8.2
            else
              fX11_person_113 a1 a2 P (-1 : Int32) I
set_option maxRecDepth 100000 in
theorem mX11_person_ok {l : Launch} {G : ab_G} {S : ab_S} {I : ab_I} {J : ab_J} {P : ab_P} {Q : ab_Q} {a1 : Int32} {a2 : Int32} (hB : bz_B S P) {x : Int32 × ab_I} (H : fX11_person a1 a2 I P = some x) (K0 : Q (some (.int x.1)) S x.2 J P) : ab_Call l G mX11_person 7 [.ref 0, .int a1, .int a2] S I J P Q := by
  unfold fX11_person at H
  refine ab_enter rfl (Nat.le_of_ble_eq_true rfl) (ab_wk (ls' := [some (.ref 0), some (.int a1), some (.int a2)]) (ab_le_some (ab_le_some (ab_le_some (ab_le_nil)))) ?_)
  refine ab_aload_n (z := 0) (by decide +kernel) rfl rfl ?_
  refine gX11_1 (ix := 19) (by decide +kernel) tw_409 (hB.1 0 _ rfl) (hB.2.1 1 (0, 1, 3) rfl) ?_
  refine ab_iload_n (z := 1) (by decide +kernel) rfl rfl ?_
  obtain ⟨u1, hu1, H⟩ := ab_bd_of H
  refine kvX9_isPerson (D := 0) (ix := 129) (by decide +kernel) tw_636 (hB.1 3 _ rfl) (by decide) (Nat.le_of_ble_eq_true rfl) (mX9_isPerson_ok hB hu1 ?_)
  change ab_WP l G mX11_person 7 8 [some (.ref 0), some (.int a1), some (.int a2)] [.int u1] S I J P 0 0 Q
  refine ab_if_ne (off := 5) (tgt := 13) (by decide +kernel) rfl (fun hc => ?_) (fun hc => ?_)
  · replace H := ab_ifn H hc
    refine ab_iload_n (z := 2) (by decide +kernel) rfl rfl ?_
    by_cases hk0 : a2 = (0 : Int32)
    · replace H := ab_ifp H hk0
      refine ab_tabk (key := (0 : Int32)) (off := 34) (tgt := 48) (dflt := 98) (lo := 0) (hi := 4) (offs := #[34, 46, 58, 72, 83]) (len := 34) hk0 (by decide +kernel) (by decide) rfl ?_
      refine ab_aload_n (z := 0) (by decide +kernel) rfl rfl ?_
      obtain ⟨z2, hz2, H⟩ := ab_bd_of H
      refine gX11_12 (ix := 89) (by decide +kernel) tw_420 (hB.1 0 _ rfl) hz2 ?_
      have sz2 := hB.2.2.1 _ hz2
      refine gX6_0 (ix := 133) (by decide +kernel) tw_237 sz2.1 sz2.2.2.2.2.1 ?_
      refine ab_iload_n (z := 1) (by decide +kernel) rfl rfl ?_
      obtain ⟨hg, H⟩ := ab_gd_of H
      refine ab_iald (ln := 6) (by decide +kernel) sz2.2.1 (ab_ix_in hg) ?_
      refine ab_goto (off := 56) (tgt := 113) (by decide +kernel) rfl ?_
      exact ab_wk (ab_le_some (ab_le_some (ab_le_some (ab_le_nil)))) (fX11_person_113_ok hB H  K0)
    replace H := ab_ifn H hk0
    by_cases hk1 : a2 = (1 : Int32)
    · replace H := ab_ifp H hk1
      refine ab_tabk (key := (1 : Int32)) (off := 46) (tgt := 60) (dflt := 98) (lo := 0) (hi := 4) (offs := #[34, 46, 58, 72, 83]) (len := 34) hk1 (by decide +kernel) (by decide) rfl ?_
      refine ab_aload_n (z := 0) (by decide +kernel) rfl rfl ?_
      obtain ⟨z3, hz3, H⟩ := ab_bd_of H
      refine gX11_12 (ix := 89) (by decide +kernel) tw_420 (hB.1 0 _ rfl) hz3 ?_
      have sz3 := hB.2.2.1 _ hz3
      refine gX6_1 (ix := 136) (by decide +kernel) tw_243 sz3.1 sz3.2.2.2.2.2.1 ?_
      refine ab_iload_n (z := 1) (by decide +kernel) rfl rfl ?_
      obtain ⟨hg, H⟩ := ab_gd_of H
      refine ab_iald (ln := 6) (by decide +kernel) sz3.2.2.1 (ab_ix_in hg) ?_
      refine ab_goto (off := 44) (tgt := 113) (by decide +kernel) rfl ?_
      exact ab_wk (ab_le_some (ab_le_some (ab_le_some (ab_le_nil)))) (fX11_person_113_ok hB H  K0)
    replace H := ab_ifn H hk1
    by_cases hk2 : a2 = (2 : Int32)
    · replace H := ab_ifp H hk2
      refine ab_tabk (key := (2 : Int32)) (off := 58) (tgt := 72) (dflt := 98) (lo := 0) (hi := 4) (offs := #[34, 46, 58, 72, 83]) (len := 34) hk2 (by decide +kernel) (by decide) rfl ?_
      refine ab_aload_n (z := 0) (by decide +kernel) rfl rfl ?_
      obtain ⟨z4, hz4, H⟩ := ab_bd_of H
      refine gX11_12 (ix := 89) (by decide +kernel) tw_420 (hB.1 0 _ rfl) hz4 ?_
      have sz4 := hB.2.2.1 _ hz4
      refine gX6_3 (ix := 139) (by decide +kernel) tw_258 sz4.1 ?_
      refine ab_iload_n (z := 1) (by decide +kernel) rfl rfl ?_
      refine ab_ishr (by decide +kernel) ?_
      refine ab_iconst (z := 1) (v := (1 : Int32)) (by decide +kernel) (by decide) ?_
      refine ab_iand (by decide +kernel) ?_
      refine ab_goto (off := 30) (tgt := 113) (by decide +kernel) rfl ?_
      exact ab_wk (ab_le_some (ab_le_some (ab_le_some (ab_le_nil)))) (fX11_person_113_ok hB H  K0)
    replace H := ab_ifn H hk2
    by_cases hk3 : a2 = (3 : Int32)
    · replace H := ab_ifp H hk3
      refine ab_tabk (key := (3 : Int32)) (off := 72) (tgt := 86) (dflt := 98) (lo := 0) (hi := 4) (offs := #[34, 46, 58, 72, 83]) (len := 34) hk3 (by decide +kernel) (by decide) rfl ?_
      refine ab_aload_n (z := 0) (by decide +kernel) rfl rfl ?_
      obtain ⟨z5, hz5, H⟩ := ab_bd_of H
      refine gX11_12 (ix := 89) (by decide +kernel) tw_420 (hB.1 0 _ rfl) hz5 ?_
      have sz5 := hB.2.2.1 _ hz5
      refine ab_iload_n (z := 1) (by decide +kernel) rfl rfl ?_
      obtain ⟨u6, hu6, H⟩ := ab_bd_of H
      refine kvX6_fears (D := 1) (ix := 142) (by decide +kernel) tw_640 sz5.1 (by decide) (Nat.le_of_ble_eq_true rfl) (mX6_fears_ok hB sz5 hu6 ?_)
      change ab_WP l G mX11_person 7 94 [some (.ref 0), some (.int a1), some (.int a2)] [.int u6] S I J P 0 0 Q
      refine ab_goto (off := 19) (tgt := 113) (by decide +kernel) rfl ?_
      exact ab_wk (ab_le_some (ab_le_some (ab_le_some (ab_le_nil)))) (fX11_person_113_ok hB H  K0)
    replace H := ab_ifn H hk3
    by_cases hk4 : a2 = (4 : Int32)
    · replace H := ab_ifp H hk4
      refine ab_tabk (key := (4 : Int32)) (off := 83) (tgt := 97) (dflt := 98) (lo := 0) (hi := 4) (offs := #[34, 46, 58, 72, 83]) (len := 34) hk4 (by decide +kernel) (by decide) rfl ?_
      refine ab_aload_n (z := 0) (by decide +kernel) rfl rfl ?_
      refine gX11_4 (ix := 46) (by decide +kernel) tw_412 (hB.1 0 _ rfl) (hB.2.1 4 (0, 4, 25) rfl) ?_
      refine ab_aload_n (z := 0) (by decide +kernel) rfl rfl ?_
      obtain ⟨z7, hz7, H⟩ := ab_bd_of H
      refine gX11_12 (ix := 89) (by decide +kernel) tw_420 (hB.1 0 _ rfl) hz7 ?_
      have sz7 := hB.2.2.1 _ hz7
      refine ab_iload_n (z := 1) (by decide +kernel) rfl rfl ?_
      obtain ⟨u8, hu8, H⟩ := ab_bd_of H
      refine kvX1_bellsNextDay (D := 6) (ix := 146) (by decide +kernel) tw_645 (hB.1 25 _ rfl) (by decide) (Nat.le_of_ble_eq_true rfl) (mX1_bellsNextDay_ok hB sz7 hu8 ?_)
      change ab_WP l G mX11_person 7 109 [some (.ref 0), some (.int a1), some (.int a2)] [.int u8.1] S u8.2 J P 0 0 Q
      refine ab_goto (off := 4) (tgt := 113) (by decide +kernel) rfl ?_
      exact ab_wk (ab_le_some (ab_le_some (ab_le_some (ab_le_nil)))) (fX11_person_113_ok hB H  K0)
    replace H := ab_ifn H hk4
    have KD : ab_WP l G mX11_person 7 112 [some (.ref 0), some (.int a1), some (.int a2)] [] S I J P 0 0 Q := by
      refine ab_iconst (z := -1) (v := (-1 : Int32)) (by decide +kernel) (by decide) ?_
      exact ab_wk (ab_le_some (ab_le_some (ab_le_some (ab_le_nil)))) (fX11_person_113_ok hB H  K0)
    by_cases hlo : a2.toInt < 0
    · exact ab_tableOut (dflt := 98) (lo := 0) (hi := 4) (offs := #[34, 46, 58, 72, 83]) (len := 34) (by decide +kernel) (Or.inl hlo) (tgt := 112) rfl KD
    by_cases hhi : 4 < a2.toInt
    · exact ab_tableOut (dflt := 98) (lo := 0) (hi := 4) (offs := #[34, 46, 58, 72, 83]) (len := 34) (by decide +kernel) (Or.inr hhi) (tgt := 112) rfl KD
    by_cases hr : a2.toInt = 0
    · exact absurd (Int32.toInt_inj.mp (hr.trans (by decide))) hk0
    have hlo : ¬ a2.toInt < 1 := by omega
    by_cases hr : a2.toInt = 1
    · exact absurd (Int32.toInt_inj.mp (hr.trans (by decide))) hk1
    have hlo : ¬ a2.toInt < 2 := by omega
    by_cases hr : a2.toInt = 2
    · exact absurd (Int32.toInt_inj.mp (hr.trans (by decide))) hk2
    have hlo : ¬ a2.toInt < 3 := by omega
    by_cases hr : a2.toInt = 3
    · exact absurd (Int32.toInt_inj.mp (hr.trans (by decide))) hk3
    have hlo : ¬ a2.toInt < 4 := by omega
    by_cases hr : a2.toInt = 4
    · exact absurd (Int32.toInt_inj.mp (hr.trans (by decide))) hk4
    have hlo : ¬ a2.toInt < 5 := by omega
    exact absurd (by omega : 4 < a2.toInt) hhi
  · replace H := ab_ifp H hc
    refine ab_iconst (z := -1) (v := (-1 : Int32)) (by decide +kernel) (by decide) ?_
    obtain rfl := Option.some.inj H
    exact ab_iret (by decide +kernel) rfl (Nat.le_refl _) (Nat.le_refl _) K0
abbrev mX9_isBell : ab_M := (yX9_isBell, cX9_isBell, 2, some .boolean, 0, 0)
theorem kvX9_isBell {l : Launch} {G : ab_G} {M : ab_M} {d pc : Nat} {ls : List (Option Value)} {st : List Value} {S : ab_S} {I : ab_I} {J : ab_J} {P : ab_P} {Q : ab_Q} {v0 : Value} {ix D r ln : Nat} (hd : decode M.2.1 pc = .ok (.invokevirtual ix, 3)) (h1 : Cond.methodLink M.1.cls ix mX9_isBell.1 ∈ ab_good) (hs : S[r]? = some (14, ln)) (hdg : D + 1 ≤ d) (hsum : (st.map fun v => v.category).sum ≤ 8) (kk : ab_Call l G mX9_isBell D (.ref r :: [v0]) S I J P (fun v S' I' J' P' => ab_WP l G M d (pc + 3) ls (ab_psh v st) S' I' J' P' 0 0 Q)) : ab_WP l G M d pc ls (v0 :: .ref r :: st) S I J P 0 0 Q := bz_kv (g := mX9_isBell) (as := [v0]) (cc := 9) rfl hd h1 tw_707 tw_708 tw_3 tw_709 ⟨by decide +kernel, by decide +kernel, (by decide +kernel : (parseMethodDescriptor mX9_isBell.1.desc).map (fun d => d.parameters.length) = some 1)⟩ (by decide) rfl rfl rfl hdg hsum hs kk
def fX9_isBell_17 (a1 : Int32) (I : ab_I) (s0 : Int32) : Option Int32 :=
  ab_gd (s0 = 0 ∨ s0 = 1) (some s0)
set_option maxRecDepth 100000 in
theorem fX9_isBell_17_ok {l : Launch} {G : ab_G} {S : ab_S} {I : ab_I} {J : ab_J} {P : ab_P} {Q : ab_Q} {a1 : Int32} {s0 : Int32} (hB : bz_B S P) {x : Int32} (H : fX9_isBell_17 a1 I s0 = some x) (K0 : Q (some (.int x)) S I J P) : ab_WP l G mX9_isBell 0 17 [some (.ref 3), some (.int a1)] [.int s0] S I J P 0 0 Q := by
  unfold fX9_isBell_17 at H
  obtain ⟨hg, H⟩ := ab_gd_of H
  obtain rfl := Option.some.inj H
  exact ab_zret (by decide +kernel) rfl (Nat.le_refl _) (Nat.le_refl _) hg K0
def fX9_isBell_16 (a1 : Int32) (I : ab_I) : Option Int32 :=
  fX9_isBell_17 a1 I (0 : Int32)
set_option maxRecDepth 100000 in
theorem fX9_isBell_16_ok {l : Launch} {G : ab_G} {S : ab_S} {I : ab_I} {J : ab_J} {P : ab_P} {Q : ab_Q} {a1 : Int32} (hB : bz_B S P) {x : Int32} (H : fX9_isBell_16 a1 I = some x) (K0 : Q (some (.int x)) S I J P) : ab_WP l G mX9_isBell 0 16 [some (.ref 3), some (.int a1)] [] S I J P 0 0 Q := by
  unfold fX9_isBell_16 at H
  refine ab_iconst (z := 0) (v := (0 : Int32)) (by decide +kernel) (by decide) ?_
  exact ab_wk (ab_le_some (ab_le_some (ab_le_nil))) (fX9_isBell_17_ok hB H  K0)
def fX9_isBell (a1 : Int32) (I : ab_I) : Option Int32 :=
  if a1 < 0 then
    fX9_isBell_16 a1 I
  else
    if (I 3 5) ≤ a1 then
      fX9_isBell_16 a1 I
    else
      fX9_isBell_17 a1 I (1 : Int32)
set_option maxRecDepth 100000 in
theorem mX9_isBell_ok {l : Launch} {G : ab_G} {S : ab_S} {I : ab_I} {J : ab_J} {P : ab_P} {Q : ab_Q} {a1 : Int32} (hB : bz_B S P) {x : Int32} (H : fX9_isBell a1 I = some x) (K0 : Q (some (.int x)) S I J P) : ab_Call l G mX9_isBell 0 [.ref 3, .int a1] S I J P Q := by
  unfold fX9_isBell at H
  refine ab_enter rfl (Nat.le_of_ble_eq_true rfl) (ab_wk (ls' := [some (.ref 3), some (.int a1)]) (ab_le_some (ab_le_some (ab_le_nil))) ?_)
  refine ab_iload_n (z := 1) (by decide +kernel) rfl rfl ?_
  refine ab_if_lt (off := 15) (tgt := 16) (by decide +kernel) rfl (fun hc => ?_) (fun hc => ?_)
  · replace H := ab_ifp H hc
    exact ab_wk (ab_le_some (ab_le_some (ab_le_nil))) (fX9_isBell_16_ok hB H  K0)
  · replace H := ab_ifn H hc
    refine ab_iload_n (z := 1) (by decide +kernel) rfl rfl ?_
    refine ab_aload_n (z := 0) (by decide +kernel) rfl rfl ?_
    refine gX9_5 (ix := 32) (by decide +kernel) tw_92 (hB.1 3 _ rfl) ?_
    refine ab_icmp_ge (off := 7) (tgt := 16) (by decide +kernel) rfl (fun hc => ?_) (fun hc => ?_)
    · replace H := ab_ifp H hc
      exact ab_wk (ab_le_some (ab_le_some (ab_le_nil))) (fX9_isBell_16_ok hB H  K0)
    · replace H := ab_ifn H hc
      refine ab_iconst (z := 1) (v := (1 : Int32)) (by decide +kernel) (by decide) ?_
      refine ab_goto (off := 4) (tgt := 17) (by decide +kernel) rfl ?_
      exact ab_wk (ab_le_some (ab_le_some (ab_le_nil))) (fX9_isBell_17_ok hB H  K0)
abbrev mX9_isPair : ab_M := (yX9_isPair, cX9_isPair, 3, some .boolean, 0, 0)
theorem kvX9_isPair {l : Launch} {G : ab_G} {M : ab_M} {d pc : Nat} {ls : List (Option Value)} {st : List Value} {S : ab_S} {I : ab_I} {J : ab_J} {P : ab_P} {Q : ab_Q} {v0 v1 : Value} {ix D r ln : Nat} (hd : decode M.2.1 pc = .ok (.invokevirtual ix, 3)) (h1 : Cond.methodLink M.1.cls ix mX9_isPair.1 ∈ ab_good) (hs : S[r]? = some (14, ln)) (hdg : D + 1 ≤ d) (hsum : (st.map fun v => v.category).sum ≤ 8) (kk : ab_Call l G mX9_isPair D (.ref r :: [v0, v1]) S I J P (fun v S' I' J' P' => ab_WP l G M d (pc + 3) ls (ab_psh v st) S' I' J' P' 0 0 Q)) : ab_WP l G M d pc ls (v1 :: v0 :: .ref r :: st) S I J P 0 0 Q := bz_kv (g := mX9_isPair) (as := [v0, v1]) (cc := 9) rfl hd h1 tw_702 tw_703 tw_3 tw_704 ⟨by decide +kernel, by decide +kernel, (by decide +kernel : (parseMethodDescriptor mX9_isPair.1.desc).map (fun d => d.parameters.length) = some 2)⟩ (by decide) rfl rfl rfl hdg hsum hs kk
def fX9_isPair_21 (a1 : Int32) (a2 : Int32) (I : ab_I) (s0 : Int32) : Option Int32 :=
  ab_gd (s0 = 0 ∨ s0 = 1) (some s0)
set_option maxRecDepth 100000 in
theorem fX9_isPair_21_ok {l : Launch} {G : ab_G} {S : ab_S} {I : ab_I} {J : ab_J} {P : ab_P} {Q : ab_Q} {a1 : Int32} {a2 : Int32} {s0 : Int32} (hB : bz_B S P) {x : Int32} (H : fX9_isPair_21 a1 a2 I s0 = some x) (K0 : Q (some (.int x)) S I J P) : ab_WP l G mX9_isPair 1 21 [some (.ref 3), some (.int a1), some (.int a2)] [.int s0] S I J P 0 0 Q := by
  unfold fX9_isPair_21 at H
  obtain ⟨hg, H⟩ := ab_gd_of H
  obtain rfl := Option.some.inj H
  exact ab_zret (by decide +kernel) rfl (Nat.le_refl _) (Nat.le_refl _) hg K0
def fX9_isPair_20 (a1 : Int32) (a2 : Int32) (I : ab_I) : Option Int32 :=
  fX9_isPair_21 a1 a2 I (0 : Int32)
set_option maxRecDepth 100000 in
theorem fX9_isPair_20_ok {l : Launch} {G : ab_G} {S : ab_S} {I : ab_I} {J : ab_J} {P : ab_P} {Q : ab_Q} {a1 : Int32} {a2 : Int32} (hB : bz_B S P) {x : Int32} (H : fX9_isPair_20 a1 a2 I = some x) (K0 : Q (some (.int x)) S I J P) : ab_WP l G mX9_isPair 1 20 [some (.ref 3), some (.int a1), some (.int a2)] [] S I J P 0 0 Q := by
  unfold fX9_isPair_20 at H
  refine ab_iconst (z := 0) (v := (0 : Int32)) (by decide +kernel) (by decide) ?_
  exact ab_wk (ab_le_some (ab_le_some (ab_le_some (ab_le_nil)))) (fX9_isPair_21_ok hB H  K0)
def fX9_isPair (a1 : Int32) (a2 : Int32) (I : ab_I) : Option Int32 :=
  (fX9_isPerson a1 I).bind fun u1 =>
  if u1 = 0 then
    fX9_isPair_20 a1 a2 I
  else
    (fX9_isBell a2 I).bind fun u2 =>
    if u2 = 0 then
      fX9_isPair_20 a1 a2 I
    else
      fX9_isPair_21 a1 a2 I (1 : Int32)
set_option maxRecDepth 100000 in
theorem mX9_isPair_ok {l : Launch} {G : ab_G} {S : ab_S} {I : ab_I} {J : ab_J} {P : ab_P} {Q : ab_Q} {a1 : Int32} {a2 : Int32} (hB : bz_B S P) {x : Int32} (H : fX9_isPair a1 a2 I = some x) (K0 : Q (some (.int x)) S I J P) : ab_Call l G mX9_isPair 1 [.ref 3, .int a1, .int a2] S I J P Q := by
  unfold fX9_isPair at H
  refine ab_enter rfl (Nat.le_of_ble_eq_true rfl) (ab_wk (ls' := [some (.ref 3), some (.int a1), some (.int a2)]) (ab_le_some (ab_le_some (ab_le_some (ab_le_nil)))) ?_)
  refine ab_aload_n (z := 0) (by decide +kernel) rfl rfl ?_
  refine ab_iload_n (z := 1) (by decide +kernel) rfl rfl ?_
  obtain ⟨u1, hu1, H⟩ := ab_bd_of H
  refine kvX9_isPerson (D := 0) (ix := 82) (by decide +kernel) tw_705 (hB.1 3 _ rfl) (by decide) (Nat.le_of_ble_eq_true rfl) (mX9_isPerson_ok hB hu1 ?_)
  change ab_WP l G mX9_isPair 1 5 [some (.ref 3), some (.int a1), some (.int a2)] [.int u1] S I J P 0 0 Q
  refine ab_if_eq (off := 15) (tgt := 20) (by decide +kernel) rfl (fun hc => ?_) (fun hc => ?_)
  · replace H := ab_ifp H hc
    exact ab_wk (ab_le_some (ab_le_some (ab_le_some (ab_le_nil)))) (fX9_isPair_20_ok hB H  K0)
  · replace H := ab_ifn H hc
    refine ab_aload_n (z := 0) (by decide +kernel) rfl rfl ?_
    refine ab_iload_n (z := 2) (by decide +kernel) rfl rfl ?_
    obtain ⟨u2, hu2, H⟩ := ab_bd_of H
    refine kvX9_isBell (D := 0) (ix := 86) (by decide +kernel) tw_706 (hB.1 3 _ rfl) (by decide) (Nat.le_of_ble_eq_true rfl) (mX9_isBell_ok hB hu2 ?_)
    change ab_WP l G mX9_isPair 1 13 [some (.ref 3), some (.int a1), some (.int a2)] [.int u2] S I J P 0 0 Q
    refine ab_if_eq (off := 7) (tgt := 20) (by decide +kernel) rfl (fun hc => ?_) (fun hc => ?_)
    · replace H := ab_ifp H hc
      exact ab_wk (ab_le_some (ab_le_some (ab_le_some (ab_le_nil)))) (fX9_isPair_20_ok hB H  K0)
    · replace H := ab_ifn H hc
      refine ab_iconst (z := 1) (v := (1 : Int32)) (by decide +kernel) (by decide) ?_
      refine ab_goto (off := 4) (tgt := 21) (by decide +kernel) rfl ?_
      exact ab_wk (ab_le_some (ab_le_some (ab_le_some (ab_le_nil)))) (fX9_isPair_21_ok hB H  K0)
abbrev mX11_loss : ab_M := (yX11_loss, cX11_loss, 3, some .int, 0, 0)
def fX11_loss_29 (a1 : Int32) (a2 : Int32) (I : ab_I) (P : ab_P) (s0 : Int32) : Option Int32 :=
  some s0
set_option maxRecDepth 100000 in
theorem fX11_loss_29_ok {l : Launch} {G : ab_G} {S : ab_S} {I : ab_I} {J : ab_J} {P : ab_P} {Q : ab_Q} {a1 : Int32} {a2 : Int32} {s0 : Int32} (hB : bz_B S P) {x : Int32} (H : fX11_loss_29 a1 a2 I P s0 = some x) (K0 : Q (some (.int x)) S I J P) : ab_WP l G mX11_loss 2 29 [some (.ref 0), some (.int a1), some (.int a2)] [.int s0] S I J P 0 0 Q := by
  unfold fX11_loss_29 at H
  obtain rfl := Option.some.inj H
  exact ab_iret (by decide +kernel) rfl (Nat.le_refl _) (Nat.le_refl _) K0
def fX11_loss (a1 : Int32) (a2 : Int32) (I : ab_I) (P : ab_P) : Option Int32 :=
  (fX9_isPair a1 a2 I).bind fun u1 =>
  if u1 = 0 then
    fX11_loss_29 a1 a2 I P (-1 : Int32)
  else
    (P 0 12).bind fun z2 =>
    (fX11_cell a1 a2).bind fun u3 =>
    ab_gd (ab_ix u3 30 = true) (
      fX11_loss_29 a1 a2 I P (I (z2 + 3) u3.toNatClampNeg)
    )
set_option maxRecDepth 100000 in
theorem mX11_loss_ok {l : Launch} {G : ab_G} {S : ab_S} {I : ab_I} {J : ab_J} {P : ab_P} {Q : ab_Q} {a1 : Int32} {a2 : Int32} (hB : bz_B S P) {x : Int32} (H : fX11_loss a1 a2 I P = some x) (K0 : Q (some (.int x)) S I J P) : ab_Call l G mX11_loss 2 [.ref 0, .int a1, .int a2] S I J P Q := by
  unfold fX11_loss at H
  refine ab_enter rfl (Nat.le_of_ble_eq_true rfl) (ab_wk (ls' := [some (.ref 0), some (.int a1), some (.int a2)]) (ab_le_some (ab_le_some (ab_le_some (ab_le_nil)))) ?_)
  refine ab_aload_n (z := 0) (by decide +kernel) rfl rfl ?_
  refine gX11_1 (ix := 19) (by decide +kernel) tw_409 (hB.1 0 _ rfl) (hB.2.1 1 (0, 1, 3) rfl) ?_
  refine ab_iload_n (z := 1) (by decide +kernel) rfl rfl ?_
  refine ab_iload_n (z := 2) (by decide +kernel) rfl rfl ?_
  obtain ⟨u1, hu1, H⟩ := ab_bd_of H
  refine kvX9_isPair (D := 1) (ix := 150) (by decide +kernel) tw_701 (hB.1 3 _ rfl) (by decide) (Nat.le_of_ble_eq_true rfl) (mX9_isPair_ok hB hu1 ?_)
  change ab_WP l G mX11_loss 2 9 [some (.ref 0), some (.int a1), some (.int a2)] [.int u1] S I J P 0 0 Q
  refine ab_if_eq (off := 19) (tgt := 28) (by decide +kernel) rfl (fun hc => ?_) (fun hc => ?_)
  · replace H := ab_ifp H hc
    refine ab_iconst (z := -1) (v := (-1 : Int32)) (by decide +kernel) (by decide) ?_
    exact ab_wk (ab_le_some (ab_le_some (ab_le_some (ab_le_nil)))) (fX11_loss_29_ok hB H  K0)
  · replace H := ab_ifn H hc
    refine ab_aload_n (z := 0) (by decide +kernel) rfl rfl ?_
    obtain ⟨z2, hz2, H⟩ := ab_bd_of H
    refine gX11_12 (ix := 89) (by decide +kernel) tw_420 (hB.1 0 _ rfl) hz2 ?_
    have sz2 := hB.2.2.1 _ hz2
    refine gX6_2 (ix := 154) (by decide +kernel) tw_249 sz2.1 sz2.2.2.2.2.2.2 ?_
    refine ab_iload_n (z := 1) (by decide +kernel) rfl rfl ?_
    refine ab_iload_n (z := 2) (by decide +kernel) rfl rfl ?_
    obtain ⟨u3, hu3, H⟩ := ab_bd_of H
    refine ksX11_cell (D := 0) (ix := 157) (by decide +kernel) tw_710 (by decide) (Nat.le_of_ble_eq_true rfl) (mX11_cell_ok hB hu3 ?_)
    change ab_WP l G mX11_loss 2 24 [some (.ref 0), some (.int a1), some (.int a2)] [.int u3, .ref (z2 + 3)] S I J P 0 0 Q
    obtain ⟨hg, H⟩ := ab_gd_of H
    refine ab_iald (ln := 30) (by decide +kernel) sz2.2.2.2.1 (ab_ix_in hg) ?_
    refine ab_goto (off := 4) (tgt := 29) (by decide +kernel) rfl ?_
    exact ab_wk (ab_le_some (ab_le_some (ab_le_some (ab_le_nil)))) (fX11_loss_29_ok hB H  K0)
abbrev mX11_weight : ab_M := (yX11_weight, cX11_weight, 3, some .int, 0, 0)
def fX11_weight (a1 : Int32) (a2 : Int32) (I : ab_I) (P : ab_P) : Option (Int32 × ab_I) :=
  (fX9_isPair a1 a2 I).bind fun u1 =>
  if u1 = 0 then
    some ((-1000000000 : Int32), I)
  else
    (P 0 12).bind fun z2 =>
    ab_gd (ab_ix a2 5 = true) (
      (fX2_comesTo z2 a1 a2 (I 5 a2.toNatClampNeg) I).bind fun u3 =>
      some (u3.1, u3.2)
    )
set_option maxRecDepth 100000 in
theorem mX11_weight_ok {l : Launch} {G : ab_G} {S : ab_S} {I : ab_I} {J : ab_J} {P : ab_P} {Q : ab_Q} {a1 : Int32} {a2 : Int32} (hB : bz_B S P) {x : Int32 × ab_I} (H : fX11_weight a1 a2 I P = some x) (K0 : Q (some (.int x.1)) S x.2 J P) : ab_Call l G mX11_weight 2 [.ref 0, .int a1, .int a2] S I J P Q := by
  unfold fX11_weight at H
  refine ab_enter rfl (Nat.le_of_ble_eq_true rfl) (ab_wk (ls' := [some (.ref 0), some (.int a1), some (.int a2)]) (ab_le_some (ab_le_some (ab_le_some (ab_le_nil)))) ?_)
  refine ab_aload_n (z := 0) (by decide +kernel) rfl rfl ?_
  refine gX11_1 (ix := 19) (by decide +kernel) tw_409 (hB.1 0 _ rfl) (hB.2.1 1 (0, 1, 3) rfl) ?_
  refine ab_iload_n (z := 1) (by decide +kernel) rfl rfl ?_
  refine ab_iload_n (z := 2) (by decide +kernel) rfl rfl ?_
  obtain ⟨u1, hu1, H⟩ := ab_bd_of H
  refine kvX9_isPair (D := 1) (ix := 150) (by decide +kernel) tw_701 (hB.1 3 _ rfl) (by decide) (Nat.le_of_ble_eq_true rfl) (mX9_isPair_ok hB hu1 ?_)
  change ab_WP l G mX11_weight 2 9 [some (.ref 0), some (.int a1), some (.int a2)] [.int u1] S I J P 0 0 Q
  refine ab_if_ne (off := 6) (tgt := 15) (by decide +kernel) rfl (fun hc => ?_) (fun hc => ?_)
  · replace H := ab_ifn H hc
    refine ab_aload_n (z := 0) (by decide +kernel) rfl rfl ?_
    refine gX11_1 (ix := 19) (by decide +kernel) tw_409 (hB.1 0 _ rfl) (hB.2.1 1 (0, 1, 3) rfl) ?_
    refine gX9_3 (ix := 162) (by decide +kernel) tw_83 (hB.1 3 _ rfl) (hB.2.1 14 (3, 3, 7) rfl) ?_
    refine ab_aload_n (z := 0) (by decide +kernel) rfl rfl ?_
    obtain ⟨z2, hz2, H⟩ := ab_bd_of H
    refine gX11_12 (ix := 89) (by decide +kernel) tw_420 (hB.1 0 _ rfl) hz2 ?_
    have sz2 := hB.2.2.1 _ hz2
    refine ab_iload_n (z := 1) (by decide +kernel) rfl rfl ?_
    refine ab_iload_n (z := 2) (by decide +kernel) rfl rfl ?_
    refine ab_aload_n (z := 0) (by decide +kernel) rfl rfl ?_
    refine gX11_1 (ix := 19) (by decide +kernel) tw_409 (hB.1 0 _ rfl) (hB.2.1 1 (0, 1, 3) rfl) ?_
    refine gX9_1 (ix := 166) (by decide +kernel) tw_78 (hB.1 3 _ rfl) (hB.2.1 12 (3, 1, 5) rfl) ?_
    refine ab_iload_n (z := 2) (by decide +kernel) rfl rfl ?_
    obtain ⟨hg, H⟩ := ab_gd_of H
    refine ab_iald (ln := 5) (by decide +kernel) (hB.1 5 _ rfl) (ab_ix_in hg) ?_
    obtain ⟨u3, hu3, H⟩ := ab_bd_of H
    refine kvX2_comesTo (D := 1) (ix := 169) (by decide +kernel) tw_716 (hB.1 7 _ rfl) (by decide) (Nat.le_of_ble_eq_true rfl) (mX2_comesTo_ok hB sz2 hu3 ?_)
    change ab_WP l G mX11_weight 2 40 [some (.ref 0), some (.int a1), some (.int a2)] [.int u3.1] S u3.2 J P 0 0 Q
    obtain rfl := Option.some.inj H
    exact ab_iret (by decide +kernel) rfl (Nat.le_refl _) (Nat.le_refl _) K0
  · replace H := ab_ifp H hc
    refine ab_ldc (ix := 161) (v := (-1000000000 : Int32)) (by decide +kernel) tw_715 ?_
    obtain rfl := Option.some.inj H
    exact ab_iret (by decide +kernel) rfl (Nat.le_refl _) (Nat.le_refl _) K0
abbrev mX11_ringer : ab_M := (yX11_ringer, cX11_ringer, 2, some .int, 0, 0)
def fX11_ringer_28 (a1 : Int32) (P : ab_P) (s0 : Int32) (I : ab_I) : Option (Int32 × ab_I) :=
  some (s0, I)
set_option maxRecDepth 100000 in
theorem fX11_ringer_28_ok {l : Launch} {G : ab_G} {S : ab_S} {I : ab_I} {J : ab_J} {P : ab_P} {Q : ab_Q} {a1 : Int32} {s0 : Int32} (hB : bz_B S P) {x : Int32 × ab_I} (H : fX11_ringer_28 a1 P s0 I = some x) (K0 : Q (some (.int x.1)) S x.2 J P) : ab_WP l G mX11_ringer 3 28 [some (.ref 0), some (.int a1)] [.int s0] S I J P 0 0 Q := by
  unfold fX11_ringer_28 at H
  obtain rfl := Option.some.inj H
  exact ab_iret (by decide +kernel) rfl (Nat.le_refl _) (Nat.le_refl _) K0
def fX11_ringer (a1 : Int32) (I : ab_I) (P : ab_P) : Option (Int32 × ab_I) :=
  (fX9_isBell a1 I).bind fun u1 =>
  if u1 = 0 then
    fX11_ringer_28 a1 P (-2 : Int32) I
  else
    (P 0 12).bind fun z2 =>
    (fX5_chosen z2 a1 I).bind fun u3 =>
    fX11_ringer_28 a1 P u3.1 u3.2
set_option maxRecDepth 100000 in
theorem mX11_ringer_ok {l : Launch} {G : ab_G} {S : ab_S} {I : ab_I} {J : ab_J} {P : ab_P} {Q : ab_Q} {a1 : Int32} (hB : bz_B S P) {x : Int32 × ab_I} (H : fX11_ringer a1 I P = some x) (K0 : Q (some (.int x.1)) S x.2 J P) : ab_Call l G mX11_ringer 3 [.ref 0, .int a1] S I J P Q := by
  unfold fX11_ringer at H
  refine ab_enter rfl (Nat.le_of_ble_eq_true rfl) (ab_wk (ls' := [some (.ref 0), some (.int a1)]) (ab_le_some (ab_le_some (ab_le_nil))) ?_)
  refine ab_aload_n (z := 0) (by decide +kernel) rfl rfl ?_
  refine gX11_1 (ix := 19) (by decide +kernel) tw_409 (hB.1 0 _ rfl) (hB.2.1 1 (0, 1, 3) rfl) ?_
  refine ab_iload_n (z := 1) (by decide +kernel) rfl rfl ?_
  obtain ⟨u1, hu1, H⟩ := ab_bd_of H
  refine kvX9_isBell (D := 0) (ix := 175) (by decide +kernel) tw_721 (hB.1 3 _ rfl) (by decide) (Nat.le_of_ble_eq_true rfl) (mX9_isBell_ok hB hu1 ?_)
  change ab_WP l G mX11_ringer 3 8 [some (.ref 0), some (.int a1)] [.int u1] S I J P 0 0 Q
  refine ab_if_eq (off := 18) (tgt := 26) (by decide +kernel) rfl (fun hc => ?_) (fun hc => ?_)
  · replace H := ab_ifp H hc
    refine ab_bipush (z := -2) (v := (-2 : Int32)) (by decide +kernel) (by decide) ?_
    exact ab_wk (ab_le_some (ab_le_some (ab_le_nil))) (fX11_ringer_28_ok hB H  K0)
  · replace H := ab_ifn H hc
    refine ab_aload_n (z := 0) (by decide +kernel) rfl rfl ?_
    refine gX11_3 (ix := 37) (by decide +kernel) tw_411 (hB.1 0 _ rfl) (hB.2.1 3 (0, 3, 23) rfl) ?_
    refine ab_aload_n (z := 0) (by decide +kernel) rfl rfl ?_
    obtain ⟨z2, hz2, H⟩ := ab_bd_of H
    refine gX11_12 (ix := 89) (by decide +kernel) tw_420 (hB.1 0 _ rfl) hz2 ?_
    have sz2 := hB.2.2.1 _ hz2
    refine ab_iload_n (z := 1) (by decide +kernel) rfl rfl ?_
    obtain ⟨u3, hu3, H⟩ := ab_bd_of H
    refine kvX5_chosen (D := 2) (ix := 178) (by decide +kernel) tw_722 (hB.1 23 _ rfl) (by decide) (Nat.le_of_ble_eq_true rfl) (mX5_chosen_ok hB sz2 hu3 ?_)
    change ab_WP l G mX11_ringer 3 23 [some (.ref 0), some (.int a1)] [.int u3.1] S u3.2 J P 0 0 Q
    refine ab_goto (off := 5) (tgt := 28) (by decide +kernel) rfl ?_
    exact ab_wk (ab_le_some (ab_le_some (ab_le_nil))) (fX11_ringer_28_ok hB H  K0)
abbrev mX11_hour : ab_M := (yX11_hour, cX11_hour, 2, some .int, 0, 0)
def fX11_hour_24 (a1 : Int32) (I : ab_I) (s0 : Int32) : Option Int32 :=
  some s0
set_option maxRecDepth 100000 in
theorem fX11_hour_24_ok {l : Launch} {G : ab_G} {S : ab_S} {I : ab_I} {J : ab_J} {P : ab_P} {Q : ab_Q} {a1 : Int32} {s0 : Int32} (hB : bz_B S P) {x : Int32} (H : fX11_hour_24 a1 I s0 = some x) (K0 : Q (some (.int x)) S I J P) : ab_WP l G mX11_hour 1 24 [some (.ref 0), some (.int a1)] [.int s0] S I J P 0 0 Q := by
  unfold fX11_hour_24 at H
  obtain rfl := Option.some.inj H
  exact ab_iret (by decide +kernel) rfl (Nat.le_refl _) (Nat.le_refl _) K0
def fX11_hour (a1 : Int32) (I : ab_I) : Option Int32 :=
  (fX9_isBell a1 I).bind fun u1 =>
  if u1 = 0 then
    fX11_hour_24 a1 I (-1 : Int32)
  else
    ab_gd (ab_ix a1 5 = true) (
      fX11_hour_24 a1 I (I 5 a1.toNatClampNeg)
    )
set_option maxRecDepth 100000 in
theorem mX11_hour_ok {l : Launch} {G : ab_G} {S : ab_S} {I : ab_I} {J : ab_J} {P : ab_P} {Q : ab_Q} {a1 : Int32} (hB : bz_B S P) {x : Int32} (H : fX11_hour a1 I = some x) (K0 : Q (some (.int x)) S I J P) : ab_Call l G mX11_hour 1 [.ref 0, .int a1] S I J P Q := by
  unfold fX11_hour at H
  refine ab_enter rfl (Nat.le_of_ble_eq_true rfl) (ab_wk (ls' := [some (.ref 0), some (.int a1)]) (ab_le_some (ab_le_some (ab_le_nil))) ?_)
  refine ab_aload_n (z := 0) (by decide +kernel) rfl rfl ?_
  refine gX11_1 (ix := 19) (by decide +kernel) tw_409 (hB.1 0 _ rfl) (hB.2.1 1 (0, 1, 3) rfl) ?_
  refine ab_iload_n (z := 1) (by decide +kernel) rfl rfl ?_
  obtain ⟨u1, hu1, H⟩ := ab_bd_of H
  refine kvX9_isBell (D := 0) (ix := 175) (by decide +kernel) tw_721 (hB.1 3 _ rfl) (by decide) (Nat.le_of_ble_eq_true rfl) (mX9_isBell_ok hB hu1 ?_)
  change ab_WP l G mX11_hour 1 8 [some (.ref 0), some (.int a1)] [.int u1] S I J P 0 0 Q
  refine ab_if_eq (off := 15) (tgt := 23) (by decide +kernel) rfl (fun hc => ?_) (fun hc => ?_)
  · replace H := ab_ifp H hc
    refine ab_iconst (z := -1) (v := (-1 : Int32)) (by decide +kernel) (by decide) ?_
    exact ab_wk (ab_le_some (ab_le_some (ab_le_nil))) (fX11_hour_24_ok hB H  K0)
  · replace H := ab_ifn H hc
    refine ab_aload_n (z := 0) (by decide +kernel) rfl rfl ?_
    refine gX11_1 (ix := 19) (by decide +kernel) tw_409 (hB.1 0 _ rfl) (hB.2.1 1 (0, 1, 3) rfl) ?_
    refine gX9_1 (ix := 166) (by decide +kernel) tw_78 (hB.1 3 _ rfl) (hB.2.1 12 (3, 1, 5) rfl) ?_
    refine ab_iload_n (z := 1) (by decide +kernel) rfl rfl ?_
    obtain ⟨hg, H⟩ := ab_gd_of H
    refine ab_iald (ln := 5) (by decide +kernel) (hB.1 5 _ rfl) (ab_ix_in hg) ?_
    refine ab_goto (off := 4) (tgt := 24) (by decide +kernel) rfl ?_
    exact ab_wk (ab_le_some (ab_le_some (ab_le_nil))) (fX11_hour_24_ok hB H  K0)
