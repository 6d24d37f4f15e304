abbrev mX3_mostFeared : ab_M := (yX3_mostFeared, cX3_mostFeared, 7, some .int, 0, 0)
theorem kvX3_mostFeared {l : Launch} {G : ab_G} {M : ab_M} {d pc : Nat} {ls : List (Option Value)} {st : List Value} {S : ab_S} {I : ab_I} {J : ab_J} {P : ab_P} {Q : ab_Q} {v0 : Value} {ix D r ln : Nat} (hd : decode M.2.1 pc = .ok (.invokevirtual ix, 3)) (h1 : Cond.methodLink M.1.cls ix mX3_mostFeared.1 ∈ ab_good) (hs : S[r]? = some (8, ln)) (hdg : D + 1 ≤ d) (hsum : (st.map fun v => v.category).sum ≤ 8) (kk : ab_Call l G mX3_mostFeared D (.ref r :: [v0]) S I J P (fun v S' I' J' P' => ab_WP l G M d (pc + 3) ls (ab_psh v st) S' I' J' P' 0 0 Q)) : ab_WP l G M d pc ls (v0 :: .ref r :: st) S I J P 0 0 Q := bz_kv (g := mX3_mostFeared) (as := [v0]) (cc := 3) rfl hd h1 tw_934 tw_935 tw_10 tw_936 ⟨by decide +kernel, by decide +kernel, (by decide +kernel : (parseMethodDescriptor mX3_mostFeared.1.desc).map (fun d => d.parameters.length) = some 1)⟩ (by decide) rfl rfl rfl hdg hsum hs kk
def fX3_mostFeared_92 (q1 : Nat) (I : ab_I) (a2 : Int32) : Option Int32 :=
  some a2
set_option maxRecDepth 100000 in
theorem fX3_mostFeared_92_ok {l : Launch} {G : ab_G} {S : ab_S} {I : ab_I} {J : ab_J} {P : ab_P} {Q : ab_Q} {q1 : Nat} {a2 : Int32} (hB : bz_B S P) (hq1 : bz_st S P q1) {x : Int32} (H : fX3_mostFeared_92 q1 I a2 = some x) (K0 : Q (some (.int x)) S I J P) : ab_WP l G mX3_mostFeared 1 92 [some (.ref 34), some (.ref q1), some (.int a2), none, none, none, none] [] S I J P 0 0 Q := by
  unfold fX3_mostFeared_92 at H
  refine ab_iload_n (z := 2) (by decide +kernel) rfl rfl ?_
  obtain rfl := Option.some.inj H
  exact ab_iret (by decide +kernel) rfl (Nat.le_refl _) (Nat.le_refl _) K0
def fX3_mostFeared_86 (q1 : Nat) (I : ab_I) (a2 : Int32) (a3 : Int32) (a4 : Int32) : Option ((Int32 × Int32 × Int32) ⊕ Int32) :=
  some (.inl (a2, a3, (a4 + (1 : Int32))))
set_option maxRecDepth 100000 in
theorem fX3_mostFeared_86_ok {l : Launch} {G : ab_G} {S : ab_S} {I : ab_I} {J : ab_J} {P : ab_P} {Q : ab_Q} {q1 : Nat} {a2 : Int32} {a3 : Int32} {a4 : Int32} (hB : bz_B S P) (hq1 : bz_st S P q1) {x : ((Int32 × Int32 × Int32) ⊕ Int32)} (H : fX3_mostFeared_86 q1 I a2 a3 a4 = some x) (K1 : ∀ s, x = (.inl s) → ab_WP l G mX3_mostFeared 1 7 [some (.ref 34), some (.ref q1), some (.int s.1), some (.int s.2.1), some (.int s.2.2), none, none] [] S I J P 0 0 Q) (K0 : ∀ r, x = (.inr r) → Q (some (.int r)) S I J P) : ab_WP l G mX3_mostFeared 1 86 [some (.ref 34), some (.ref q1), some (.int a2), some (.int a3), some (.int a4), none, none] [] S I J P 0 0 Q := by
  unfold fX3_mostFeared_86 at H
  refine ab_iinc (i := 4) (z := 1) (v := (a4 + (1 : Int32))) (by decide +kernel) rfl rfl (by decide) rfl ?_
  refine ab_ls (ls' := [some (.ref 34), some (.ref q1), some (.int a2), some (.int a3), some (.int (a4 + (1 : Int32))), none, none]) rfl ?_
  refine ab_goto (off := -82) (tgt := 7) (by decide +kernel) rfl ?_
  exact ab_wk (ab_le_some (ab_le_some (ab_le_some (ab_le_some (ab_le_some (ab_le_none (ab_le_none (ab_le_nil)))))))) (K1 (a2, a3, (a4 + (1 : Int32))) (Option.some.inj H).symm)
def fX3_mostFeared_63 (q1 : Nat) (I : ab_I) (a2 : Int32) (a3 : Int32) (a4 : Int32) (a5 : Int32) (a6 : Int32) : Option ((Int32 × Int32 × Int32 × Int32 × Int32) ⊕ ((Int32 × Int32 × Int32) ⊕ Int32)) :=
  some (.inl (a2, a3, a4, a5, (a6 + (1 : Int32))))
set_option maxRecDepth 100000 in
theorem fX3_mostFeared_63_ok {l : Launch} {G : ab_G} {S : ab_S} {I : ab_I} {J : ab_J} {P : ab_P} {Q : ab_Q} {q1 : Nat} {a2 : Int32} {a3 : Int32} {a4 : Int32} {a5 : Int32} {a6 : Int32} (hB : bz_B S P) (hq1 : bz_st S P q1) {x : ((Int32 × Int32 × Int32 × Int32 × Int32) ⊕ ((Int32 × Int32 × Int32) ⊕ Int32))} (H : fX3_mostFeared_63 q1 I a2 a3 a4 a5 a6 = some x) (K2 : ∀ s, x = (.inl s) → ab_WP l G mX3_mostFeared 1 25 [some (.ref 34), some (.ref q1), some (.int s.1), some (.int s.2.1), some (.int s.2.2.1), some (.int s.2.2.2.1), some (.int s.2.2.2.2)] [] S I J P 0 0 Q) (K1 : ∀ s, x = (.inr (.inl s)) → ab_WP l G mX3_mostFeared 1 7 [some (.ref 34), some (.ref q1), some (.int s.1), some (.int s.2.1), some (.int s.2.2), none, none] [] S I J P 0 0 Q) (K0 : ∀ r, x = (.inr (.inr r)) → Q (some (.int r)) S I J P) : ab_WP l G mX3_mostFeared 1 63 [some (.ref 34), some (.ref q1), some (.int a2), some (.int a3), some (.int a4), some (.int a5), some (.int a6)] [] S I J P 0 0 Q := by
  unfold fX3_mostFeared_63 at H
  refine ab_iinc (i := 6) (z := 1) (v := (a6 + (1 : Int32))) (by decide +kernel) rfl rfl (by decide) rfl ?_
  refine ab_ls (ls' := [some (.ref 34), some (.ref q1), some (.int a2), some (.int a3), some (.int a4), some (.int a5), some (.int (a6 + (1 : Int32)))]) rfl ?_
  refine ab_goto (off := -41) (tgt := 25) (by decide +kernel) rfl ?_
  exact ab_wk (ab_le_some (ab_le_some (ab_le_some (ab_le_some (ab_le_some (ab_le_some (ab_le_some (ab_le_nil)))))))) (K2 (a2, a3, a4, a5, (a6 + (1 : Int32))) (Option.some.inj H).symm)
def fX3_mostFeared_80 (q1 : Nat) (I : ab_I) (a4 : Int32) (a5 : Int32) : Option ((Int32 × Int32 × Int32) ⊕ Int32) :=
  fX3_mostFeared_86 q1 I a4 a5 a4
set_option maxRecDepth 100000 in
theorem fX3_mostFeared_80_ok {l : Launch} {G : ab_G} {S : ab_S} {I : ab_I} {J : ab_J} {P : ab_P} {Q : ab_Q} {q1 : Nat} {a4 : Int32} {a5 : Int32} (hB : bz_B S P) (hq1 : bz_st S P q1) {x : ((Int32 × Int32 × Int32) ⊕ Int32)} (H : fX3_mostFeared_80 q1 I a4 a5 = some x) (K1 : ∀ s, x = (.inl s) → ab_WP l G mX3_mostFeared 1 7 [some (.ref 34), some (.ref q1), some (.int s.1), some (.int s.2.1), some (.int s.2.2), none, none] [] S I J P 0 0 Q) (K0 : ∀ r, x = (.inr r) → Q (some (.int r)) S I J P) : ab_WP l G mX3_mostFeared 1 80 [some (.ref 34), some (.ref q1), none, none, some (.int a4), some (.int a5), none] [] S I J P 0 0 Q := by
  unfold fX3_mostFeared_80 at H
  refine ab_iload (i := 4) (by decide +kernel) rfl ?_
  refine ab_istore_n (z := 2) (by decide +kernel) rfl (by decide) rfl ?_
  refine ab_ls (ls' := [some (.ref 34), some (.ref q1), some (.int a4), none, some (.int a4), some (.int a5), none]) rfl ?_
  refine ab_iload (i := 5) (by decide +kernel) rfl ?_
  refine ab_istore_n (z := 3) (by decide +kernel) rfl (by decide) rfl ?_
  refine ab_ls (ls' := [some (.ref 34), some (.ref q1), some (.int a4), some (.int a5), some (.int a4), some (.int a5), none]) rfl ?_
  exact ab_wk (ab_le_some (ab_le_some (ab_le_some (ab_le_some (ab_le_some (ab_le_none (ab_le_none (ab_le_nil)))))))) (fX3_mostFeared_86_ok hB hq1 H K1 K0)
def fX3_mostFeared_69 (q1 : Nat) (I : ab_I) (a2 : Int32) (a3 : Int32) (a4 : Int32) (a5 : Int32) : Option ((Int32 × Int32 × Int32) ⊕ Int32) :=
  if a2 = (-1 : Int32) then
    fX3_mostFeared_80 q1 I a4 a5
  else
    if a5 ≤ a3 then
      fX3_mostFeared_86 q1 I a2 a3 a4
    else
      fX3_mostFeared_80 q1 I a4 a5
set_option maxRecDepth 100000 in
theorem fX3_mostFeared_69_ok {l : Launch} {G : ab_G} {S : ab_S} {I : ab_I} {J : ab_J} {P : ab_P} {Q : ab_Q} {q1 : Nat} {a2 : Int32} {a3 : Int32} {a4 : Int32} {a5 : Int32} (hB : bz_B S P) (hq1 : bz_st S P q1) {x : ((Int32 × Int32 × Int32) ⊕ Int32)} (H : fX3_mostFeared_69 q1 I a2 a3 a4 a5 = some x) (K1 : ∀ s, x = (.inl s) → ab_WP l G mX3_mostFeared 1 7 [some (.ref 34), some (.ref q1), some (.int s.1), some (.int s.2.1), some (.int s.2.2), none, none] [] S I J P 0 0 Q) (K0 : ∀ r, x = (.inr r) → Q (some (.int r)) S I J P) : ab_WP l G mX3_mostFeared 1 69 [some (.ref 34), some (.ref q1), some (.int a2), some (.int a3), some (.int a4), some (.int a5), none] [] S I J P 0 0 Q := by
  unfold fX3_mostFeared_69 at H
  refine ab_iload_n (z := 2) (by decide +kernel) rfl rfl ?_
  refine ab_iconst (z := -1) (v := (-1 : Int32)) (by decide +kernel) (by decide) ?_
  refine ab_icmp_eq (off := 9) (tgt := 80) (by decide +kernel) rfl (fun hc => ?_) (fun hc => ?_)
  · replace H := ab_ifp H hc
    exact ab_wk (ab_le_some (ab_le_some (ab_le_none (ab_le_none (ab_le_some (ab_le_some (ab_le_none (ab_le_nil)))))))) (fX3_mostFeared_80_ok hB hq1 H K1 K0)
  · replace H := ab_ifn H hc
    refine ab_iload (i := 5) (by decide +kernel) rfl ?_
    refine ab_iload_n (z := 3) (by decide +kernel) rfl rfl ?_
    refine ab_icmp_le (off := 9) (tgt := 86) (by decide +kernel) rfl (fun hc => ?_) (fun hc => ?_)
    · replace H := ab_ifp H hc
      exact ab_wk (ab_le_some (ab_le_some (ab_le_some (ab_le_some (ab_le_some (ab_le_none (ab_le_none (ab_le_nil)))))))) (fX3_mostFeared_86_ok hB hq1 H K1 K0)
    · replace H := ab_ifn H hc
      exact ab_wk (ab_le_some (ab_le_some (ab_le_none (ab_le_none (ab_le_some (ab_le_some (ab_le_none (ab_le_nil)))))))) (fX3_mostFeared_80_ok hB hq1 H K1 K0)
def fX3_mostFeared_25 (q1 : Nat) (I : ab_I) (a2 : Int32) (a3 : Int32) (a4 : Int32) (a5 : Int32) (a6 : Int32) : Option ((Int32 × Int32 × Int32 × Int32 × Int32) ⊕ ((Int32 × Int32 × Int32) ⊕ Int32)) :=
  if (I 3 4) ≤ a6 then
    (fX3_mostFeared_69 q1 I a2 a3 a4 a5).map .inr
  else
    (fX6_isHere q1 a6 I).bind fun u3 =>
    if u3 = 0 then
      fX3_mostFeared_63 q1 I a2 a3 a4 a5 a6
    else
      (fX11_cell a6 a4).bind fun u4 =>
      ab_gd (ab_ix u4 30 = true) (
        fX3_mostFeared_63 q1 I a2 a3 a4 (a5 + (I (q1 + 3) u4.toNatClampNeg)) a6
      )
set_option maxRecDepth 100000 in
theorem fX3_mostFeared_25_ok {l : Launch} {G : ab_G} {S : ab_S} {I : ab_I} {J : ab_J} {P : ab_P} {Q : ab_Q} {q1 : Nat} {a2 : Int32} {a3 : Int32} {a4 : Int32} {a5 : Int32} {a6 : Int32} (hB : bz_B S P) (hq1 : bz_st S P q1) {x : ((Int32 × Int32 × Int32 × Int32 × Int32) ⊕ ((Int32 × Int32 × Int32) ⊕ Int32))} (H : fX3_mostFeared_25 q1 I a2 a3 a4 a5 a6 = some x) (K2 : ∀ s, x = (.inl s) → ab_WP l G mX3_mostFeared 1 25 [some (.ref 34), some (.ref q1), some (.int s.1), some (.int s.2.1), some (.int s.2.2.1), some (.int s.2.2.2.1), some (.int s.2.2.2.2)] [] S I J P 0 0 Q) (K1 : ∀ s, x = (.inr (.inl s)) → ab_WP l G mX3_mostFeared 1 7 [some (.ref 34), some (.ref q1), some (.int s.1), some (.int s.2.1), some (.int s.2.2), none, none] [] S I J P 0 0 Q) (K0 : ∀ r, x = (.inr (.inr r)) → Q (some (.int r)) S I J P) : ab_WP l G mX3_mostFeared 1 25 [some (.ref 34), some (.ref q1), some (.int a2), some (.int a3), some (.int a4), some (.int a5), some (.int a6)] [] S I J P 0 0 Q := by
  unfold fX3_mostFeared_25 at H
  refine ab_iload (i := 6) (by decide +kernel) rfl ?_
  refine ab_aload_n (z := 0) (by decide +kernel) rfl rfl ?_
  refine gX3_0 (ix := 32) (by decide +kernel) tw_313 (hB.1 34 _ rfl) (hB.2.1 42 (34, 0, 3) rfl) ?_
  refine gX9_4 (ix := 79) (by decide +kernel) tw_90 (hB.1 3 _ rfl) ?_
  refine ab_icmp_ge (off := 35) (tgt := 69) (by decide +kernel) rfl (fun hc => ?_) (fun hc => ?_)
  · replace H := ab_ifp H hc
    obtain ⟨y2, Hy, hx⟩ := ab_mp_of H
    subst hx
    replace H := Hy
    exact ab_wk (ab_le_some (ab_le_some (ab_le_some (ab_le_some (ab_le_some (ab_le_some (ab_le_none (ab_le_nil)))))))) (fX3_mostFeared_69_ok hB hq1 H (fun s e => K1 s (by rw [e])) (fun r e => K0 r (by rw [e])))
  · replace H := ab_ifn H hc
    refine ab_aload_n (z := 1) (by decide +kernel) rfl rfl ?_
    refine ab_iload (i := 6) (by decide +kernel) rfl ?_
    obtain ⟨u3, hu3, H⟩ := ab_bd_of H
    refine kvX6_isHere (D := 0) (ix := 102) (by decide +kernel) tw_937 hq1.1 (by decide) (Nat.le_of_ble_eq_true rfl) (mX6_isHere_ok hB hq1 hu3 ?_)
    change ab_WP l G mX3_mostFeared 1 43 [some (.ref 34), some (.ref q1), some (.int a2), some (.int a3), some (.int a4), some (.int a5), some (.int a6)] [.int u3] S I J P 0 0 Q
    refine ab_if_eq (off := 20) (tgt := 63) (by decide +kernel) rfl (fun hc => ?_) (fun hc => ?_)
    · replace H := ab_ifp H hc
      exact ab_wk (ab_le_some (ab_le_some (ab_le_some (ab_le_some (ab_le_some (ab_le_some (ab_le_some (ab_le_nil)))))))) (fX3_mostFeared_63_ok hB hq1 H K2 K1 K0)
    · replace H := ab_ifn H hc
      refine ab_iload (i := 5) (by decide +kernel) rfl ?_
      refine ab_aload_n (z := 1) (by decide +kernel) rfl rfl ?_
      refine gX6_2 (ix := 82) (by decide +kernel) tw_250 hq1.1 hq1.2.2.2.2.2.2 ?_
      refine ab_iload (i := 6) (by decide +kernel) rfl ?_
      refine ab_iload (i := 4) (by decide +kernel) rfl ?_
      obtain ⟨u4, hu4, H⟩ := ab_bd_of H
      refine knX11_cell (D := 0) (ix := 85) (host := "BellRingers") (by decide +kernel) tn_834 (by decide) (Nat.le_of_ble_eq_true rfl) (mX11_cell_ok hB hu4 ?_)
      change ab_WP l G mX3_mostFeared 1 59 [some (.ref 34), some (.ref q1), some (.int a2), some (.int a3), some (.int a4), some (.int a5), some (.int a6)] [.int u4, .ref (q1 + 3), .int a5] S I J P 0 0 Q
      obtain ⟨hg, H⟩ := ab_gd_of H
      refine ab_iald (ln := 30) (by decide +kernel) hq1.2.2.2.1 (ab_ix_in hg) ?_
      refine ab_iadd (by decide +kernel) ?_
      refine ab_istore (i := 5) (by decide +kernel) (by decide) rfl ?_
      refine ab_ls (ls' := [some (.ref 34), some (.ref q1), some (.int a2), some (.int a3), some (.int a4), some (.int (a5 + (I (q1 + 3) u4.toNatClampNeg))), some (.int a6)]) rfl ?_
      exact ab_wk (ab_le_some (ab_le_some (ab_le_some (ab_le_some (ab_le_some (ab_le_some (ab_le_some (ab_le_nil)))))))) (fX3_mostFeared_63_ok hB hq1 H K2 K1 K0)
def fX3_mostFeared_7 (q1 : Nat) (I : ab_I) (a2 : Int32) (a3 : Int32) (a4 : Int32) : Option ((Int32 × Int32 × Int32) ⊕ Int32) :=
  if (I 3 5) ≤ a4 then
    (fX3_mostFeared_92 q1 I a2).map .inr
  else
    ab_it (fun s => fX3_mostFeared_25 q1 I s.1 s.2.1 s.2.2.1 s.2.2.2.1 s.2.2.2.2) 5000 (a2, a3, a4, (0 : Int32), (0 : Int32))
set_option maxRecDepth 100000 in
theorem fX3_mostFeared_7_ok {l : Launch} {G : ab_G} {S : ab_S} {I : ab_I} {J : ab_J} {P : ab_P} {Q : ab_Q} {q1 : Nat} {a2 : Int32} {a3 : Int32} {a4 : Int32} (hB : bz_B S P) (hq1 : bz_st S P q1) {x : ((Int32 × Int32 × Int32) ⊕ Int32)} (H : fX3_mostFeared_7 q1 I a2 a3 a4 = some x) (K1 : ∀ s, x = (.inl s) → ab_WP l G mX3_mostFeared 1 7 [some (.ref 34), some (.ref q1), some (.int s.1), some (.int s.2.1), some (.int s.2.2), none, none] [] S I J P 0 0 Q) (K0 : ∀ r, x = (.inr r) → Q (some (.int r)) S I J P) : ab_WP l G mX3_mostFeared 1 7 [some (.ref 34), some (.ref q1), some (.int a2), some (.int a3), some (.int a4), none, none] [] S I J P 0 0 Q := by
  unfold fX3_mostFeared_7 at H
  refine ab_iload (i := 4) (by decide +kernel) rfl ?_
  refine ab_aload_n (z := 0) (by decide +kernel) rfl rfl ?_
  refine gX3_0 (ix := 32) (by decide +kernel) tw_313 (hB.1 34 _ rfl) (hB.2.1 42 (34, 0, 3) rfl) ?_
  refine gX9_5 (ix := 40) (by decide +kernel) tw_93 (hB.1 3 _ rfl) ?_
  refine ab_icmp_ge (off := 76) (tgt := 92) (by decide +kernel) rfl (fun hc => ?_) (fun hc => ?_)
  · replace H := ab_ifp H hc
    obtain ⟨y1, Hy, hx⟩ := ab_mp_of H
    subst hx
    replace H := Hy
    exact ab_wk (ab_le_some (ab_le_some (ab_le_some (ab_le_none (ab_le_none (ab_le_none (ab_le_none (ab_le_nil)))))))) (fX3_mostFeared_92_ok hB hq1 H  (K0 _ rfl))
  · replace H := ab_ifn H hc
    refine ab_iconst (z := 0) (v := (0 : Int32)) (by decide +kernel) (by decide) ?_
    refine ab_istore (i := 5) (by decide +kernel) (by decide) rfl ?_
    refine ab_ls (ls' := [some (.ref 34), some (.ref q1), some (.int a2), some (.int a3), some (.int a4), some (.int (0 : Int32)), none]) rfl ?_
    refine ab_iconst (z := 0) (v := (0 : Int32)) (by decide +kernel) (by decide) ?_
    refine ab_istore (i := 6) (by decide +kernel) (by decide) rfl ?_
    refine ab_ls (ls' := [some (.ref 34), some (.ref q1), some (.int a2), some (.int a3), some (.int a4), some (.int (0 : Int32)), some (.int (0 : Int32))]) rfl ?_
    exact ab_wk (ab_le_some (ab_le_some (ab_le_some (ab_le_some (ab_le_some (ab_le_some (ab_le_some (ab_le_nil)))))))) (ab_iter (body := (fun s => fX3_mostFeared_25 q1 I s.1 s.2.1 s.2.2.1 s.2.2.2.1 s.2.2.2.2)) (W := fun s => ab_WP l G mX3_mostFeared 1 25 [some (.ref 34), some (.ref q1), some (.int s.1), some (.int s.2.1), some (.int s.2.2.1), some (.int s.2.2.2.1), some (.int s.2.2.2.2)] [] S I J P 0 0 Q) (fun s y hb h1 h2 => fX3_mostFeared_25_ok hB hq1 hb h1 (fun s e => K1 s (h2 _ e).symm) (fun r e => K0 r (h2 _ e).symm)) 5000 (a2, a3, a4, (0 : Int32), (0 : Int32)) H)
def fX3_mostFeared (q1 : Nat) (I : ab_I) : Option Int32 :=
  ab_it (fun s => fX3_mostFeared_7 q1 I s.1 s.2.1 s.2.2) 5000 ((-1 : Int32), (0 : Int32), (0 : Int32))
set_option maxRecDepth 100000 in
theorem mX3_mostFeared_ok {l : Launch} {G : ab_G} {S : ab_S} {I : ab_I} {J : ab_J} {P : ab_P} {Q : ab_Q} {q1 : Nat} (hB : bz_B S P) (hq1 : bz_st S P q1) {x : Int32} (H : fX3_mostFeared q1 I = some x) (K0 : Q (some (.int x)) S I J P) : ab_Call l G mX3_mostFeared 1 [.ref 34, .ref q1] S I J P Q := by
  unfold fX3_mostFeared at H
  refine ab_enter rfl (Nat.le_of_ble_eq_true rfl) (ab_wk (ls' := [some (.ref 34), some (.ref q1), none, none, none, none, none]) (ab_le_some (ab_le_some (ab_le_non0 (ab_le_non0 (ab_le_non0 (ab_le_non0 (ab_le_non0 ab_le_nil))))))) ?_)
  refine ab_iconst (z := -1) (v := (-1 : Int32)) (by decide +kernel) (by decide) ?_
  refine ab_istore_n (z := 2) (by decide +kernel) rfl (by decide) rfl ?_
  refine ab_ls (ls' := [some (.ref 34), some (.ref q1), some (.int (-1 : Int32)), none, none, none, none]) rfl ?_
  refine ab_iconst (z := 0) (v := (0 : Int32)) (by decide +kernel) (by decide) ?_
  refine ab_istore_n (z := 3) (by decide +kernel) rfl (by decide) rfl ?_
  refine ab_ls (ls' := [some (.ref 34), some (.ref q1), some (.int (-1 : Int32)), some (.int (0 : Int32)), none, none, none]) rfl ?_
  refine ab_iconst (z := 0) (v := (0 : Int32)) (by decide +kernel) (by decide) ?_
  refine ab_istore (i := 4) (by decide +kernel) (by decide) rfl ?_
  refine ab_ls (ls' := [some (.ref 34), some (.ref q1), some (.int (-1 : Int32)), some (.int (0 : Int32)), some (.int (0 : Int32)), none, none]) rfl ?_
  exact ab_wk (ab_le_some (ab_le_some (ab_le_some (ab_le_some (ab_le_some (ab_le_none (ab_le_none (ab_le_nil)))))))) (ab_iter (body := (fun s => fX3_mostFeared_7 q1 I s.1 s.2.1 s.2.2)) (W := fun s => ab_WP l G mX3_mostFeared 1 7 [some (.ref 34), some (.ref q1), some (.int s.1), some (.int s.2.1), some (.int s.2.2), none, none] [] S I J P 0 0 Q) (fun s y hb h1 h2 => fX3_mostFeared_7_ok hB hq1 hb h1 (fun r e => by have e2 := h2 _ e; subst e2; exact K0)) 5000 ((-1 : Int32), (0 : Int32), (0 : Int32)) H)
abbrev mX11_dreaded : ab_M := (yX11_dreaded, cX11_dreaded, 1, some .int, 0, 0)
def fX11_dreaded (I : ab_I) (P : ab_P) : Option Int32 :=
  (P 0 12).bind fun z1 =>
  (fX3_mostFeared z1 I).bind fun u2 =>
  some u2
set_option maxRecDepth 100000 in
theorem mX11_dreaded_ok {l : Launch} {G : ab_G} {S : ab_S} {I : ab_I} {J : ab_J} {P : ab_P} {Q : ab_Q} (hB : bz_B S P) {x : Int32} (H : fX11_dreaded I P = some x) (K0 : Q (some (.int x)) S I J P) : ab_Call l G mX11_dreaded 2 [.ref 0] S I J P Q := by
  unfold fX11_dreaded at H
  refine ab_enter rfl (Nat.le_of_ble_eq_true rfl) (ab_wk (ls' := [some (.ref 0)]) (ab_le_some (ab_le_nil)) ?_)
  refine ab_aload_n (z := 0) (by decide +kernel) rfl rfl ?_
  refine gX11_5 (ix := 53) (by decide +kernel) tw_413 (hB.1 0 _ rfl) (hB.2.1 5 (0, 5, 34) rfl) ?_
  refine ab_aload_n (z := 0) (by decide +kernel) rfl rfl ?_
  obtain ⟨z1, hz1, H⟩ := ab_bd_of H
  refine gX11_12 (ix := 89) (by decide +kernel) tw_420 (hB.1 0 _ rfl) hz1 ?_
  have sz1 := hB.2.2.1 _ hz1
  obtain ⟨u2, hu2, H⟩ := ab_bd_of H
  refine kvX3_mostFeared (D := 1) (ix := 285) (by decide +kernel) tw_933 (hB.1 34 _ rfl) (by decide) (Nat.le_of_ble_eq_true rfl) (mX3_mostFeared_ok hB sz1 hu2 ?_)
  change ab_WP l G mX11_dreaded 2 11 [some (.ref 0)] [.int u2] S I J P 0 0 Q
  obtain rfl := Option.some.inj H
  exact ab_iret (by decide +kernel) rfl (Nat.le_refl _) (Nat.le_refl _) K0
abbrev mX11_untouched : ab_M := (yX11_untouched, cX11_untouched, 3, some .int, 0, 0)
def fX11_untouched_38 (I : ab_I) (P : ab_P) (a1 : Int32) : Option Int32 :=
  some a1
set_option maxRecDepth 100000 in
theorem fX11_untouched_38_ok {l : Launch} {G : ab_G} {S : ab_S} {I : ab_I} {J : ab_J} {P : ab_P} {Q : ab_Q} {a1 : Int32} (hB : bz_B S P) {x : Int32} (H : fX11_untouched_38 I P a1 = some x) (K0 : Q (some (.int x)) S I J P) : ab_WP l G mX11_untouched 2 38 [some (.ref 0), some (.int a1), none] [] S I J P 0 0 Q := by
  unfold fX11_untouched_38 at H
  refine ab_iload_n (z := 1) (by decide +kernel) rfl rfl ?_
  obtain rfl := Option.some.inj H
  exact ab_iret (by decide +kernel) rfl (Nat.le_refl _) (Nat.le_refl _) K0
def fX11_untouched_32 (I : ab_I) (P : ab_P) (a1 : Int32) (a2 : Int32) : Option ((Int32 × Int32) ⊕ Int32) :=
  some (.inl (a1, (a2 + (1 : Int32))))
set_option maxRecDepth 100000 in
theorem fX11_untouched_32_ok {l : Launch} {G : ab_G} {S : ab_S} {I : ab_I} {J : ab_J} {P : ab_P} {Q : ab_Q} {a1 : Int32} {a2 : Int32} (hB : bz_B S P) {x : ((Int32 × Int32) ⊕ Int32)} (H : fX11_untouched_32 I P a1 a2 = some x) (K1 : ∀ s, x = (.inl s) → ab_WP l G mX11_untouched 2 4 [some (.ref 0), some (.int s.1), some (.int s.2)] [] S I J P 0 0 Q) (K0 : ∀ r, x = (.inr r) → Q (some (.int r)) S I J P) : ab_WP l G mX11_untouched 2 32 [some (.ref 0), some (.int a1), some (.int a2)] [] S I J P 0 0 Q := by
  unfold fX11_untouched_32 at H
  refine ab_iinc (i := 2) (z := 1) (v := (a2 + (1 : Int32))) (by decide +kernel) rfl rfl (by decide) rfl ?_
  refine ab_ls (ls' := [some (.ref 0), some (.int a1), some (.int (a2 + (1 : Int32)))]) rfl ?_
  refine ab_goto (off := -31) (tgt := 4) (by decide +kernel) rfl ?_
  exact ab_wk (ab_le_some (ab_le_some (ab_le_some (ab_le_nil)))) (K1 (a1, (a2 + (1 : Int32))) (Option.some.inj H).symm)
def fX11_untouched_4 (I : ab_I) (P : ab_P) (a1 : Int32) (a2 : Int32) : Option ((Int32 × Int32) ⊕ Int32) :=
  if (I 3 4) ≤ a2 then
    (fX11_untouched_38 I P a1).map .inr
  else
    (P 0 12).bind fun z2 =>
    (fX6_fears z2 a2 I).bind fun u3 =>
    if u3 = 0 then
      fX11_untouched_32 I P (a1 ||| ((1 : Int32) <<< (a2 &&& 31))) a2
    else
      fX11_untouched_32 I P a1 a2
set_option maxRecDepth 100000 in
theorem fX11_untouched_4_ok {l : Launch} {G : ab_G} {S : ab_S} {I : ab_I} {J : ab_J} {P : ab_P} {Q : ab_Q} {a1 : Int32} {a2 : Int32} (hB : bz_B S P) {x : ((Int32 × Int32) ⊕ Int32)} (H : fX11_untouched_4 I P a1 a2 = some x) (K1 : ∀ s, x = (.inl s) → ab_WP l G mX11_untouched 2 4 [some (.ref 0), some (.int s.1), some (.int s.2)] [] S I J P 0 0 Q) (K0 : ∀ r, x = (.inr r) → Q (some (.int r)) S I J P) : ab_WP l G mX11_untouched 2 4 [some (.ref 0), some (.int a1), some (.int a2)] [] S I J P 0 0 Q := by
  unfold fX11_untouched_4 at H
  refine ab_iload_n (z := 2) (by decide +kernel) rfl rfl ?_
  refine ab_aload_n (z := 0) (by decide +kernel) rfl rfl ?_
  refine gX11_1 (ix := 19) (by decide +kernel) tw_409 (hB.1 0 _ rfl) (hB.2.1 1 (0, 1, 3) rfl) ?_
  refine gX9_4 (ix := 126) (by decide +kernel) tw_88 (hB.1 3 _ rfl) ?_
  refine ab_icmp_ge (off := 26) (tgt := 38) (by decide +kernel) rfl (fun hc => ?_) (fun hc => ?_)
  · replace H := ab_ifp H hc
    obtain ⟨y1, Hy, hx⟩ := ab_mp_of H
    subst hx
    replace H := Hy
    exact ab_wk (ab_le_some (ab_le_some (ab_le_none (ab_le_nil)))) (fX11_untouched_38_ok hB H  (K0 _ rfl))
  · replace H := ab_ifn H hc
    refine ab_aload_n (z := 0) (by decide +kernel) rfl rfl ?_
    obtain ⟨z2, hz2, H⟩ := ab_bd_of H
    refine gX11_12 (ix := 89) (by decide +kernel) tw_420 (hB.1 0 _ rfl) hz2 ?_
    have sz2 := hB.2.2.1 _ hz2
    refine ab_iload_n (z := 2) (by decide +kernel) rfl rfl ?_
    obtain ⟨u3, hu3, H⟩ := ab_bd_of H
    refine kvX6_fears (D := 1) (ix := 142) (by decide +kernel) tw_640 sz2.1 (by decide) (Nat.le_of_ble_eq_true rfl) (mX6_fears_ok hB sz2 hu3 ?_)
    change ab_WP l G mX11_untouched 2 23 [some (.ref 0), some (.int a1), some (.int a2)] [.int u3] S I J P 0 0 Q
    refine ab_if_ne (off := 9) (tgt := 32) (by decide +kernel) rfl (fun hc => ?_) (fun hc => ?_)
    · replace H := ab_ifn H hc
      exact ab_wk (ab_le_some (ab_le_some (ab_le_some (ab_le_nil)))) (fX11_untouched_32_ok hB H K1 K0)
    · replace H := ab_ifp H hc
      refine ab_iload_n (z := 1) (by decide +kernel) rfl rfl ?_
      refine ab_iconst (z := 1) (v := (1 : Int32)) (by decide +kernel) (by decide) ?_
      refine ab_iload_n (z := 2) (by decide +kernel) rfl rfl ?_
      refine ab_ishl (by decide +kernel) ?_
      refine ab_ior (by decide +kernel) ?_
      refine ab_istore_n (z := 1) (by decide +kernel) rfl (by decide) rfl ?_
      refine ab_ls (ls' := [some (.ref 0), some (.int (a1 ||| ((1 : Int32) <<< (a2 &&& 31)))), some (.int a2)]) rfl ?_
      exact ab_wk (ab_le_some (ab_le_some (ab_le_some (ab_le_nil)))) (fX11_untouched_32_ok hB H K1 K0)
def fX11_untouched (I : ab_I) (P : ab_P) : Option Int32 :=
  ab_it (fun s => fX11_untouched_4 I P s.1 s.2) 5000 ((0 : Int32), (0 : Int32))
set_option maxRecDepth 100000 in
theorem mX11_untouched_ok {l : Launch} {G : ab_G} {S : ab_S} {I : ab_I} {J : ab_J} {P : ab_P} {Q : ab_Q} (hB : bz_B S P) {x : Int32} (H : fX11_untouched I P = some x) (K0 : Q (some (.int x)) S I J P) : ab_Call l G mX11_untouched 2 [.ref 0] S I J P Q := by
  unfold fX11_untouched at H
  refine ab_enter rfl (Nat.le_of_ble_eq_true rfl) (ab_wk (ls' := [some (.ref 0), none, none]) (ab_le_some (ab_le_non0 (ab_le_non0 ab_le_nil))) ?_)
  refine ab_iconst (z := 0) (v := (0 : Int32)) (by decide +kernel) (by decide) ?_
  refine ab_istore_n (z := 1) (by decide +kernel) rfl (by decide) rfl ?_
  refine ab_ls (ls' := [some (.ref 0), some (.int (0 : Int32)), none]) rfl ?_
  refine ab_iconst (z := 0) (v := (0 : Int32)) (by decide +kernel) (by decide) ?_
  refine ab_istore_n (z := 2) (by decide +kernel) rfl (by decide) rfl ?_
  refine ab_ls (ls' := [some (.ref 0), some (.int (0 : Int32)), some (.int (0 : Int32))]) rfl ?_
  exact ab_wk (ab_le_some (ab_le_some (ab_le_some (ab_le_nil)))) (ab_iter (body := (fun s => fX11_untouched_4 I P s.1 s.2)) (W := fun s => ab_WP l G mX11_untouched 2 4 [some (.ref 0), some (.int s.1), some (.int s.2)] [] S I J P 0 0 Q) (fun s y hb h1 h2 => fX11_untouched_4_ok hB hb h1 (fun r e => by have e2 := h2 _ e; subst e2; exact K0)) 5000 ((0 : Int32), (0 : Int32)) H)
abbrev mX11_richest : ab_M := (yX11_richest, cX11_richest, 3, some .int, 0, 0)
def fX11_richest_49 (I : ab_I) (P : ab_P) (a1 : Int32) : Option Int32 :=
  some a1
set_option maxRecDepth 100000 in
theorem fX11_richest_49_ok {l : Launch} {G : ab_G} {S : ab_S} {I : ab_I} {J : ab_J} {P : ab_P} {Q : ab_Q} {a1 : Int32} (hB : bz_B S P) {x : Int32} (H : fX11_richest_49 I P a1 = some x) (K0 : Q (some (.int x)) S I J P) : ab_WP l G mX11_richest 0 49 [some (.ref 0), some (.int a1), none] [] S I J P 0 0 Q := by
  unfold fX11_richest_49 at H
  refine ab_iload_n (z := 1) (by decide +kernel) rfl rfl ?_
  obtain rfl := Option.some.inj H
  exact ab_iret (by decide +kernel) rfl (Nat.le_refl _) (Nat.le_refl _) K0
def fX11_richest_43 (I : ab_I) (P : ab_P) (a1 : Int32) (a2 : Int32) : Option ((Int32 × Int32) ⊕ Int32) :=
  some (.inl (a1, (a2 + (1 : Int32))))
set_option maxRecDepth 100000 in
theorem fX11_richest_43_ok {l : Launch} {G : ab_G} {S : ab_S} {I : ab_I} {J : ab_J} {P : ab_P} {Q : ab_Q} {a1 : Int32} {a2 : Int32} (hB : bz_B S P) {x : ((Int32 × Int32) ⊕ Int32)} (H : fX11_richest_43 I P a1 a2 = some x) (K1 : ∀ s, x = (.inl s) → ab_WP l G mX11_richest 0 4 [some (.ref 0), some (.int s.1), some (.int s.2)] [] S I J P 0 0 Q) (K0 : ∀ r, x = (.inr r) → Q (some (.int r)) S I J P) : ab_WP l G mX11_richest 0 43 [some (.ref 0), some (.int a1), some (.int a2)] [] S I J P 0 0 Q := by
  unfold fX11_richest_43 at H
  refine ab_iinc (i := 2) (z := 1) (v := (a2 + (1 : Int32))) (by decide +kernel) rfl rfl (by decide) rfl ?_
  refine ab_ls (ls' := [some (.ref 0), some (.int a1), some (.int (a2 + (1 : Int32)))]) rfl ?_
  refine ab_goto (off := -42) (tgt := 4) (by decide +kernel) rfl ?_
  exact ab_wk (ab_le_some (ab_le_some (ab_le_some (ab_le_nil)))) (K1 (a1, (a2 + (1 : Int32))) (Option.some.inj H).symm)
def fX11_richest_41 (I : ab_I) (P : ab_P) (a2 : Int32) : Option ((Int32 × Int32) ⊕ Int32) :=
  fX11_richest_43 I P a2 a2
set_option maxRecDepth 100000 in
theorem fX11_richest_41_ok {l : Launch} {G : ab_G} {S : ab_S} {I : ab_I} {J : ab_J} {P : ab_P} {Q : ab_Q} {a2 : Int32} (hB : bz_B S P) {x : ((Int32 × Int32) ⊕ Int32)} (H : fX11_richest_41 I P a2 = some x) (K1 : ∀ s, x = (.inl s) → ab_WP l G mX11_richest 0 4 [some (.ref 0), some (.int s.1), some (.int s.2)] [] S I J P 0 0 Q) (K0 : ∀ r, x = (.inr r) → Q (some (.int r)) S I J P) : ab_WP l G mX11_richest 0 41 [some (.ref 0), none, some (.int a2)] [] S I J P 0 0 Q := by
  unfold fX11_richest_41 at H
  refine ab_iload_n (z := 2) (by decide +kernel) rfl rfl ?_
  refine ab_istore_n (z := 1) (by decide +kernel) rfl (by decide) rfl ?_
  refine ab_ls (ls' := [some (.ref 0), some (.int a2), some (.int a2)]) rfl ?_
  exact ab_wk (ab_le_some (ab_le_some (ab_le_some (ab_le_nil)))) (fX11_richest_43_ok hB H K1 K0)
def fX11_richest_4 (I : ab_I) (P : ab_P) (a1 : Int32) (a2 : Int32) : Option ((Int32 × Int32) ⊕ Int32) :=
  if (I 3 4) ≤ a2 then
    (fX11_richest_49 I P a1).map .inr
  else
    if a1 = (-1 : Int32) then
      fX11_richest_41 I P a2
    else
      (P 0 12).bind fun z2 =>
      ab_gd (ab_ix a2 6 = true) (
        (P 0 12).bind fun z3 =>
        ab_gd (ab_ix a1 6 = true) (
          if (I (z2 + 1) a2.toNatClampNeg) ≤ (I (z3 + 1) a1.toNatClampNeg) then
            fX11_richest_43 I P a1 a2
          else
            fX11_richest_41 I P a2
        )
      )
set_option maxRecDepth 100000 in
theorem fX11_richest_4_ok {l : Launch} {G : ab_G} {S : ab_S} {I : ab_I} {J : ab_J} {P : ab_P} {Q : ab_Q} {a1 : Int32} {a2 : Int32} (hB : bz_B S P) {x : ((Int32 × Int32) ⊕ Int32)} (H : fX11_richest_4 I P a1 a2 = some x) (K1 : ∀ s, x = (.inl s) → ab_WP l G mX11_richest 0 4 [some (.ref 0), some (.int s.1), some (.int s.2)] [] S I J P 0 0 Q) (K0 : ∀ r, x = (.inr r) → Q (some (.int r)) S I J P) : ab_WP l G mX11_richest 0 4 [some (.ref 0), some (.int a1), some (.int a2)] [] S I J P 0 0 Q := by
  unfold fX11_richest_4 at H
  refine ab_iload_n (z := 2) (by decide +kernel) rfl rfl ?_
  refine ab_aload_n (z := 0) (by decide +kernel) rfl rfl ?_
  refine gX11_1 (ix := 19) (by decide +kernel) tw_409 (hB.1 0 _ rfl) (hB.2.1 1 (0, 1, 3) rfl) ?_
  refine gX9_4 (ix := 126) (by decide +kernel) tw_88 (hB.1 3 _ rfl) ?_
  refine ab_icmp_ge (off := 37) (tgt := 49) (by decide +kernel) rfl (fun hc => ?_) (fun hc => ?_)
  · replace H := ab_ifp H hc
    obtain ⟨y1, Hy, hx⟩ := ab_mp_of H
    subst hx
    replace H := Hy
    exact ab_wk (ab_le_some (ab_le_some (ab_le_none (ab_le_nil)))) (fX11_richest_49_ok hB H  (K0 _ rfl))
  · replace H := ab_ifn H hc
    refine ab_iload_n (z := 1) (by decide +kernel) rfl rfl ?_
    refine ab_iconst (z := -1) (v := (-1 : Int32)) (by decide +kernel) (by decide) ?_
    refine ab_icmp_eq (off := 24) (tgt := 41) (by decide +kernel) rfl (fun hc => ?_) (fun hc => ?_)
    · replace H := ab_ifp H hc
      exact ab_wk (ab_le_some (ab_le_none (ab_le_some (ab_le_nil)))) (fX11_richest_41_ok hB H K1 K0)
    · replace H := ab_ifn H hc
      refine ab_aload_n (z := 0) (by decide +kernel) rfl rfl ?_
      obtain ⟨z2, hz2, H⟩ := ab_bd_of H
      refine gX11_12 (ix := 89) (by decide +kernel) tw_420 (hB.1 0 _ rfl) hz2 ?_
      have sz2 := hB.2.2.1 _ hz2
      refine gX6_0 (ix := 133) (by decide +kernel) tw_237 sz2.1 sz2.2.2.2.2.1 ?_
      refine ab_iload_n (z := 2) (by decide +kernel) rfl rfl ?_
      obtain ⟨hg, H⟩ := ab_gd_of H
      refine ab_iald (ln := 6) (by decide +kernel) sz2.2.1 (ab_ix_in hg) ?_
      refine ab_aload_n (z := 0) (by decide +kernel) rfl rfl ?_
      obtain ⟨z3, hz3, H⟩ := ab_bd_of H
      refine gX11_12 (ix := 89) (by decide +kernel) tw_420 (hB.1 0 _ rfl) hz3 ?_
      have sz3 := hB.2.2.1 _ hz3
      refine gX6_0 (ix := 133) (by decide +kernel) tw_237 sz3.1 sz3.2.2.2.2.1 ?_
      refine ab_iload_n (z := 1) (by decide +kernel) rfl rfl ?_
      obtain ⟨hg, H⟩ := ab_gd_of H
      refine ab_iald (ln := 6) (by decide +kernel) sz3.2.1 (ab_ix_in hg) ?_
      refine ab_icmp_le (off := 5) (tgt := 43) (by decide +kernel) rfl (fun hc => ?_) (fun hc => ?_)
      · replace H := ab_ifp H hc
        exact ab_wk (ab_le_some (ab_le_some (ab_le_some (ab_le_nil)))) (fX11_richest_43_ok hB H K1 K0)
      · replace H := ab_ifn H hc
        exact ab_wk (ab_le_some (ab_le_none (ab_le_some (ab_le_nil)))) (fX11_richest_41_ok hB H K1 K0)
def fX11_richest (I : ab_I) (P : ab_P) : Option Int32 :=
  ab_it (fun s => fX11_richest_4 I P s.1 s.2) 5000 ((-1 : Int32), (0 : Int32))
set_option maxRecDepth 100000 in
theorem mX11_richest_ok {l : Launch} {G : ab_G} {S : ab_S} {I : ab_I} {J : ab_J} {P : ab_P} {Q : ab_Q} (hB : bz_B S P) {x : Int32} (H : fX11_richest I P = some x) (K0 : Q (some (.int x)) S I J P) : ab_Call l G mX11_richest 0 [.ref 0] S I J P Q := by
  unfold fX11_richest at H
  refine ab_enter rfl (Nat.le_of_ble_eq_true rfl) (ab_wk (ls' := [some (.ref 0), none, none]) (ab_le_some (ab_le_non0 (ab_le_non0 ab_le_nil))) ?_)
  refine ab_iconst (z := -1) (v := (-1 : Int32)) (by decide +kernel) (by decide) ?_
  refine ab_istore_n (z := 1) (by decide +kernel) rfl (by decide) rfl ?_
  refine ab_ls (ls' := [some (.ref 0), some (.int (-1 : Int32)), none]) rfl ?_
  refine ab_iconst (z := 0) (v := (0 : Int32)) (by decide +kernel) (by decide) ?_
  refine ab_istore_n (z := 2) (by decide +kernel) rfl (by decide) rfl ?_
  refine ab_ls (ls' := [some (.ref 0), some (.int (-1 : Int32)), some (.int (0 : Int32))]) rfl ?_
  exact ab_wk (ab_le_some (ab_le_some (ab_le_some (ab_le_nil)))) (ab_iter (body := (fun s => fX11_richest_4 I P s.1 s.2)) (W := fun s => ab_WP l G mX11_richest 0 4 [some (.ref 0), some (.int s.1), some (.int s.2)] [] S I J P 0 0 Q) (fun s y hb h1 h2 => fX11_richest_4_ok hB hb h1 (fun r e => by have e2 := h2 _ e; subst e2; exact K0)) 5000 ((-1 : Int32), (0 : Int32)) H)
abbrev mX1_ringsMost : ab_M := (yX1_ringsMost, cX1_ringsMost, 6, some .int, 0, 0)
theorem kvX1_ringsMost {l : Launch} {G : ab_G} {M : ab_M} {d pc : Nat} {ls : List (Option Value)} {st : List Value} {S : ab_S} {I : ab_I} {J : ab_J} {P : ab_P} {Q : ab_Q} {v0 : Value} {ix D r ln : Nat} (hd : decode M.2.1 pc = .ok (.invokevirtual ix, 3)) (h1 : Cond.methodLink M.1.cls ix mX1_ringsMost.1 ∈ ab_good) (hs : S[r]? = some (6, ln)) (hdg : D + 1 ≤ d) (hsum : (st.map fun v => v.category).sum ≤ 8) (kk : ab_Call l G mX1_ringsMost D (.ref r :: [v0]) S I J P (fun v S' I' J' P' => ab_WP l G M d (pc + 3) ls (ab_psh v st) S' I' J' P' 0 0 Q)) : ab_WP l G M d pc ls (v0 :: .ref r :: st) S I J P 0 0 Q := bz_kv (g := mX1_ringsMost) (as := [v0]) (cc := 1) rfl hd h1 tw_951 tw_952 tw_8 tw_953 ⟨by decide +kernel, by decide +kernel, (by decide +kernel : (parseMethodDescriptor mX1_ringsMost.1.desc).map (fun d => d.parameters.length) = some 1)⟩ (by decide) rfl rfl rfl hdg hsum hs kk
def fX1_ringsMost_58 (q1 : Nat) (a2 : Int32) (I : ab_I) : Option (Int32 × ab_I) :=
  some (a2, I)
set_option maxRecDepth 100000 in
theorem fX1_ringsMost_58_ok {l : Launch} {G : ab_G} {S : ab_S} {I : ab_I} {J : ab_J} {P : ab_P} {Q : ab_Q} {q1 : Nat} {a2 : Int32} (hB : bz_B S P) (hq1 : bz_st S P q1) {x : Int32 × ab_I} (H : fX1_ringsMost_58 q1 a2 I = some x) (K0 : Q (some (.int x.1)) S x.2 J P) : ab_WP l G mX1_ringsMost 6 58 [some (.ref 25), some (.ref q1), some (.int a2), none, none, none] [] S I J P 0 0 Q := by
  unfold fX1_ringsMost_58 at H
  refine ab_iload_n (z := 2) (by decide +kernel) rfl rfl ?_
  obtain rfl := Option.some.inj H
  exact ab_iret (by decide +kernel) rfl (Nat.le_refl _) (Nat.le_refl _) K0
def fX1_ringsMost_52 (q1 : Nat) (a2 : Int32) (a3 : Int32) (a4 : Int32) (I : ab_I) : Option ((Int32 × Int32 × Int32 × ab_I) ⊕ (Int32 × ab_I)) :=
  some (.inl (a2, a3, (a4 + (1 : Int32)), I))
set_option maxRecDepth 100000 in
theorem fX1_ringsMost_52_ok {l : Launch} {G : ab_G} {S : ab_S} {I : ab_I} {J : ab_J} {P : ab_P} {Q : ab_Q} {q1 : Nat} {a2 : Int32} {a3 : Int32} {a4 : Int32} (hB : bz_B S P) (hq1 : bz_st S P q1) {x : ((Int32 × Int32 × Int32 × ab_I) ⊕ (Int32 × ab_I))} (H : fX1_ringsMost_52 q1 a2 a3 a4 I = some x) (K1 : ∀ s, x = (.inl s) → ab_WP l G mX1_ringsMost 6 14 [some (.ref 25), some (.ref q1), some (.int s.1), some (.int s.2.1), some (.int s.2.2.1), none] [] S s.2.2.2 J P 0 0 Q) (K0 : ∀ r, x = (.inr r) → Q (some (.int r.1)) S r.2 J P) : ab_WP l G mX1_ringsMost 6 52 [some (.ref 25), some (.ref q1), some (.int a2), some (.int a3), some (.int a4), none] [] S I J P 0 0 Q := by
  unfold fX1_ringsMost_52 at H
  refine ab_iinc (i := 4) (z := 1) (v := (a4 + (1 : Int32))) (by decide +kernel) rfl rfl (by decide) rfl ?_
  refine ab_ls (ls' := [some (.ref 25), some (.ref q1), some (.int a2), some (.int a3), some (.int (a4 + (1 : Int32))), none]) rfl ?_
  refine ab_goto (off := -41) (tgt := 14) (by decide +kernel) rfl ?_
  exact ab_wk (ab_le_some (ab_le_some (ab_le_some (ab_le_some (ab_le_some (ab_le_none (ab_le_nil))))))) (K1 (a2, a3, (a4 + (1 : Int32)), I) (Option.some.inj H).symm)
def fX1_ringsMost_14 (q1 : Nat) (a2 : Int32) (a3 : Int32) (a4 : Int32) (I : ab_I) : Option ((Int32 × Int32 × Int32 × ab_I) ⊕ (Int32 × ab_I)) :=
  if (I 3 4) ≤ a4 then
    (fX1_ringsMost_58 q1 a2 I).map .inr
  else
    (fX5_rungBy a4 I).bind fun u3 =>
    (fJ6_bitCount_0f7a4 u3).bind fun u4 =>
    if u4 ≤ a3 then
      fX1_ringsMost_52 q1 a2 a3 a4 I
    else
      fX1_ringsMost_52 q1 a4 u4 a4 I
set_option maxRecDepth 100000 in
theorem fX1_ringsMost_14_ok {l : Launch} {G : ab_G} {S : ab_S} {I : ab_I} {J : ab_J} {P : ab_P} {Q : ab_Q} {q1 : Nat} {a2 : Int32} {a3 : Int32} {a4 : Int32} (hB : bz_B S P) (hq1 : bz_st S P q1) {x : ((Int32 × Int32 × Int32 × ab_I) ⊕ (Int32 × ab_I))} (H : fX1_ringsMost_14 q1 a2 a3 a4 I = some x) (K1 : ∀ s, x = (.inl s) → ab_WP l G mX1_ringsMost 6 14 [some (.ref 25), some (.ref q1), some (.int s.1), some (.int s.2.1), some (.int s.2.2.1), none] [] S s.2.2.2 J P 0 0 Q) (K0 : ∀ r, x = (.inr r) → Q (some (.int r.1)) S r.2 J P) : ab_WP l G mX1_ringsMost 6 14 [some (.ref 25), some (.ref q1), some (.int a2), some (.int a3), some (.int a4), none] [] S I J P 0 0 Q := by
  unfold fX1_ringsMost_14 at H
  refine ab_iload (i := 4) (by decide +kernel) rfl ?_
  refine ab_aload_n (z := 0) (by decide +kernel) rfl rfl ?_
  refine gX1_0 (ix := 31) (by decide +kernel) tw_281 (hB.1 25 _ rfl) (hB.2.1 32 (25, 0, 3) rfl) ?_
  refine gX9_4 (ix := 61) (by decide +kernel) tw_89 (hB.1 3 _ rfl) ?_
  refine ab_icmp_ge (off := 35) (tgt := 58) (by decide +kernel) rfl (fun hc => ?_) (fun hc => ?_)
  · replace H := ab_ifp H hc
    obtain ⟨y2, Hy, hx⟩ := ab_mp_of H
    subst hx
    replace H := Hy
    exact ab_wk (ab_le_some (ab_le_some (ab_le_some (ab_le_none (ab_le_none (ab_le_none (ab_le_nil))))))) (fX1_ringsMost_58_ok hB hq1 H  (K0 _ rfl))
  · replace H := ab_ifn H hc
    refine ab_aload_n (z := 0) (by decide +kernel) rfl rfl ?_
    refine gX1_1 (ix := 35) (by decide +kernel) tw_282 (hB.1 25 _ rfl) (hB.2.1 33 (25, 1, 23) rfl) ?_
    refine ab_iload (i := 4) (by decide +kernel) rfl ?_
    obtain ⟨u3, hu3, H⟩ := ab_bd_of H
    refine kvX5_rungBy (D := 0) (ix := 57) (by decide +kernel) tw_693 (hB.1 23 _ rfl) (by decide) (Nat.le_of_ble_eq_true rfl) (mX5_rungBy_ok hB hu3 ?_)
    change ab_WP l G mX1_ringsMost 6 35 [some (.ref 25), some (.ref q1), some (.int a2), some (.int a3), some (.int a4), none] [.int u3] S I J P 0 0 Q
    obtain ⟨u4, hu4, H⟩ := ab_bd_of H
    refine ksJ6_bitCount_0f7a4 (D := 0) (ix := 66) (by decide +kernel) tw_843 (by decide) (Nat.le_of_ble_eq_true rfl) (mJ6_bitCount_0f7a4_ok hB hu4 ?_)
    change ab_WP l G mX1_ringsMost 6 38 [some (.ref 25), some (.ref q1), some (.int a2), some (.int a3), some (.int a4), none] [.int u4] S I J P 0 0 Q
    refine ab_istore (i := 5) (by decide +kernel) (by decide) rfl ?_
    refine ab_ls (ls' := [some (.ref 25), some (.ref q1), some (.int a2), some (.int a3), some (.int a4), some (.int u4)]) rfl ?_
    refine ab_iload (i := 5) (by decide +kernel) rfl ?_
    refine ab_iload_n (z := 3) (by decide +kernel) rfl rfl ?_
    refine ab_icmp_le (off := 9) (tgt := 52) (by decide +kernel) rfl (fun hc => ?_) (fun hc => ?_)
    · replace H := ab_ifp H hc
      exact ab_wk (ab_le_some (ab_le_some (ab_le_some (ab_le_some (ab_le_some (ab_le_none (ab_le_nil))))))) (fX1_ringsMost_52_ok hB hq1 H K1 K0)
    · replace H := ab_ifn H hc
      refine ab_iload (i := 4) (by decide +kernel) rfl ?_
      refine ab_istore_n (z := 2) (by decide +kernel) rfl (by decide) rfl ?_
      refine ab_ls (ls' := [some (.ref 25), some (.ref q1), some (.int a4), some (.int a3), some (.int a4), some (.int u4)]) rfl ?_
      refine ab_iload (i := 5) (by decide +kernel) rfl ?_
      refine ab_istore_n (z := 3) (by decide +kernel) rfl (by decide) rfl ?_
      refine ab_ls (ls' := [some (.ref 25), some (.ref q1), some (.int a4), some (.int u4), some (.int a4), some (.int u4)]) rfl ?_
      exact ab_wk (ab_le_some (ab_le_some (ab_le_some (ab_le_some (ab_le_some (ab_le_none (ab_le_nil))))))) (fX1_ringsMost_52_ok hB hq1 H K1 K0)
def fX1_ringsMost (q1 : Nat) (I : ab_I) : Option (Int32 × ab_I) :=
  (fX1_passWithout q1 (0 : Int32) I).bind fun u1 =>
  ab_it (fun s => fX1_ringsMost_14 q1 s.1 s.2.1 s.2.2.1 s.2.2.2) 5000 ((-1 : Int32), (0 : Int32), (0 : Int32), u1.2)
set_option maxRecDepth 100000 in
theorem mX1_ringsMost_ok {l : Launch} {G : ab_G} {S : ab_S} {I : ab_I} {J : ab_J} {P : ab_P} {Q : ab_Q} {q1 : Nat} (hB : bz_B S P) (hq1 : bz_st S P q1) {x : Int32 × ab_I} (H : fX1_ringsMost q1 I = some x) (K0 : Q (some (.int x.1)) S x.2 J P) : ab_Call l G mX1_ringsMost 6 [.ref 25, .ref q1] S I J P Q := by
  unfold fX1_ringsMost at H
  refine ab_enter rfl (Nat.le_of_ble_eq_true rfl) (ab_wk (ls' := [some (.ref 25), some (.ref q1), none, none, none, none]) (ab_le_some (ab_le_some (ab_le_non0 (ab_le_non0 (ab_le_non0 (ab_le_non0 ab_le_nil)))))) ?_)
  refine ab_aload_n (z := 0) (by decide +kernel) rfl rfl ?_
  refine ab_aload_n (z := 1) (by decide +kernel) rfl rfl ?_
  refine ab_iconst (z := 0) (v := (0 : Int32)) (by decide +kernel) (by decide) ?_
  obtain ⟨u1, hu1, H⟩ := ab_bd_of H
  refine kvX1_passWithout (D := 5) (ix := 53) (by decide +kernel) tw_649 (hB.1 25 _ rfl) (by decide) (Nat.le_of_ble_eq_true rfl) (mX1_passWithout_ok hB hq1 hu1 ?_)
  change ab_WP l G mX1_ringsMost 6 6 [some (.ref 25), some (.ref q1), none, none, none, none] [.int u1.1] S u1.2 J P 0 0 Q
  refine ab_pop (by decide +kernel) rfl ?_
  refine ab_iconst (z := -1) (v := (-1 : Int32)) (by decide +kernel) (by decide) ?_
  refine ab_istore_n (z := 2) (by decide +kernel) rfl (by decide) rfl ?_
  refine ab_ls (ls' := [some (.ref 25), some (.ref q1), some (.int (-1 : Int32)), none, none, none]) rfl ?_
  refine ab_iconst (z := 0) (v := (0 : Int32)) (by decide +kernel) (by decide) ?_
  refine ab_istore_n (z := 3) (by decide +kernel) rfl (by decide) rfl ?_
  refine ab_ls (ls' := [some (.ref 25), some (.ref q1), some (.int (-1 : Int32)), some (.int (0 : Int32)), none, none]) rfl ?_
  refine ab_iconst (z := 0) (v := (0 : Int32)) (by decide +kernel) (by decide) ?_
  refine ab_istore (i := 4) (by decide +kernel) (by decide) rfl ?_
  refine ab_ls (ls' := [some (.ref 25), some (.ref q1), some (.int (-1 : Int32)), some (.int (0 : Int32)), some (.int (0 : Int32)), none]) rfl ?_
  exact ab_wk (ab_le_some (ab_le_some (ab_le_some (ab_le_some (ab_le_some (ab_le_none (ab_le_nil))))))) (ab_iter (body := (fun s => fX1_ringsMost_14 q1 s.1 s.2.1 s.2.2.1 s.2.2.2)) (W := fun s => ab_WP l G mX1_ringsMost 6 14 [some (.ref 25), some (.ref q1), some (.int s.1), some (.int s.2.1), some (.int s.2.2.1), none] [] S s.2.2.2 J P 0 0 Q) (fun s y hb h1 h2 => fX1_ringsMost_14_ok hB hq1 hb h1 (fun r e => by have e2 := h2 _ e; subst e2; exact K0)) 5000 ((-1 : Int32), (0 : Int32), (0 : Int32), u1.2) H)
abbrev mX11_busiest : ab_M := (yX11_busiest, cX11_busiest, 1, some .int, 0, 0)
def fX11_busiest (I : ab_I) (P : ab_P) : Option (Int32 × ab_I) :=
  (P 0 12).bind fun z1 =>
  (fX1_ringsMost z1 I).bind fun u2 =>
  some (u2.1, u2.2)
set_option maxRecDepth 100000 in
theorem mX11_busiest_ok {l : Launch} {G : ab_G} {S : ab_S} {I : ab_I} {J : ab_J} {P : ab_P} {Q : ab_Q} (hB : bz_B S P) {x : Int32 × ab_I} (H : fX11_busiest I P = some x) (K0 : Q (some (.int x.1)) S x.2 J P) : ab_Call l G mX11_busiest 7 [.ref 0] S I J P Q := by
  unfold fX11_busiest at H
  refine ab_enter rfl (Nat.le_of_ble_eq_true rfl) (ab_wk (ls' := [some (.ref 0)]) (ab_le_some (ab_le_nil)) ?_)
  refine ab_aload_n (z := 0) (by decide +kernel) rfl rfl ?_
  refine gX11_4 (ix := 46) (by decide +kernel) tw_412 (hB.1 0 _ rfl) (hB.2.1 4 (0, 4, 25) rfl) ?_
  refine ab_aload_n (z := 0) (by decide +kernel) rfl rfl ?_
  obtain ⟨z1, hz1, H⟩ := ab_bd_of H
  refine gX11_12 (ix := 89) (by decide +kernel) tw_420 (hB.1 0 _ rfl) hz1 ?_
  have sz1 := hB.2.2.1 _ hz1
  obtain ⟨u2, hu2, H⟩ := ab_bd_of H
  refine kvX1_ringsMost (D := 6) (ix := 288) (by decide +kernel) tw_950 (hB.1 25 _ rfl) (by decide) (Nat.le_of_ble_eq_true rfl) (mX1_ringsMost_ok hB sz1 hu2 ?_)
  change ab_WP l G mX11_busiest 7 11 [some (.ref 0)] [.int u2.1] S u2.2 J P 0 0 Q
  obtain rfl := Option.some.inj H
  exact ab_iret (by decide +kernel) rfl (Nat.le_refl _) (Nat.le_refl _) K0
abbrev mX1_rungIfAllLose : ab_M := (yX1_rungIfAllLose, cX1_rungIfAllLose, 4, some .int, 0, 0)
theorem kvX1_rungIfAllLose {l : Launch} {G : ab_G} {M : ab_M} {d pc : Nat} {ls : List (Option Value)} {st : List Value} {S : ab_S} {I : ab_I} {J : ab_J} {P : ab_P} {Q : ab_Q} {v0 v1 : Value} {ix D r ln : Nat} (hd : decode M.2.1 pc = .ok (.invokevirtual ix, 3)) (h1 : Cond.methodLink M.1.cls ix mX1_rungIfAllLose.1 ∈ ab_good) (hs : S[r]? = some (6, ln)) (hdg : D + 1 ≤ d) (hsum : (st.map fun v => v.category).sum ≤ 8) (kk : ab_Call l G mX1_rungIfAllLose D (.ref r :: [v0, v1]) S I J P (fun v S' I' J' P' => ab_WP l G M d (pc + 3) ls (ab_psh v st) S' I' J' P' 0 0 Q)) : ab_WP l G M d pc ls (v1 :: v0 :: .ref r :: st) S I J P 0 0 Q := bz_kv (g := mX1_rungIfAllLose) (as := [v0, v1]) (cc := 1) rfl hd h1 tw_959 tw_960 tw_8 tw_961 ⟨by decide +kernel, by decide +kernel, (by decide +kernel : (parseMethodDescriptor mX1_rungIfAllLose.1.desc).map (fun d => d.parameters.length) = some 2)⟩ (by decide) rfl rfl rfl hdg hsum hs kk
def fX1_rungIfAllLose_44 (q1 : Nat) (a2 : Int32) (I : ab_I) : Option (Int32 × ab_I) :=
  (fX5_passDay 26 (0 : Int32) I).bind fun u3 =>
  (fX5_rungBy (-1 : Int32) u3.2).bind fun u4 =>
  (fJ6_bitCount_0f7a4 u4).bind fun u5 =>
  some (((u3.2 3 5) - u5), u3.2)
set_option maxRecDepth 100000 in
theorem fX1_rungIfAllLose_44_ok {l : Launch} {G : ab_G} {S : ab_S} {I : ab_I} {J : ab_J} {P : ab_P} {Q : ab_Q} {q1 : Nat} {a2 : Int32} (hB : bz_B S P) (hq1 : bz_st S P q1) {x : Int32 × ab_I} (H : fX1_rungIfAllLose_44 q1 a2 I = some x) (K0 : Q (some (.int x.1)) S x.2 J P) : ab_WP l G mX1_rungIfAllLose 5 44 [some (.ref 25), some (.ref q1), some (.int a2), none] [] S I J P 0 0 Q := by
  unfold fX1_rungIfAllLose_44 at H
  refine ab_aload_n (z := 0) (by decide +kernel) rfl rfl ?_
  refine gX1_1 (ix := 35) (by decide +kernel) tw_282 (hB.1 25 _ rfl) (hB.2.1 33 (25, 1, 23) rfl) ?_
  refine ab_aload_n (z := 0) (by decide +kernel) rfl rfl ?_
  refine gX1_2 (ix := 12) (by decide +kernel) tw_283 (hB.1 25 _ rfl) (hB.2.1 34 (25, 2, 26) rfl) ?_
  refine ab_iconst (z := 0) (v := (0 : Int32)) (by decide +kernel) (by decide) ?_
  obtain ⟨u3, hu3, H⟩ := ab_bd_of H
  refine kvX5_passDay (D := 4) (ix := 43) (by decide +kernel) tw_658 (hB.1 23 _ rfl) (by decide) (Nat.le_of_ble_eq_true rfl) (mX5_passDay_ok hB (bz_st_26 hB) hu3 ?_)
  change ab_WP l G mX1_rungIfAllLose 5 56 [some (.ref 25), some (.ref q1), some (.int a2), none] [.int u3.1] S u3.2 J P 0 0 Q
  refine ab_pop (by decide +kernel) rfl ?_
  refine ab_aload_n (z := 0) (by decide +kernel) rfl rfl ?_
  refine gX1_0 (ix := 31) (by decide +kernel) tw_281 (hB.1 25 _ rfl) (hB.2.1 32 (25, 0, 3) rfl) ?_
  refine gX9_5 (ix := 71) (by decide +kernel) tw_96 (hB.1 3 _ rfl) ?_
  refine ab_aload_n (z := 0) (by decide +kernel) rfl rfl ?_
  refine gX1_1 (ix := 35) (by decide +kernel) tw_282 (hB.1 25 _ rfl) (hB.2.1 33 (25, 1, 23) rfl) ?_
  refine ab_iconst (z := -1) (v := (-1 : Int32)) (by decide +kernel) (by decide) ?_
  obtain ⟨u4, hu4, H⟩ := ab_bd_of H
  refine kvX5_rungBy (D := 0) (ix := 57) (by decide +kernel) tw_693 (hB.1 23 _ rfl) (by decide) (Nat.le_of_ble_eq_true rfl) (mX5_rungBy_ok hB hu4 ?_)
  change ab_WP l G mX1_rungIfAllLose 5 72 [some (.ref 25), some (.ref q1), some (.int a2), none] [.int u4, .int (u3.2 3 5)] S u3.2 J P 0 0 Q
  obtain ⟨u5, hu5, H⟩ := ab_bd_of H
  refine ksJ6_bitCount_0f7a4 (D := 0) (ix := 66) (by decide +kernel) tw_843 (by decide) (Nat.le_of_ble_eq_true rfl) (mJ6_bitCount_0f7a4_ok hB hu5 ?_)
  change ab_WP l G mX1_rungIfAllLose 5 75 [some (.ref 25), some (.ref q1), some (.int a2), none] [.int u5, .int (u3.2 3 5)] S u3.2 J P 0 0 Q
  refine ab_isub (by decide +kernel) ?_
  obtain rfl := Option.some.inj H
  exact ab_iret (by decide +kernel) rfl (Nat.le_refl _) (Nat.le_refl _) K0
def fX1_rungIfAllLose_38 (q1 : Nat) (a2 : Int32) (a3 : Int32) (I : ab_I) : Option ((Int32 × ab_I) ⊕ (Int32 × ab_I)) :=
  some (.inl ((a3 + (1 : Int32)), I))
set_option maxRecDepth 100000 in
theorem fX1_rungIfAllLose_38_ok {l : Launch} {G : ab_G} {S : ab_S} {I : ab_I} {J : ab_J} {P : ab_P} {Q : ab_Q} {q1 : Nat} {a2 : Int32} {a3 : Int32} (hB : bz_B S P) (hq1 : bz_st S P q1) {x : ((Int32 × ab_I) ⊕ (Int32 × ab_I))} (H : fX1_rungIfAllLose_38 q1 a2 a3 I = some x) (K1 : ∀ s, x = (.inl s) → ab_WP l G mX1_rungIfAllLose 5 10 [some (.ref 25), some (.ref q1), some (.int a2), some (.int s.1)] [] S s.2 J P 0 0 Q) (K0 : ∀ r, x = (.inr r) → Q (some (.int r.1)) S r.2 J P) : ab_WP l G mX1_rungIfAllLose 5 38 [some (.ref 25), some (.ref q1), some (.int a2), some (.int a3)] [] S I J P 0 0 Q := by
  unfold fX1_rungIfAllLose_38 at H
  refine ab_iinc (i := 3) (z := 1) (v := (a3 + (1 : Int32))) (by decide +kernel) rfl rfl (by decide) rfl ?_
  refine ab_ls (ls' := [some (.ref 25), some (.ref q1), some (.int a2), some (.int (a3 + (1 : Int32)))]) rfl ?_
  refine ab_goto (off := -31) (tgt := 10) (by decide +kernel) rfl ?_
  exact ab_wk (ab_le_some (ab_le_some (ab_le_some (ab_le_some (ab_le_nil))))) (K1 ((a3 + (1 : Int32)), I) (Option.some.inj H).symm)
def fX1_rungIfAllLose_10 (q1 : Nat) (a2 : Int32) (a3 : Int32) (I : ab_I) : Option ((Int32 × ab_I) ⊕ (Int32 × ab_I)) :=
  if (30 : Int32) ≤ a3 then
    (fX1_rungIfAllLose_44 q1 a2 I).map .inr
  else
    ab_gd (ab_ix a3 30 = true) (
      if (I (26 + 3) a3.toNatClampNeg) ≤ 0 then
        fX1_rungIfAllLose_38 q1 a2 a3 I
      else
        ab_gd (ab_ix a3 30 = true) (
          fX1_rungIfAllLose_38 q1 a2 a3 (ab_u I (26 + 3) a3.toNatClampNeg a2)
        )
    )
set_option maxRecDepth 100000 in
theorem fX1_rungIfAllLose_10_ok {l : Launch} {G : ab_G} {S : ab_S} {I : ab_I} {J : ab_J} {P : ab_P} {Q : ab_Q} {q1 : Nat} {a2 : Int32} {a3 : Int32} (hB : bz_B S P) (hq1 : bz_st S P q1) {x : ((Int32 × ab_I) ⊕ (Int32 × ab_I))} (H : fX1_rungIfAllLose_10 q1 a2 a3 I = some x) (K1 : ∀ s, x = (.inl s) → ab_WP l G mX1_rungIfAllLose 5 10 [some (.ref 25), some (.ref q1), some (.int a2), some (.int s.1)] [] S s.2 J P 0 0 Q) (K0 : ∀ r, x = (.inr r) → Q (some (.int r.1)) S r.2 J P) : ab_WP l G mX1_rungIfAllLose 5 10 [some (.ref 25), some (.ref q1), some (.int a2), some (.int a3)] [] S I J P 0 0 Q := by
  unfold fX1_rungIfAllLose_10 at H
  refine ab_iload_n (z := 3) (by decide +kernel) rfl rfl ?_
  refine ab_bipush (z := 30) (v := (30 : Int32)) (by decide +kernel) (by decide) ?_
  refine ab_icmp_ge (off := 31) (tgt := 44) (by decide +kernel) rfl (fun hc => ?_) (fun hc => ?_)
  · replace H := ab_ifp H hc
    obtain ⟨y2, Hy, hx⟩ := ab_mp_of H
    subst hx
    replace H := Hy
    exact ab_wk (ab_le_some (ab_le_some (ab_le_some (ab_le_none (ab_le_nil))))) (fX1_rungIfAllLose_44_ok hB hq1 H  (K0 _ rfl))
  · replace H := ab_ifn H hc
    refine ab_aload_n (z := 0) (by decide +kernel) rfl rfl ?_
    refine gX1_2 (ix := 12) (by decide +kernel) tw_283 (hB.1 25 _ rfl) (hB.2.1 34 (25, 2, 26) rfl) ?_
    refine gX6_2 (ix := 78) (by decide +kernel) tw_251 (bz_st_26 hB).1 (bz_st_26 hB).2.2.2.2.2.2 ?_
    refine ab_iload_n (z := 3) (by decide +kernel) rfl rfl ?_
    obtain ⟨hg, H⟩ := ab_gd_of H
    refine ab_iald (ln := 30) (by decide +kernel) (bz_st_26 hB).2.2.2.1 (ab_ix_in hg) ?_
    refine ab_if_le (off := 13) (tgt := 38) (by decide +kernel) rfl (fun hc => ?_) (fun hc => ?_)
    · replace H := ab_ifp H hc
      exact ab_wk (ab_le_some (ab_le_some (ab_le_some (ab_le_some (ab_le_nil))))) (fX1_rungIfAllLose_38_ok hB hq1 H K1 K0)
    · replace H := ab_ifn H hc
      refine ab_aload_n (z := 0) (by decide +kernel) rfl rfl ?_
      refine gX1_2 (ix := 12) (by decide +kernel) tw_283 (hB.1 25 _ rfl) (hB.2.1 34 (25, 2, 26) rfl) ?_
      refine gX6_2 (ix := 78) (by decide +kernel) tw_251 (bz_st_26 hB).1 (bz_st_26 hB).2.2.2.2.2.2 ?_
      refine ab_iload_n (z := 3) (by decide +kernel) rfl rfl ?_
      refine ab_iload_n (z := 2) (by decide +kernel) rfl rfl ?_
      obtain ⟨hg, H⟩ := ab_gd_of H
      refine ab_iast (ln := 30) (by decide +kernel) (bz_st_26 hB).2.2.2.1 (ab_ix_in hg) ?_
      exact ab_wk (ab_le_some (ab_le_some (ab_le_some (ab_le_some (ab_le_nil))))) (fX1_rungIfAllLose_38_ok hB hq1 H K1 K0)
def fX1_rungIfAllLose (q1 : Nat) (a2 : Int32) (I : ab_I) : Option (Int32 × ab_I) :=
  (fX6_copyFrom 26 q1 I).bind fun u1 =>
  ab_it (fun s => fX1_rungIfAllLose_10 q1 a2 s.1 s.2) 5000 ((0 : Int32), u1)
set_option maxRecDepth 100000 in
theorem mX1_rungIfAllLose_ok {l : Launch} {G : ab_G} {S : ab_S} {I : ab_I} {J : ab_J} {P : ab_P} {Q : ab_Q} {q1 : Nat} {a2 : Int32} (hB : bz_B S P) (hq1 : bz_st S P q1) {x : Int32 × ab_I} (H : fX1_rungIfAllLose q1 a2 I = some x) (K0 : Q (some (.int x.1)) S x.2 J P) : ab_Call l G mX1_rungIfAllLose 5 [.ref 25, .ref q1, .int a2] S I J P Q := by
  unfold fX1_rungIfAllLose at H
  refine ab_enter rfl (Nat.le_of_ble_eq_true rfl) (ab_wk (ls' := [some (.ref 25), some (.ref q1), some (.int a2), none]) (ab_le_some (ab_le_some (ab_le_some (ab_le_non0 ab_le_nil)))) ?_)
  refine ab_aload_n (z := 0) (by decide +kernel) rfl rfl ?_
  refine gX1_2 (ix := 12) (by decide +kernel) tw_283 (hB.1 25 _ rfl) (hB.2.1 34 (25, 2, 26) rfl) ?_
  refine ab_aload_n (z := 1) (by decide +kernel) rfl rfl ?_
  obtain ⟨u1, hu1, H⟩ := ab_bd_of H
  refine kvX6_copyFrom (D := 1) (ix := 39) (by decide +kernel) tw_653 (bz_st_26 hB).1 (by decide) (Nat.le_of_ble_eq_true rfl) (mX6_copyFrom_ok hB (bz_st_26 hB) hq1 hu1 ?_)
  change ab_WP l G mX1_rungIfAllLose 5 8 [some (.ref 25), some (.ref q1), some (.int a2), none] [] S u1 J P 0 0 Q
  refine ab_iconst (z := 0) (v := (0 : Int32)) (by decide +kernel) (by decide) ?_
  refine ab_istore_n (z := 3) (by decide +kernel) rfl (by decide) rfl ?_
  refine ab_ls (ls' := [some (.ref 25), some (.ref q1), some (.int a2), some (.int (0 : Int32))]) rfl ?_
  exact ab_wk (ab_le_some (ab_le_some (ab_le_some (ab_le_some (ab_le_nil))))) (ab_iter (body := (fun s => fX1_rungIfAllLose_10 q1 a2 s.1 s.2)) (W := fun s => ab_WP l G mX1_rungIfAllLose 5 10 [some (.ref 25), some (.ref q1), some (.int a2), some (.int s.1)] [] S s.2 J P 0 0 Q) (fun s y hb h1 h2 => fX1_rungIfAllLose_10_ok hB hq1 hb h1 (fun r e => by have e2 := h2 _ e; subst e2; exact K0)) 5000 ((0 : Int32), u1) H)
abbrev mX11_law : ab_M := (yX11_law, cX11_law, 2, some .int, 0, 0)
def fX11_law_26 (a1 : Int32) (P : ab_P) (s0 : Int32) (I : ab_I) : Option (Int32 × ab_I) :=
  some (s0, I)
set_option maxRecDepth 100000 in
theorem fX11_law_26_ok {l : Launch} {G : ab_G} {S : ab_S} {I : ab_I} {J : ab_J} {P : ab_P} {Q : ab_Q} {a1 : Int32} {s0 : Int32} (hB : bz_B S P) {x : Int32 × ab_I} (H : fX11_law_26 a1 P s0 I = some x) (K0 : Q (some (.int x.1)) S x.2 J P) : ab_WP l G mX11_law 6 26 [some (.ref 0), some (.int a1)] [.int s0] S I J P 0 0 Q := by
  unfold fX11_law_26 at H
  obtain rfl := Option.some.inj H
  exact ab_iret (by decide +kernel) rfl (Nat.le_refl _) (Nat.le_refl _) K0
def fX11_law (a1 : Int32) (I : ab_I) (P : ab_P) : Option (Int32 × ab_I) :=
  (fX11_within a1 (0 : Int32) (20 : Int32)).bind fun u1 =>
  if u1 = 0 then
    fX11_law_26 a1 P (-1 : Int32) I
  else
    (P 0 12).bind fun z2 =>
    (fX1_rungIfAllLose z2 a1 I).bind fun u3 =>
    fX11_law_26 a1 P u3.1 u3.2
set_option maxRecDepth 100000 in
theorem mX11_law_ok {l : Launch} {G : ab_G} {S : ab_S} {I : ab_I} {J : ab_J} {P : ab_P} {Q : ab_Q} {a1 : Int32} (hB : bz_B S P) {x : Int32 × ab_I} (H : fX11_law a1 I P = some x) (K0 : Q (some (.int x.1)) S x.2 J P) : ab_Call l G mX11_law 6 [.ref 0, .int a1] S I J P Q := by
  unfold fX11_law at H
  refine ab_enter rfl (Nat.le_of_ble_eq_true rfl) (ab_wk (ls' := [some (.ref 0), some (.int a1)]) (ab_le_some (ab_le_some (ab_le_nil))) ?_)
  refine ab_iload_n (z := 1) (by decide +kernel) rfl rfl ?_
  refine ab_iconst (z := 0) (v := (0 : Int32)) (by decide +kernel) (by decide) ?_
  refine ab_bipush (z := 20) (v := (20 : Int32)) (by decide +kernel) (by decide) ?_
  obtain ⟨u1, hu1, H⟩ := ab_bd_of H
  refine ksX11_within (D := 0) (ix := 191) (by decide +kernel) tw_746 (by decide) (Nat.le_of_ble_eq_true rfl) (mX11_within_ok hB hu1 ?_)
  change ab_WP l G mX11_law 6 7 [some (.ref 0), some (.int a1)] [.int u1] S I J P 0 0 Q
  refine ab_if_eq (off := 18) (tgt := 25) (by decide +kernel) rfl (fun hc => ?_) (fun hc => ?_)
  · replace H := ab_ifp H hc
    refine ab_iconst (z := -1) (v := (-1 : Int32)) (by decide +kernel) (by decide) ?_
    exact ab_wk (ab_le_some (ab_le_some (ab_le_nil))) (fX11_law_26_ok hB H  K0)
  · replace H := ab_ifn H hc
    refine ab_aload_n (z := 0) (by decide +kernel) rfl rfl ?_
    refine gX11_4 (ix := 46) (by decide +kernel) tw_412 (hB.1 0 _ rfl) (hB.2.1 4 (0, 4, 25) rfl) ?_
    refine ab_aload_n (z := 0) (by decide +kernel) rfl rfl ?_
    obtain ⟨z2, hz2, H⟩ := ab_bd_of H
    refine gX11_12 (ix := 89) (by decide +kernel) tw_420 (hB.1 0 _ rfl) hz2 ?_
    have sz2 := hB.2.2.1 _ hz2
    refine ab_iload_n (z := 1) (by decide +kernel) rfl rfl ?_
    obtain ⟨u3, hu3, H⟩ := ab_bd_of H
    refine kvX1_rungIfAllLose (D := 5) (ix := 291) (by decide +kernel) tw_958 (hB.1 25 _ rfl) (by decide) (Nat.le_of_ble_eq_true rfl) (mX1_rungIfAllLose_ok hB sz2 hu3 ?_)
    change ab_WP l G mX11_law 6 22 [some (.ref 0), some (.int a1)] [.int u3.1] S u3.2 J P 0 0 Q
    refine ab_goto (off := 4) (tgt := 26) (by decide +kernel) rfl ?_
    exact ab_wk (ab_le_some (ab_le_some (ab_le_nil))) (fX11_law_26_ok hB H  K0)
abbrev mX1_daysToSilence : ab_M := (yX1_daysToSilence, cX1_daysToSilence, 4, some .int, 0, 0)
theorem kvX1_daysToSilence {l : Launch} {G : ab_G} {M : ab_M} {d pc : Nat} {ls : List (Option Value)} {st : List Value} {S : ab_S} {I : ab_I} {J : ab_J} {P : ab_P} {Q : ab_Q} {v0 v1 : Value} {ix D r ln : Nat} (hd : decode M.2.1 pc = .ok (.invokevirtual ix, 3)) (h1 : Cond.methodLink M.1.cls ix mX1_daysToSilence.1 ∈ ab_good) (hs : S[r]? = some (6, ln)) (hdg : D + 1 ≤ d) (hsum : (st.map fun v => v.category).sum ≤ 8) (kk : ab_Call l G mX1_daysToSilence D (.ref r :: [v0, v1]) S I J P (fun v S' I' J' P' => ab_WP l G M d (pc + 3) ls (ab_psh v st) S' I' J' P' 0 0 Q)) : ab_WP l G M d pc ls (v1 :: v0 :: .ref r :: st) S I J P 0 0 Q := bz_kv (g := mX1_daysToSilence) (as := [v0, v1]) (cc := 1) rfl hd h1 tw_967 tw_968 tw_8 tw_969 ⟨by decide +kernel, by decide +kernel, (by decide +kernel : (parseMethodDescriptor mX1_daysToSilence.1.desc).map (fun d => d.parameters.length) = some 2)⟩ (by decide) rfl rfl rfl hdg hsum hs kk
def fX1_daysToSilence_50 (q1 : Nat) (a2 : Int32) (I : ab_I) : Option (Int32 × ab_I) :=
  some ((-1 : Int32), I)
set_option maxRecDepth 100000 in
theorem fX1_daysToSilence_50_ok {l : Launch} {G : ab_G} {S : ab_S} {I : ab_I} {J : ab_J} {P : ab_P} {Q : ab_Q} {q1 : Nat} {a2 : Int32} (hB : bz_B S P) (hq1 : bz_st S P q1) {x : Int32 × ab_I} (H : fX1_daysToSilence_50 q1 a2 I = some x) (K0 : Q (some (.int x.1)) S x.2 J P) : ab_WP l G mX1_daysToSilence 5 50 [some (.ref 25), some (.ref q1), some (.int a2), none] [] S I J P 0 0 Q := by
  unfold fX1_daysToSilence_50 at H
  refine ab_iconst (z := -1) (v := (-1 : Int32)) (by decide +kernel) (by decide) ?_
  obtain rfl := Option.some.inj H
  exact ab_iret (by decide +kernel) rfl (Nat.le_refl _) (Nat.le_refl _) K0
def fX1_daysToSilence_42 (q1 : Nat) (a2 : Int32) (a3 : Int32) (I : ab_I) : Option (Int32 × ab_I) :=
  some (a3, I)
set_option maxRecDepth 100000 in
theorem fX1_daysToSilence_42_ok {l : Launch} {G : ab_G} {S : ab_S} {I : ab_I} {J : ab_J} {P : ab_P} {Q : ab_Q} {q1 : Nat} {a2 : Int32} {a3 : Int32} (hB : bz_B S P) (hq1 : bz_st S P q1) {x : Int32 × ab_I} (H : fX1_daysToSilence_42 q1 a2 a3 I = some x) (K0 : Q (some (.int x.1)) S x.2 J P) : ab_WP l G mX1_daysToSilence 5 42 [some (.ref 25), some (.ref q1), some (.int a2), some (.int a3)] [] S I J P 0 0 Q := by
  unfold fX1_daysToSilence_42 at H
  refine ab_iload_n (z := 3) (by decide +kernel) rfl rfl ?_
  obtain rfl := Option.some.inj H
  exact ab_iret (by decide +kernel) rfl (Nat.le_refl _) (Nat.le_refl _) K0
def fX1_daysToSilence_10 (q1 : Nat) (a2 : Int32) (a3 : Int32) (I : ab_I) : Option ((Int32 × ab_I) ⊕ (Int32 × ab_I)) :=
  if (60 : Int32) < a3 then
    (fX1_daysToSilence_50 q1 a2 I).map .inr
  else
    (fX5_passDay 26 (0 : Int32) I).bind fun u3 =>
    ab_gd (ab_ix a2 5 = true) (
      if (u3.2 24 a2.toNatClampNeg) = (-1 : Int32) then
        (fX1_daysToSilence_42 q1 a2 a3 u3.2).map .inr
      else
        some (.inl ((a3 + (1 : Int32)), u3.2))
    )
set_option maxRecDepth 100000 in
theorem fX1_daysToSilence_10_ok {l : Launch} {G : ab_G} {S : ab_S} {I : ab_I} {J : ab_J} {P : ab_P} {Q : ab_Q} {q1 : Nat} {a2 : Int32} {a3 : Int32} (hB : bz_B S P) (hq1 : bz_st S P q1) {x : ((Int32 × ab_I) ⊕ (Int32 × ab_I))} (H : fX1_daysToSilence_10 q1 a2 a3 I = some x) (K1 : ∀ s, x = (.inl s) → ab_WP l G mX1_daysToSilence 5 10 [some (.ref 25), some (.ref q1), some (.int a2), some (.int s.1)] [] S s.2 J P 0 0 Q) (K0 : ∀ r, x = (.inr r) → Q (some (.int r.1)) S r.2 J P) : ab_WP l G mX1_daysToSilence 5 10 [some (.ref 25), some (.ref q1), some (.int a2), some (.int a3)] [] S I J P 0 0 Q := by
  unfold fX1_daysToSilence_10 at H
  refine ab_iload_n (z := 3) (by decide +kernel) rfl rfl ?_
  refine ab_bipush (z := 60) (v := (60 : Int32)) (by decide +kernel) (by decide) ?_
  refine ab_icmp_gt (off := 37) (tgt := 50) (by decide +kernel) rfl (fun hc => ?_) (fun hc => ?_)
  · replace H := ab_ifp H hc
    obtain ⟨y2, Hy, hx⟩ := ab_mp_of H
    subst hx
    replace H := Hy
    exact ab_wk (ab_le_some (ab_le_some (ab_le_some (ab_le_none (ab_le_nil))))) (fX1_daysToSilence_50_ok hB hq1 H  (K0 _ rfl))
  · replace H := ab_ifn H hc
    refine ab_aload_n (z := 0) (by decide +kernel) rfl rfl ?_
    refine gX1_1 (ix := 35) (by decide +kernel) tw_282 (hB.1 25 _ rfl) (hB.2.1 33 (25, 1, 23) rfl) ?_
    refine ab_aload_n (z := 0) (by decide +kernel) rfl rfl ?_
    refine gX1_2 (ix := 12) (by decide +kernel) tw_283 (hB.1 25 _ rfl) (hB.2.1 34 (25, 2, 26) rfl) ?_
    refine ab_iconst (z := 0) (v := (0 : Int32)) (by decide +kernel) (by decide) ?_
    obtain ⟨u3, hu3, H⟩ := ab_bd_of H
    refine kvX5_passDay (D := 4) (ix := 43) (by decide +kernel) tw_658 (hB.1 23 _ rfl) (by decide) (Nat.le_of_ble_eq_true rfl) (mX5_passDay_ok hB (bz_st_26 hB) hu3 ?_)
    change ab_WP l G mX1_daysToSilence 5 28 [some (.ref 25), some (.ref q1), some (.int a2), some (.int a3)] [.int u3.1] S u3.2 J P 0 0 Q
    refine ab_pop (by decide +kernel) rfl ?_
    refine ab_aload_n (z := 0) (by decide +kernel) rfl rfl ?_
    refine gX1_1 (ix := 35) (by decide +kernel) tw_282 (hB.1 25 _ rfl) (hB.2.1 33 (25, 1, 23) rfl) ?_
    refine gX5_1 (ix := 85) (by decide +kernel) tw_213 (hB.1 23 _ rfl) (hB.2.1 31 (23, 1, 24) rfl) ?_
    refine ab_iload_n (z := 2) (by decide +kernel) rfl rfl ?_
    obtain ⟨hg, H⟩ := ab_gd_of H
    refine ab_iald (ln := 5) (by decide +kernel) (hB.1 24 _ rfl) (ab_ix_in hg) ?_
    refine ab_iconst (z := -1) (v := (-1 : Int32)) (by decide +kernel) (by decide) ?_
    refine ab_icmp_ne (off := 5) (tgt := 44) (by decide +kernel) rfl (fun hc => ?_) (fun hc => ?_)
    · replace H := ab_ifn H hc
      refine ab_iinc (i := 3) (z := 1) (v := (a3 + (1 : Int32))) (by decide +kernel) rfl rfl (by decide) rfl ?_
      refine ab_ls (ls' := [some (.ref 25), some (.ref q1), some (.int a2), some (.int (a3 + (1 : Int32)))]) rfl ?_
      refine ab_goto (off := -37) (tgt := 10) (by decide +kernel) rfl ?_
      exact ab_wk (ab_le_some (ab_le_some (ab_le_some (ab_le_some (ab_le_nil))))) (K1 ((a3 + (1 : Int32)), u3.2) (Option.some.inj H).symm)
    · replace H := ab_ifp H hc
      obtain ⟨y4, Hy, hx⟩ := ab_mp_of H
      subst hx
      replace H := Hy
      exact ab_wk (ab_le_some (ab_le_some (ab_le_some (ab_le_some (ab_le_nil))))) (fX1_daysToSilence_42_ok hB hq1 H  (K0 _ rfl))
def fX1_daysToSilence (q1 : Nat) (a2 : Int32) (I : ab_I) : Option (Int32 × ab_I) :=
  (fX6_copyFrom 26 q1 I).bind fun u1 =>
  ab_it (fun s => fX1_daysToSilence_10 q1 a2 s.1 s.2) 5000 ((1 : Int32), u1)
set_option maxRecDepth 100000 in
theorem mX1_daysToSilence_ok {l : Launch} {G : ab_G} {S : ab_S} {I : ab_I} {J : ab_J} {P : ab_P} {Q : ab_Q} {q1 : Nat} {a2 : Int32} (hB : bz_B S P) (hq1 : bz_st S P q1) {x : Int32 × ab_I} (H : fX1_daysToSilence q1 a2 I = some x) (K0 : Q (some (.int x.1)) S x.2 J P) : ab_Call l G mX1_daysToSilence 5 [.ref 25, .ref q1, .int a2] S I J P Q := by
  unfold fX1_daysToSilence at H
  refine ab_enter rfl (Nat.le_of_ble_eq_true rfl) (ab_wk (ls' := [some (.ref 25), some (.ref q1), some (.int a2), none]) (ab_le_some (ab_le_some (ab_le_some (ab_le_non0 ab_le_nil)))) ?_)
  refine ab_aload_n (z := 0) (by decide +kernel) rfl rfl ?_
  refine gX1_2 (ix := 12) (by decide +kernel) tw_283 (hB.1 25 _ rfl) (hB.2.1 34 (25, 2, 26) rfl) ?_
  refine ab_aload_n (z := 1) (by decide +kernel) rfl rfl ?_
  obtain ⟨u1, hu1, H⟩ := ab_bd_of H
  refine kvX6_copyFrom (D := 1) (ix := 39) (by decide +kernel) tw_653 (bz_st_26 hB).1 (by decide) (Nat.le_of_ble_eq_true rfl) (mX6_copyFrom_ok hB (bz_st_26 hB) hq1 hu1 ?_)
  change ab_WP l G mX1_daysToSilence 5 8 [some (.ref 25), some (.ref q1), some (.int a2), none] [] S u1 J P 0 0 Q
  refine ab_iconst (z := 1) (v := (1 : Int32)) (by decide +kernel) (by decide) ?_
  refine ab_istore_n (z := 3) (by decide +kernel) rfl (by decide) rfl ?_
  refine ab_ls (ls' := [some (.ref 25), some (.ref q1), some (.int a2), some (.int (1 : Int32))]) rfl ?_
  exact ab_wk (ab_le_some (ab_le_some (ab_le_some (ab_le_some (ab_le_nil))))) (ab_iter (body := (fun s => fX1_daysToSilence_10 q1 a2 s.1 s.2)) (W := fun s => ab_WP l G mX1_daysToSilence 5 10 [some (.ref 25), some (.ref q1), some (.int a2), some (.int s.1)] [] S s.2 J P 0 0 Q) (fun s y hb h1 h2 => fX1_daysToSilence_10_ok hB hq1 hb h1 (fun r e => by have e2 := h2 _ e; subst e2; exact K0)) 5000 ((1 : Int32), u1) H)
abbrev mX11_hushed : ab_M := (yX11_hushed, cX11_hushed, 2, some .int, 0, 0)
def fX11_hushed_27 (a1 : Int32) (P : ab_P) (s0 : Int32) (I : ab_I) : Option (Int32 × ab_I) :=
  some (s0, I)
set_option maxRecDepth 100000 in
theorem fX11_hushed_27_ok {l : Launch} {G : ab_G} {S : ab_S} {I : ab_I} {J : ab_J} {P : ab_P} {Q : ab_Q} {a1 : Int32} {s0 : Int32} (hB : bz_B S P) {x : Int32 × ab_I} (H : fX11_hushed_27 a1 P s0 I = some x) (K0 : Q (some (.int x.1)) S x.2 J P) : ab_WP l G mX11_hushed 6 27 [some (.ref 0), some (.int a1)] [.int s0] S I J P 0 0 Q := by
  unfold fX11_hushed_27 at H
  obtain rfl := Option.some.inj H
  exact ab_iret (by decide +kernel) rfl (Nat.le_refl _) (Nat.le_refl _) K0
def fX11_hushed (a1 : Int32) (I : ab_I) (P : ab_P) : Option (Int32 × ab_I) :=
  (fX9_isBell a1 I).bind fun u1 =>
  if u1 = 0 then
    fX11_hushed_27 a1 P (-1 : Int32) I
  else
    (P 0 12).bind fun z2 =>
    (fX1_daysToSilence z2 a1 I).bind fun u3 =>
    fX11_hushed_27 a1 P u3.1 u3.2
set_option maxRecDepth 100000 in
theorem mX11_hushed_ok {l : Launch} {G : ab_G} {S : ab_S} {I : ab_I} {J : ab_J} {P : ab_P} {Q : ab_Q} {a1 : Int32} (hB : bz_B S P) {x : Int32 × ab_I} (H : fX11_hushed a1 I P = some x) (K0 : Q (some (.int x.1)) S x.2 J P) : ab_Call l G mX11_hushed 6 [.ref 0, .int a1] S I J P Q := by
  unfold fX11_hushed at H
  refine ab_enter rfl (Nat.le_of_ble_eq_true rfl) (ab_wk (ls' := [some (.ref 0), some (.int a1)]) (ab_le_some (ab_le_some (ab_le_nil))) ?_)
  refine ab_aload_n (z := 0) (by decide +kernel) rfl rfl ?_
  refine gX11_1 (ix := 19) (by decide +kernel) tw_409 (hB.1 0 _ rfl) (hB.2.1 1 (0, 1, 3) rfl) ?_
  refine ab_iload_n (z := 1) (by decide +kernel) rfl rfl ?_
  obtain ⟨u1, hu1, H⟩ := ab_bd_of H
  refine kvX9_isBell (D := 0) (ix := 175) (by decide +kernel) tw_721 (hB.1 3 _ rfl) (by decide) (Nat.le_of_ble_eq_true rfl) (mX9_isBell_ok hB hu1 ?_)
  change ab_WP l G mX11_hushed 6 8 [some (.ref 0), some (.int a1)] [.int u1] S I J P 0 0 Q
  refine ab_if_eq (off := 18) (tgt := 26) (by decide +kernel) rfl (fun hc => ?_) (fun hc => ?_)
  · replace H := ab_ifp H hc
    refine ab_iconst (z := -1) (v := (-1 : Int32)) (by decide +kernel) (by decide) ?_
    exact ab_wk (ab_le_some (ab_le_some (ab_le_nil))) (fX11_hushed_27_ok hB H  K0)
  · replace H := ab_ifn H hc
    refine ab_aload_n (z := 0) (by decide +kernel) rfl rfl ?_
    refine gX11_4 (ix := 46) (by decide +kernel) tw_412 (hB.1 0 _ rfl) (hB.2.1 4 (0, 4, 25) rfl) ?_
    refine ab_aload_n (z := 0) (by decide +kernel) rfl rfl ?_
    obtain ⟨z2, hz2, H⟩ := ab_bd_of H
    refine gX11_12 (ix := 89) (by decide +kernel) tw_420 (hB.1 0 _ rfl) hz2 ?_
    have sz2 := hB.2.2.1 _ hz2
    refine ab_iload_n (z := 1) (by decide +kernel) rfl rfl ?_
    obtain ⟨u3, hu3, H⟩ := ab_bd_of H
    refine kvX1_daysToSilence (D := 5) (ix := 294) (by decide +kernel) tw_966 (hB.1 25 _ rfl) (by decide) (Nat.le_of_ble_eq_true rfl) (mX1_daysToSilence_ok hB sz2 hu3 ?_)
    change ab_WP l G mX11_hushed 6 23 [some (.ref 0), some (.int a1)] [.int u3.1] S u3.2 J P 0 0 Q
    refine ab_goto (off := 4) (tgt := 27) (by decide +kernel) rfl ?_
    exact ab_wk (ab_le_some (ab_le_some (ab_le_nil))) (fX11_hushed_27_ok hB H  K0)
abbrev mX11_commonDivisor : ab_M := (yX11_commonDivisor, cX11_commonDivisor, 6, some .int, 0, 0)
theorem ksX11_commonDivisor {l : Launch} {G : ab_G} {M : ab_M} {d pc : Nat} {ls : List (Option Value)} {st : List Value} {S : ab_S} {I : ab_I} {J : ab_J} {P : ab_P} {Q : ab_Q} {v0 v1 : Value} {ix D : Nat} (hd : decode M.2.1 pc = .ok (.invokestatic ix, 3)) (h1 : Cond.methodLink M.1.cls ix mX11_commonDivisor.1 ∈ ab_good) (hdg : D + 1 ≤ d) (hsum : (st.map fun v => v.category).sum ≤ 8) (kk : ab_Call l G mX11_commonDivisor D [v0, v1] S I J P (fun v S' I' J' P' => ab_WP l G M d (pc + 3) ls (ab_psh v st) S' I' J' P' 0 0 Q)) : ab_WP l G M d pc ls (v1 :: v0 :: st) S I J P 0 0 Q := bz_ks (g := mX11_commonDivisor) (as := [v0, v1]) rfl hd h1 tw_975 tw_1 tw_976 ⟨by decide +kernel, by decide +kernel, (by decide +kernel : (parseMethodDescriptor mX11_commonDivisor.1.desc).map (fun d => d.parameters.length) = some 2)⟩ (by decide) rfl hdg hsum kk
def fX11_commonDivisor_34 (a0 : Int32) (a1 : Int32) (a2 : Int32) : Option Int32 :=
  some (if (1 : Int32) < a2 then a2 else (1 : Int32))
set_option maxRecDepth 100000 in
theorem fX11_commonDivisor_34_ok {l : Launch} {G : ab_G} {S : ab_S} {I : ab_I} {J : ab_J} {P : ab_P} {Q : ab_Q} {a0 : Int32} {a1 : Int32} {a2 : Int32} (hB : bz_B S P) {x : Int32} (H : fX11_commonDivisor_34 a0 a1 a2 = some x) (K0 : Q (some (.int x)) S I J P) : ab_WP l G mX11_commonDivisor 1 34 [some (.int a0), some (.int a1), some (.int a2), none, none, none] [] S I J P 0 0 Q := by
  unfold fX11_commonDivisor_34 at H
  refine ab_iconst (z := 1) (v := (1 : Int32)) (by decide +kernel) (by decide) ?_
  refine ab_iload_n (z := 2) (by decide +kernel) rfl rfl ?_
  refine ab_mmax (ix := 360) (by decide +kernel) tw_977 tw_978 tw_17 tw_979 (by decide) (Nat.le_of_ble_eq_true rfl) (Nat.le_refl _) (Nat.le_refl _) ?_
  obtain rfl := Option.some.inj H
  exact ab_iret (by decide +kernel) rfl (Nat.le_refl _) (Nat.le_refl _) K0
def fX11_commonDivisor_7 (a0 : Int32) (a1 : Int32) (a2 : Int32) (a3 : Int32) (a4 : Int32) : Option ((Int32 × Int32 × Int32) ⊕ Int32) :=
  if (100 : Int32) ≤ a4 then
    (fX11_commonDivisor_34 a0 a1 a2).map .inr
  else
    if a3 ≤ 0 then
      (fX11_commonDivisor_34 a0 a1 a2).map .inr
    else
      ab_gd (¬ a3 = 0) (
        some (.inl (a3, (a2 - a2 / a3 * a3), (a4 + (1 : Int32))))
      )
set_option maxRecDepth 100000 in
theorem fX11_commonDivisor_7_ok {l : Launch} {G : ab_G} {S : ab_S} {I : ab_I} {J : ab_J} {P : ab_P} {Q : ab_Q} {a0 : Int32} {a1 : Int32} {a2 : Int32} {a3 : Int32} {a4 : Int32} (hB : bz_B S P) {x : ((Int32 × Int32 × Int32) ⊕ Int32)} (H : fX11_commonDivisor_7 a0 a1 a2 a3 a4 = some x) (K1 : ∀ s, x = (.inl s) → ab_WP l G mX11_commonDivisor 1 7 [some (.int a0), some (.int a1), some (.int s.1), some (.int s.2.1), some (.int s.2.2), none] [] S I J P 0 0 Q) (K0 : ∀ r, x = (.inr r) → Q (some (.int r)) S I J P) : ab_WP l G mX11_commonDivisor 1 7 [some (.int a0), some (.int a1), some (.int a2), some (.int a3), some (.int a4), none] [] S I J P 0 0 Q := by
  unfold fX11_commonDivisor_7 at H
  refine ab_iload (i := 4) (by decide +kernel) rfl ?_
  refine ab_bipush (z := 100) (v := (100 : Int32)) (by decide +kernel) (by decide) ?_
  refine ab_icmp_ge (off := 23) (tgt := 34) (by decide +kernel) rfl (fun hc => ?_) (fun hc => ?_)
  · replace H := ab_ifp H hc
    obtain ⟨y1, Hy, hx⟩ := ab_mp_of H
    subst hx
    replace H := Hy
    exact ab_wk (ab_le_some (ab_le_some (ab_le_some (ab_le_none (ab_le_none (ab_le_none (ab_le_nil))))))) (fX11_commonDivisor_34_ok hB H  (K0 _ rfl))
  · replace H := ab_ifn H hc
    refine ab_iload_n (z := 3) (by decide +kernel) rfl rfl ?_
    refine ab_if_le (off := 19) (tgt := 34) (by decide +kernel) rfl (fun hc => ?_) (fun hc => ?_)
    · replace H := ab_ifp H hc
      obtain ⟨y2, Hy, hx⟩ := ab_mp_of H
      subst hx
      replace H := Hy
      exact ab_wk (ab_le_some (ab_le_some (ab_le_some (ab_le_none (ab_le_none (ab_le_none (ab_le_nil))))))) (fX11_commonDivisor_34_ok hB H  (K0 _ rfl))
    · replace H := ab_ifn H hc
      refine ab_iload_n (z := 2) (by decide +kernel) rfl rfl ?_
      refine ab_iload_n (z := 3) (by decide +kernel) rfl rfl ?_
      obtain ⟨hg, H⟩ := ab_gd_of H
      refine ab_irem (by decide +kernel) hg ?_
      refine ab_istore (i := 5) (by decide +kernel) (by decide) rfl ?_
      refine ab_ls (ls' := [some (.int a0), some (.int a1), some (.int a2), some (.int a3), some (.int a4), some (.int (a2 - a2 / a3 * a3))]) rfl ?_
      refine ab_iload_n (z := 3) (by decide +kernel) rfl rfl ?_
      refine ab_istore_n (z := 2) (by decide +kernel) rfl (by decide) rfl ?_
      refine ab_ls (ls' := [some (.int a0), some (.int a1), some (.int a3), some (.int a3), some (.int a4), some (.int (a2 - a2 / a3 * a3))]) rfl ?_
      refine ab_iload (i := 5) (by decide +kernel) rfl ?_
      refine ab_istore_n (z := 3) (by decide +kernel) rfl (by decide) rfl ?_
      refine ab_ls (ls' := [some (.int a0), some (.int a1), some (.int a3), some (.int (a2 - a2 / a3 * a3)), some (.int a4), some (.int (a2 - a2 / a3 * a3))]) rfl ?_
      refine ab_iinc (i := 4) (z := 1) (v := (a4 + (1 : Int32))) (by decide +kernel) rfl rfl (by decide) rfl ?_
      refine ab_ls (ls' := [some (.int a0), some (.int a1), some (.int a3), some (.int (a2 - a2 / a3 * a3)), some (.int (a4 + (1 : Int32))), some (.int (a2 - a2 / a3 * a3))]) rfl ?_
      refine ab_goto (off := -24) (tgt := 7) (by decide +kernel) rfl ?_
      exact ab_wk (ab_le_some (ab_le_some (ab_le_some (ab_le_some (ab_le_some (ab_le_none (ab_le_nil))))))) (K1 (a3, (a2 - a2 / a3 * a3), (a4 + (1 : Int32))) (Option.some.inj H).symm)
def fX11_commonDivisor (a0 : Int32) (a1 : Int32) : Option Int32 :=
  ab_it (fun s => fX11_commonDivisor_7 a0 a1 s.1 s.2.1 s.2.2) 5000 (a1, a0, (0 : Int32))
set_option maxRecDepth 100000 in
theorem mX11_commonDivisor_ok {l : Launch} {G : ab_G} {S : ab_S} {I : ab_I} {J : ab_J} {P : ab_P} {Q : ab_Q} {a0 : Int32} {a1 : Int32} (hB : bz_B S P) {x : Int32} (H : fX11_commonDivisor a0 a1 = some x) (K0 : Q (some (.int x)) S I J P) : ab_Call l G mX11_commonDivisor 1 [.int a0, .int a1] S I J P Q := by
  unfold fX11_commonDivisor at H
  refine ab_enter rfl (Nat.le_of_ble_eq_true rfl) (ab_wk (ls' := [some (.int a0), some (.int a1), none, none, none, none]) (ab_le_some (ab_le_some (ab_le_non0 (ab_le_non0 (ab_le_non0 (ab_le_non0 ab_le_nil)))))) ?_)
  refine ab_iload_n (z := 1) (by decide +kernel) rfl rfl ?_
  refine ab_istore_n (z := 2) (by decide +kernel) rfl (by decide) rfl ?_
  refine ab_ls (ls' := [some (.int a0), some (.int a1), some (.int a1), none, none, none]) rfl ?_
  refine ab_iload_n (z := 0) (by decide +kernel) rfl rfl ?_
  refine ab_istore_n (z := 3) (by decide +kernel) rfl (by decide) rfl ?_
  refine ab_ls (ls' := [some (.int a0), some (.int a1), some (.int a1), some (.int a0), none, none]) rfl ?_
  refine ab_iconst (z := 0) (v := (0 : Int32)) (by decide +kernel) (by decide) ?_
  refine ab_istore (i := 4) (by decide +kernel) (by decide) rfl ?_
  refine ab_ls (ls' := [some (.int a0), some (.int a1), some (.int a1), some (.int a0), some (.int (0 : Int32)), none]) rfl ?_
  exact ab_wk (ab_le_some (ab_le_some (ab_le_some (ab_le_some (ab_le_some (ab_le_none (ab_le_nil))))))) (ab_iter (body := (fun s => fX11_commonDivisor_7 a0 a1 s.1 s.2.1 s.2.2)) (W := fun s => ab_WP l G mX11_commonDivisor 1 7 [some (.int a0), some (.int a1), some (.int s.1), some (.int s.2.1), some (.int s.2.2), none] [] S I J P 0 0 Q) (fun s y hb h1 h2 => fX11_commonDivisor_7_ok hB hb h1 (fun r e => by have e2 := h2 _ e; subst e2; exact K0)) 5000 (a1, a0, (0 : Int32)) H)
