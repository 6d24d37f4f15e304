abbrev mX12_slight : ab_M := (yX12_slight, cX12_slight, 5, some .int, 0, 0)
def fX12_slight_85 (a1 : Int32) (a2 : Int32) (I : ab_I) : Option (Int32 × ab_I) :=
  some (a2, I)
set_option maxRecDepth 100000 in
theorem fX12_slight_85_ok {l : Launch} {G : ab_G} {S : ab_S} {I : ab_I} {J : ab_J} {P : ab_P} {Q : ab_Q} {a1 : Int32} {a2 : Int32} (hB : bz_B S P) {x : Int32 × ab_I} (H : fX12_slight_85 a1 a2 I = some x) (K0 : Q (some (.int x.1)) S x.2 J P) : ab_WP l G mX12_slight 6 85 [some (.ref 73), some (.int a1), some (.int a2), none, none] [] S I J P 0 0 Q := by
  unfold fX12_slight_85 at H
  refine ab_iload_n (z := 2) (by decide +kernel) rfl rfl ?_
  obtain rfl := Option.some.inj H
  exact ab_iret (by decide +kernel) rfl (Nat.le_refl _) (Nat.le_refl _) K0
def fX12_slight_79 (a1 : Int32) (a2 : Int32) (a3 : Int32) (I : ab_I) : Option ((Int32 × Int32 × ab_I) ⊕ (Int32 × ab_I)) :=
  some (.inl (a2, (a3 + (1 : Int32)), I))
set_option maxRecDepth 100000 in
theorem fX12_slight_79_ok {l : Launch} {G : ab_G} {S : ab_S} {I : ab_I} {J : ab_J} {P : ab_P} {Q : ab_Q} {a1 : Int32} {a2 : Int32} {a3 : Int32} (hB : bz_B S P) {x : ((Int32 × Int32 × ab_I) ⊕ (Int32 × ab_I))} (H : fX12_slight_79 a1 a2 a3 I = some x) (K1 : ∀ s, x = (.inl s) → ab_WP l G mX12_slight 6 26 [some (.ref 73), some (.int a1), some (.int s.1), some (.int s.2.1), none] [] S s.2.2 J P 0 0 Q) (K0 : ∀ r, x = (.inr r) → Q (some (.int r.1)) S r.2 J P) : ab_WP l G mX12_slight 6 79 [some (.ref 73), some (.int a1), some (.int a2), some (.int a3), none] [] S I J P 0 0 Q := by
  unfold fX12_slight_79 at H
  refine ab_iinc (i := 3) (z := 1) (v := (a3 + (1 : Int32))) (by decide +kernel) rfl rfl (by decide) rfl ?_
  refine ab_ls (ls' := [some (.ref 73), some (.int a1), some (.int a2), some (.int (a3 + (1 : Int32))), none]) rfl ?_
  refine ab_goto (off := -56) (tgt := 26) (by decide +kernel) rfl ?_
  exact ab_wk (ab_le_some (ab_le_some (ab_le_some (ab_le_some (ab_le_none (ab_le_nil)))))) (K1 (a2, (a3 + (1 : Int32)), I) (Option.some.inj H).symm)
def fX12_slight_73 (a1 : Int32) (a2 : Int32) (a3 : Int32) (a4 : Int32) (I : ab_I) : Option ((Int32 × Int32 × Int32 × ab_I) ⊕ ((Int32 × Int32 × ab_I) ⊕ (Int32 × ab_I))) :=
  some (.inl (a2, a3, (a4 + (1 : Int32)), I))
set_option maxRecDepth 100000 in
theorem fX12_slight_73_ok {l : Launch} {G : ab_G} {S : ab_S} {I : ab_I} {J : ab_J} {P : ab_P} {Q : ab_Q} {a1 : Int32} {a2 : Int32} {a3 : Int32} {a4 : Int32} (hB : bz_B S P) {x : ((Int32 × Int32 × Int32 × ab_I) ⊕ ((Int32 × Int32 × ab_I) ⊕ (Int32 × ab_I)))} (H : fX12_slight_73 a1 a2 a3 a4 I = some x) (K2 : ∀ s, x = (.inl s) → ab_WP l G mX12_slight 6 40 [some (.ref 73), some (.int a1), some (.int s.1), some (.int s.2.1), some (.int s.2.2.1)] [] S s.2.2.2 J P 0 0 Q) (K1 : ∀ s, x = (.inr (.inl s)) → ab_WP l G mX12_slight 6 26 [some (.ref 73), some (.int a1), some (.int s.1), some (.int s.2.1), none] [] S s.2.2 J P 0 0 Q) (K0 : ∀ r, x = (.inr (.inr r)) → Q (some (.int r.1)) S r.2 J P) : ab_WP l G mX12_slight 6 73 [some (.ref 73), some (.int a1), some (.int a2), some (.int a3), some (.int a4)] [] S I J P 0 0 Q := by
  unfold fX12_slight_73 at H
  refine ab_iinc (i := 4) (z := 1) (v := (a4 + (1 : Int32))) (by decide +kernel) rfl rfl (by decide) rfl ?_
  refine ab_ls (ls' := [some (.ref 73), some (.int a1), some (.int a2), some (.int a3), some (.int (a4 + (1 : Int32)))]) rfl ?_
  refine ab_goto (off := -36) (tgt := 40) (by decide +kernel) rfl ?_
  exact ab_wk (ab_le_some (ab_le_some (ab_le_some (ab_le_some (ab_le_some (ab_le_nil)))))) (K2 (a2, a3, (a4 + (1 : Int32)), I) (Option.some.inj H).symm)
def fX12_slight_40 (a1 : Int32) (a2 : Int32) (a3 : Int32) (a4 : Int32) (I : ab_I) : Option ((Int32 × Int32 × Int32 × ab_I) ⊕ ((Int32 × Int32 × ab_I) ⊕ (Int32 × ab_I))) :=
  if (I 73 40) ≤ a4 then
    (fX12_slight_79 a1 a2 a3 I).map .inr
  else
    ab_gd (ab_ix a4 5 = true) (
      if (I 91 a4.toNatClampNeg) < 0 then
        fX12_slight_73 a1 a2 a3 a4 I
      else
        ab_gd (ab_ix a4 5 = true) (
          fX12_slight_73 a1 (a2 &&& (((1 : Int32) <<< ((I 91 a4.toNatClampNeg) &&& 31)) ^^^ (-1 : Int32))) a3 a4 I
        )
    )
set_option maxRecDepth 100000 in
theorem fX12_slight_40_ok {l : Launch} {G : ab_G} {S : ab_S} {I : ab_I} {J : ab_J} {P : ab_P} {Q : ab_Q} {a1 : Int32} {a2 : Int32} {a3 : Int32} {a4 : Int32} (hB : bz_B S P) {x : ((Int32 × Int32 × Int32 × ab_I) ⊕ ((Int32 × Int32 × ab_I) ⊕ (Int32 × ab_I)))} (H : fX12_slight_40 a1 a2 a3 a4 I = some x) (K2 : ∀ s, x = (.inl s) → ab_WP l G mX12_slight 6 40 [some (.ref 73), some (.int a1), some (.int s.1), some (.int s.2.1), some (.int s.2.2.1)] [] S s.2.2.2 J P 0 0 Q) (K1 : ∀ s, x = (.inr (.inl s)) → ab_WP l G mX12_slight 6 26 [some (.ref 73), some (.int a1), some (.int s.1), some (.int s.2.1), none] [] S s.2.2 J P 0 0 Q) (K0 : ∀ r, x = (.inr (.inr r)) → Q (some (.int r.1)) S r.2 J P) : ab_WP l G mX12_slight 6 40 [some (.ref 73), some (.int a1), some (.int a2), some (.int a3), some (.int a4)] [] S I J P 0 0 Q := by
  unfold fX12_slight_40 at H
  refine ab_iload (i := 4) (by decide +kernel) rfl ?_
  refine ab_aload_n (z := 0) (by decide +kernel) rfl rfl ?_
  refine gX12_40 (ix := 351) (by decide +kernel) tw_1121 (hB.1 73 _ rfl) ?_
  refine ab_icmp_ge (off := 33) (tgt := 79) (by decide +kernel) rfl (fun hc => ?_) (fun hc => ?_)
  · replace H := ab_ifp H hc
    obtain ⟨y5, Hy, hx⟩ := ab_mp_of H
    subst hx
    replace H := Hy
    exact ab_wk (ab_le_some (ab_le_some (ab_le_some (ab_le_some (ab_le_none (ab_le_nil)))))) (fX12_slight_79_ok hB H (fun s e => K1 s (by rw [e])) (fun r e => K0 r (by rw [e])))
  · replace H := ab_ifn H hc
    refine ab_aload_n (z := 0) (by decide +kernel) rfl rfl ?_
    refine gX12_48 (ix := 66) (by decide +kernel) tw_1129 (hB.1 73 _ rfl) (hB.2.1 96 (73, 48, 91) rfl) ?_
    refine ab_iload (i := 4) (by decide +kernel) rfl ?_
    obtain ⟨hg, H⟩ := ab_gd_of H
    refine ab_iald (ln := 5) (by decide +kernel) (hB.1 91 _ rfl) (ab_ix_in hg) ?_
    refine ab_if_lt (off := 17) (tgt := 73) (by decide +kernel) rfl (fun hc => ?_) (fun hc => ?_)
    · replace H := ab_ifp H hc
      exact ab_wk (ab_le_some (ab_le_some (ab_le_some (ab_le_some (ab_le_some (ab_le_nil)))))) (fX12_slight_73_ok hB H K2 K1 K0)
    · replace H := ab_ifn H hc
      refine ab_iload_n (z := 2) (by decide +kernel) rfl rfl ?_
      refine ab_iconst (z := 1) (v := (1 : Int32)) (by decide +kernel) (by decide) ?_
      refine ab_aload_n (z := 0) (by decide +kernel) rfl rfl ?_
      refine gX12_48 (ix := 66) (by decide +kernel) tw_1129 (hB.1 73 _ rfl) (hB.2.1 96 (73, 48, 91) rfl) ?_
      refine ab_iload (i := 4) (by decide +kernel) rfl ?_
      obtain ⟨hg, H⟩ := ab_gd_of H
      refine ab_iald (ln := 5) (by decide +kernel) (hB.1 91 _ rfl) (ab_ix_in hg) ?_
      refine ab_ishl (by decide +kernel) ?_
      refine ab_iconst (z := -1) (v := (-1 : Int32)) (by decide +kernel) (by decide) ?_
      refine ab_ixor (by decide +kernel) ?_
      refine ab_iand (by decide +kernel) ?_
      refine ab_istore_n (z := 2) (by decide +kernel) rfl (by decide) rfl ?_
      refine ab_ls (ls' := [some (.ref 73), some (.int a1), some (.int (a2 &&& (((1 : Int32) <<< ((I 91 a4.toNatClampNeg) &&& 31)) ^^^ (-1 : Int32)))), some (.int a3), some (.int a4)]) rfl ?_
      exact ab_wk (ab_le_some (ab_le_some (ab_le_some (ab_le_some (ab_le_some (ab_le_nil)))))) (fX12_slight_73_ok hB H K2 K1 K0)
def fX12_slight_26 (a1 : Int32) (a2 : Int32) (a3 : Int32) (I : ab_I) : Option ((Int32 × Int32 × ab_I) ⊕ (Int32 × ab_I)) :=
  if a1 ≤ a3 then
    (fX12_slight_85 a1 a2 I).map .inr
  else
    (fX12_goDay (0 : Int32) I).bind fun u4 =>
    ab_it (fun s => fX12_slight_40 a1 s.1 s.2.1 s.2.2.1 s.2.2.2) 5000 (a2, a3, (0 : Int32), u4.2)
set_option maxRecDepth 100000 in
theorem fX12_slight_26_ok {l : Launch} {G : ab_G} {S : ab_S} {I : ab_I} {J : ab_J} {P : ab_P} {Q : ab_Q} {a1 : Int32} {a2 : Int32} {a3 : Int32} (hB : bz_B S P) {x : ((Int32 × Int32 × ab_I) ⊕ (Int32 × ab_I))} (H : fX12_slight_26 a1 a2 a3 I = some x) (K1 : ∀ s, x = (.inl s) → ab_WP l G mX12_slight 6 26 [some (.ref 73), some (.int a1), some (.int s.1), some (.int s.2.1), none] [] S s.2.2 J P 0 0 Q) (K0 : ∀ r, x = (.inr r) → Q (some (.int r.1)) S r.2 J P) : ab_WP l G mX12_slight 6 26 [some (.ref 73), some (.int a1), some (.int a2), some (.int a3), none] [] S I J P 0 0 Q := by
  unfold fX12_slight_26 at H
  refine ab_iload_n (z := 3) (by decide +kernel) rfl rfl ?_
  refine ab_iload_n (z := 1) (by decide +kernel) rfl rfl ?_
  refine ab_icmp_ge (off := 57) (tgt := 85) (by decide +kernel) rfl (fun hc => ?_) (fun hc => ?_)
  · replace H := ab_ifp H hc
    obtain ⟨y3, Hy, hx⟩ := ab_mp_of H
    subst hx
    replace H := Hy
    exact ab_wk (ab_le_some (ab_le_some (ab_le_some (ab_le_none (ab_le_none (ab_le_nil)))))) (fX12_slight_85_ok hB H  (K0 _ rfl))
  · replace H := ab_ifn H hc
    refine ab_aload_n (z := 0) (by decide +kernel) rfl rfl ?_
    refine ab_iconst (z := 0) (v := (0 : Int32)) (by decide +kernel) (by decide) ?_
    obtain ⟨u4, hu4, H⟩ := ab_bd_of H
    refine kvX12_goDay (D := 5) (ix := 417) (by decide +kernel) tw_1496 (hB.1 73 _ rfl) (by decide) (Nat.le_of_ble_eq_true rfl) (mX12_goDay_ok hB hu4 ?_)
    change ab_WP l G mX12_slight 6 36 [some (.ref 73), some (.int a1), some (.int a2), some (.int a3), none] [.int u4.1] S u4.2 J P 0 0 Q
    refine ab_pop (by decide +kernel) rfl ?_
    refine ab_iconst (z := 0) (v := (0 : Int32)) (by decide +kernel) (by decide) ?_
    refine ab_istore (i := 4) (by decide +kernel) (by decide) rfl ?_
    refine ab_ls (ls' := [some (.ref 73), some (.int a1), some (.int a2), some (.int a3), some (.int (0 : Int32))]) rfl ?_
    exact ab_wk (ab_le_some (ab_le_some (ab_le_some (ab_le_some (ab_le_some (ab_le_nil)))))) (ab_iter (body := (fun s => fX12_slight_40 a1 s.1 s.2.1 s.2.2.1 s.2.2.2)) (W := fun s => ab_WP l G mX12_slight 6 40 [some (.ref 73), some (.int a1), some (.int s.1), some (.int s.2.1), some (.int s.2.2.1)] [] S s.2.2.2 J P 0 0 Q) (fun s y hb h1 h2 => fX12_slight_40_ok hB hb h1 (fun s e => K1 s (h2 _ e).symm) (fun r e => K0 r (h2 _ e).symm)) 5000 (a2, a3, (0 : Int32), u4.2) H)
def fX12_slight (a1 : Int32) (I : ab_I) : Option (Int32 × ab_I) :=
  (fX12_isIn a1 (0 : Int32) (60 : Int32)).bind fun u1 =>
  if u1 = 0 then
    some ((-1 : Int32), I)
  else
    (fX12_fill I).bind fun u2 =>
    ab_gd (ab_ix (12 : Int32) 45 = true) (
      ab_it (fun s => fX12_slight_26 a1 s.1 s.2.1 s.2.2) 5000 ((u2 90 ((12 : Int32).toNatClampNeg)), (0 : Int32), u2)
    )
set_option maxRecDepth 100000 in
theorem mX12_slight_ok {l : Launch} {G : ab_G} {S : ab_S} {I : ab_I} {J : ab_J} {P : ab_P} {Q : ab_Q} {a1 : Int32} (hB : bz_B S P) {x : Int32 × ab_I} (H : fX12_slight a1 I = some x) (K0 : Q (some (.int x.1)) S x.2 J P) : ab_Call l G mX12_slight 6 [.ref 73, .int a1] S I J P Q := by
  unfold fX12_slight at H
  refine ab_enter rfl (Nat.le_of_ble_eq_true rfl) (ab_wk (ls' := [some (.ref 73), some (.int a1), none, none, none]) (ab_le_some (ab_le_some (ab_le_non0 (ab_le_non0 (ab_le_non0 ab_le_nil))))) ?_)
  refine ab_iload_n (z := 1) (by decide +kernel) rfl rfl ?_
  refine ab_iconst (z := 0) (v := (0 : Int32)) (by decide +kernel) (by decide) ?_
  refine ab_bipush (z := 60) (v := (60 : Int32)) (by decide +kernel) (by decide) ?_
  obtain ⟨u1, hu1, H⟩ := ab_bd_of H
  refine ksX12_isIn (D := 0) (ix := 384) (by decide +kernel) tw_1474 (by decide) (Nat.le_of_ble_eq_true rfl) (mX12_isIn_ok hB hu1 ?_)
  change ab_WP l G mX12_slight 6 7 [some (.ref 73), some (.int a1), none, none, none] [.int u1] S I J P 0 0 Q
  refine ab_if_ne (off := 5) (tgt := 12) (by decide +kernel) rfl (fun hc => ?_) (fun hc => ?_)
  · replace H := ab_ifn H hc
    refine ab_aload_n (z := 0) (by decide +kernel) rfl rfl ?_
    obtain ⟨u2, hu2, H⟩ := ab_bd_of H
    refine kvX12_fill (D := 0) (ix := 411) (by decide +kernel) tw_1477 (hB.1 73 _ rfl) (by decide) (Nat.le_of_ble_eq_true rfl) (mX12_fill_ok hB hu2 ?_)
    change ab_WP l G mX12_slight 6 16 [some (.ref 73), some (.int a1), none, none, none] [] S u2 J P 0 0 Q
    refine ab_aload_n (z := 0) (by decide +kernel) rfl rfl ?_
    refine gX12_47 (ix := 63) (by decide +kernel) tw_1128 (hB.1 73 _ rfl) (hB.2.1 95 (73, 47, 90) rfl) ?_
    refine ab_bipush (z := 12) (v := (12 : Int32)) (by decide +kernel) (by decide) ?_
    obtain ⟨hg, H⟩ := ab_gd_of H
    refine ab_iald (ln := 45) (by decide +kernel) (hB.1 90 _ rfl) (ab_ix_in hg) ?_
    refine ab_istore_n (z := 2) (by decide +kernel) rfl (by decide) rfl ?_
    refine ab_ls (ls' := [some (.ref 73), some (.int a1), some (.int (u2 90 ((12 : Int32).toNatClampNeg))), none, none]) rfl ?_
    refine ab_iconst (z := 0) (v := (0 : Int32)) (by decide +kernel) (by decide) ?_
    refine ab_istore_n (z := 3) (by decide +kernel) rfl (by decide) rfl ?_
    refine ab_ls (ls' := [some (.ref 73), some (.int a1), some (.int (u2 90 ((12 : Int32).toNatClampNeg))), some (.int (0 : Int32)), none]) rfl ?_
    exact ab_wk (ab_le_some (ab_le_some (ab_le_some (ab_le_some (ab_le_none (ab_le_nil)))))) (ab_iter (body := (fun s => fX12_slight_26 a1 s.1 s.2.1 s.2.2)) (W := fun s => ab_WP l G mX12_slight 6 26 [some (.ref 73), some (.int a1), some (.int s.1), some (.int s.2.1), none] [] S s.2.2 J P 0 0 Q) (fun s y hb h1 h2 => fX12_slight_26_ok hB hb h1 (fun r e => by have e2 := h2 _ e; subst e2; exact K0)) 5000 ((u2 90 ((12 : Int32).toNatClampNeg)), (0 : Int32), u2) H)
  · replace H := ab_ifp H hc
    refine ab_iconst (z := -1) (v := (-1 : Int32)) (by decide +kernel) (by decide) ?_
    obtain rfl := Option.some.inj H
    exact ab_iret (by decide +kernel) rfl (Nat.le_refl _) (Nat.le_refl _) K0
abbrev mX12_hushed : ab_M := (yX12_hushed, cX12_hushed, 3, some .int, 0, 0)
def fX12_hushed_45 (a1 : Int32) (I : ab_I) : Option (Int32 × ab_I) :=
  some ((-1 : Int32), I)
set_option maxRecDepth 100000 in
theorem fX12_hushed_45_ok {l : Launch} {G : ab_G} {S : ab_S} {I : ab_I} {J : ab_J} {P : ab_P} {Q : ab_Q} {a1 : Int32} (hB : bz_B S P) {x : Int32 × ab_I} (H : fX12_hushed_45 a1 I = some x) (K0 : Q (some (.int x.1)) S x.2 J P) : ab_WP l G mX12_hushed 6 45 [some (.ref 73), some (.int a1), none] [] S I J P 0 0 Q := by
  unfold fX12_hushed_45 at H
  refine ab_iconst (z := -1) (v := (-1 : Int32)) (by decide +kernel) (by decide) ?_
  obtain rfl := Option.some.inj H
  exact ab_iret (by decide +kernel) rfl (Nat.le_refl _) (Nat.le_refl _) K0
def fX12_hushed_37 (a1 : Int32) (a2 : Int32) (I : ab_I) : Option (Int32 × ab_I) :=
  some (a2, I)
set_option maxRecDepth 100000 in
theorem fX12_hushed_37_ok {l : Launch} {G : ab_G} {S : ab_S} {I : ab_I} {J : ab_J} {P : ab_P} {Q : ab_Q} {a1 : Int32} {a2 : Int32} (hB : bz_B S P) {x : Int32 × ab_I} (H : fX12_hushed_37 a1 a2 I = some x) (K0 : Q (some (.int x.1)) S x.2 J P) : ab_WP l G mX12_hushed 6 37 [some (.ref 73), some (.int a1), some (.int a2)] [] S I J P 0 0 Q := by
  unfold fX12_hushed_37 at H
  refine ab_iload_n (z := 2) (by decide +kernel) rfl rfl ?_
  obtain rfl := Option.some.inj H
  exact ab_iret (by decide +kernel) rfl (Nat.le_refl _) (Nat.le_refl _) K0
def fX12_hushed_16 (a1 : Int32) (a2 : Int32) (I : ab_I) : Option ((Int32 × ab_I) ⊕ (Int32 × ab_I)) :=
  if (60 : Int32) < a2 then
    (fX12_hushed_45 a1 I).map .inr
  else
    (fX12_goDay (0 : Int32) I).bind fun u4 =>
    ab_gd (ab_ix a1 5 = true) (
      if 0 ≤ (u4.2 91 a1.toNatClampNeg) then
        some (.inl ((a2 + (1 : Int32)), u4.2))
      else
        (fX12_hushed_37 a1 a2 u4.2).map .inr
    )
set_option maxRecDepth 100000 in
theorem fX12_hushed_16_ok {l : Launch} {G : ab_G} {S : ab_S} {I : ab_I} {J : ab_J} {P : ab_P} {Q : ab_Q} {a1 : Int32} {a2 : Int32} (hB : bz_B S P) {x : ((Int32 × ab_I) ⊕ (Int32 × ab_I))} (H : fX12_hushed_16 a1 a2 I = some x) (K1 : ∀ s, x = (.inl s) → ab_WP l G mX12_hushed 6 16 [some (.ref 73), some (.int a1), some (.int s.1)] [] S s.2 J P 0 0 Q) (K0 : ∀ r, x = (.inr r) → Q (some (.int r.1)) S r.2 J P) : ab_WP l G mX12_hushed 6 16 [some (.ref 73), some (.int a1), some (.int a2)] [] S I J P 0 0 Q := by
  unfold fX12_hushed_16 at H
  refine ab_iload_n (z := 2) (by decide +kernel) rfl rfl ?_
  refine ab_bipush (z := 60) (v := (60 : Int32)) (by decide +kernel) (by decide) ?_
  refine ab_icmp_gt (off := 26) (tgt := 45) (by decide +kernel) rfl (fun hc => ?_) (fun hc => ?_)
  · replace H := ab_ifp H hc
    obtain ⟨y3, Hy, hx⟩ := ab_mp_of H
    subst hx
    replace H := Hy
    exact ab_wk (ab_le_some (ab_le_some (ab_le_none (ab_le_nil)))) (fX12_hushed_45_ok hB H  (K0 _ rfl))
  · replace H := ab_ifn H hc
    refine ab_aload_n (z := 0) (by decide +kernel) rfl rfl ?_
    refine ab_iconst (z := 0) (v := (0 : Int32)) (by decide +kernel) (by decide) ?_
    obtain ⟨u4, hu4, H⟩ := ab_bd_of H
    refine kvX12_goDay (D := 5) (ix := 417) (by decide +kernel) tw_1496 (hB.1 73 _ rfl) (by decide) (Nat.le_of_ble_eq_true rfl) (mX12_goDay_ok hB hu4 ?_)
    change ab_WP l G mX12_hushed 6 27 [some (.ref 73), some (.int a1), some (.int a2)] [.int u4.1] S u4.2 J P 0 0 Q
    refine ab_pop (by decide +kernel) rfl ?_
    refine ab_aload_n (z := 0) (by decide +kernel) rfl rfl ?_
    refine gX12_48 (ix := 66) (by decide +kernel) tw_1129 (hB.1 73 _ rfl) (hB.2.1 96 (73, 48, 91) rfl) ?_
    refine ab_iload_n (z := 1) (by decide +kernel) rfl rfl ?_
    obtain ⟨hg, H⟩ := ab_gd_of H
    refine ab_iald (ln := 5) (by decide +kernel) (hB.1 91 _ rfl) (ab_ix_in hg) ?_
    refine ab_if_ge (off := 5) (tgt := 39) (by decide +kernel) rfl (fun hc => ?_) (fun hc => ?_)
    · replace H := ab_ifp H hc
      refine ab_iinc (i := 2) (z := 1) (v := (a2 + (1 : Int32))) (by decide +kernel) rfl rfl (by decide) rfl ?_
      refine ab_ls (ls' := [some (.ref 73), some (.int a1), some (.int (a2 + (1 : Int32)))]) rfl ?_
      refine ab_goto (off := -26) (tgt := 16) (by decide +kernel) rfl ?_
      exact ab_wk (ab_le_some (ab_le_some (ab_le_some (ab_le_nil)))) (K1 ((a2 + (1 : Int32)), u4.2) (Option.some.inj H).symm)
    · replace H := ab_ifn H hc
      obtain ⟨y5, Hy, hx⟩ := ab_mp_of H
      subst hx
      replace H := Hy
      exact ab_wk (ab_le_some (ab_le_some (ab_le_some (ab_le_nil)))) (fX12_hushed_37_ok hB H  (K0 _ rfl))
def fX12_hushed (a1 : Int32) (I : ab_I) : Option (Int32 × ab_I) :=
  (fX12_isBell a1 I).bind fun u1 =>
  if u1 = 0 then
    some ((-1 : Int32), I)
  else
    (fX12_fill I).bind fun u2 =>
    ab_it (fun s => fX12_hushed_16 a1 s.1 s.2) 5000 ((1 : Int32), u2)
set_option maxRecDepth 100000 in
theorem mX12_hushed_ok {l : Launch} {G : ab_G} {S : ab_S} {I : ab_I} {J : ab_J} {P : ab_P} {Q : ab_Q} {a1 : Int32} (hB : bz_B S P) {x : Int32 × ab_I} (H : fX12_hushed a1 I = some x) (K0 : Q (some (.int x.1)) S x.2 J P) : ab_Call l G mX12_hushed 6 [.ref 73, .int a1] S I J P Q := by
  unfold fX12_hushed at H
  refine ab_enter rfl (Nat.le_of_ble_eq_true rfl) (ab_wk (ls' := [some (.ref 73), some (.int a1), none]) (ab_le_some (ab_le_some (ab_le_non0 ab_le_nil))) ?_)
  refine ab_aload_n (z := 0) (by decide +kernel) rfl rfl ?_
  refine ab_iload_n (z := 1) (by decide +kernel) rfl rfl ?_
  obtain ⟨u1, hu1, H⟩ := ab_bd_of H
  refine kvX12_isBell (D := 1) (ix := 423) (by decide +kernel) tw_1529 (hB.1 73 _ rfl) (by decide) (Nat.le_of_ble_eq_true rfl) (mX12_isBell_ok hB hu1 ?_)
  change ab_WP l G mX12_hushed 6 5 [some (.ref 73), some (.int a1), none] [.int u1] S I J P 0 0 Q
  refine ab_if_ne (off := 5) (tgt := 10) (by decide +kernel) rfl (fun hc => ?_) (fun hc => ?_)
  · replace H := ab_ifn H hc
    refine ab_aload_n (z := 0) (by decide +kernel) rfl rfl ?_
    obtain ⟨u2, hu2, H⟩ := ab_bd_of H
    refine kvX12_fill (D := 0) (ix := 411) (by decide +kernel) tw_1477 (hB.1 73 _ rfl) (by decide) (Nat.le_of_ble_eq_true rfl) (mX12_fill_ok hB hu2 ?_)
    change ab_WP l G mX12_hushed 6 14 [some (.ref 73), some (.int a1), none] [] S u2 J P 0 0 Q
    refine ab_iconst (z := 1) (v := (1 : Int32)) (by decide +kernel) (by decide) ?_
    refine ab_istore_n (z := 2) (by decide +kernel) rfl (by decide) rfl ?_
    refine ab_ls (ls' := [some (.ref 73), some (.int a1), some (.int (1 : Int32))]) rfl ?_
    exact ab_wk (ab_le_some (ab_le_some (ab_le_some (ab_le_nil)))) (ab_iter (body := (fun s => fX12_hushed_16 a1 s.1 s.2)) (W := fun s => ab_WP l G mX12_hushed 6 16 [some (.ref 73), some (.int a1), some (.int s.1)] [] S s.2 J P 0 0 Q) (fun s y hb h1 h2 => fX12_hushed_16_ok hB hb h1 (fun r e => by have e2 := h2 _ e; subst e2; exact K0)) 5000 ((1 : Int32), u2) H)
  · replace H := ab_ifp H hc
    refine ab_iconst (z := -1) (v := (-1 : Int32)) (by decide +kernel) (by decide) ?_
    obtain rfl := Option.some.inj H
    exact ab_iret (by decide +kernel) rfl (Nat.le_refl _) (Nat.le_refl _) K0
abbrev mX12_dayWithout : ab_M := (yX12_dayWithout, cX12_dayWithout, 2, some .int, 0, 0)
theorem kvX12_dayWithout {l : Launch} {G : ab_G} {M : ab_M} {d pc : Nat} {ls : List (Option Value)} {st : List Value} {S : ab_S} {I : ab_I} {J : ab_J} {P : ab_P} {Q : ab_Q} {v0 : Value} {ix D r ln : Nat} (hd : decode M.2.1 pc = .ok (.invokevirtual ix, 3)) (h1 : Cond.methodLink M.1.cls ix mX12_dayWithout.1 ∈ ab_good) (hs : S[r]? = some (17, ln)) (hdg : D + 1 ≤ d) (hsum : (st.map fun v => v.category).sum ≤ 8) (kk : ab_Call l G mX12_dayWithout D (.ref r :: [v0]) S I J P (fun v S' I' J' P' => ab_WP l G M d (pc + 3) ls (ab_psh v st) S' I' J' P' 0 0 Q)) : ab_WP l G M d pc ls (v0 :: .ref r :: st) S I J P 0 0 Q := bz_kv (g := mX12_dayWithout) (as := [v0]) (cc := 12) rfl hd h1 tw_1620 tw_p77 tw_13 tw_1621 ⟨by decide +kernel, by decide +kernel, (by decide +kernel : (parseMethodDescriptor mX12_dayWithout.1.desc).map (fun d => d.parameters.length) = some 1)⟩ (by decide) rfl rfl rfl hdg hsum hs kk
def fX12_dayWithout (a1 : Int32) (I : ab_I) : Option (Int32 × ab_I) :=
  (fX12_fill I).bind fun u1 =>
  ab_gd (ab_ix (12 : Int32) 45 = true) (
    ab_gd (ab_ix (12 : Int32) 45 = true) (
      (fX12_goDay (0 : Int32) (ab_u u1 90 ((12 : Int32).toNatClampNeg) ((u1 90 ((12 : Int32).toNatClampNeg)) &&& (a1 ^^^ (-1 : Int32))))).bind fun u2 =>
      some (u2.1, u2.2)
    )
  )
set_option maxRecDepth 100000 in
theorem mX12_dayWithout_ok {l : Launch} {G : ab_G} {S : ab_S} {I : ab_I} {J : ab_J} {P : ab_P} {Q : ab_Q} {a1 : Int32} (hB : bz_B S P) {x : Int32 × ab_I} (H : fX12_dayWithout a1 I = some x) (K0 : Q (some (.int x.1)) S x.2 J P) : ab_Call l G mX12_dayWithout 6 [.ref 73, .int a1] S I J P Q := by
  unfold fX12_dayWithout at H
  refine ab_enter rfl (Nat.le_of_ble_eq_true rfl) (ab_wk (ls' := [some (.ref 73), some (.int a1)]) (ab_le_some (ab_le_some (ab_le_nil))) ?_)
  refine ab_aload_n (z := 0) (by decide +kernel) rfl rfl ?_
  obtain ⟨u1, hu1, H⟩ := ab_bd_of H
  refine kvX12_fill (D := 0) (ix := 411) (by decide +kernel) tw_1477 (hB.1 73 _ rfl) (by decide) (Nat.le_of_ble_eq_true rfl) (mX12_fill_ok hB hu1 ?_)
  change ab_WP l G mX12_dayWithout 6 4 [some (.ref 73), some (.int a1)] [] S u1 J P 0 0 Q
  refine ab_aload_n (z := 0) (by decide +kernel) rfl rfl ?_
  refine gX12_47 (ix := 63) (by decide +kernel) tw_1128 (hB.1 73 _ rfl) (hB.2.1 95 (73, 47, 90) rfl) ?_
  refine ab_bipush (z := 12) (v := (12 : Int32)) (by decide +kernel) (by decide) ?_
  refine ab_dup2 (by decide +kernel) rfl rfl ?_
  obtain ⟨hg, H⟩ := ab_gd_of H
  refine ab_iald (ln := 45) (by decide +kernel) (hB.1 90 _ rfl) (ab_ix_in hg) ?_
  refine ab_iload_n (z := 1) (by decide +kernel) rfl rfl ?_
  refine ab_iconst (z := -1) (v := (-1 : Int32)) (by decide +kernel) (by decide) ?_
  refine ab_ixor (by decide +kernel) ?_
  refine ab_iand (by decide +kernel) ?_
  obtain ⟨hg, H⟩ := ab_gd_of H
  refine ab_iast (ln := 45) (by decide +kernel) (hB.1 90 _ rfl) (ab_ix_in hg) ?_
  refine ab_aload_n (z := 0) (by decide +kernel) rfl rfl ?_
  refine ab_iconst (z := 0) (v := (0 : Int32)) (by decide +kernel) (by decide) ?_
  obtain ⟨u2, hu2, H⟩ := ab_bd_of H
  refine kvX12_goDay (D := 5) (ix := 417) (by decide +kernel) tw_1496 (hB.1 73 _ rfl) (by decide) (Nat.le_of_ble_eq_true rfl) (mX12_goDay_ok hB hu2 ?_)
  change ab_WP l G mX12_dayWithout 6 22 [some (.ref 73), some (.int a1)] [.int u2.1] S u2.2 J P 0 0 Q
  obtain rfl := Option.some.inj H
  exact ab_iret (by decide +kernel) rfl (Nat.le_refl _) (Nat.le_refl _) K0
abbrev mX12_silentOnes : ab_M := (yX12_silentOnes, cX12_silentOnes, 3, some .int, 0, 0)
theorem kvX12_silentOnes {l : Launch} {G : ab_G} {M : ab_M} {d pc : Nat} {ls : List (Option Value)} {st : List Value} {S : ab_S} {I : ab_I} {J : ab_J} {P : ab_P} {Q : ab_Q} {ix D r ln : Nat} (hd : decode M.2.1 pc = .ok (.invokevirtual ix, 3)) (h1 : Cond.methodLink M.1.cls ix mX12_silentOnes.1 ∈ ab_good) (hs : S[r]? = some (17, ln)) (hdg : D + 1 ≤ d) (hsum : (st.map fun v => v.category).sum ≤ 8) (kk : ab_Call l G mX12_silentOnes D (.ref r :: []) S I J P (fun v S' I' J' P' => ab_WP l G M d (pc + 3) ls (ab_psh v st) S' I' J' P' 0 0 Q)) : ab_WP l G M d pc ls (.ref r :: st) S I J P 0 0 Q := bz_kv (g := mX12_silentOnes) (as := []) (cc := 12) rfl hd h1 tw_1624 tw_p78 tw_13 tw_1625 ⟨by decide +kernel, by decide +kernel, (by decide +kernel : (parseMethodDescriptor mX12_silentOnes.1.desc).map (fun d => d.parameters.length) = some 0)⟩ (by decide) rfl rfl rfl hdg hsum hs kk
def fX12_silentOnes_40 (I : ab_I) (a1 : Int32) : Option Int32 :=
  some a1
set_option maxRecDepth 100000 in
theorem fX12_silentOnes_40_ok {l : Launch} {G : ab_G} {S : ab_S} {I : ab_I} {J : ab_J} {P : ab_P} {Q : ab_Q} {a1 : Int32} (hB : bz_B S P) {x : Int32} (H : fX12_silentOnes_40 I a1 = some x) (K0 : Q (some (.int x)) S I J P) : ab_WP l G mX12_silentOnes 1 40 [some (.ref 73), some (.int a1), none] [] S I J P 0 0 Q := by
  unfold fX12_silentOnes_40 at H
  refine ab_iload_n (z := 1) (by decide +kernel) rfl rfl ?_
  obtain rfl := Option.some.inj H
  exact ab_iret (by decide +kernel) rfl (Nat.le_refl _) (Nat.le_refl _) K0
def fX12_silentOnes_27 (I : ab_I) (a2 : Int32) (s0 : Int32) (s1 : Int32) : Option ((Int32 × Int32) ⊕ Int32) :=
  (fX12_truth s1).bind fun u2 =>
  some (.inl ((s0 ||| (u2 <<< (a2 &&& 31))), (a2 + (1 : Int32))))
set_option maxRecDepth 100000 in
theorem fX12_silentOnes_27_ok {l : Launch} {G : ab_G} {S : ab_S} {I : ab_I} {J : ab_J} {P : ab_P} {Q : ab_Q} {a2 : Int32} {s0 : Int32} {s1 : Int32} (hB : bz_B S P) {x : ((Int32 × Int32) ⊕ Int32)} (H : fX12_silentOnes_27 I a2 s0 s1 = some x) (K1 : ∀ s, x = (.inl s) → ab_WP l G mX12_silentOnes 1 4 [some (.ref 73), some (.int s.1), some (.int s.2)] [] S I J P 0 0 Q) (K0 : ∀ r, x = (.inr r) → Q (some (.int r)) S I J P) : ab_WP l G mX12_silentOnes 1 27 [some (.ref 73), none, some (.int a2)] [.int s1, .int s0] S I J P 0 0 Q := by
  unfold fX12_silentOnes_27 at H
  obtain ⟨u2, hu2, H⟩ := ab_bd_of H
  refine ksX12_truth (D := 0) (ix := 279) (by decide +kernel) tw_1485 (by decide) (Nat.le_of_ble_eq_true rfl) (mX12_truth_ok hB hu2 ?_)
  change ab_WP l G mX12_silentOnes 1 30 [some (.ref 73), none, some (.int a2)] [.int u2, .int s0] S I J P 0 0 Q
  refine ab_iload_n (z := 2) (by decide +kernel) rfl rfl ?_
  refine ab_ishl (by decide +kernel) ?_
  refine ab_ior (by decide +kernel) ?_
  refine ab_istore_n (z := 1) (by decide +kernel) rfl (by decide) rfl ?_
  refine ab_ls (ls' := [some (.ref 73), some (.int (s0 ||| (u2 <<< (a2 &&& 31)))), some (.int a2)]) rfl ?_
  refine ab_iinc (i := 2) (z := 1) (v := (a2 + (1 : Int32))) (by decide +kernel) rfl rfl (by decide) rfl ?_
  refine ab_ls (ls' := [some (.ref 73), some (.int (s0 ||| (u2 <<< (a2 &&& 31)))), some (.int (a2 + (1 : Int32)))]) rfl ?_
  refine ab_goto (off := -33) (tgt := 4) (by decide +kernel) rfl ?_
  exact ab_wk (ab_le_some (ab_le_some (ab_le_some (ab_le_nil)))) (K1 ((s0 ||| (u2 <<< (a2 &&& 31))), (a2 + (1 : Int32))) (Option.some.inj H).symm)
def fX12_silentOnes_4 (I : ab_I) (a1 : Int32) (a2 : Int32) : Option ((Int32 × Int32) ⊕ Int32) :=
  if (I 73 40) ≤ a2 then
    (fX12_silentOnes_40 I a1).map .inr
  else
    ab_gd (ab_ix a2 5 = true) (
      if 0 ≤ (I 91 a2.toNatClampNeg) then
        fX12_silentOnes_27 I a2 a1 (0 : Int32)
      else
        fX12_silentOnes_27 I a2 a1 (1 : Int32)
    )
set_option maxRecDepth 100000 in
theorem fX12_silentOnes_4_ok {l : Launch} {G : ab_G} {S : ab_S} {I : ab_I} {J : ab_J} {P : ab_P} {Q : ab_Q} {a1 : Int32} {a2 : Int32} (hB : bz_B S P) {x : ((Int32 × Int32) ⊕ Int32)} (H : fX12_silentOnes_4 I a1 a2 = some x) (K1 : ∀ s, x = (.inl s) → ab_WP l G mX12_silentOnes 1 4 [some (.ref 73), some (.int s.1), some (.int s.2)] [] S I J P 0 0 Q) (K0 : ∀ r, x = (.inr r) → Q (some (.int r)) S I J P) : ab_WP l G mX12_silentOnes 1 4 [some (.ref 73), some (.int a1), some (.int a2)] [] S I J P 0 0 Q := by
  unfold fX12_silentOnes_4 at H
  refine ab_iload_n (z := 2) (by decide +kernel) rfl rfl ?_
  refine ab_aload_n (z := 0) (by decide +kernel) rfl rfl ?_
  refine gX12_40 (ix := 351) (by decide +kernel) tw_1121 (hB.1 73 _ rfl) ?_
  refine ab_icmp_ge (off := 31) (tgt := 40) (by decide +kernel) rfl (fun hc => ?_) (fun hc => ?_)
  · replace H := ab_ifp H hc
    obtain ⟨y1, Hy, hx⟩ := ab_mp_of H
    subst hx
    replace H := Hy
    exact ab_wk (ab_le_some (ab_le_some (ab_le_none (ab_le_nil)))) (fX12_silentOnes_40_ok hB H  (K0 _ rfl))
  · replace H := ab_ifn H hc
    refine ab_iload_n (z := 1) (by decide +kernel) rfl rfl ?_
    refine ab_aload_n (z := 0) (by decide +kernel) rfl rfl ?_
    refine gX12_48 (ix := 66) (by decide +kernel) tw_1129 (hB.1 73 _ rfl) (hB.2.1 96 (73, 48, 91) rfl) ?_
    refine ab_iload_n (z := 2) (by decide +kernel) rfl rfl ?_
    obtain ⟨hg, H⟩ := ab_gd_of H
    refine ab_iald (ln := 5) (by decide +kernel) (hB.1 91 _ rfl) (ab_ix_in hg) ?_
    refine ab_if_ge (off := 7) (tgt := 26) (by decide +kernel) rfl (fun hc => ?_) (fun hc => ?_)
    · replace H := ab_ifp H hc
      refine ab_iconst (z := 0) (v := (0 : Int32)) (by decide +kernel) (by decide) ?_
      exact ab_wk (ab_le_some (ab_le_none (ab_le_some (ab_le_nil)))) (fX12_silentOnes_27_ok hB H K1 K0)
    · replace H := ab_ifn H hc
      refine ab_iconst (z := 1) (v := (1 : Int32)) (by decide +kernel) (by decide) ?_
      refine ab_goto (off := 4) (tgt := 27) (by decide +kernel) rfl ?_
      exact ab_wk (ab_le_some (ab_le_none (ab_le_some (ab_le_nil)))) (fX12_silentOnes_27_ok hB H K1 K0)
def fX12_silentOnes (I : ab_I) : Option Int32 :=
  ab_it (fun s => fX12_silentOnes_4 I s.1 s.2) 5000 ((0 : Int32), (0 : Int32))
set_option maxRecDepth 100000 in
theorem mX12_silentOnes_ok {l : Launch} {G : ab_G} {S : ab_S} {I : ab_I} {J : ab_J} {P : ab_P} {Q : ab_Q} (hB : bz_B S P) {x : Int32} (H : fX12_silentOnes I = some x) (K0 : Q (some (.int x)) S I J P) : ab_Call l G mX12_silentOnes 1 [.ref 73] S I J P Q := by
  unfold fX12_silentOnes at H
  refine ab_enter rfl (Nat.le_of_ble_eq_true rfl) (ab_wk (ls' := [some (.ref 73), none, none]) (ab_le_some (ab_le_non0 (ab_le_non0 ab_le_nil))) ?_)
  refine ab_iconst (z := 0) (v := (0 : Int32)) (by decide +kernel) (by decide) ?_
  refine ab_istore_n (z := 1) (by decide +kernel) rfl (by decide) rfl ?_
  refine ab_ls (ls' := [some (.ref 73), some (.int (0 : Int32)), none]) rfl ?_
  refine ab_iconst (z := 0) (v := (0 : Int32)) (by decide +kernel) (by decide) ?_
  refine ab_istore_n (z := 2) (by decide +kernel) rfl (by decide) rfl ?_
  refine ab_ls (ls' := [some (.ref 73), some (.int (0 : Int32)), some (.int (0 : Int32))]) rfl ?_
  exact ab_wk (ab_le_some (ab_le_some (ab_le_some (ab_le_nil)))) (ab_iter (body := (fun s => fX12_silentOnes_4 I s.1 s.2)) (W := fun s => ab_WP l G mX12_silentOnes 1 4 [some (.ref 73), some (.int s.1), some (.int s.2)] [] S I J P 0 0 Q) (fun s y hb h1 h2 => fX12_silentOnes_4_ok hB hb h1 (fun r e => by have e2 := h2 _ e; subst e2; exact K0)) 5000 ((0 : Int32), (0 : Int32)) H)
abbrev mX12_silent : ab_M := (yX12_silent, cX12_silent, 1, some .int, 0, 0)
def fX12_silent (I : ab_I) : Option (Int32 × ab_I) :=
  (fX12_dayWithout (0 : Int32) I).bind fun u1 =>
  (fX12_silentOnes u1.2).bind fun u2 =>
  some (u2, u1.2)
set_option maxRecDepth 100000 in
theorem mX12_silent_ok {l : Launch} {G : ab_G} {S : ab_S} {I : ab_I} {J : ab_J} {P : ab_P} {Q : ab_Q} (hB : bz_B S P) {x : Int32 × ab_I} (H : fX12_silent I = some x) (K0 : Q (some (.int x.1)) S x.2 J P) : ab_Call l G mX12_silent 7 [.ref 73] S I J P Q := by
  unfold fX12_silent at H
  refine ab_enter rfl (Nat.le_of_ble_eq_true rfl) (ab_wk (ls' := [some (.ref 73)]) (ab_le_some (ab_le_nil)) ?_)
  refine ab_aload_n (z := 0) (by decide +kernel) rfl rfl ?_
  refine ab_iconst (z := 0) (v := (0 : Int32)) (by decide +kernel) (by decide) ?_
  obtain ⟨u1, hu1, H⟩ := ab_bd_of H
  refine kvX12_dayWithout (D := 6) (ix := 439) (by decide +kernel) tw_1618 (hB.1 73 _ rfl) (by decide) (Nat.le_of_ble_eq_true rfl) (mX12_dayWithout_ok hB hu1 ?_)
  change ab_WP l G mX12_silent 7 5 [some (.ref 73)] [.int u1.1] S u1.2 J P 0 0 Q
  refine ab_pop (by decide +kernel) rfl ?_
  refine ab_aload_n (z := 0) (by decide +kernel) rfl rfl ?_
  obtain ⟨u2, hu2, H⟩ := ab_bd_of H
  refine kvX12_silentOnes (D := 1) (ix := 442) (by decide +kernel) tw_1622 (hB.1 73 _ rfl) (by decide) (Nat.le_of_ble_eq_true rfl) (mX12_silentOnes_ok hB hu2 ?_)
  change ab_WP l G mX12_silent 7 10 [some (.ref 73)] [.int u2] S u1.2 J P 0 0 Q
  obtain rfl := Option.some.inj H
  exact ab_iret (by decide +kernel) rfl (Nat.le_refl _) (Nat.le_refl _) K0
abbrev mX12_swap : ab_M := (yX12_swap, cX12_swap, 4, none, 0, 0)
theorem kvX12_swap {l : Launch} {G : ab_G} {M : ab_M} {d pc : Nat} {ls : List (Option Value)} {st : List Value} {S : ab_S} {I : ab_I} {J : ab_J} {P : ab_P} {Q : ab_Q} {v0 v1 : Value} {ix D r ln : Nat} (hd : decode M.2.1 pc = .ok (.invokevirtual ix, 3)) (h1 : Cond.methodLink M.1.cls ix mX12_swap.1 ∈ ab_good) (hs : S[r]? = some (17, ln)) (hdg : D + 1 ≤ d) (hsum : (st.map fun v => v.category).sum ≤ 8) (kk : ab_Call l G mX12_swap D (.ref r :: [v0, v1]) S I J P (fun v S' I' J' P' => ab_WP l G M d (pc + 3) ls (ab_psh v st) S' I' J' P' 0 0 Q)) : ab_WP l G M d pc ls (v1 :: v0 :: .ref r :: st) S I J P 0 0 Q := bz_kv (g := mX12_swap) (as := [v0, v1]) (cc := 12) rfl hd h1 tw_1637 tw_p80 tw_13 tw_1638 ⟨by decide +kernel, by decide +kernel, (by decide +kernel : (parseMethodDescriptor mX12_swap.1.desc).map (fun d => d.parameters.length) = some 2)⟩ (by decide) rfl rfl rfl hdg hsum hs kk
def fX12_swap (a1 : Int32) (a2 : Int32) (I : ab_I) : Option ab_I :=
  ab_gd (ab_ix a1 6 = true) (
    ab_gd (ab_ix a2 6 = true) (
      ab_gd (ab_ix a1 6 = true) (
        ab_gd (ab_ix a2 6 = true) (
          some (ab_u (ab_u I 94 a1.toNatClampNeg (I 94 a2.toNatClampNeg)) 94 a2.toNatClampNeg (I 94 a1.toNatClampNeg))
        )
      )
    )
  )
set_option maxRecDepth 100000 in
theorem mX12_swap_ok {l : Launch} {G : ab_G} {S : ab_S} {I : ab_I} {J : ab_J} {P : ab_P} {Q : ab_Q} {a1 : Int32} {a2 : Int32} (hB : bz_B S P) {x : ab_I} (H : fX12_swap a1 a2 I = some x) (K0 : Q none S x J P) : ab_Call l G mX12_swap 0 [.ref 73, .int a1, .int a2] S I J P Q := by
  unfold fX12_swap at H
  refine ab_enter rfl (Nat.le_of_ble_eq_true rfl) (ab_wk (ls' := [some (.ref 73), some (.int a1), some (.int a2), none]) (ab_le_some (ab_le_some (ab_le_some (ab_le_non0 ab_le_nil)))) ?_)
  refine ab_aload_n (z := 0) (by decide +kernel) rfl rfl ?_
  refine gX12_53 (ix := 75) (by decide +kernel) tw_1134 (hB.1 73 _ rfl) (hB.2.1 99 (73, 53, 94) rfl) ?_
  refine ab_iload_n (z := 1) (by decide +kernel) rfl rfl ?_
  obtain ⟨hg, H⟩ := ab_gd_of H
  refine ab_iald (ln := 6) (by decide +kernel) (hB.1 94 _ rfl) (ab_ix_in hg) ?_
  refine ab_istore_n (z := 3) (by decide +kernel) rfl (by decide) rfl ?_
  refine ab_ls (ls' := [some (.ref 73), some (.int a1), some (.int a2), some (.int (I 94 a1.toNatClampNeg))]) rfl ?_
  refine ab_aload_n (z := 0) (by decide +kernel) rfl rfl ?_
  refine gX12_53 (ix := 75) (by decide +kernel) tw_1134 (hB.1 73 _ rfl) (hB.2.1 99 (73, 53, 94) rfl) ?_
  refine ab_iload_n (z := 1) (by decide +kernel) rfl rfl ?_
  refine ab_aload_n (z := 0) (by decide +kernel) rfl rfl ?_
  refine gX12_53 (ix := 75) (by decide +kernel) tw_1134 (hB.1 73 _ rfl) (hB.2.1 99 (73, 53, 94) rfl) ?_
  refine ab_iload_n (z := 2) (by decide +kernel) rfl rfl ?_
  obtain ⟨hg, H⟩ := ab_gd_of H
  refine ab_iald (ln := 6) (by decide +kernel) (hB.1 94 _ rfl) (ab_ix_in hg) ?_
  obtain ⟨hg, H⟩ := ab_gd_of H
  refine ab_iast (ln := 6) (by decide +kernel) (hB.1 94 _ rfl) (ab_ix_in hg) ?_
  refine ab_aload_n (z := 0) (by decide +kernel) rfl rfl ?_
  refine gX12_53 (ix := 75) (by decide +kernel) tw_1134 (hB.1 73 _ rfl) (hB.2.1 99 (73, 53, 94) rfl) ?_
  refine ab_iload_n (z := 2) (by decide +kernel) rfl rfl ?_
  refine ab_iload_n (z := 3) (by decide +kernel) rfl rfl ?_
  obtain ⟨hg, H⟩ := ab_gd_of H
  refine ab_iast (ln := 6) (by decide +kernel) (hB.1 94 _ rfl) (ab_ix_in hg) ?_
  obtain rfl := Option.some.inj H
  exact ab_vret (by decide +kernel) rfl (Nat.le_refl _) (Nat.le_refl _) K0
abbrev mX12_nextRow : ab_M := (yX12_nextRow, cX12_nextRow, 5, some .boolean, 0, 0)
theorem kvX12_nextRow {l : Launch} {G : ab_G} {M : ab_M} {d pc : Nat} {ls : List (Option Value)} {st : List Value} {S : ab_S} {I : ab_I} {J : ab_J} {P : ab_P} {Q : ab_Q} {ix D r ln : Nat} (hd : decode M.2.1 pc = .ok (.invokevirtual ix, 3)) (h1 : Cond.methodLink M.1.cls ix mX12_nextRow.1 ∈ ab_good) (hs : S[r]? = some (17, ln)) (hdg : D + 1 ≤ d) (hsum : (st.map fun v => v.category).sum ≤ 8) (kk : ab_Call l G mX12_nextRow D (.ref r :: []) S I J P (fun v S' I' J' P' => ab_WP l G M d (pc + 3) ls (ab_psh v st) S' I' J' P' 0 0 Q)) : ab_WP l G M d pc ls (.ref r :: st) S I J P 0 0 Q := bz_kv (g := mX12_nextRow) (as := []) (cc := 12) rfl hd h1 tw_1633 tw_p79 tw_13 tw_1634 ⟨by decide +kernel, by decide +kernel, (by decide +kernel : (parseMethodDescriptor mX12_nextRow.1.desc).map (fun d => d.parameters.length) = some 0)⟩ (by decide) rfl rfl rfl hdg hsum hs kk
def fX12_nextRow_108 (I : ab_I) : Option (Int32 × ab_I) :=
  some ((1 : Int32), I)
set_option maxRecDepth 100000 in
theorem fX12_nextRow_108_ok {l : Launch} {G : ab_G} {S : ab_S} {I : ab_I} {J : ab_J} {P : ab_P} {Q : ab_Q} (hB : bz_B S P) {x : Int32 × ab_I} (H : fX12_nextRow_108 I = some x) (K0 : Q (some (.int x.1)) S x.2 J P) : ab_WP l G mX12_nextRow 1 108 [some (.ref 73), none, none, none, none] [] S I J P 0 0 Q := by
  unfold fX12_nextRow_108 at H
  refine ab_iconst (z := 1) (v := (1 : Int32)) (by decide +kernel) (by decide) ?_
  obtain rfl := Option.some.inj H
  exact ab_zret (by decide +kernel) rfl (Nat.le_refl _) (Nat.le_refl _) (by decide) K0
def fX12_nextRow_86 (a3 : Int32) (a4 : Int32) (I : ab_I) : Option ((Int32 × Int32 × ab_I) ⊕ (Int32 × ab_I)) :=
  if a4 ≤ a3 then
    (fX12_nextRow_108 I).map .inr
  else
    (fX12_swap a3 a4 I).bind fun u6 =>
    some (.inl ((a3 + (1 : Int32)), (a4 + (-1 : Int32)), u6))
set_option maxRecDepth 100000 in
theorem fX12_nextRow_86_ok {l : Launch} {G : ab_G} {S : ab_S} {I : ab_I} {J : ab_J} {P : ab_P} {Q : ab_Q} {a3 : Int32} {a4 : Int32} (hB : bz_B S P) {x : ((Int32 × Int32 × ab_I) ⊕ (Int32 × ab_I))} (H : fX12_nextRow_86 a3 a4 I = some x) (K1 : ∀ s, x = (.inl s) → ab_WP l G mX12_nextRow 1 86 [some (.ref 73), none, none, some (.int s.1), some (.int s.2.1)] [] S s.2.2 J P 0 0 Q) (K0 : ∀ r, x = (.inr r) → Q (some (.int r.1)) S r.2 J P) : ab_WP l G mX12_nextRow 1 86 [some (.ref 73), none, none, some (.int a3), some (.int a4)] [] S I J P 0 0 Q := by
  unfold fX12_nextRow_86 at H
  refine ab_iload_n (z := 3) (by decide +kernel) rfl rfl ?_
  refine ab_iload (i := 4) (by decide +kernel) rfl ?_
  refine ab_icmp_ge (off := 19) (tgt := 108) (by decide +kernel) rfl (fun hc => ?_) (fun hc => ?_)
  · replace H := ab_ifp H hc
    obtain ⟨y5, Hy, hx⟩ := ab_mp_of H
    subst hx
    replace H := Hy
    exact ab_wk (ab_le_some (ab_le_none (ab_le_none (ab_le_none (ab_le_none (ab_le_nil)))))) (fX12_nextRow_108_ok hB H  (K0 _ rfl))
  · replace H := ab_ifn H hc
    refine ab_aload_n (z := 0) (by decide +kernel) rfl rfl ?_
    refine ab_iload_n (z := 3) (by decide +kernel) rfl rfl ?_
    refine ab_iload (i := 4) (by decide +kernel) rfl ?_
    obtain ⟨u6, hu6, H⟩ := ab_bd_of H
    refine kvX12_swap (D := 0) (ix := 445) (by decide +kernel) tw_1635 (hB.1 73 _ rfl) (by decide) (Nat.le_of_ble_eq_true rfl) (mX12_swap_ok hB hu6 ?_)
    change ab_WP l G mX12_nextRow 1 99 [some (.ref 73), none, none, some (.int a3), some (.int a4)] [] S u6 J P 0 0 Q
    refine ab_iinc (i := 3) (z := 1) (v := (a3 + (1 : Int32))) (by decide +kernel) rfl rfl (by decide) rfl ?_
    refine ab_ls (ls' := [some (.ref 73), none, none, some (.int (a3 + (1 : Int32))), some (.int a4)]) rfl ?_
    refine ab_iinc (i := 4) (z := -1) (v := (a4 + (-1 : Int32))) (by decide +kernel) rfl rfl (by decide) rfl ?_
    refine ab_ls (ls' := [some (.ref 73), none, none, some (.int (a3 + (1 : Int32))), some (.int (a4 + (-1 : Int32)))]) rfl ?_
    refine ab_goto (off := -19) (tgt := 86) (by decide +kernel) rfl ?_
    exact ab_wk (ab_le_some (ab_le_none (ab_le_none (ab_le_some (ab_le_some (ab_le_nil)))))) (K1 ((a3 + (1 : Int32)), (a4 + (-1 : Int32)), u6) (Option.some.inj H).symm)
def fX12_nextRow_68 (a1 : Int32) (a2 : Int32) (I : ab_I) : Option (Int32 × ab_I) :=
  (fX12_swap a1 a2 I).bind fun u4 =>
  ab_it (fun s => fX12_nextRow_86 s.1 s.2.1 s.2.2) 5000 ((a1 + (1 : Int32)), ((u4 73 40) - (1 : Int32)), u4)
set_option maxRecDepth 100000 in
theorem fX12_nextRow_68_ok {l : Launch} {G : ab_G} {S : ab_S} {I : ab_I} {J : ab_J} {P : ab_P} {Q : ab_Q} {a1 : Int32} {a2 : Int32} (hB : bz_B S P) {x : Int32 × ab_I} (H : fX12_nextRow_68 a1 a2 I = some x) (K0 : Q (some (.int x.1)) S x.2 J P) : ab_WP l G mX12_nextRow 1 68 [some (.ref 73), some (.int a1), some (.int a2), none, none] [] S I J P 0 0 Q := by
  unfold fX12_nextRow_68 at H
  refine ab_aload_n (z := 0) (by decide +kernel) rfl rfl ?_
  refine ab_iload_n (z := 1) (by decide +kernel) rfl rfl ?_
  refine ab_iload_n (z := 2) (by decide +kernel) rfl rfl ?_
  obtain ⟨u4, hu4, H⟩ := ab_bd_of H
  refine kvX12_swap (D := 0) (ix := 445) (by decide +kernel) tw_1635 (hB.1 73 _ rfl) (by decide) (Nat.le_of_ble_eq_true rfl) (mX12_swap_ok hB hu4 ?_)
  change ab_WP l G mX12_nextRow 1 74 [some (.ref 73), some (.int a1), some (.int a2), none, none] [] S u4 J P 0 0 Q
  refine ab_iload_n (z := 1) (by decide +kernel) rfl rfl ?_
  refine ab_iconst (z := 1) (v := (1 : Int32)) (by decide +kernel) (by decide) ?_
  refine ab_iadd (by decide +kernel) ?_
  refine ab_istore_n (z := 3) (by decide +kernel) rfl (by decide) rfl ?_
  refine ab_ls (ls' := [some (.ref 73), some (.int a1), some (.int a2), some (.int (a1 + (1 : Int32))), none]) rfl ?_
  refine ab_aload_n (z := 0) (by decide +kernel) rfl rfl ?_
  refine gX12_40 (ix := 351) (by decide +kernel) tw_1121 (hB.1 73 _ rfl) ?_
  refine ab_iconst (z := 1) (v := (1 : Int32)) (by decide +kernel) (by decide) ?_
  refine ab_isub (by decide +kernel) ?_
  refine ab_istore (i := 4) (by decide +kernel) (by decide) rfl ?_
  refine ab_ls (ls' := [some (.ref 73), some (.int a1), some (.int a2), some (.int (a1 + (1 : Int32))), some (.int ((u4 73 40) - (1 : Int32)))]) rfl ?_
  exact ab_wk (ab_le_some (ab_le_none (ab_le_none (ab_le_some (ab_le_some (ab_le_nil)))))) (ab_iter (body := (fun s => fX12_nextRow_86 s.1 s.2.1 s.2.2)) (W := fun s => ab_WP l G mX12_nextRow 1 86 [some (.ref 73), none, none, some (.int s.1), some (.int s.2.1)] [] S s.2.2 J P 0 0 Q) (fun s y hb h1 h2 => fX12_nextRow_86_ok hB hb h1 (fun r e => by have e2 := h2 _ e; subst e2; exact K0)) 5000 ((a1 + (1 : Int32)), ((u4 73 40) - (1 : Int32)), u4) H)
def fX12_nextRow_47 (a1 : Int32) (a2 : Int32) (I : ab_I) : Option ((Int32 × Int32 × ab_I) ⊕ (Int32 × ab_I)) :=
  ab_gd (ab_ix a2 6 = true) (
    ab_gd (ab_ix a1 6 = true) (
      if (I 94 a1.toNatClampNeg) ≤ (I 94 a2.toNatClampNeg) then
        (fX12_nextRow_68 a1 a2 I).map .inr
      else
        some (.inl (a1, (a2 + (-1 : Int32)), I))
    )
  )
set_option maxRecDepth 100000 in
theorem fX12_nextRow_47_ok {l : Launch} {G : ab_G} {S : ab_S} {I : ab_I} {J : ab_J} {P : ab_P} {Q : ab_Q} {a1 : Int32} {a2 : Int32} (hB : bz_B S P) {x : ((Int32 × Int32 × ab_I) ⊕ (Int32 × ab_I))} (H : fX12_nextRow_47 a1 a2 I = some x) (K1 : ∀ s, x = (.inl s) → ab_WP l G mX12_nextRow 1 47 [some (.ref 73), some (.int s.1), some (.int s.2.1), none, none] [] S s.2.2 J P 0 0 Q) (K0 : ∀ r, x = (.inr r) → Q (some (.int r.1)) S r.2 J P) : ab_WP l G mX12_nextRow 1 47 [some (.ref 73), some (.int a1), some (.int a2), none, none] [] S I J P 0 0 Q := by
  unfold fX12_nextRow_47 at H
  refine ab_aload_n (z := 0) (by decide +kernel) rfl rfl ?_
  refine gX12_53 (ix := 75) (by decide +kernel) tw_1134 (hB.1 73 _ rfl) (hB.2.1 99 (73, 53, 94) rfl) ?_
  refine ab_iload_n (z := 2) (by decide +kernel) rfl rfl ?_
  obtain ⟨hg, H⟩ := ab_gd_of H
  refine ab_iald (ln := 6) (by decide +kernel) (hB.1 94 _ rfl) (ab_ix_in hg) ?_
  refine ab_aload_n (z := 0) (by decide +kernel) rfl rfl ?_
  refine gX12_53 (ix := 75) (by decide +kernel) tw_1134 (hB.1 73 _ rfl) (hB.2.1 99 (73, 53, 94) rfl) ?_
  refine ab_iload_n (z := 1) (by decide +kernel) rfl rfl ?_
  obtain ⟨hg, H⟩ := ab_gd_of H
  refine ab_iald (ln := 6) (by decide +kernel) (hB.1 94 _ rfl) (ab_ix_in hg) ?_
  refine ab_icmp_ge (off := 9) (tgt := 68) (by decide +kernel) rfl (fun hc => ?_) (fun hc => ?_)
  · replace H := ab_ifp H hc
    obtain ⟨y3, Hy, hx⟩ := ab_mp_of H
    subst hx
    replace H := Hy
    exact ab_wk (ab_le_some (ab_le_some (ab_le_some (ab_le_none (ab_le_none (ab_le_nil)))))) (fX12_nextRow_68_ok hB H  (K0 _ rfl))
  · replace H := ab_ifn H hc
    refine ab_iinc (i := 2) (z := -1) (v := (a2 + (-1 : Int32))) (by decide +kernel) rfl rfl (by decide) rfl ?_
    refine ab_ls (ls' := [some (.ref 73), some (.int a1), some (.int (a2 + (-1 : Int32))), none, none]) rfl ?_
    refine ab_goto (off := -18) (tgt := 47) (by decide +kernel) rfl ?_
    exact ab_wk (ab_le_some (ab_le_some (ab_le_some (ab_le_none (ab_le_none (ab_le_nil)))))) (K1 (a1, (a2 + (-1 : Int32)), I) (Option.some.inj H).symm)
def fX12_nextRow_34 (a1 : Int32) (I : ab_I) : Option (Int32 × ab_I) :=
  if 0 ≤ a1 then
    ab_it (fun s => fX12_nextRow_47 s.1 s.2.1 s.2.2) 5000 (a1, ((I 73 40) - (1 : Int32)), I)
  else
    some ((0 : Int32), I)
set_option maxRecDepth 100000 in
theorem fX12_nextRow_34_ok {l : Launch} {G : ab_G} {S : ab_S} {I : ab_I} {J : ab_J} {P : ab_P} {Q : ab_Q} {a1 : Int32} (hB : bz_B S P) {x : Int32 × ab_I} (H : fX12_nextRow_34 a1 I = some x) (K0 : Q (some (.int x.1)) S x.2 J P) : ab_WP l G mX12_nextRow 1 34 [some (.ref 73), some (.int a1), none, none, none] [] S I J P 0 0 Q := by
  unfold fX12_nextRow_34 at H
  refine ab_iload_n (z := 1) (by decide +kernel) rfl rfl ?_
  refine ab_if_ge (off := 5) (tgt := 40) (by decide +kernel) rfl (fun hc => ?_) (fun hc => ?_)
  · replace H := ab_ifp H hc
    refine ab_aload_n (z := 0) (by decide +kernel) rfl rfl ?_
    refine gX12_40 (ix := 351) (by decide +kernel) tw_1121 (hB.1 73 _ rfl) ?_
    refine ab_iconst (z := 1) (v := (1 : Int32)) (by decide +kernel) (by decide) ?_
    refine ab_isub (by decide +kernel) ?_
    refine ab_istore_n (z := 2) (by decide +kernel) rfl (by decide) rfl ?_
    refine ab_ls (ls' := [some (.ref 73), some (.int a1), some (.int ((I 73 40) - (1 : Int32))), none, none]) rfl ?_
    exact ab_wk (ab_le_some (ab_le_some (ab_le_some (ab_le_none (ab_le_none (ab_le_nil)))))) (ab_iter (body := (fun s => fX12_nextRow_47 s.1 s.2.1 s.2.2)) (W := fun s => ab_WP l G mX12_nextRow 1 47 [some (.ref 73), some (.int s.1), some (.int s.2.1), none, none] [] S s.2.2 J P 0 0 Q) (fun s y hb h1 h2 => fX12_nextRow_47_ok hB hb h1 (fun r e => by have e2 := h2 _ e; subst e2; exact K0)) 5000 (a1, ((I 73 40) - (1 : Int32)), I) H)
  · replace H := ab_ifn H hc
    refine ab_iconst (z := 0) (v := (0 : Int32)) (by decide +kernel) (by decide) ?_
    obtain rfl := Option.some.inj H
    exact ab_zret (by decide +kernel) rfl (Nat.le_refl _) (Nat.le_refl _) (by decide) K0
def fX12_nextRow_7 (a1 : Int32) (I : ab_I) : Option ((Int32 × ab_I) ⊕ (Int32 × ab_I)) :=
  if a1 < 0 then
    (fX12_nextRow_34 a1 I).map .inr
  else
    ab_gd (ab_ix a1 6 = true) (
      ab_gd (ab_ix (a1 + (1 : Int32)) 6 = true) (
        if (I 94 a1.toNatClampNeg) ≤ (I 94 ((a1 + (1 : Int32)).toNatClampNeg)) then
          (fX12_nextRow_34 a1 I).map .inr
        else
          some (.inl ((a1 + (-1 : Int32)), I))
      )
    )
set_option maxRecDepth 100000 in
theorem fX12_nextRow_7_ok {l : Launch} {G : ab_G} {S : ab_S} {I : ab_I} {J : ab_J} {P : ab_P} {Q : ab_Q} {a1 : Int32} (hB : bz_B S P) {x : ((Int32 × ab_I) ⊕ (Int32 × ab_I))} (H : fX12_nextRow_7 a1 I = some x) (K1 : ∀ s, x = (.inl s) → ab_WP l G mX12_nextRow 1 7 [some (.ref 73), some (.int s.1), none, none, none] [] S s.2 J P 0 0 Q) (K0 : ∀ r, x = (.inr r) → Q (some (.int r.1)) S r.2 J P) : ab_WP l G mX12_nextRow 1 7 [some (.ref 73), some (.int a1), none, none, none] [] S I J P 0 0 Q := by
  unfold fX12_nextRow_7 at H
  refine ab_iload_n (z := 1) (by decide +kernel) rfl rfl ?_
  refine ab_if_lt (off := 26) (tgt := 34) (by decide +kernel) rfl (fun hc => ?_) (fun hc => ?_)
  · replace H := ab_ifp H hc
    obtain ⟨y1, Hy, hx⟩ := ab_mp_of H
    subst hx
    replace H := Hy
    exact ab_wk (ab_le_some (ab_le_some (ab_le_none (ab_le_none (ab_le_none (ab_le_nil)))))) (fX12_nextRow_34_ok hB H  (K0 _ rfl))
  · replace H := ab_ifn H hc
    refine ab_aload_n (z := 0) (by decide +kernel) rfl rfl ?_
    refine gX12_53 (ix := 75) (by decide +kernel) tw_1134 (hB.1 73 _ rfl) (hB.2.1 99 (73, 53, 94) rfl) ?_
    refine ab_iload_n (z := 1) (by decide +kernel) rfl rfl ?_
    obtain ⟨hg, H⟩ := ab_gd_of H
    refine ab_iald (ln := 6) (by decide +kernel) (hB.1 94 _ rfl) (ab_ix_in hg) ?_
    refine ab_aload_n (z := 0) (by decide +kernel) rfl rfl ?_
    refine gX12_53 (ix := 75) (by decide +kernel) tw_1134 (hB.1 73 _ rfl) (hB.2.1 99 (73, 53, 94) rfl) ?_
    refine ab_iload_n (z := 1) (by decide +kernel) rfl rfl ?_
    refine ab_iconst (z := 1) (v := (1 : Int32)) (by decide +kernel) (by decide) ?_
    refine ab_iadd (by decide +kernel) ?_
    obtain ⟨hg, H⟩ := ab_gd_of H
    refine ab_iald (ln := 6) (by decide +kernel) (hB.1 94 _ rfl) (ab_ix_in hg) ?_
    refine ab_icmp_le (off := 9) (tgt := 34) (by decide +kernel) rfl (fun hc => ?_) (fun hc => ?_)
    · replace H := ab_ifp H hc
      obtain ⟨y2, Hy, hx⟩ := ab_mp_of H
      subst hx
      replace H := Hy
      exact ab_wk (ab_le_some (ab_le_some (ab_le_none (ab_le_none (ab_le_none (ab_le_nil)))))) (fX12_nextRow_34_ok hB H  (K0 _ rfl))
    · replace H := ab_ifn H hc
      refine ab_iinc (i := 1) (z := -1) (v := (a1 + (-1 : Int32))) (by decide +kernel) rfl rfl (by decide) rfl ?_
      refine ab_ls (ls' := [some (.ref 73), some (.int (a1 + (-1 : Int32))), none, none, none]) rfl ?_
      refine ab_goto (off := -24) (tgt := 7) (by decide +kernel) rfl ?_
      exact ab_wk (ab_le_some (ab_le_some (ab_le_none (ab_le_none (ab_le_none (ab_le_nil)))))) (K1 ((a1 + (-1 : Int32)), I) (Option.some.inj H).symm)
def fX12_nextRow (I : ab_I) : Option (Int32 × ab_I) :=
  ab_it (fun s => fX12_nextRow_7 s.1 s.2) 5000 (((I 73 40) - (2 : Int32)), I)
set_option maxRecDepth 100000 in
theorem mX12_nextRow_ok {l : Launch} {G : ab_G} {S : ab_S} {I : ab_I} {J : ab_J} {P : ab_P} {Q : ab_Q} (hB : bz_B S P) {x : Int32 × ab_I} (H : fX12_nextRow I = some x) (K0 : Q (some (.int x.1)) S x.2 J P) : ab_Call l G mX12_nextRow 1 [.ref 73] S I J P Q := by
  unfold fX12_nextRow at H
  refine ab_enter rfl (Nat.le_of_ble_eq_true rfl) (ab_wk (ls' := [some (.ref 73), none, none, none, none]) (ab_le_some (ab_le_non0 (ab_le_non0 (ab_le_non0 (ab_le_non0 ab_le_nil))))) ?_)
  refine ab_aload_n (z := 0) (by decide +kernel) rfl rfl ?_
  refine gX12_40 (ix := 351) (by decide +kernel) tw_1121 (hB.1 73 _ rfl) ?_
  refine ab_iconst (z := 2) (v := (2 : Int32)) (by decide +kernel) (by decide) ?_
  refine ab_isub (by decide +kernel) ?_
  refine ab_istore_n (z := 1) (by decide +kernel) rfl (by decide) rfl ?_
  refine ab_ls (ls' := [some (.ref 73), some (.int ((I 73 40) - (2 : Int32))), none, none, none]) rfl ?_
  exact ab_wk (ab_le_some (ab_le_some (ab_le_none (ab_le_none (ab_le_none (ab_le_nil)))))) (ab_iter (body := (fun s => fX12_nextRow_7 s.1 s.2)) (W := fun s => ab_WP l G mX12_nextRow 1 7 [some (.ref 73), some (.int s.1), none, none, none] [] S s.2 J P 0 0 Q) (fun s y hb h1 h2 => fX12_nextRow_7_ok hB hb h1 (fun r e => by have e2 := h2 _ e; subst e2; exact K0)) 5000 (((I 73 40) - (2 : Int32)), I) H)
abbrev mX12_order : ab_M := (yX12_order, cX12_order, 5, some .int, 0, 0)
def fX12_order_119 (a1 : Int32) (I : ab_I) : Option (Int32 × ab_I) :=
  some (a1, (ab_u I 73 54 (I 73 40)))
set_option maxRecDepth 100000 in
theorem fX12_order_119_ok {l : Launch} {G : ab_G} {S : ab_S} {I : ab_I} {J : ab_J} {P : ab_P} {Q : ab_Q} {a1 : Int32} (hB : bz_B S P) {x : Int32 × ab_I} (H : fX12_order_119 a1 I = some x) (K0 : Q (some (.int x.1)) S x.2 J P) : ab_WP l G mX12_order 5 119 [some (.ref 73), some (.int a1), none, none, none] [] S I J P 0 0 Q := by
  unfold fX12_order_119 at H
  refine ab_aload_n (z := 0) (by decide +kernel) rfl rfl ?_
  refine ab_aload_n (z := 0) (by decide +kernel) rfl rfl ?_
  refine gX12_40 (ix := 351) (by decide +kernel) tw_1121 (hB.1 73 _ rfl) ?_
  refine pX12_54 (ix := 381) (by decide +kernel) tw_1135 (hB.1 73 _ rfl) ?_
  refine ab_iload_n (z := 1) (by decide +kernel) rfl rfl ?_
  obtain rfl := Option.some.inj H
  exact ab_iret (by decide +kernel) rfl (Nat.le_refl _) (Nat.le_refl _) K0
def fX12_order_111 (a1 : Int32) (I : ab_I) : Option ((Int32 × Int32 × ab_I) ⊕ (Int32 × ab_I)) :=
  (fX12_nextRow I).bind fun u6 =>
  some (.inl (a1, u6.1, u6.2))
set_option maxRecDepth 100000 in
theorem fX12_order_111_ok {l : Launch} {G : ab_G} {S : ab_S} {I : ab_I} {J : ab_J} {P : ab_P} {Q : ab_Q} {a1 : Int32} (hB : bz_B S P) {x : ((Int32 × Int32 × ab_I) ⊕ (Int32 × ab_I))} (H : fX12_order_111 a1 I = some x) (K1 : ∀ s, x = (.inl s) → ab_WP l G mX12_order 5 29 [some (.ref 73), some (.int s.1), some (.int s.2.1), none, none] [] S s.2.2 J P 0 0 Q) (K0 : ∀ r, x = (.inr r) → Q (some (.int r.1)) S r.2 J P) : ab_WP l G mX12_order 5 111 [some (.ref 73), some (.int a1), none, none, none] [] S I J P 0 0 Q := by
  unfold fX12_order_111 at H
  refine ab_aload_n (z := 0) (by decide +kernel) rfl rfl ?_
  obtain ⟨u6, hu6, H⟩ := ab_bd_of H
  refine kvX12_nextRow (D := 1) (ix := 449) (by decide +kernel) tw_1631 (hB.1 73 _ rfl) (by decide) (Nat.le_of_ble_eq_true rfl) (mX12_nextRow_ok hB hu6 ?_)
  change ab_WP l G mX12_order 5 115 [some (.ref 73), some (.int a1), none, none, none] [.int u6.1] S u6.2 J P 0 0 Q
  refine ab_istore_n (z := 2) (by decide +kernel) rfl (by decide) rfl ?_
  refine ab_ls (ls' := [some (.ref 73), some (.int a1), some (.int u6.1), none, none]) rfl ?_
  refine ab_goto (off := -87) (tgt := 29) (by decide +kernel) rfl ?_
  exact ab_wk (ab_le_some (ab_le_some (ab_le_some (ab_le_none (ab_le_none (ab_le_nil)))))) (K1 (a1, u6.1, u6.2) (Option.some.inj H).symm)
def fX12_order_82 (a1 : Int32) (a4 : Int32) (I : ab_I) : Option ((Int32 × Int32 × ab_I) ⊕ ((Int32 × Int32 × ab_I) ⊕ (Int32 × ab_I))) :=
  if (I 73 40) ≤ a4 then
    (fX12_order_111 a1 I).map .inr
  else
    ab_gd (ab_ix a4 6 = true) (
      ab_gd (ab_ix a4 6 = true) (
        some (.inl (a1, (a4 + (1 : Int32)), (ab_u I 93 a4.toNatClampNeg (I 94 a4.toNatClampNeg))))
      )
    )
set_option maxRecDepth 100000 in
theorem fX12_order_82_ok {l : Launch} {G : ab_G} {S : ab_S} {I : ab_I} {J : ab_J} {P : ab_P} {Q : ab_Q} {a1 : Int32} {a4 : Int32} (hB : bz_B S P) {x : ((Int32 × Int32 × ab_I) ⊕ ((Int32 × Int32 × ab_I) ⊕ (Int32 × ab_I)))} (H : fX12_order_82 a1 a4 I = some x) (K2 : ∀ s, x = (.inl s) → ab_WP l G mX12_order 5 82 [some (.ref 73), some (.int s.1), none, none, some (.int s.2.1)] [] S s.2.2 J P 0 0 Q) (K1 : ∀ s, x = (.inr (.inl s)) → ab_WP l G mX12_order 5 29 [some (.ref 73), some (.int s.1), some (.int s.2.1), none, none] [] S s.2.2 J P 0 0 Q) (K0 : ∀ r, x = (.inr (.inr r)) → Q (some (.int r.1)) S r.2 J P) : ab_WP l G mX12_order 5 82 [some (.ref 73), some (.int a1), none, none, some (.int a4)] [] S I J P 0 0 Q := by
  unfold fX12_order_82 at H
  refine ab_iload (i := 4) (by decide +kernel) rfl ?_
  refine ab_aload_n (z := 0) (by decide +kernel) rfl rfl ?_
  refine gX12_40 (ix := 351) (by decide +kernel) tw_1121 (hB.1 73 _ rfl) ?_
  refine ab_icmp_ge (off := 23) (tgt := 111) (by decide +kernel) rfl (fun hc => ?_) (fun hc => ?_)
  · replace H := ab_ifp H hc
    obtain ⟨y7, Hy, hx⟩ := ab_mp_of H
    subst hx
    replace H := Hy
    exact ab_wk (ab_le_some (ab_le_some (ab_le_none (ab_le_none (ab_le_none (ab_le_nil)))))) (fX12_order_111_ok hB H (fun s e => K1 s (by rw [e])) (fun r e => K0 r (by rw [e])))
  · replace H := ab_ifn H hc
    refine ab_aload_n (z := 0) (by decide +kernel) rfl rfl ?_
    refine gX12_52 (ix := 72) (by decide +kernel) tw_1133 (hB.1 73 _ rfl) (hB.2.1 98 (73, 52, 93) rfl) ?_
    refine ab_iload (i := 4) (by decide +kernel) rfl ?_
    refine ab_aload_n (z := 0) (by decide +kernel) rfl rfl ?_
    refine gX12_53 (ix := 75) (by decide +kernel) tw_1134 (hB.1 73 _ rfl) (hB.2.1 99 (73, 53, 94) rfl) ?_
    refine ab_iload (i := 4) (by decide +kernel) rfl ?_
    obtain ⟨hg, H⟩ := ab_gd_of H
    refine ab_iald (ln := 6) (by decide +kernel) (hB.1 94 _ rfl) (ab_ix_in hg) ?_
    obtain ⟨hg, H⟩ := ab_gd_of H
    refine ab_iast (ln := 6) (by decide +kernel) (hB.1 93 _ rfl) (ab_ix_in hg) ?_
    refine ab_iinc (i := 4) (z := 1) (v := (a4 + (1 : Int32))) (by decide +kernel) rfl rfl (by decide) rfl ?_
    refine ab_ls (ls' := [some (.ref 73), some (.int a1), none, none, some (.int (a4 + (1 : Int32)))]) rfl ?_
    refine ab_goto (off := -26) (tgt := 82) (by decide +kernel) rfl ?_
    exact ab_wk (ab_le_some (ab_le_some (ab_le_none (ab_le_none (ab_le_some (ab_le_nil)))))) (K2 (a1, (a4 + (1 : Int32)), (ab_u I 93 a4.toNatClampNeg (I 94 a4.toNatClampNeg))) (Option.some.inj H).symm)
def fX12_order_72 (a1 : Int32) (a3 : Int32) (I : ab_I) : Option ((Int32 × Int32 × ab_I) ⊕ (Int32 × ab_I)) :=
  if a1 ≤ a3 then
    fX12_order_111 a1 I
  else
    ab_it (fun s => fX12_order_82 s.1 s.2.1 s.2.2) 5000 (a3, (0 : Int32), I)
set_option maxRecDepth 100000 in
theorem fX12_order_72_ok {l : Launch} {G : ab_G} {S : ab_S} {I : ab_I} {J : ab_J} {P : ab_P} {Q : ab_Q} {a1 : Int32} {a3 : Int32} (hB : bz_B S P) {x : ((Int32 × Int32 × ab_I) ⊕ (Int32 × ab_I))} (H : fX12_order_72 a1 a3 I = some x) (K1 : ∀ s, x = (.inl s) → ab_WP l G mX12_order 5 29 [some (.ref 73), some (.int s.1), some (.int s.2.1), none, none] [] S s.2.2 J P 0 0 Q) (K0 : ∀ r, x = (.inr r) → Q (some (.int r.1)) S r.2 J P) : ab_WP l G mX12_order 5 72 [some (.ref 73), some (.int a1), none, some (.int a3), none] [] S I J P 0 0 Q := by
  unfold fX12_order_72 at H
  refine ab_iload_n (z := 3) (by decide +kernel) rfl rfl ?_
  refine ab_iload_n (z := 1) (by decide +kernel) rfl rfl ?_
  refine ab_icmp_ge (off := 37) (tgt := 111) (by decide +kernel) rfl (fun hc => ?_) (fun hc => ?_)
  · replace H := ab_ifp H hc
    exact ab_wk (ab_le_some (ab_le_some (ab_le_none (ab_le_none (ab_le_none (ab_le_nil)))))) (fX12_order_111_ok hB H K1 K0)
  · replace H := ab_ifn H hc
    refine ab_iload_n (z := 3) (by decide +kernel) rfl rfl ?_
    refine ab_istore_n (z := 1) (by decide +kernel) rfl (by decide) rfl ?_
    refine ab_ls (ls' := [some (.ref 73), some (.int a3), none, some (.int a3), none]) rfl ?_
    refine ab_iconst (z := 0) (v := (0 : Int32)) (by decide +kernel) (by decide) ?_
    refine ab_istore (i := 4) (by decide +kernel) (by decide) rfl ?_
    refine ab_ls (ls' := [some (.ref 73), some (.int a3), none, some (.int a3), some (.int (0 : Int32))]) rfl ?_
    exact ab_wk (ab_le_some (ab_le_some (ab_le_none (ab_le_none (ab_le_some (ab_le_nil)))))) (ab_iter (body := (fun s => fX12_order_82 s.1 s.2.1 s.2.2)) (W := fun s => ab_WP l G mX12_order 5 82 [some (.ref 73), some (.int s.1), none, none, some (.int s.2.1)] [] S s.2.2 J P 0 0 Q) (fun s y hb h1 h2 => fX12_order_82_ok hB hb h1 (fun s e => K1 s (h2 _ e).symm) (fun r e => K0 r (h2 _ e).symm)) 5000 (a3, (0 : Int32), I) H)
def fX12_order_42 (a1 : Int32) (a3 : Int32) (a4 : Int32) (I : ab_I) : Option ((Int32 × Int32 × Int32 × ab_I) ⊕ ((Int32 × Int32 × ab_I) ⊕ (Int32 × ab_I))) :=
  if (I 73 40) ≤ a4 then
    (fX12_order_72 a1 a3 I).map .inr
  else
    ab_gd (ab_ix a4 6 = true) (
      (fX12_ring (I 94 a4.toNatClampNeg) (0 : Int32) I).bind fun u5 =>
      some (.inl (a1, (a3 + u5.1), (a4 + (1 : Int32)), u5.2))
    )
set_option maxRecDepth 100000 in
theorem fX12_order_42_ok {l : Launch} {G : ab_G} {S : ab_S} {I : ab_I} {J : ab_J} {P : ab_P} {Q : ab_Q} {a1 : Int32} {a3 : Int32} {a4 : Int32} (hB : bz_B S P) {x : ((Int32 × Int32 × Int32 × ab_I) ⊕ ((Int32 × Int32 × ab_I) ⊕ (Int32 × ab_I)))} (H : fX12_order_42 a1 a3 a4 I = some x) (K2 : ∀ s, x = (.inl s) → ab_WP l G mX12_order 5 42 [some (.ref 73), some (.int s.1), none, some (.int s.2.1), some (.int s.2.2.1)] [] S s.2.2.2 J P 0 0 Q) (K1 : ∀ s, x = (.inr (.inl s)) → ab_WP l G mX12_order 5 29 [some (.ref 73), some (.int s.1), some (.int s.2.1), none, none] [] S s.2.2 J P 0 0 Q) (K0 : ∀ r, x = (.inr (.inr r)) → Q (some (.int r.1)) S r.2 J P) : ab_WP l G mX12_order 5 42 [some (.ref 73), some (.int a1), none, some (.int a3), some (.int a4)] [] S I J P 0 0 Q := by
  unfold fX12_order_42 at H
  refine ab_iload (i := 4) (by decide +kernel) rfl ?_
  refine ab_aload_n (z := 0) (by decide +kernel) rfl rfl ?_
  refine gX12_40 (ix := 351) (by decide +kernel) tw_1121 (hB.1 73 _ rfl) ?_
  refine ab_icmp_ge (off := 24) (tgt := 72) (by decide +kernel) rfl (fun hc => ?_) (fun hc => ?_)
  · replace H := ab_ifp H hc
    obtain ⟨y4, Hy, hx⟩ := ab_mp_of H
    subst hx
    replace H := Hy
    exact ab_wk (ab_le_some (ab_le_some (ab_le_none (ab_le_some (ab_le_none (ab_le_nil)))))) (fX12_order_72_ok hB H (fun s e => K1 s (by rw [e])) (fun r e => K0 r (by rw [e])))
  · replace H := ab_ifn H hc
    refine ab_iload_n (z := 3) (by decide +kernel) rfl rfl ?_
    refine ab_aload_n (z := 0) (by decide +kernel) rfl rfl ?_
    refine ab_aload_n (z := 0) (by decide +kernel) rfl rfl ?_
    refine gX12_53 (ix := 75) (by decide +kernel) tw_1134 (hB.1 73 _ rfl) (hB.2.1 99 (73, 53, 94) rfl) ?_
    refine ab_iload (i := 4) (by decide +kernel) rfl ?_
    obtain ⟨hg, H⟩ := ab_gd_of H
    refine ab_iald (ln := 6) (by decide +kernel) (hB.1 94 _ rfl) (ab_ix_in hg) ?_
    refine ab_iconst (z := 0) (v := (0 : Int32)) (by decide +kernel) (by decide) ?_
    obtain ⟨u5, hu5, H⟩ := ab_bd_of H
    refine kvX12_ring (D := 4) (ix := 404) (by decide +kernel) tw_1500 (hB.1 73 _ rfl) (by decide) (Nat.le_of_ble_eq_true rfl) (mX12_ring_ok hB hu5 ?_)
    change ab_WP l G mX12_order 5 64 [some (.ref 73), some (.int a1), none, some (.int a3), some (.int a4)] [.int u5.1, .int a3] S u5.2 J P 0 0 Q
    refine ab_iadd (by decide +kernel) ?_
    refine ab_istore_n (z := 3) (by decide +kernel) rfl (by decide) rfl ?_
    refine ab_ls (ls' := [some (.ref 73), some (.int a1), none, some (.int (a3 + u5.1)), some (.int a4)]) rfl ?_
    refine ab_iinc (i := 4) (z := 1) (v := (a4 + (1 : Int32))) (by decide +kernel) rfl rfl (by decide) rfl ?_
    refine ab_ls (ls' := [some (.ref 73), some (.int a1), none, some (.int (a3 + u5.1)), some (.int (a4 + (1 : Int32)))]) rfl ?_
    refine ab_goto (off := -27) (tgt := 42) (by decide +kernel) rfl ?_
    exact ab_wk (ab_le_some (ab_le_some (ab_le_none (ab_le_some (ab_le_some (ab_le_nil)))))) (K2 (a1, (a3 + u5.1), (a4 + (1 : Int32)), u5.2) (Option.some.inj H).symm)
def fX12_order_29 (a1 : Int32) (a2 : Int32) (I : ab_I) : Option ((Int32 × Int32 × ab_I) ⊕ (Int32 × ab_I)) :=
  if a2 = 0 then
    (fX12_order_119 a1 I).map .inr
  else
    (fX12_fill I).bind fun u3 =>
    ab_it (fun s => fX12_order_42 s.1 s.2.1 s.2.2.1 s.2.2.2) 5000 (a1, (0 : Int32), (0 : Int32), u3)
set_option maxRecDepth 100000 in
theorem fX12_order_29_ok {l : Launch} {G : ab_G} {S : ab_S} {I : ab_I} {J : ab_J} {P : ab_P} {Q : ab_Q} {a1 : Int32} {a2 : Int32} (hB : bz_B S P) {x : ((Int32 × Int32 × ab_I) ⊕ (Int32 × ab_I))} (H : fX12_order_29 a1 a2 I = some x) (K1 : ∀ s, x = (.inl s) → ab_WP l G mX12_order 5 29 [some (.ref 73), some (.int s.1), some (.int s.2.1), none, none] [] S s.2.2 J P 0 0 Q) (K0 : ∀ r, x = (.inr r) → Q (some (.int r.1)) S r.2 J P) : ab_WP l G mX12_order 5 29 [some (.ref 73), some (.int a1), some (.int a2), none, none] [] S I J P 0 0 Q := by
  unfold fX12_order_29 at H
  refine ab_iload_n (z := 2) (by decide +kernel) rfl rfl ?_
  refine ab_if_eq (off := 89) (tgt := 119) (by decide +kernel) rfl (fun hc => ?_) (fun hc => ?_)
  · replace H := ab_ifp H hc
    obtain ⟨y2, Hy, hx⟩ := ab_mp_of H
    subst hx
    replace H := Hy
    exact ab_wk (ab_le_some (ab_le_some (ab_le_none (ab_le_none (ab_le_none (ab_le_nil)))))) (fX12_order_119_ok hB H  (K0 _ rfl))
  · replace H := ab_ifn H hc
    refine ab_aload_n (z := 0) (by decide +kernel) rfl rfl ?_
    obtain ⟨u3, hu3, H⟩ := ab_bd_of H
    refine kvX12_fill (D := 0) (ix := 411) (by decide +kernel) tw_1477 (hB.1 73 _ rfl) (by decide) (Nat.le_of_ble_eq_true rfl) (mX12_fill_ok hB hu3 ?_)
    change ab_WP l G mX12_order 5 37 [some (.ref 73), some (.int a1), some (.int a2), none, none] [] S u3 J P 0 0 Q
    refine ab_iconst (z := 0) (v := (0 : Int32)) (by decide +kernel) (by decide) ?_
    refine ab_istore_n (z := 3) (by decide +kernel) rfl (by decide) rfl ?_
    refine ab_ls (ls' := [some (.ref 73), some (.int a1), some (.int a2), some (.int (0 : Int32)), none]) rfl ?_
    refine ab_iconst (z := 0) (v := (0 : Int32)) (by decide +kernel) (by decide) ?_
    refine ab_istore (i := 4) (by decide +kernel) (by decide) rfl ?_
    refine ab_ls (ls' := [some (.ref 73), some (.int a1), some (.int a2), some (.int (0 : Int32)), some (.int (0 : Int32))]) rfl ?_
    exact ab_wk (ab_le_some (ab_le_some (ab_le_none (ab_le_some (ab_le_some (ab_le_nil)))))) (ab_iter (body := (fun s => fX12_order_42 s.1 s.2.1 s.2.2.1 s.2.2.2)) (W := fun s => ab_WP l G mX12_order 5 42 [some (.ref 73), some (.int s.1), none, some (.int s.2.1), some (.int s.2.2.1)] [] S s.2.2.2 J P 0 0 Q) (fun s y hb h1 h2 => fX12_order_42_ok hB hb h1 (fun s e => K1 s (h2 _ e).symm) (fun r e => K0 r (h2 _ e).symm)) 5000 (a1, (0 : Int32), (0 : Int32), u3) H)
def fX12_order_23 (I : ab_I) : Option (Int32 × ab_I) :=
  ab_it (fun s => fX12_order_29 s.1 s.2.1 s.2.2) 5000 ((1000000 : Int32), (1 : Int32), I)
set_option maxRecDepth 100000 in
theorem fX12_order_23_ok {l : Launch} {G : ab_G} {S : ab_S} {I : ab_I} {J : ab_J} {P : ab_P} {Q : ab_Q} (hB : bz_B S P) {x : Int32 × ab_I} (H : fX12_order_23 I = some x) (K0 : Q (some (.int x.1)) S x.2 J P) : ab_WP l G mX12_order 5 23 [some (.ref 73), none, none, none, none] [] S I J P 0 0 Q := by
  unfold fX12_order_23 at H
  refine ab_ldcw (ix := 448) (v := (1000000 : Int32)) (by decide +kernel) tw_1630 ?_
  refine ab_istore_n (z := 1) (by decide +kernel) rfl (by decide) rfl ?_
  refine ab_ls (ls' := [some (.ref 73), some (.int (1000000 : Int32)), none, none, none]) rfl ?_
  refine ab_iconst (z := 1) (v := (1 : Int32)) (by decide +kernel) (by decide) ?_
  refine ab_istore_n (z := 2) (by decide +kernel) rfl (by decide) rfl ?_
  refine ab_ls (ls' := [some (.ref 73), some (.int (1000000 : Int32)), some (.int (1 : Int32)), none, none]) rfl ?_
  exact ab_wk (ab_le_some (ab_le_some (ab_le_some (ab_le_none (ab_le_none (ab_le_nil)))))) (ab_iter (body := (fun s => fX12_order_29 s.1 s.2.1 s.2.2)) (W := fun s => ab_WP l G mX12_order 5 29 [some (.ref 73), some (.int s.1), some (.int s.2.1), none, none] [] S s.2.2 J P 0 0 Q) (fun s y hb h1 h2 => fX12_order_29_ok hB hb h1 (fun r e => by have e2 := h2 _ e; subst e2; exact K0)) 5000 ((1000000 : Int32), (1 : Int32), I) H)
def fX12_order_2 (a1 : Int32) (I : ab_I) : Option ((Int32 × ab_I) ⊕ (Int32 × ab_I)) :=
  if (I 73 40) ≤ a1 then
    (fX12_order_23 I).map .inr
  else
    ab_gd (ab_ix a1 6 = true) (
      some (.inl ((a1 + (1 : Int32)), (ab_u I 94 a1.toNatClampNeg a1)))
    )
set_option maxRecDepth 100000 in
theorem fX12_order_2_ok {l : Launch} {G : ab_G} {S : ab_S} {I : ab_I} {J : ab_J} {P : ab_P} {Q : ab_Q} {a1 : Int32} (hB : bz_B S P) {x : ((Int32 × ab_I) ⊕ (Int32 × ab_I))} (H : fX12_order_2 a1 I = some x) (K1 : ∀ s, x = (.inl s) → ab_WP l G mX12_order 5 2 [some (.ref 73), some (.int s.1), none, none, none] [] S s.2 J P 0 0 Q) (K0 : ∀ r, x = (.inr r) → Q (some (.int r.1)) S r.2 J P) : ab_WP l G mX12_order 5 2 [some (.ref 73), some (.int a1), none, none, none] [] S I J P 0 0 Q := by
  unfold fX12_order_2 at H
  refine ab_iload_n (z := 1) (by decide +kernel) rfl rfl ?_
  refine ab_aload_n (z := 0) (by decide +kernel) rfl rfl ?_
  refine gX12_40 (ix := 351) (by decide +kernel) tw_1121 (hB.1 73 _ rfl) ?_
  refine ab_icmp_ge (off := 16) (tgt := 23) (by decide +kernel) rfl (fun hc => ?_) (fun hc => ?_)
  · replace H := ab_ifp H hc
    obtain ⟨y1, Hy, hx⟩ := ab_mp_of H
    subst hx
    replace H := Hy
    exact ab_wk (ab_le_some (ab_le_none (ab_le_none (ab_le_none (ab_le_none (ab_le_nil)))))) (fX12_order_23_ok hB H  (K0 _ rfl))
  · replace H := ab_ifn H hc
    refine ab_aload_n (z := 0) (by decide +kernel) rfl rfl ?_
    refine gX12_53 (ix := 75) (by decide +kernel) tw_1134 (hB.1 73 _ rfl) (hB.2.1 99 (73, 53, 94) rfl) ?_
    refine ab_iload_n (z := 1) (by decide +kernel) rfl rfl ?_
    refine ab_iload_n (z := 1) (by decide +kernel) rfl rfl ?_
    obtain ⟨hg, H⟩ := ab_gd_of H
    refine ab_iast (ln := 6) (by decide +kernel) (hB.1 94 _ rfl) (ab_ix_in hg) ?_
    refine ab_iinc (i := 1) (z := 1) (v := (a1 + (1 : Int32))) (by decide +kernel) rfl rfl (by decide) rfl ?_
    refine ab_ls (ls' := [some (.ref 73), some (.int (a1 + (1 : Int32))), none, none, none]) rfl ?_
    refine ab_goto (off := -18) (tgt := 2) (by decide +kernel) rfl ?_
    exact ab_wk (ab_le_some (ab_le_some (ab_le_none (ab_le_none (ab_le_none (ab_le_nil)))))) (K1 ((a1 + (1 : Int32)), (ab_u I 94 a1.toNatClampNeg a1)) (Option.some.inj H).symm)
def fX12_order (I : ab_I) : Option (Int32 × ab_I) :=
  ab_it (fun s => fX12_order_2 s.1 s.2) 5000 ((0 : Int32), I)
set_option maxRecDepth 100000 in
theorem mX12_order_ok {l : Launch} {G : ab_G} {S : ab_S} {I : ab_I} {J : ab_J} {P : ab_P} {Q : ab_Q} (hB : bz_B S P) {x : Int32 × ab_I} (H : fX12_order I = some x) (K0 : Q (some (.int x.1)) S x.2 J P) : ab_Call l G mX12_order 5 [.ref 73] S I J P Q := by
  unfold fX12_order at H
  refine ab_enter rfl (Nat.le_of_ble_eq_true rfl) (ab_wk (ls' := [some (.ref 73), none, none, none, none]) (ab_le_some (ab_le_non0 (ab_le_non0 (ab_le_non0 (ab_le_non0 ab_le_nil))))) ?_)
  refine ab_iconst (z := 0) (v := (0 : Int32)) (by decide +kernel) (by decide) ?_
  refine ab_istore_n (z := 1) (by decide +kernel) rfl (by decide) rfl ?_
  refine ab_ls (ls' := [some (.ref 73), some (.int (0 : Int32)), none, none, none]) rfl ?_
  exact ab_wk (ab_le_some (ab_le_some (ab_le_none (ab_le_none (ab_le_none (ab_le_nil)))))) (ab_iter (body := (fun s => fX12_order_2 s.1 s.2)) (W := fun s => ab_WP l G mX12_order 5 2 [some (.ref 73), some (.int s.1), none, none, none] [] S s.2 J P 0 0 Q) (fun s y hb h1 h2 => fX12_order_2_ok hB hb h1 (fun r e => by have e2 := h2 _ e; subst e2; exact K0)) 5000 ((0 : Int32), I) H)
abbrev mX12_power : ab_M := (yX12_power, cX12_power, 4, some .int, 0, 0)
theorem ksX12_power {l : Launch} {G : ab_G} {M : ab_M} {d pc : Nat} {ls : List (Option Value)} {st : List Value} {S : ab_S} {I : ab_I} {J : ab_J} {P : ab_P} {Q : ab_Q} {v0 v1 : Value} {ix D : Nat} (hd : decode M.2.1 pc = .ok (.invokestatic ix, 3)) (h1 : Cond.methodLink M.1.cls ix mX12_power.1 ∈ ab_good) (hdg : D + 1 ≤ d) (hsum : (st.map fun v => v.category).sum ≤ 8) (kk : ab_Call l G mX12_power D [v0, v1] S I J P (fun v S' I' J' P' => ab_WP l G M d (pc + 3) ls (ab_psh v st) S' I' J' P' 0 0 Q)) : ab_WP l G M d pc ls (v1 :: v0 :: st) S I J P 0 0 Q := bz_ks (g := mX12_power) (as := [v0, v1]) rfl hd h1 tw_1644 tw_13 tw_1645 ⟨by decide +kernel, by decide +kernel, (by decide +kernel : (parseMethodDescriptor mX12_power.1.desc).map (fun d => d.parameters.length) = some 2)⟩ (by decide) rfl hdg hsum kk
def fX12_power_19 (a0 : Int32) (a1 : Int32) (a2 : Int32) : Option Int32 :=
  some a2
set_option maxRecDepth 100000 in
theorem fX12_power_19_ok {l : Launch} {G : ab_G} {S : ab_S} {I : ab_I} {J : ab_J} {P : ab_P} {Q : ab_Q} {a0 : Int32} {a1 : Int32} {a2 : Int32} (hB : bz_B S P) {x : Int32} (H : fX12_power_19 a0 a1 a2 = some x) (K0 : Q (some (.int x)) S I J P) : ab_WP l G mX12_power 0 19 [some (.int a0), some (.int a1), some (.int a2), none] [] S I J P 0 0 Q := by
  unfold fX12_power_19 at H
  refine ab_iload_n (z := 2) (by decide +kernel) rfl rfl ?_
  obtain rfl := Option.some.inj H
  exact ab_iret (by decide +kernel) rfl (Nat.le_refl _) (Nat.le_refl _) K0
def fX12_power_4 (a0 : Int32) (a1 : Int32) (a2 : Int32) (a3 : Int32) : Option ((Int32 × Int32) ⊕ Int32) :=
  if a1 ≤ a3 then
    (fX12_power_19 a0 a1 a2).map .inr
  else
    some (.inl ((a2 * a0), (a3 + (1 : Int32))))
set_option maxRecDepth 100000 in
theorem fX12_power_4_ok {l : Launch} {G : ab_G} {S : ab_S} {I : ab_I} {J : ab_J} {P : ab_P} {Q : ab_Q} {a0 : Int32} {a1 : Int32} {a2 : Int32} {a3 : Int32} (hB : bz_B S P) {x : ((Int32 × Int32) ⊕ Int32)} (H : fX12_power_4 a0 a1 a2 a3 = some x) (K1 : ∀ s, x = (.inl s) → ab_WP l G mX12_power 0 4 [some (.int a0), some (.int a1), some (.int s.1), some (.int s.2)] [] S I J P 0 0 Q) (K0 : ∀ r, x = (.inr r) → Q (some (.int r)) S I J P) : ab_WP l G mX12_power 0 4 [some (.int a0), some (.int a1), some (.int a2), some (.int a3)] [] S I J P 0 0 Q := by
  unfold fX12_power_4 at H
  refine ab_iload_n (z := 3) (by decide +kernel) rfl rfl ?_
  refine ab_iload_n (z := 1) (by decide +kernel) rfl rfl ?_
  refine ab_icmp_ge (off := 13) (tgt := 19) (by decide +kernel) rfl (fun hc => ?_) (fun hc => ?_)
  · replace H := ab_ifp H hc
    obtain ⟨y1, Hy, hx⟩ := ab_mp_of H
    subst hx
    replace H := Hy
    exact ab_wk (ab_le_some (ab_le_some (ab_le_some (ab_le_none (ab_le_nil))))) (fX12_power_19_ok hB H  (K0 _ rfl))
  · replace H := ab_ifn H hc
    refine ab_iload_n (z := 2) (by decide +kernel) rfl rfl ?_
    refine ab_iload_n (z := 0) (by decide +kernel) rfl rfl ?_
    refine ab_imul (by decide +kernel) ?_
    refine ab_istore_n (z := 2) (by decide +kernel) rfl (by decide) rfl ?_
    refine ab_ls (ls' := [some (.int a0), some (.int a1), some (.int (a2 * a0)), some (.int a3)]) rfl ?_
    refine ab_iinc (i := 3) (z := 1) (v := (a3 + (1 : Int32))) (by decide +kernel) rfl rfl (by decide) rfl ?_
    refine ab_ls (ls' := [some (.int a0), some (.int a1), some (.int (a2 * a0)), some (.int (a3 + (1 : Int32)))]) rfl ?_
    refine ab_goto (off := -12) (tgt := 4) (by decide +kernel) rfl ?_
    exact ab_wk (ab_le_some (ab_le_some (ab_le_some (ab_le_some (ab_le_nil))))) (K1 ((a2 * a0), (a3 + (1 : Int32))) (Option.some.inj H).symm)
def fX12_power (a0 : Int32) (a1 : Int32) : Option Int32 :=
  ab_it (fun s => fX12_power_4 a0 a1 s.1 s.2) 5000 ((1 : Int32), (0 : Int32))
set_option maxRecDepth 100000 in
theorem mX12_power_ok {l : Launch} {G : ab_G} {S : ab_S} {I : ab_I} {J : ab_J} {P : ab_P} {Q : ab_Q} {a0 : Int32} {a1 : Int32} (hB : bz_B S P) {x : Int32} (H : fX12_power a0 a1 = some x) (K0 : Q (some (.int x)) S I J P) : ab_Call l G mX12_power 0 [.int a0, .int a1] S I J P Q := by
  unfold fX12_power at H
  refine ab_enter rfl (Nat.le_of_ble_eq_true rfl) (ab_wk (ls' := [some (.int a0), some (.int a1), none, none]) (ab_le_some (ab_le_some (ab_le_non0 (ab_le_non0 ab_le_nil)))) ?_)
  refine ab_iconst (z := 1) (v := (1 : Int32)) (by decide +kernel) (by decide) ?_
  refine ab_istore_n (z := 2) (by decide +kernel) rfl (by decide) rfl ?_
  refine ab_ls (ls' := [some (.int a0), some (.int a1), some (.int (1 : Int32)), none]) rfl ?_
  refine ab_iconst (z := 0) (v := (0 : Int32)) (by decide +kernel) (by decide) ?_
  refine ab_istore_n (z := 3) (by decide +kernel) rfl (by decide) rfl ?_
  refine ab_ls (ls' := [some (.int a0), some (.int a1), some (.int (1 : Int32)), some (.int (0 : Int32))]) rfl ?_
  exact ab_wk (ab_le_some (ab_le_some (ab_le_some (ab_le_some (ab_le_nil))))) (ab_iter (body := (fun s => fX12_power_4 a0 a1 s.1 s.2)) (W := fun s => ab_WP l G mX12_power 0 4 [some (.int a0), some (.int a1), some (.int s.1), some (.int s.2)] [] S I J P 0 0 Q) (fun s y hb h1 h2 => fX12_power_4_ok hB hb h1 (fun r e => by have e2 := h2 _ e; subst e2; exact K0)) 5000 ((1 : Int32), (0 : Int32)) H)
