abbrev mX12_chorus : ab_M := (yX12_chorus, cX12_chorus, 6, some .int, 0, 0)
def fX12_chorus_96 (a1 : Int32) (s0 : Int32) (I : ab_I) : Option (Int32 × ab_I) :=
  some (s0, I)
set_option maxRecDepth 100000 in
theorem fX12_chorus_96_ok {l : Launch} {G : ab_G} {S : ab_S} {I : ab_I} {J : ab_J} {P : ab_P} {Q : ab_Q} {a1 : Int32} {s0 : Int32} (hB : bz_B S P) {x : Int32 × ab_I} (H : fX12_chorus_96 a1 s0 I = some x) (K0 : Q (some (.int x.1)) S x.2 J P) : ab_WP l G mX12_chorus 3 96 [some (.ref 73), some (.int a1), none, none, none, none] [.int s0] S I J P 0 0 Q := by
  unfold fX12_chorus_96 at H
  obtain rfl := Option.some.inj H
  exact ab_iret (by decide +kernel) rfl (Nat.le_refl _) (Nat.le_refl _) K0
def fX12_chorus_76 (a1 : Int32) (a2 : Int32) (a3 : Int32) (a4 : Int32) (a5 : Int32) (I : ab_I) : Option ((Int32 × Int32 × Int32 × Int32 × ab_I) ⊕ (Int32 × ab_I)) :=
  some (.inl (a2, a3, a4, (a5 + (-1 : Int32)), I))
set_option maxRecDepth 100000 in
theorem fX12_chorus_76_ok {l : Launch} {G : ab_G} {S : ab_S} {I : ab_I} {J : ab_J} {P : ab_P} {Q : ab_Q} {a1 : Int32} {a2 : Int32} {a3 : Int32} {a4 : Int32} {a5 : Int32} (hB : bz_B S P) {x : ((Int32 × Int32 × Int32 × Int32 × ab_I) ⊕ (Int32 × ab_I))} (H : fX12_chorus_76 a1 a2 a3 a4 a5 I = some x) (K1 : ∀ s, x = (.inl s) → ab_WP l G mX12_chorus 3 35 [some (.ref 73), some (.int a1), some (.int s.1), some (.int s.2.1), some (.int s.2.2.1), some (.int s.2.2.2.1)] [] S s.2.2.2.2 J P 0 0 Q) (K0 : ∀ r, x = (.inr r) → Q (some (.int r.1)) S r.2 J P) : ab_WP l G mX12_chorus 3 76 [some (.ref 73), some (.int a1), some (.int a2), some (.int a3), some (.int a4), some (.int a5)] [] S I J P 0 0 Q := by
  unfold fX12_chorus_76 at H
  refine ab_iinc (i := 5) (z := -1) (v := (a5 + (-1 : Int32))) (by decide +kernel) rfl rfl (by decide) rfl ?_
  refine ab_ls (ls' := [some (.ref 73), some (.int a1), some (.int a2), some (.int a3), some (.int a4), some (.int (a5 + (-1 : Int32)))]) rfl ?_
  refine ab_goto (off := -44) (tgt := 35) (by decide +kernel) rfl ?_
  exact ab_wk (ab_le_some (ab_le_some (ab_le_some (ab_le_some (ab_le_some (ab_le_some (ab_le_nil))))))) (K1 (a2, a3, a4, (a5 + (-1 : Int32)), I) (Option.some.inj H).symm)
def fX12_chorus_82 (a1 : Int32) (a4 : Int32) (I : ab_I) : Option (Int32 × ab_I) :=
  if a1 = 0 then
    (fX12_members a4).bind fun u8 =>
    fX12_chorus_96 a1 u8 I
  else
    fX12_chorus_96 a1 a4 I
set_option maxRecDepth 100000 in
theorem fX12_chorus_82_ok {l : Launch} {G : ab_G} {S : ab_S} {I : ab_I} {J : ab_J} {P : ab_P} {Q : ab_Q} {a1 : Int32} {a4 : Int32} (hB : bz_B S P) {x : Int32 × ab_I} (H : fX12_chorus_82 a1 a4 I = some x) (K0 : Q (some (.int x.1)) S x.2 J P) : ab_WP l G mX12_chorus 3 82 [some (.ref 73), some (.int a1), none, none, some (.int a4), none] [] S I J P 0 0 Q := by
  unfold fX12_chorus_82 at H
  refine ab_iload_n (z := 1) (by decide +kernel) rfl rfl ?_
  refine ab_if_ne (off := 11) (tgt := 94) (by decide +kernel) rfl (fun hc => ?_) (fun hc => ?_)
  · replace H := ab_ifn H hc
    refine ab_iload (i := 4) (by decide +kernel) rfl ?_
    exact ab_wk (ab_le_some (ab_le_some (ab_le_none (ab_le_none (ab_le_none (ab_le_none (ab_le_nil))))))) (fX12_chorus_96_ok hB H  K0)
  · replace H := ab_ifp H hc
    refine ab_iload (i := 4) (by decide +kernel) rfl ?_
    obtain ⟨u8, hu8, H⟩ := ab_bd_of H
    refine ksX12_members (D := 0) (ix := 283) (by decide +kernel) tw_1512 (by decide) (Nat.le_of_ble_eq_true rfl) (mX12_members_ok hB hu8 ?_)
    change ab_WP l G mX12_chorus 3 91 [some (.ref 73), some (.int a1), none, none, some (.int a4), none] [.int u8] S I J P 0 0 Q
    refine ab_goto (off := 5) (tgt := 96) (by decide +kernel) rfl ?_
    exact ab_wk (ab_le_some (ab_le_some (ab_le_none (ab_le_none (ab_le_none (ab_le_none (ab_le_nil))))))) (fX12_chorus_96_ok hB H  K0)
def fX12_chorus_35 (a1 : Int32) (a2 : Int32) (a3 : Int32) (a4 : Int32) (a5 : Int32) (I : ab_I) : Option ((Int32 × Int32 × Int32 × Int32 × ab_I) ⊕ (Int32 × ab_I)) :=
  if a5 < 0 then
    (fX12_chorus_82 a1 a4 I).map .inr
  else
    if (a5 &&& (a2 ^^^ (-1 : Int32))) = 0 then
      (fX12_members a5).bind fun u5 =>
      (fX12_members a4).bind fun u6 =>
      if u6 < u5 then
        fX12_chorus_76 a1 a2 a3 a4 a5 I
      else
        (fX12_losingOf a5 I).bind fun u7 =>
        if u7 = a3 then
          fX12_chorus_76 a1 a2 a3 a5 a5 I
        else
          fX12_chorus_76 a1 a2 a3 a4 a5 I
    else
      fX12_chorus_76 a1 a2 a3 a4 a5 I
set_option maxRecDepth 100000 in
theorem fX12_chorus_35_ok {l : Launch} {G : ab_G} {S : ab_S} {I : ab_I} {J : ab_J} {P : ab_P} {Q : ab_Q} {a1 : Int32} {a2 : Int32} {a3 : Int32} {a4 : Int32} {a5 : Int32} (hB : bz_B S P) {x : ((Int32 × Int32 × Int32 × Int32 × ab_I) ⊕ (Int32 × ab_I))} (H : fX12_chorus_35 a1 a2 a3 a4 a5 I = some x) (K1 : ∀ s, x = (.inl s) → ab_WP l G mX12_chorus 3 35 [some (.ref 73), some (.int a1), some (.int s.1), some (.int s.2.1), some (.int s.2.2.1), some (.int s.2.2.2.1)] [] S s.2.2.2.2 J P 0 0 Q) (K0 : ∀ r, x = (.inr r) → Q (some (.int r.1)) S r.2 J P) : ab_WP l G mX12_chorus 3 35 [some (.ref 73), some (.int a1), some (.int a2), some (.int a3), some (.int a4), some (.int a5)] [] S I J P 0 0 Q := by
  unfold fX12_chorus_35 at H
  refine ab_iload (i := 5) (by decide +kernel) rfl ?_
  refine ab_if_lt (off := 45) (tgt := 82) (by decide +kernel) rfl (fun hc => ?_) (fun hc => ?_)
  · replace H := ab_ifp H hc
    obtain ⟨y4, Hy, hx⟩ := ab_mp_of H
    subst hx
    replace H := Hy
    exact ab_wk (ab_le_some (ab_le_some (ab_le_none (ab_le_none (ab_le_some (ab_le_none (ab_le_nil))))))) (fX12_chorus_82_ok hB H  (K0 _ rfl))
  · replace H := ab_ifn H hc
    refine ab_iload (i := 5) (by decide +kernel) rfl ?_
    refine ab_iload_n (z := 2) (by decide +kernel) rfl rfl ?_
    refine ab_iconst (z := -1) (v := (-1 : Int32)) (by decide +kernel) (by decide) ?_
    refine ab_ixor (by decide +kernel) ?_
    refine ab_iand (by decide +kernel) ?_
    refine ab_if_ne (off := 30) (tgt := 76) (by decide +kernel) rfl (fun hc => ?_) (fun hc => ?_)
    · replace H := ab_ifn H hc
      exact ab_wk (ab_le_some (ab_le_some (ab_le_some (ab_le_some (ab_le_some (ab_le_some (ab_le_nil))))))) (fX12_chorus_76_ok hB H K1 K0)
    · replace H := ab_ifp H hc
      refine ab_iload (i := 5) (by decide +kernel) rfl ?_
      obtain ⟨u5, hu5, H⟩ := ab_bd_of H
      refine ksX12_members (D := 0) (ix := 283) (by decide +kernel) tw_1512 (by decide) (Nat.le_of_ble_eq_true rfl) (mX12_members_ok hB hu5 ?_)
      change ab_WP l G mX12_chorus 3 54 [some (.ref 73), some (.int a1), some (.int a2), some (.int a3), some (.int a4), some (.int a5)] [.int u5] S I J P 0 0 Q
      refine ab_iload (i := 4) (by decide +kernel) rfl ?_
      obtain ⟨u6, hu6, H⟩ := ab_bd_of H
      refine ksX12_members (D := 0) (ix := 283) (by decide +kernel) tw_1512 (by decide) (Nat.le_of_ble_eq_true rfl) (mX12_members_ok hB hu6 ?_)
      change ab_WP l G mX12_chorus 3 59 [some (.ref 73), some (.int a1), some (.int a2), some (.int a3), some (.int a4), some (.int a5)] [.int u6, .int u5] S I J P 0 0 Q
      refine ab_icmp_gt (off := 17) (tgt := 76) (by decide +kernel) rfl (fun hc => ?_) (fun hc => ?_)
      · replace H := ab_ifp H hc
        exact ab_wk (ab_le_some (ab_le_some (ab_le_some (ab_le_some (ab_le_some (ab_le_some (ab_le_nil))))))) (fX12_chorus_76_ok hB H K1 K0)
      · replace H := ab_ifn H hc
        refine ab_aload_n (z := 0) (by decide +kernel) rfl rfl ?_
        refine ab_iload (i := 5) (by decide +kernel) rfl ?_
        obtain ⟨u7, hu7, H⟩ := ab_bd_of H
        refine kvX12_losingOf (D := 2) (ix := 464) (by decide +kernel) tw_1670 (hB.1 73 _ rfl) (by decide) (Nat.le_of_ble_eq_true rfl) (mX12_losingOf_ok hB hu7 ?_)
        change ab_WP l G mX12_chorus 3 68 [some (.ref 73), some (.int a1), some (.int a2), some (.int a3), some (.int a4), some (.int a5)] [.int u7] S I J P 0 0 Q
        refine ab_iload_n (z := 3) (by decide +kernel) rfl rfl ?_
        refine ab_icmp_ne (off := 7) (tgt := 76) (by decide +kernel) rfl (fun hc => ?_) (fun hc => ?_)
        · replace H := ab_ifn H hc
          exact ab_wk (ab_le_some (ab_le_some (ab_le_some (ab_le_some (ab_le_some (ab_le_some (ab_le_nil))))))) (fX12_chorus_76_ok hB H K1 K0)
        · replace H := ab_ifp H hc
          refine ab_iload (i := 5) (by decide +kernel) rfl ?_
          refine ab_istore (i := 4) (by decide +kernel) (by decide) rfl ?_
          refine ab_ls (ls' := [some (.ref 73), some (.int a1), some (.int a2), some (.int a3), some (.int a5), some (.int a5)]) rfl ?_
          exact ab_wk (ab_le_some (ab_le_some (ab_le_some (ab_le_some (ab_le_some (ab_le_some (ab_le_nil))))))) (fX12_chorus_76_ok hB H K1 K0)
def fX12_chorus (a1 : Int32) (I : ab_I) : Option (Int32 × ab_I) :=
  (fX12_isIn a1 (0 : Int32) (1 : Int32)).bind fun u1 =>
  if u1 = 0 then
    some ((-1 : Int32), I)
  else
    (fX12_fill I).bind fun u2 =>
    ab_gd (ab_ix (12 : Int32) 45 = true) (
      (fX12_losingOf (u2 90 ((12 : Int32).toNatClampNeg)) u2).bind fun u3 =>
      ab_it (fun s => fX12_chorus_35 a1 s.1 s.2.1 s.2.2.1 s.2.2.2.1 s.2.2.2.2) 5000 ((u2 90 ((12 : Int32).toNatClampNeg)), u3, (u2 90 ((12 : Int32).toNatClampNeg)), (u2 90 ((12 : Int32).toNatClampNeg)), u2)
    )
set_option maxRecDepth 100000 in
theorem mX12_chorus_ok {l : Launch} {G : ab_G} {S : ab_S} {I : ab_I} {J : ab_J} {P : ab_P} {Q : ab_Q} {a1 : Int32} (hB : bz_B S P) {x : Int32 × ab_I} (H : fX12_chorus a1 I = some x) (K0 : Q (some (.int x.1)) S x.2 J P) : ab_Call l G mX12_chorus 3 [.ref 73, .int a1] S I J P Q := by
  unfold fX12_chorus at H
  refine ab_enter rfl (Nat.le_of_ble_eq_true rfl) (ab_wk (ls' := [some (.ref 73), some (.int a1), none, none, none, none]) (ab_le_some (ab_le_some (ab_le_non0 (ab_le_non0 (ab_le_non0 (ab_le_non0 ab_le_nil)))))) ?_)
  refine ab_iload_n (z := 1) (by decide +kernel) rfl rfl ?_
  refine ab_iconst (z := 0) (v := (0 : Int32)) (by decide +kernel) (by decide) ?_
  refine ab_iconst (z := 1) (v := (1 : Int32)) (by decide +kernel) (by decide) ?_
  obtain ⟨u1, hu1, H⟩ := ab_bd_of H
  refine ksX12_isIn (D := 0) (ix := 384) (by decide +kernel) tw_1474 (by decide) (Nat.le_of_ble_eq_true rfl) (mX12_isIn_ok hB hu1 ?_)
  change ab_WP l G mX12_chorus 3 6 [some (.ref 73), some (.int a1), none, none, none, none] [.int u1] S I J P 0 0 Q
  refine ab_if_ne (off := 5) (tgt := 11) (by decide +kernel) rfl (fun hc => ?_) (fun hc => ?_)
  · replace H := ab_ifn H hc
    refine ab_aload_n (z := 0) (by decide +kernel) rfl rfl ?_
    obtain ⟨u2, hu2, H⟩ := ab_bd_of H
    refine kvX12_fill (D := 0) (ix := 411) (by decide +kernel) tw_1477 (hB.1 73 _ rfl) (by decide) (Nat.le_of_ble_eq_true rfl) (mX12_fill_ok hB hu2 ?_)
    change ab_WP l G mX12_chorus 3 15 [some (.ref 73), some (.int a1), none, none, none, none] [] S u2 J P 0 0 Q
    refine ab_aload_n (z := 0) (by decide +kernel) rfl rfl ?_
    refine gX12_47 (ix := 63) (by decide +kernel) tw_1128 (hB.1 73 _ rfl) (hB.2.1 95 (73, 47, 90) rfl) ?_
    refine ab_bipush (z := 12) (v := (12 : Int32)) (by decide +kernel) (by decide) ?_
    obtain ⟨hg, H⟩ := ab_gd_of H
    refine ab_iald (ln := 45) (by decide +kernel) (hB.1 90 _ rfl) (ab_ix_in hg) ?_
    refine ab_istore_n (z := 2) (by decide +kernel) rfl (by decide) rfl ?_
    refine ab_ls (ls' := [some (.ref 73), some (.int a1), some (.int (u2 90 ((12 : Int32).toNatClampNeg))), none, none, none]) rfl ?_
    refine ab_aload_n (z := 0) (by decide +kernel) rfl rfl ?_
    refine ab_iload_n (z := 2) (by decide +kernel) rfl rfl ?_
    obtain ⟨u3, hu3, H⟩ := ab_bd_of H
    refine kvX12_losingOf (D := 2) (ix := 464) (by decide +kernel) tw_1670 (hB.1 73 _ rfl) (by decide) (Nat.le_of_ble_eq_true rfl) (mX12_losingOf_ok hB hu3 ?_)
    change ab_WP l G mX12_chorus 3 28 [some (.ref 73), some (.int a1), some (.int (u2 90 ((12 : Int32).toNatClampNeg))), none, none, none] [.int u3] S u2 J P 0 0 Q
    refine ab_istore_n (z := 3) (by decide +kernel) rfl (by decide) rfl ?_
    refine ab_ls (ls' := [some (.ref 73), some (.int a1), some (.int (u2 90 ((12 : Int32).toNatClampNeg))), some (.int u3), none, none]) rfl ?_
    refine ab_iload_n (z := 2) (by decide +kernel) rfl rfl ?_
    refine ab_istore (i := 4) (by decide +kernel) (by decide) rfl ?_
    refine ab_ls (ls' := [some (.ref 73), some (.int a1), some (.int (u2 90 ((12 : Int32).toNatClampNeg))), some (.int u3), some (.int (u2 90 ((12 : Int32).toNatClampNeg))), none]) rfl ?_
    refine ab_iload_n (z := 2) (by decide +kernel) rfl rfl ?_
    refine ab_istore (i := 5) (by decide +kernel) (by decide) rfl ?_
    refine ab_ls (ls' := [some (.ref 73), some (.int a1), some (.int (u2 90 ((12 : Int32).toNatClampNeg))), some (.int u3), some (.int (u2 90 ((12 : Int32).toNatClampNeg))), some (.int (u2 90 ((12 : Int32).toNatClampNeg)))]) rfl ?_
    exact ab_wk (ab_le_some (ab_le_some (ab_le_some (ab_le_some (ab_le_some (ab_le_some (ab_le_nil))))))) (ab_iter (body := (fun s => fX12_chorus_35 a1 s.1 s.2.1 s.2.2.1 s.2.2.2.1 s.2.2.2.2)) (W := fun s => ab_WP l G mX12_chorus 3 35 [some (.ref 73), some (.int a1), some (.int s.1), some (.int s.2.1), some (.int s.2.2.1), some (.int s.2.2.2.1)] [] S s.2.2.2.2 J P 0 0 Q) (fun s y hb h1 h2 => fX12_chorus_35_ok hB hb h1 (fun r e => by have e2 := h2 _ e; subst e2; exact K0)) 5000 ((u2 90 ((12 : Int32).toNatClampNeg)), u3, (u2 90 ((12 : Int32).toNatClampNeg)), (u2 90 ((12 : Int32).toNatClampNeg)), u2) H)
  · replace H := ab_ifp H hc
    refine ab_iconst (z := -1) (v := (-1 : Int32)) (by decide +kernel) (by decide) ?_
    obtain rfl := Option.some.inj H
    exact ab_iret (by decide +kernel) rfl (Nat.le_refl _) (Nat.le_refl _) K0
abbrev mX12_wish : ab_M := (yX12_wish, cX12_wish, 4, some .int, 0, 0)
def fX12_wish_76 (a1 : Int32) (a2 : Int32) (I : ab_I) : Option (Int32 × ab_I) :=
  some ((-1 : Int32), I)
set_option maxRecDepth 100000 in
theorem fX12_wish_76_ok {l : Launch} {G : ab_G} {S : ab_S} {I : ab_I} {J : ab_J} {P : ab_P} {Q : ab_Q} {a1 : Int32} {a2 : Int32} (hB : bz_B S P) {x : Int32 × ab_I} (H : fX12_wish_76 a1 a2 I = some x) (K0 : Q (some (.int x.1)) S x.2 J P) : ab_WP l G mX12_wish 6 76 [some (.ref 73), some (.int a1), some (.int a2), none] [] S I J P 0 0 Q := by
  unfold fX12_wish_76 at H
  refine ab_iconst (z := -1) (v := (-1 : Int32)) (by decide +kernel) (by decide) ?_
  obtain rfl := Option.some.inj H
  exact ab_iret (by decide +kernel) rfl (Nat.le_refl _) (Nat.le_refl _) K0
def fX12_wish_68 (a1 : Int32) (a2 : Int32) (a3 : Int32) (I : ab_I) : Option (Int32 × ab_I) :=
  some (a3, I)
set_option maxRecDepth 100000 in
theorem fX12_wish_68_ok {l : Launch} {G : ab_G} {S : ab_S} {I : ab_I} {J : ab_J} {P : ab_P} {Q : ab_Q} {a1 : Int32} {a2 : Int32} {a3 : Int32} (hB : bz_B S P) {x : Int32 × ab_I} (H : fX12_wish_68 a1 a2 a3 I = some x) (K0 : Q (some (.int x.1)) S x.2 J P) : ab_WP l G mX12_wish 6 68 [some (.ref 73), some (.int a1), some (.int a2), some (.int a3)] [] S I J P 0 0 Q := by
  unfold fX12_wish_68 at H
  refine ab_iload_n (z := 3) (by decide +kernel) rfl rfl ?_
  obtain rfl := Option.some.inj H
  exact ab_iret (by decide +kernel) rfl (Nat.le_refl _) (Nat.le_refl _) K0
def fX12_wish_24 (a1 : Int32) (a2 : Int32) (I : ab_I) : Option (Int32 × ab_I) :=
  some ((-1 : Int32), I)
set_option maxRecDepth 100000 in
theorem fX12_wish_24_ok {l : Launch} {G : ab_G} {S : ab_S} {I : ab_I} {J : ab_J} {P : ab_P} {Q : ab_Q} {a1 : Int32} {a2 : Int32} (hB : bz_B S P) {x : Int32 × ab_I} (H : fX12_wish_24 a1 a2 I = some x) (K0 : Q (some (.int x.1)) S x.2 J P) : ab_WP l G mX12_wish 6 24 [some (.ref 73), some (.int a1), some (.int a2), none] [] S I J P 0 0 Q := by
  unfold fX12_wish_24 at H
  refine ab_iconst (z := -1) (v := (-1 : Int32)) (by decide +kernel) (by decide) ?_
  obtain rfl := Option.some.inj H
  exact ab_iret (by decide +kernel) rfl (Nat.le_refl _) (Nat.le_refl _) K0
def fX12_wish_28 (a1 : Int32) (a2 : Int32) (a3 : Int32) (I : ab_I) : Option ((Int32 × ab_I) ⊕ (Int32 × ab_I)) :=
  if (20 : Int32) < a3 then
    (fX12_wish_76 a1 a2 I).map .inr
  else
    (fX12_fill I).bind fun u5 =>
    ab_gd (ab_ix (((13 : Int32) + ((5 : Int32) * a1)) + a2) 45 = true) (
      (fX12_goDay (0 : Int32) (ab_u u5 90 ((((13 : Int32) + ((5 : Int32) * a1)) + a2).toNatClampNeg) a3)).bind fun u6 =>
      ab_gd (ab_ix a2 5 = true) (
        if (u6.2 91 a2.toNatClampNeg) = a1 then
          (fX12_wish_68 a1 a2 a3 u6.2).map .inr
        else
          some (.inl ((a3 + (1 : Int32)), u6.2))
      )
    )
set_option maxRecDepth 100000 in
theorem fX12_wish_28_ok {l : Launch} {G : ab_G} {S : ab_S} {I : ab_I} {J : ab_J} {P : ab_P} {Q : ab_Q} {a1 : Int32} {a2 : Int32} {a3 : Int32} (hB : bz_B S P) {x : ((Int32 × ab_I) ⊕ (Int32 × ab_I))} (H : fX12_wish_28 a1 a2 a3 I = some x) (K1 : ∀ s, x = (.inl s) → ab_WP l G mX12_wish 6 28 [some (.ref 73), some (.int a1), some (.int a2), some (.int s.1)] [] S s.2 J P 0 0 Q) (K0 : ∀ r, x = (.inr r) → Q (some (.int r.1)) S r.2 J P) : ab_WP l G mX12_wish 6 28 [some (.ref 73), some (.int a1), some (.int a2), some (.int a3)] [] S I J P 0 0 Q := by
  unfold fX12_wish_28 at H
  refine ab_iload_n (z := 3) (by decide +kernel) rfl rfl ?_
  refine ab_bipush (z := 20) (v := (20 : Int32)) (by decide +kernel) (by decide) ?_
  refine ab_icmp_gt (off := 45) (tgt := 76) (by decide +kernel) rfl (fun hc => ?_) (fun hc => ?_)
  · replace H := ab_ifp H hc
    obtain ⟨y4, Hy, hx⟩ := ab_mp_of H
    subst hx
    replace H := Hy
    exact ab_wk (ab_le_some (ab_le_some (ab_le_some (ab_le_none (ab_le_nil))))) (fX12_wish_76_ok hB H  (K0 _ rfl))
  · replace H := ab_ifn H hc
    refine ab_aload_n (z := 0) (by decide +kernel) rfl rfl ?_
    obtain ⟨u5, hu5, H⟩ := ab_bd_of H
    refine kvX12_fill (D := 0) (ix := 411) (by decide +kernel) tw_1477 (hB.1 73 _ rfl) (by decide) (Nat.le_of_ble_eq_true rfl) (mX12_fill_ok hB hu5 ?_)
    change ab_WP l G mX12_wish 6 38 [some (.ref 73), some (.int a1), some (.int a2), some (.int a3)] [] S u5 J P 0 0 Q
    refine ab_aload_n (z := 0) (by decide +kernel) rfl rfl ?_
    refine gX12_47 (ix := 63) (by decide +kernel) tw_1128 (hB.1 73 _ rfl) (hB.2.1 95 (73, 47, 90) rfl) ?_
    refine ab_bipush (z := 13) (v := (13 : Int32)) (by decide +kernel) (by decide) ?_
    refine ab_iconst (z := 5) (v := (5 : Int32)) (by decide +kernel) (by decide) ?_
    refine ab_iload_n (z := 1) (by decide +kernel) rfl rfl ?_
    refine ab_imul (by decide +kernel) ?_
    refine ab_iadd (by decide +kernel) ?_
    refine ab_iload_n (z := 2) (by decide +kernel) rfl rfl ?_
    refine ab_iadd (by decide +kernel) ?_
    refine ab_iload_n (z := 3) (by decide +kernel) rfl rfl ?_
    obtain ⟨hg, H⟩ := ab_gd_of H
    refine ab_iast (ln := 45) (by decide +kernel) (hB.1 90 _ rfl) (ab_ix_in hg) ?_
    refine ab_aload_n (z := 0) (by decide +kernel) rfl rfl ?_
    refine ab_iconst (z := 0) (v := (0 : Int32)) (by decide +kernel) (by decide) ?_
    obtain ⟨u6, hu6, H⟩ := ab_bd_of H
    refine kvX12_goDay (D := 5) (ix := 417) (by decide +kernel) tw_1496 (hB.1 73 _ rfl) (by decide) (Nat.le_of_ble_eq_true rfl) (mX12_goDay_ok hB hu6 ?_)
    change ab_WP l G mX12_wish 6 57 [some (.ref 73), some (.int a1), some (.int a2), some (.int a3)] [.int u6.1] S u6.2 J P 0 0 Q
    refine ab_pop (by decide +kernel) rfl ?_
    refine ab_aload_n (z := 0) (by decide +kernel) rfl rfl ?_
    refine gX12_48 (ix := 66) (by decide +kernel) tw_1129 (hB.1 73 _ rfl) (hB.2.1 96 (73, 48, 91) rfl) ?_
    refine ab_iload_n (z := 2) (by decide +kernel) rfl rfl ?_
    obtain ⟨hg, H⟩ := ab_gd_of H
    refine ab_iald (ln := 5) (by decide +kernel) (hB.1 91 _ rfl) (ab_ix_in hg) ?_
    refine ab_iload_n (z := 1) (by decide +kernel) rfl rfl ?_
    refine ab_icmp_ne (off := 5) (tgt := 70) (by decide +kernel) rfl (fun hc => ?_) (fun hc => ?_)
    · replace H := ab_ifn H hc
      refine ab_iinc (i := 3) (z := 1) (v := (a3 + (1 : Int32))) (by decide +kernel) rfl rfl (by decide) rfl ?_
      refine ab_ls (ls' := [some (.ref 73), some (.int a1), some (.int a2), some (.int (a3 + (1 : Int32)))]) rfl ?_
      refine ab_goto (off := -45) (tgt := 28) (by decide +kernel) rfl ?_
      exact ab_wk (ab_le_some (ab_le_some (ab_le_some (ab_le_some (ab_le_nil))))) (K1 ((a3 + (1 : Int32)), u6.2) (Option.some.inj H).symm)
    · replace H := ab_ifp H hc
      obtain ⟨y7, Hy, hx⟩ := ab_mp_of H
      subst hx
      replace H := Hy
      exact ab_wk (ab_le_some (ab_le_some (ab_le_some (ab_le_some (ab_le_nil))))) (fX12_wish_68_ok hB H  (K0 _ rfl))
def fX12_wish (a1 : Int32) (a2 : Int32) (I : ab_I) : Option (Int32 × ab_I) :=
  (fX12_isPerson a1 I).bind fun u1 =>
  if u1 = 0 then
    fX12_wish_24 a1 a2 I
  else
    (fX12_isBell a2 I).bind fun u2 =>
    if u2 = 0 then
      fX12_wish_24 a1 a2 I
    else
      (fX12_isThere a1 I).bind fun u3 =>
      if u3 = 0 then
        fX12_wish_24 a1 a2 I
      else
        ab_it (fun s => fX12_wish_28 a1 a2 s.1 s.2) 5000 ((1 : Int32), I)
set_option maxRecDepth 100000 in
theorem mX12_wish_ok {l : Launch} {G : ab_G} {S : ab_S} {I : ab_I} {J : ab_J} {P : ab_P} {Q : ab_Q} {a1 : Int32} {a2 : Int32} (hB : bz_B S P) {x : Int32 × ab_I} (H : fX12_wish a1 a2 I = some x) (K0 : Q (some (.int x.1)) S x.2 J P) : ab_Call l G mX12_wish 6 [.ref 73, .int a1, .int a2] S I J P Q := by
  unfold fX12_wish at H
  refine ab_enter rfl (Nat.le_of_ble_eq_true rfl) (ab_wk (ls' := [some (.ref 73), some (.int a1), some (.int a2), none]) (ab_le_some (ab_le_some (ab_le_some (ab_le_non0 ab_le_nil)))) ?_)
  refine ab_aload_n (z := 0) (by decide +kernel) rfl rfl ?_
  refine ab_iload_n (z := 1) (by decide +kernel) rfl rfl ?_
  obtain ⟨u1, hu1, H⟩ := ab_bd_of H
  refine kvX12_isPerson (D := 1) (ix := 408) (by decide +kernel) tw_1470 (hB.1 73 _ rfl) (by decide) (Nat.le_of_ble_eq_true rfl) (mX12_isPerson_ok hB hu1 ?_)
  change ab_WP l G mX12_wish 6 5 [some (.ref 73), some (.int a1), some (.int a2), none] [.int u1] S I J P 0 0 Q
  refine ab_if_eq (off := 19) (tgt := 24) (by decide +kernel) rfl (fun hc => ?_) (fun hc => ?_)
  · replace H := ab_ifp H hc
    exact ab_wk (ab_le_some (ab_le_some (ab_le_some (ab_le_none (ab_le_nil))))) (fX12_wish_24_ok hB H  K0)
  · replace H := ab_ifn H hc
    refine ab_aload_n (z := 0) (by decide +kernel) rfl rfl ?_
    refine ab_iload_n (z := 2) (by decide +kernel) rfl rfl ?_
    obtain ⟨u2, hu2, H⟩ := ab_bd_of H
    refine kvX12_isBell (D := 1) (ix := 423) (by decide +kernel) tw_1529 (hB.1 73 _ rfl) (by decide) (Nat.le_of_ble_eq_true rfl) (mX12_isBell_ok hB hu2 ?_)
    change ab_WP l G mX12_wish 6 13 [some (.ref 73), some (.int a1), some (.int a2), none] [.int u2] S I J P 0 0 Q
    refine ab_if_eq (off := 11) (tgt := 24) (by decide +kernel) rfl (fun hc => ?_) (fun hc => ?_)
    · replace H := ab_ifp H hc
      exact ab_wk (ab_le_some (ab_le_some (ab_le_some (ab_le_none (ab_le_nil))))) (fX12_wish_24_ok hB H  K0)
    · replace H := ab_ifn H hc
      refine ab_aload_n (z := 0) (by decide +kernel) rfl rfl ?_
      refine ab_iload_n (z := 1) (by decide +kernel) rfl rfl ?_
      obtain ⟨u3, hu3, H⟩ := ab_bd_of H
      refine kvX12_isThere (D := 0) (ix := 430) (by decide +kernel) tw_1562 (hB.1 73 _ rfl) (by decide) (Nat.le_of_ble_eq_true rfl) (mX12_isThere_ok hB hu3 ?_)
      change ab_WP l G mX12_wish 6 21 [some (.ref 73), some (.int a1), some (.int a2), none] [.int u3] S I J P 0 0 Q
      refine ab_if_ne (off := 5) (tgt := 26) (by decide +kernel) rfl (fun hc => ?_) (fun hc => ?_)
      · replace H := ab_ifn H hc
        refine ab_iconst (z := 1) (v := (1 : Int32)) (by decide +kernel) (by decide) ?_
        refine ab_istore_n (z := 3) (by decide +kernel) rfl (by decide) rfl ?_
        refine ab_ls (ls' := [some (.ref 73), some (.int a1), some (.int a2), some (.int (1 : Int32))]) rfl ?_
        exact ab_wk (ab_le_some (ab_le_some (ab_le_some (ab_le_some (ab_le_nil))))) (ab_iter (body := (fun s => fX12_wish_28 a1 a2 s.1 s.2)) (W := fun s => ab_WP l G mX12_wish 6 28 [some (.ref 73), some (.int a1), some (.int a2), some (.int s.1)] [] S s.2 J P 0 0 Q) (fun s y hb h1 h2 => fX12_wish_28_ok hB hb h1 (fun r e => by have e2 := h2 _ e; subst e2; exact K0)) 5000 ((1 : Int32), I) H)
      · replace H := ab_ifp H hc
        exact ab_wk (ab_le_some (ab_le_some (ab_le_some (ab_le_none (ab_le_nil))))) (fX12_wish_24_ok hB H  K0)
abbrev mX12_hides : ab_M := (yX12_hides, cX12_hides, 4, some .int, 0, 0)
def fX12_hides_112 (a1 : Int32) (a2 : Int32) (I : ab_I) : Option (Int32 × ab_I) :=
  some (a2, I)
set_option maxRecDepth 100000 in
theorem fX12_hides_112_ok {l : Launch} {G : ab_G} {S : ab_S} {I : ab_I} {J : ab_J} {P : ab_P} {Q : ab_Q} {a1 : Int32} {a2 : Int32} (hB : bz_B S P) {x : Int32 × ab_I} (H : fX12_hides_112 a1 a2 I = some x) (K0 : Q (some (.int x.1)) S x.2 J P) : ab_WP l G mX12_hides 7 112 [some (.ref 73), some (.int a1), some (.int a2), none] [] S I J P 0 0 Q := by
  unfold fX12_hides_112 at H
  refine ab_iload_n (z := 2) (by decide +kernel) rfl rfl ?_
  obtain rfl := Option.some.inj H
  exact ab_iret (by decide +kernel) rfl (Nat.le_refl _) (Nat.le_refl _) K0
def fX12_hides_99 (a1 : Int32) (a3 : Int32) (s0 : Int32) (s1 : Int32) (I : ab_I) : Option ((Int32 × Int32 × ab_I) ⊕ (Int32 × ab_I)) :=
  (fX12_truth s1).bind fun u9 =>
  some (.inl ((s0 ||| (u9 <<< (a3 &&& 31))), (a3 + (1 : Int32)), I))
set_option maxRecDepth 100000 in
theorem fX12_hides_99_ok {l : Launch} {G : ab_G} {S : ab_S} {I : ab_I} {J : ab_J} {P : ab_P} {Q : ab_Q} {a1 : Int32} {a3 : Int32} {s0 : Int32} {s1 : Int32} (hB : bz_B S P) {x : ((Int32 × Int32 × ab_I) ⊕ (Int32 × ab_I))} (H : fX12_hides_99 a1 a3 s0 s1 I = some x) (K1 : ∀ s, x = (.inl s) → ab_WP l G mX12_hides 7 63 [some (.ref 73), some (.int a1), some (.int s.1), some (.int s.2.1)] [] S s.2.2 J P 0 0 Q) (K0 : ∀ r, x = (.inr r) → Q (some (.int r.1)) S r.2 J P) : ab_WP l G mX12_hides 7 99 [some (.ref 73), some (.int a1), none, some (.int a3)] [.int s1, .int s0] S I J P 0 0 Q := by
  unfold fX12_hides_99 at H
  obtain ⟨u9, hu9, H⟩ := ab_bd_of H
  refine ksX12_truth (D := 0) (ix := 279) (by decide +kernel) tw_1485 (by decide) (Nat.le_of_ble_eq_true rfl) (mX12_truth_ok hB hu9 ?_)
  change ab_WP l G mX12_hides 7 102 [some (.ref 73), some (.int a1), none, some (.int a3)] [.int u9, .int s0] S I J P 0 0 Q
  refine ab_iload_n (z := 3) (by decide +kernel) rfl rfl ?_
  refine ab_ishl (by decide +kernel) ?_
  refine ab_ior (by decide +kernel) ?_
  refine ab_istore_n (z := 2) (by decide +kernel) rfl (by decide) rfl ?_
  refine ab_ls (ls' := [some (.ref 73), some (.int a1), some (.int (s0 ||| (u9 <<< (a3 &&& 31)))), some (.int a3)]) rfl ?_
  refine ab_iinc (i := 3) (z := 1) (v := (a3 + (1 : Int32))) (by decide +kernel) rfl rfl (by decide) rfl ?_
  refine ab_ls (ls' := [some (.ref 73), some (.int a1), some (.int (s0 ||| (u9 <<< (a3 &&& 31)))), some (.int (a3 + (1 : Int32)))]) rfl ?_
  refine ab_goto (off := -46) (tgt := 63) (by decide +kernel) rfl ?_
  exact ab_wk (ab_le_some (ab_le_some (ab_le_some (ab_le_some (ab_le_nil))))) (K1 ((s0 ||| (u9 <<< (a3 &&& 31))), (a3 + (1 : Int32)), I) (Option.some.inj H).symm)
def fX12_hides_16 (a1 : Int32) (I : ab_I) : Option (Int32 × ab_I) :=
  some ((-1 : Int32), I)
set_option maxRecDepth 100000 in
theorem fX12_hides_16_ok {l : Launch} {G : ab_G} {S : ab_S} {I : ab_I} {J : ab_J} {P : ab_P} {Q : ab_Q} {a1 : Int32} (hB : bz_B S P) {x : Int32 × ab_I} (H : fX12_hides_16 a1 I = some x) (K0 : Q (some (.int x.1)) S x.2 J P) : ab_WP l G mX12_hides 7 16 [some (.ref 73), some (.int a1), none, none] [] S I J P 0 0 Q := by
  unfold fX12_hides_16 at H
  refine ab_iconst (z := -1) (v := (-1 : Int32)) (by decide +kernel) (by decide) ?_
  obtain rfl := Option.some.inj H
  exact ab_iret (by decide +kernel) rfl (Nat.le_refl _) (Nat.le_refl _) K0
def fX12_hides_98 (a1 : Int32) (a3 : Int32) (s0 : Int32) (I : ab_I) : Option ((Int32 × Int32 × ab_I) ⊕ (Int32 × ab_I)) :=
  fX12_hides_99 a1 a3 s0 (0 : Int32) I
set_option maxRecDepth 100000 in
theorem fX12_hides_98_ok {l : Launch} {G : ab_G} {S : ab_S} {I : ab_I} {J : ab_J} {P : ab_P} {Q : ab_Q} {a1 : Int32} {a3 : Int32} {s0 : Int32} (hB : bz_B S P) {x : ((Int32 × Int32 × ab_I) ⊕ (Int32 × ab_I))} (H : fX12_hides_98 a1 a3 s0 I = some x) (K1 : ∀ s, x = (.inl s) → ab_WP l G mX12_hides 7 63 [some (.ref 73), some (.int a1), some (.int s.1), some (.int s.2.1)] [] S s.2.2 J P 0 0 Q) (K0 : ∀ r, x = (.inr r) → Q (some (.int r.1)) S r.2 J P) : ab_WP l G mX12_hides 7 98 [some (.ref 73), some (.int a1), none, some (.int a3)] [.int s0] S I J P 0 0 Q := by
  unfold fX12_hides_98 at H
  refine ab_iconst (z := 0) (v := (0 : Int32)) (by decide +kernel) (by decide) ?_
  exact ab_wk (ab_le_some (ab_le_some (ab_le_none (ab_le_some (ab_le_nil))))) (fX12_hides_99_ok hB H K1 K0)
def fX12_hides_63 (a1 : Int32) (a2 : Int32) (a3 : Int32) (I : ab_I) : Option ((Int32 × Int32 × ab_I) ⊕ (Int32 × ab_I)) :=
  if (I 73 39) ≤ a3 then
    (fX12_hides_112 a1 a2 I).map .inr
  else
    if a3 = a1 then
      fX12_hides_98 a1 a3 a2 I
    else
      (fX12_rungBy a3 I).bind fun u8 =>
      ab_gd (ab_ix a3 6 = true) (
        if (u8 &&& ((I 95 a3.toNatClampNeg) ^^^ (-1 : Int32))) = 0 then
          fX12_hides_98 a1 a3 a2 I
        else
          fX12_hides_99 a1 a3 a2 (1 : Int32) I
      )
set_option maxRecDepth 100000 in
theorem fX12_hides_63_ok {l : Launch} {G : ab_G} {S : ab_S} {I : ab_I} {J : ab_J} {P : ab_P} {Q : ab_Q} {a1 : Int32} {a2 : Int32} {a3 : Int32} (hB : bz_B S P) {x : ((Int32 × Int32 × ab_I) ⊕ (Int32 × ab_I))} (H : fX12_hides_63 a1 a2 a3 I = some x) (K1 : ∀ s, x = (.inl s) → ab_WP l G mX12_hides 7 63 [some (.ref 73), some (.int a1), some (.int s.1), some (.int s.2.1)] [] S s.2.2 J P 0 0 Q) (K0 : ∀ r, x = (.inr r) → Q (some (.int r.1)) S r.2 J P) : ab_WP l G mX12_hides 7 63 [some (.ref 73), some (.int a1), some (.int a2), some (.int a3)] [] S I J P 0 0 Q := by
  unfold fX12_hides_63 at H
  refine ab_iload_n (z := 3) (by decide +kernel) rfl rfl ?_
  refine ab_aload_n (z := 0) (by decide +kernel) rfl rfl ?_
  refine gX12_39 (ix := 348) (by decide +kernel) tw_1120 (hB.1 73 _ rfl) ?_
  refine ab_icmp_ge (off := 44) (tgt := 112) (by decide +kernel) rfl (fun hc => ?_) (fun hc => ?_)
  · replace H := ab_ifp H hc
    obtain ⟨y7, Hy, hx⟩ := ab_mp_of H
    subst hx
    replace H := Hy
    exact ab_wk (ab_le_some (ab_le_some (ab_le_some (ab_le_none (ab_le_nil))))) (fX12_hides_112_ok hB H  (K0 _ rfl))
  · replace H := ab_ifn H hc
    refine ab_iload_n (z := 2) (by decide +kernel) rfl rfl ?_
    refine ab_iload_n (z := 3) (by decide +kernel) rfl rfl ?_
    refine ab_iload_n (z := 1) (by decide +kernel) rfl rfl ?_
    refine ab_icmp_eq (off := 24) (tgt := 98) (by decide +kernel) rfl (fun hc => ?_) (fun hc => ?_)
    · replace H := ab_ifp H hc
      exact ab_wk (ab_le_some (ab_le_some (ab_le_none (ab_le_some (ab_le_nil))))) (fX12_hides_98_ok hB H K1 K0)
    · replace H := ab_ifn H hc
      refine ab_aload_n (z := 0) (by decide +kernel) rfl rfl ?_
      refine ab_iload_n (z := 3) (by decide +kernel) rfl rfl ?_
      obtain ⟨u8, hu8, H⟩ := ab_bd_of H
      refine kvX12_rungBy (D := 1) (ix := 420) (by decide +kernel) tw_1521 (hB.1 73 _ rfl) (by decide) (Nat.le_of_ble_eq_true rfl) (mX12_rungBy_ok hB hu8 ?_)
      change ab_WP l G mX12_hides 7 82 [some (.ref 73), some (.int a1), some (.int a2), some (.int a3)] [.int u8, .int a2] S I J P 0 0 Q
      refine ab_aload_n (z := 0) (by decide +kernel) rfl rfl ?_
      refine gX12_55 (ix := 78) (by decide +kernel) tw_1136 (hB.1 73 _ rfl) (hB.2.1 100 (73, 55, 95) rfl) ?_
      refine ab_iload_n (z := 3) (by decide +kernel) rfl rfl ?_
      obtain ⟨hg, H⟩ := ab_gd_of H
      refine ab_iald (ln := 6) (by decide +kernel) (hB.1 95 _ rfl) (ab_ix_in hg) ?_
      refine ab_iconst (z := -1) (v := (-1 : Int32)) (by decide +kernel) (by decide) ?_
      refine ab_ixor (by decide +kernel) ?_
      refine ab_iand (by decide +kernel) ?_
      refine ab_if_eq (off := 7) (tgt := 98) (by decide +kernel) rfl (fun hc => ?_) (fun hc => ?_)
      · replace H := ab_ifp H hc
        exact ab_wk (ab_le_some (ab_le_some (ab_le_none (ab_le_some (ab_le_nil))))) (fX12_hides_98_ok hB H K1 K0)
      · replace H := ab_ifn H hc
        refine ab_iconst (z := 1) (v := (1 : Int32)) (by decide +kernel) (by decide) ?_
        refine ab_goto (off := 4) (tgt := 99) (by decide +kernel) rfl ?_
        exact ab_wk (ab_le_some (ab_le_some (ab_le_none (ab_le_some (ab_le_nil))))) (fX12_hides_99_ok hB H K1 K0)
def fX12_hides_51 (a1 : Int32) (I : ab_I) : Option (Int32 × ab_I) :=
  (fX12_dayWithout ((1 : Int32) <<< (a1 &&& 31)) I).bind fun u6 =>
  ab_it (fun s => fX12_hides_63 a1 s.1 s.2.1 s.2.2) 5000 ((0 : Int32), (0 : Int32), u6.2)
set_option maxRecDepth 100000 in
theorem fX12_hides_51_ok {l : Launch} {G : ab_G} {S : ab_S} {I : ab_I} {J : ab_J} {P : ab_P} {Q : ab_Q} {a1 : Int32} (hB : bz_B S P) {x : Int32 × ab_I} (H : fX12_hides_51 a1 I = some x) (K0 : Q (some (.int x.1)) S x.2 J P) : ab_WP l G mX12_hides 7 51 [some (.ref 73), some (.int a1), none, none] [] S I J P 0 0 Q := by
  unfold fX12_hides_51 at H
  refine ab_aload_n (z := 0) (by decide +kernel) rfl rfl ?_
  refine ab_iconst (z := 1) (v := (1 : Int32)) (by decide +kernel) (by decide) ?_
  refine ab_iload_n (z := 1) (by decide +kernel) rfl rfl ?_
  refine ab_ishl (by decide +kernel) ?_
  obtain ⟨u6, hu6, H⟩ := ab_bd_of H
  refine kvX12_dayWithout (D := 6) (ix := 439) (by decide +kernel) tw_1618 (hB.1 73 _ rfl) (by decide) (Nat.le_of_ble_eq_true rfl) (mX12_dayWithout_ok hB hu6 ?_)
  change ab_WP l G mX12_hides 7 58 [some (.ref 73), some (.int a1), none, none] [.int u6.1] S u6.2 J P 0 0 Q
  refine ab_pop (by decide +kernel) rfl ?_
  refine ab_iconst (z := 0) (v := (0 : Int32)) (by decide +kernel) (by decide) ?_
  refine ab_istore_n (z := 2) (by decide +kernel) rfl (by decide) rfl ?_
  refine ab_ls (ls' := [some (.ref 73), some (.int a1), some (.int (0 : Int32)), none]) rfl ?_
  refine ab_iconst (z := 0) (v := (0 : Int32)) (by decide +kernel) (by decide) ?_
  refine ab_istore_n (z := 3) (by decide +kernel) rfl (by decide) rfl ?_
  refine ab_ls (ls' := [some (.ref 73), some (.int a1), some (.int (0 : Int32)), some (.int (0 : Int32))]) rfl ?_
  exact ab_wk (ab_le_some (ab_le_some (ab_le_some (ab_le_some (ab_le_nil))))) (ab_iter (body := (fun s => fX12_hides_63 a1 s.1 s.2.1 s.2.2)) (W := fun s => ab_WP l G mX12_hides 7 63 [some (.ref 73), some (.int a1), some (.int s.1), some (.int s.2.1)] [] S s.2.2 J P 0 0 Q) (fun s y hb h1 h2 => fX12_hides_63_ok hB hb h1 (fun r e => by have e2 := h2 _ e; subst e2; exact K0)) 5000 ((0 : Int32), (0 : Int32), u6.2) H)
def fX12_hides_26 (a1 : Int32) (a2 : Int32) (I : ab_I) : Option ((Int32 × ab_I) ⊕ (Int32 × ab_I)) :=
  if (I 73 39) ≤ a2 then
    (fX12_hides_51 a1 I).map .inr
  else
    (fX12_rungBy a2 I).bind fun u5 =>
    ab_gd (ab_ix a2 6 = true) (
      some (.inl ((a2 + (1 : Int32)), (ab_u I 95 a2.toNatClampNeg u5)))
    )
set_option maxRecDepth 100000 in
theorem fX12_hides_26_ok {l : Launch} {G : ab_G} {S : ab_S} {I : ab_I} {J : ab_J} {P : ab_P} {Q : ab_Q} {a1 : Int32} {a2 : Int32} (hB : bz_B S P) {x : ((Int32 × ab_I) ⊕ (Int32 × ab_I))} (H : fX12_hides_26 a1 a2 I = some x) (K1 : ∀ s, x = (.inl s) → ab_WP l G mX12_hides 7 26 [some (.ref 73), some (.int a1), some (.int s.1), none] [] S s.2 J P 0 0 Q) (K0 : ∀ r, x = (.inr r) → Q (some (.int r.1)) S r.2 J P) : ab_WP l G mX12_hides 7 26 [some (.ref 73), some (.int a1), some (.int a2), none] [] S I J P 0 0 Q := by
  unfold fX12_hides_26 at H
  refine ab_iload_n (z := 2) (by decide +kernel) rfl rfl ?_
  refine ab_aload_n (z := 0) (by decide +kernel) rfl rfl ?_
  refine gX12_39 (ix := 348) (by decide +kernel) tw_1120 (hB.1 73 _ rfl) ?_
  refine ab_icmp_ge (off := 20) (tgt := 51) (by decide +kernel) rfl (fun hc => ?_) (fun hc => ?_)
  · replace H := ab_ifp H hc
    obtain ⟨y4, Hy, hx⟩ := ab_mp_of H
    subst hx
    replace H := Hy
    exact ab_wk (ab_le_some (ab_le_some (ab_le_none (ab_le_none (ab_le_nil))))) (fX12_hides_51_ok hB H  (K0 _ rfl))
  · replace H := ab_ifn H hc
    refine ab_aload_n (z := 0) (by decide +kernel) rfl rfl ?_
    refine gX12_55 (ix := 78) (by decide +kernel) tw_1136 (hB.1 73 _ rfl) (hB.2.1 100 (73, 55, 95) rfl) ?_
    refine ab_iload_n (z := 2) (by decide +kernel) rfl rfl ?_
    refine ab_aload_n (z := 0) (by decide +kernel) rfl rfl ?_
    refine ab_iload_n (z := 2) (by decide +kernel) rfl rfl ?_
    obtain ⟨u5, hu5, H⟩ := ab_bd_of H
    refine kvX12_rungBy (D := 1) (ix := 420) (by decide +kernel) tw_1521 (hB.1 73 _ rfl) (by decide) (Nat.le_of_ble_eq_true rfl) (mX12_rungBy_ok hB hu5 ?_)
    change ab_WP l G mX12_hides 7 44 [some (.ref 73), some (.int a1), some (.int a2), none] [.int u5, .int a2, .ref 95] S I J P 0 0 Q
    obtain ⟨hg, H⟩ := ab_gd_of H
    refine ab_iast (ln := 6) (by decide +kernel) (hB.1 95 _ rfl) (ab_ix_in hg) ?_
    refine ab_iinc (i := 2) (z := 1) (v := (a2 + (1 : Int32))) (by decide +kernel) rfl rfl (by decide) rfl ?_
    refine ab_ls (ls' := [some (.ref 73), some (.int a1), some (.int (a2 + (1 : Int32))), none]) rfl ?_
    refine ab_goto (off := -22) (tgt := 26) (by decide +kernel) rfl ?_
    exact ab_wk (ab_le_some (ab_le_some (ab_le_some (ab_le_none (ab_le_nil))))) (K1 ((a2 + (1 : Int32)), (ab_u I 95 a2.toNatClampNeg u5)) (Option.some.inj H).symm)
def fX12_hides (a1 : Int32) (I : ab_I) : Option (Int32 × ab_I) :=
  (fX12_isPerson a1 I).bind fun u1 =>
  if u1 = 0 then
    fX12_hides_16 a1 I
  else
    (fX12_isThere a1 I).bind fun u2 =>
    if u2 = 0 then
      fX12_hides_16 a1 I
    else
      (fX12_dayWithout (0 : Int32) I).bind fun u3 =>
      ab_it (fun s => fX12_hides_26 a1 s.1 s.2) 5000 ((0 : Int32), u3.2)
set_option maxRecDepth 100000 in
theorem mX12_hides_ok {l : Launch} {G : ab_G} {S : ab_S} {I : ab_I} {J : ab_J} {P : ab_P} {Q : ab_Q} {a1 : Int32} (hB : bz_B S P) {x : Int32 × ab_I} (H : fX12_hides a1 I = some x) (K0 : Q (some (.int x.1)) S x.2 J P) : ab_Call l G mX12_hides 7 [.ref 73, .int a1] S I J P Q := by
  unfold fX12_hides at H
  refine ab_enter rfl (Nat.le_of_ble_eq_true rfl) (ab_wk (ls' := [some (.ref 73), some (.int a1), none, none]) (ab_le_some (ab_le_some (ab_le_non0 (ab_le_non0 ab_le_nil)))) ?_)
  refine ab_aload_n (z := 0) (by decide +kernel) rfl rfl ?_
  refine ab_iload_n (z := 1) (by decide +kernel) rfl rfl ?_
  obtain ⟨u1, hu1, H⟩ := ab_bd_of H
  refine kvX12_isPerson (D := 1) (ix := 408) (by decide +kernel) tw_1470 (hB.1 73 _ rfl) (by decide) (Nat.le_of_ble_eq_true rfl) (mX12_isPerson_ok hB hu1 ?_)
  change ab_WP l G mX12_hides 7 5 [some (.ref 73), some (.int a1), none, none] [.int u1] S I J P 0 0 Q
  refine ab_if_eq (off := 11) (tgt := 16) (by decide +kernel) rfl (fun hc => ?_) (fun hc => ?_)
  · replace H := ab_ifp H hc
    exact ab_wk (ab_le_some (ab_le_some (ab_le_none (ab_le_none (ab_le_nil))))) (fX12_hides_16_ok hB H  K0)
  · replace H := ab_ifn H hc
    refine ab_aload_n (z := 0) (by decide +kernel) rfl rfl ?_
    refine ab_iload_n (z := 1) (by decide +kernel) rfl rfl ?_
    obtain ⟨u2, hu2, H⟩ := ab_bd_of H
    refine kvX12_isThere (D := 0) (ix := 430) (by decide +kernel) tw_1562 (hB.1 73 _ rfl) (by decide) (Nat.le_of_ble_eq_true rfl) (mX12_isThere_ok hB hu2 ?_)
    change ab_WP l G mX12_hides 7 13 [some (.ref 73), some (.int a1), none, none] [.int u2] S I J P 0 0 Q
    refine ab_if_ne (off := 5) (tgt := 18) (by decide +kernel) rfl (fun hc => ?_) (fun hc => ?_)
    · replace H := ab_ifn H hc
      refine ab_aload_n (z := 0) (by decide +kernel) rfl rfl ?_
      refine ab_iconst (z := 0) (v := (0 : Int32)) (by decide +kernel) (by decide) ?_
      obtain ⟨u3, hu3, H⟩ := ab_bd_of H
      refine kvX12_dayWithout (D := 6) (ix := 439) (by decide +kernel) tw_1618 (hB.1 73 _ rfl) (by decide) (Nat.le_of_ble_eq_true rfl) (mX12_dayWithout_ok hB hu3 ?_)
      change ab_WP l G mX12_hides 7 23 [some (.ref 73), some (.int a1), none, none] [.int u3.1] S u3.2 J P 0 0 Q
      refine ab_pop (by decide +kernel) rfl ?_
      refine ab_iconst (z := 0) (v := (0 : Int32)) (by decide +kernel) (by decide) ?_
      refine ab_istore_n (z := 2) (by decide +kernel) rfl (by decide) rfl ?_
      refine ab_ls (ls' := [some (.ref 73), some (.int a1), some (.int (0 : Int32)), none]) rfl ?_
      exact ab_wk (ab_le_some (ab_le_some (ab_le_some (ab_le_none (ab_le_nil))))) (ab_iter (body := (fun s => fX12_hides_26 a1 s.1 s.2)) (W := fun s => ab_WP l G mX12_hides 7 26 [some (.ref 73), some (.int a1), some (.int s.1), none] [] S s.2 J P 0 0 Q) (fun s y hb h1 h2 => fX12_hides_26_ok hB hb h1 (fun r e => by have e2 := h2 _ e; subst e2; exact K0)) 5000 ((0 : Int32), u3.2) H)
    · replace H := ab_ifp H hc
      exact ab_wk (ab_le_some (ab_le_some (ab_le_none (ab_le_none (ab_le_nil))))) (fX12_hides_16_ok hB H  K0)
abbrev mX12_layStays : ab_M := (yX12_layStays, cX12_layStays, 4, none, 0, 0)
theorem kvX12_layStays {l : Launch} {G : ab_G} {M : ab_M} {d pc : Nat} {ls : List (Option Value)} {st : List Value} {S : ab_S} {I : ab_I} {J : ab_J} {P : ab_P} {Q : ab_Q} {v0 v1 : Value} {ix D r ln : Nat} (hd : decode M.2.1 pc = .ok (.invokevirtual ix, 3)) (h1 : Cond.methodLink M.1.cls ix mX12_layStays.1 ∈ ab_good) (hs : S[r]? = some (17, ln)) (hdg : D + 1 ≤ d) (hsum : (st.map fun v => v.category).sum ≤ 8) (kk : ab_Call l G mX12_layStays D (.ref r :: [v0, v1]) S I J P (fun v S' I' J' P' => ab_WP l G M d (pc + 3) ls (ab_psh v st) S' I' J' P' 0 0 Q)) : ab_WP l G M d pc ls (v1 :: v0 :: .ref r :: st) S I J P 0 0 Q := bz_kv (g := mX12_layStays) (as := [v0, v1]) (cc := 12) rfl hd h1 tw_1688 tw_p85 tw_13 tw_1689 ⟨by decide +kernel, by decide +kernel, (by decide +kernel : (parseMethodDescriptor mX12_layStays.1.desc).map (fun d => d.parameters.length) = some 2)⟩ (by decide) rfl rfl rfl hdg hsum hs kk
def fX12_layStays_91 (a1 : Int32) (a2 : Int32) (I : ab_I) : Option ab_I :=
  some I
set_option maxRecDepth 100000 in
theorem fX12_layStays_91_ok {l : Launch} {G : ab_G} {S : ab_S} {I : ab_I} {J : ab_J} {P : ab_P} {Q : ab_Q} {a1 : Int32} {a2 : Int32} (hB : bz_B S P) {x : ab_I} (H : fX12_layStays_91 a1 a2 I = some x) (K0 : Q none S x J P) : ab_WP l G mX12_layStays 7 91 [some (.ref 73), some (.int a1), some (.int a2), none] [] S I J P 0 0 Q := by
  unfold fX12_layStays_91 at H
  obtain rfl := Option.some.inj H
  exact ab_vret (by decide +kernel) rfl (Nat.le_refl _) (Nat.le_refl _) K0
def fX12_layStays_84 (a1 : Int32) (a2 : Int32) (a3 : Int32) (s1 : Int32) (s2 : Int32) (I : ab_I) : Option ((Int32 × ab_I) ⊕ ab_I) :=
  ab_gd (ab_ix s1 4 = true) (
    some (.inl ((a3 + (1 : Int32)), (ab_u I 97 s1.toNatClampNeg s2)))
  )
set_option maxRecDepth 100000 in
theorem fX12_layStays_84_ok {l : Launch} {G : ab_G} {S : ab_S} {I : ab_I} {J : ab_J} {P : ab_P} {Q : ab_Q} {a1 : Int32} {a2 : Int32} {a3 : Int32} {s1 : Int32} {s2 : Int32} (hB : bz_B S P) {x : ((Int32 × ab_I) ⊕ ab_I)} (H : fX12_layStays_84 a1 a2 a3 s1 s2 I = some x) (K1 : ∀ s, x = (.inl s) → ab_WP l G mX12_layStays 7 2 [some (.ref 73), some (.int a1), some (.int a2), some (.int s.1)] [] S s.2 J P 0 0 Q) (K0 : ∀ r, x = (.inr r) → Q none S r J P) : ab_WP l G mX12_layStays 7 84 [some (.ref 73), some (.int a1), some (.int a2), some (.int a3)] [.int s2, .int s1, .ref 97] S I J P 0 0 Q := by
  unfold fX12_layStays_84 at H
  obtain ⟨hg, H⟩ := ab_gd_of H
  refine ab_iast (ln := 4) (by decide +kernel) (hB.1 97 _ rfl) (ab_ix_in hg) ?_
  refine ab_iinc (i := 3) (z := 1) (v := (a3 + (1 : Int32))) (by decide +kernel) rfl rfl (by decide) rfl ?_
  refine ab_ls (ls' := [some (.ref 73), some (.int a1), some (.int a2), some (.int (a3 + (1 : Int32)))]) rfl ?_
  refine ab_goto (off := -86) (tgt := 2) (by decide +kernel) rfl ?_
  exact ab_wk (ab_le_some (ab_le_some (ab_le_some (ab_le_some (ab_le_nil))))) (K1 ((a3 + (1 : Int32)), (ab_u I 97 s1.toNatClampNeg s2)) (Option.some.inj H).symm)
def fX12_layStays_55 (a1 : Int32) (a2 : Int32) (a3 : Int32) (s1 : Int32) (s2 : Int32) (I : ab_I) : Option ((Int32 × ab_I) ⊕ ab_I) :=
  ab_gd (ab_ix s1 4 = true) (
    if (a3 - a3 / (2 : Int32) * (2 : Int32)) = 0 then
      fX12_layStays_84 a1 a2 a3 a3 (3 : Int32) (ab_u I 96 s1.toNatClampNeg s2)
    else
      ab_gd (ab_ix a2 45 = true) (
        ab_gd (ab_ix a2 45 = true) (
          fX12_layStays_84 a1 a2 a3 a3 ((I 89 a2.toNatClampNeg) - (I 90 a2.toNatClampNeg)) (ab_u I 96 s1.toNatClampNeg s2)
        )
      )
  )
set_option maxRecDepth 100000 in
theorem fX12_layStays_55_ok {l : Launch} {G : ab_G} {S : ab_S} {I : ab_I} {J : ab_J} {P : ab_P} {Q : ab_Q} {a1 : Int32} {a2 : Int32} {a3 : Int32} {s1 : Int32} {s2 : Int32} (hB : bz_B S P) {x : ((Int32 × ab_I) ⊕ ab_I)} (H : fX12_layStays_55 a1 a2 a3 s1 s2 I = some x) (K1 : ∀ s, x = (.inl s) → ab_WP l G mX12_layStays 7 2 [some (.ref 73), some (.int a1), some (.int a2), some (.int s.1)] [] S s.2 J P 0 0 Q) (K0 : ∀ r, x = (.inr r) → Q none S r J P) : ab_WP l G mX12_layStays 7 55 [some (.ref 73), some (.int a1), some (.int a2), some (.int a3)] [.int s2, .int s1, .ref 96] S I J P 0 0 Q := by
  unfold fX12_layStays_55 at H
  obtain ⟨hg, H⟩ := ab_gd_of H
  refine ab_iast (ln := 4) (by decide +kernel) (hB.1 96 _ rfl) (ab_ix_in hg) ?_
  refine ab_aload_n (z := 0) (by decide +kernel) rfl rfl ?_
  refine gX12_57 (ix := 84) (by decide +kernel) tw_1138 (hB.1 73 _ rfl) (hB.2.1 102 (73, 57, 97) rfl) ?_
  refine ab_iload_n (z := 3) (by decide +kernel) rfl rfl ?_
  refine ab_iload_n (z := 3) (by decide +kernel) rfl rfl ?_
  refine ab_iconst (z := 2) (v := (2 : Int32)) (by decide +kernel) (by decide) ?_
  refine ab_irem (by decide +kernel) (by decide) ?_
  refine ab_if_ne (off := 7) (tgt := 71) (by decide +kernel) rfl (fun hc => ?_) (fun hc => ?_)
  · replace H := ab_ifn H hc
    refine ab_aload_n (z := 0) (by decide +kernel) rfl rfl ?_
    refine gX12_46 (ix := 60) (by decide +kernel) tw_1127 (hB.1 73 _ rfl) (hB.2.1 94 (73, 46, 89) rfl) ?_
    refine ab_iload_n (z := 2) (by decide +kernel) rfl rfl ?_
    obtain ⟨hg, H⟩ := ab_gd_of H
    refine ab_iald (ln := 45) (by decide +kernel) (hB.1 89 _ rfl) (ab_ix_in hg) ?_
    refine ab_top (y := (I 89 a2.toNatClampNeg)) rfl ?_
    refine ab_aload_n (z := 0) (by decide +kernel) rfl rfl ?_
    refine gX12_47 (ix := 63) (by decide +kernel) tw_1128 (hB.1 73 _ rfl) (hB.2.1 95 (73, 47, 90) rfl) ?_
    refine ab_iload_n (z := 2) (by decide +kernel) rfl rfl ?_
    obtain ⟨hg, H⟩ := ab_gd_of H
    refine ab_iald (ln := 45) (by decide +kernel) (hB.1 90 _ rfl) (ab_ix_in hg) ?_
    refine ab_top (y := (I 90 a2.toNatClampNeg)) rfl ?_
    refine ab_isub (by decide +kernel) ?_
    exact ab_wk (ab_le_some (ab_le_some (ab_le_some (ab_le_some (ab_le_nil))))) (fX12_layStays_84_ok hB H K1 K0)
  · replace H := ab_ifp H hc
    refine ab_iconst (z := 3) (v := (3 : Int32)) (by decide +kernel) (by decide) ?_
    refine ab_goto (off := 16) (tgt := 84) (by decide +kernel) rfl ?_
    exact ab_wk (ab_le_some (ab_le_some (ab_le_some (ab_le_some (ab_le_nil))))) (fX12_layStays_84_ok hB H K1 K0)
def fX12_layStays_2 (a1 : Int32) (a2 : Int32) (a3 : Int32) (I : ab_I) : Option ((Int32 × ab_I) ⊕ ab_I) :=
  if (4 : Int32) ≤ a3 then
    (fX12_layStays_91 a1 a2 I).map .inr
  else
    (fX12_dayWithout ((((1 : Int32) - (a3 / (2 : Int32))) <<< (a1 &&& 31)) ||| (((1 : Int32) - (a3 - a3 / (2 : Int32) * (2 : Int32))) <<< (a2 &&& 31))) I).bind fun u2 =>
    if (a3 / (2 : Int32)) = 0 then
      fX12_layStays_55 a1 a2 a3 a3 (3 : Int32) u2.2
    else
      ab_gd (ab_ix a1 45 = true) (
        ab_gd (ab_ix a1 45 = true) (
          fX12_layStays_55 a1 a2 a3 a3 ((u2.2 89 a1.toNatClampNeg) - (u2.2 90 a1.toNatClampNeg)) u2.2
        )
      )
set_option maxRecDepth 100000 in
theorem fX12_layStays_2_ok {l : Launch} {G : ab_G} {S : ab_S} {I : ab_I} {J : ab_J} {P : ab_P} {Q : ab_Q} {a1 : Int32} {a2 : Int32} {a3 : Int32} (hB : bz_B S P) {x : ((Int32 × ab_I) ⊕ ab_I)} (H : fX12_layStays_2 a1 a2 a3 I = some x) (K1 : ∀ s, x = (.inl s) → ab_WP l G mX12_layStays 7 2 [some (.ref 73), some (.int a1), some (.int a2), some (.int s.1)] [] S s.2 J P 0 0 Q) (K0 : ∀ r, x = (.inr r) → Q none S r J P) : ab_WP l G mX12_layStays 7 2 [some (.ref 73), some (.int a1), some (.int a2), some (.int a3)] [] S I J P 0 0 Q := by
  unfold fX12_layStays_2 at H
  refine ab_iload_n (z := 3) (by decide +kernel) rfl rfl ?_
  refine ab_iconst (z := 4) (v := (4 : Int32)) (by decide +kernel) (by decide) ?_
  refine ab_icmp_ge (off := 87) (tgt := 91) (by decide +kernel) rfl (fun hc => ?_) (fun hc => ?_)
  · replace H := ab_ifp H hc
    obtain ⟨y1, Hy, hx⟩ := ab_mp_of H
    subst hx
    replace H := Hy
    exact ab_wk (ab_le_some (ab_le_some (ab_le_some (ab_le_none (ab_le_nil))))) (fX12_layStays_91_ok hB H  (K0 _ rfl))
  · replace H := ab_ifn H hc
    refine ab_aload_n (z := 0) (by decide +kernel) rfl rfl ?_
    refine ab_iconst (z := 1) (v := (1 : Int32)) (by decide +kernel) (by decide) ?_
    refine ab_iload_n (z := 3) (by decide +kernel) rfl rfl ?_
    refine ab_iconst (z := 2) (v := (2 : Int32)) (by decide +kernel) (by decide) ?_
    refine ab_idiv (by decide +kernel) (by decide) ?_
    refine ab_isub (by decide +kernel) ?_
    refine ab_iload_n (z := 1) (by decide +kernel) rfl rfl ?_
    refine ab_ishl (by decide +kernel) ?_
    refine ab_iconst (z := 1) (v := (1 : Int32)) (by decide +kernel) (by decide) ?_
    refine ab_iload_n (z := 3) (by decide +kernel) rfl rfl ?_
    refine ab_iconst (z := 2) (v := (2 : Int32)) (by decide +kernel) (by decide) ?_
    refine ab_irem (by decide +kernel) (by decide) ?_
    refine ab_isub (by decide +kernel) ?_
    refine ab_iload_n (z := 2) (by decide +kernel) rfl rfl ?_
    refine ab_ishl (by decide +kernel) ?_
    refine ab_ior (by decide +kernel) ?_
    obtain ⟨u2, hu2, H⟩ := ab_bd_of H
    refine kvX12_dayWithout (D := 6) (ix := 439) (by decide +kernel) tw_1618 (hB.1 73 _ rfl) (by decide) (Nat.le_of_ble_eq_true rfl) (mX12_dayWithout_ok hB hu2 ?_)
    change ab_WP l G mX12_layStays 7 26 [some (.ref 73), some (.int a1), some (.int a2), some (.int a3)] [.int u2.1] S u2.2 J P 0 0 Q
    refine ab_pop (by decide +kernel) rfl ?_
    refine ab_aload_n (z := 0) (by decide +kernel) rfl rfl ?_
    refine gX12_56 (ix := 81) (by decide +kernel) tw_1137 (hB.1 73 _ rfl) (hB.2.1 101 (73, 56, 96) rfl) ?_
    refine ab_iload_n (z := 3) (by decide +kernel) rfl rfl ?_
    refine ab_iload_n (z := 3) (by decide +kernel) rfl rfl ?_
    refine ab_iconst (z := 2) (v := (2 : Int32)) (by decide +kernel) (by decide) ?_
    refine ab_idiv (by decide +kernel) (by decide) ?_
    refine ab_if_ne (off := 7) (tgt := 42) (by decide +kernel) rfl (fun hc => ?_) (fun hc => ?_)
    · replace H := ab_ifn H hc
      refine ab_aload_n (z := 0) (by decide +kernel) rfl rfl ?_
      refine gX12_46 (ix := 60) (by decide +kernel) tw_1127 (hB.1 73 _ rfl) (hB.2.1 94 (73, 46, 89) rfl) ?_
      refine ab_iload_n (z := 1) (by decide +kernel) rfl rfl ?_
      obtain ⟨hg, H⟩ := ab_gd_of H
      refine ab_iald (ln := 45) (by decide +kernel) (hB.1 89 _ rfl) (ab_ix_in hg) ?_
      refine ab_aload_n (z := 0) (by decide +kernel) rfl rfl ?_
      refine gX12_47 (ix := 63) (by decide +kernel) tw_1128 (hB.1 73 _ rfl) (hB.2.1 95 (73, 47, 90) rfl) ?_
      refine ab_iload_n (z := 1) (by decide +kernel) rfl rfl ?_
      obtain ⟨hg, H⟩ := ab_gd_of H
      refine ab_iald (ln := 45) (by decide +kernel) (hB.1 90 _ rfl) (ab_ix_in hg) ?_
      refine ab_isub (by decide +kernel) ?_
      exact ab_wk (ab_le_some (ab_le_some (ab_le_some (ab_le_some (ab_le_nil))))) (fX12_layStays_55_ok hB H K1 K0)
    · replace H := ab_ifp H hc
      refine ab_iconst (z := 3) (v := (3 : Int32)) (by decide +kernel) (by decide) ?_
      refine ab_goto (off := 16) (tgt := 55) (by decide +kernel) rfl ?_
      exact ab_wk (ab_le_some (ab_le_some (ab_le_some (ab_le_some (ab_le_nil))))) (fX12_layStays_55_ok hB H K1 K0)
def fX12_layStays (a1 : Int32) (a2 : Int32) (I : ab_I) : Option ab_I :=
  ab_it (fun s => fX12_layStays_2 a1 a2 s.1 s.2) 5000 ((0 : Int32), I)
set_option maxRecDepth 100000 in
theorem mX12_layStays_ok {l : Launch} {G : ab_G} {S : ab_S} {I : ab_I} {J : ab_J} {P : ab_P} {Q : ab_Q} {a1 : Int32} {a2 : Int32} (hB : bz_B S P) {x : ab_I} (H : fX12_layStays a1 a2 I = some x) (K0 : Q none S x J P) : ab_Call l G mX12_layStays 7 [.ref 73, .int a1, .int a2] S I J P Q := by
  unfold fX12_layStays at H
  refine ab_enter rfl (Nat.le_of_ble_eq_true rfl) (ab_wk (ls' := [some (.ref 73), some (.int a1), some (.int a2), none]) (ab_le_some (ab_le_some (ab_le_some (ab_le_non0 ab_le_nil)))) ?_)
  refine ab_iconst (z := 0) (v := (0 : Int32)) (by decide +kernel) (by decide) ?_
  refine ab_istore_n (z := 3) (by decide +kernel) rfl (by decide) rfl ?_
  refine ab_ls (ls' := [some (.ref 73), some (.int a1), some (.int a2), some (.int (0 : Int32))]) rfl ?_
  exact ab_wk (ab_le_some (ab_le_some (ab_le_some (ab_le_some (ab_le_nil))))) (ab_iter (body := (fun s => fX12_layStays_2 a1 a2 s.1 s.2)) (W := fun s => ab_WP l G mX12_layStays 7 2 [some (.ref 73), some (.int a1), some (.int a2), some (.int s.1)] [] S s.2 J P 0 0 Q) (fun s y hb h1 h2 => fX12_layStays_2_ok hB hb h1 (fun r e => by have e2 := h2 _ e; subst e2; exact K0)) 5000 ((0 : Int32), I) H)
abbrev mX12_staying : ab_M := (yX12_staying, cX12_staying, 5, some .int, 0, 0)
def fX12_staying_151 (a1 : Int32) (a2 : Int32) (a3 : Int32) (I : ab_I) : Option (Int32 × ab_I) :=
  some (a3, I)
set_option maxRecDepth 100000 in
theorem fX12_staying_151_ok {l : Launch} {G : ab_G} {S : ab_S} {I : ab_I} {J : ab_J} {P : ab_P} {Q : ab_Q} {a1 : Int32} {a2 : Int32} {a3 : Int32} (hB : bz_B S P) {x : Int32 × ab_I} (H : fX12_staying_151 a1 a2 a3 I = some x) (K0 : Q (some (.int x.1)) S x.2 J P) : ab_WP l G mX12_staying 8 151 [some (.ref 73), some (.int a1), some (.int a2), some (.int a3), none] [] S I J P 0 0 Q := by
  unfold fX12_staying_151 at H
  refine ab_iload_n (z := 3) (by decide +kernel) rfl rfl ?_
  obtain rfl := Option.some.inj H
  exact ab_iret (by decide +kernel) rfl (Nat.le_refl _) (Nat.le_refl _) K0
def fX12_staying_145 (a1 : Int32) (a2 : Int32) (a3 : Int32) (a4 : Int32) (I : ab_I) : Option ((Int32 × Int32 × ab_I) ⊕ (Int32 × ab_I)) :=
  some (.inl (a3, (a4 + (1 : Int32)), I))
set_option maxRecDepth 100000 in
theorem fX12_staying_145_ok {l : Launch} {G : ab_G} {S : ab_S} {I : ab_I} {J : ab_J} {P : ab_P} {Q : ab_Q} {a1 : Int32} {a2 : Int32} {a3 : Int32} {a4 : Int32} (hB : bz_B S P) {x : ((Int32 × Int32 × ab_I) ⊕ (Int32 × ab_I))} (H : fX12_staying_145 a1 a2 a3 a4 I = some x) (K1 : ∀ s, x = (.inl s) → ab_WP l G mX12_staying 8 55 [some (.ref 73), some (.int a1), some (.int a2), some (.int s.1), some (.int s.2.1)] [] S s.2.2 J P 0 0 Q) (K0 : ∀ r, x = (.inr r) → Q (some (.int r.1)) S r.2 J P) : ab_WP l G mX12_staying 8 145 [some (.ref 73), some (.int a1), some (.int a2), some (.int a3), some (.int a4)] [] S I J P 0 0 Q := by
  unfold fX12_staying_145 at H
  refine ab_iinc (i := 4) (z := 1) (v := (a4 + (1 : Int32))) (by decide +kernel) rfl rfl (by decide) rfl ?_
  refine ab_ls (ls' := [some (.ref 73), some (.int a1), some (.int a2), some (.int a3), some (.int (a4 + (1 : Int32)))]) rfl ?_
  refine ab_goto (off := -93) (tgt := 55) (by decide +kernel) rfl ?_
  exact ab_wk (ab_le_some (ab_le_some (ab_le_some (ab_le_some (ab_le_some (ab_le_nil)))))) (K1 (a3, (a4 + (1 : Int32)), I) (Option.some.inj H).symm)
def fX12_staying_42 (a1 : Int32) (a2 : Int32) (I : ab_I) : Option (Int32 × ab_I) :=
  some ((-1 : Int32), I)
set_option maxRecDepth 100000 in
theorem fX12_staying_42_ok {l : Launch} {G : ab_G} {S : ab_S} {I : ab_I} {J : ab_J} {P : ab_P} {Q : ab_Q} {a1 : Int32} {a2 : Int32} (hB : bz_B S P) {x : Int32 × ab_I} (H : fX12_staying_42 a1 a2 I = some x) (K0 : Q (some (.int x.1)) S x.2 J P) : ab_WP l G mX12_staying 8 42 [some (.ref 73), some (.int a1), some (.int a2), none, none] [] S I J P 0 0 Q := by
  unfold fX12_staying_42 at H
  refine ab_iconst (z := -1) (v := (-1 : Int32)) (by decide +kernel) (by decide) ?_
  obtain rfl := Option.some.inj H
  exact ab_iret (by decide +kernel) rfl (Nat.le_refl _) (Nat.le_refl _) K0
def fX12_staying_142 (a1 : Int32) (a2 : Int32) (a3 : Int32) (a4 : Int32) (I : ab_I) : Option ((Int32 × Int32 × ab_I) ⊕ (Int32 × ab_I)) :=
  fX12_staying_145 a1 a2 (a3 + (1 : Int32)) a4 I
set_option maxRecDepth 100000 in
theorem fX12_staying_142_ok {l : Launch} {G : ab_G} {S : ab_S} {I : ab_I} {J : ab_J} {P : ab_P} {Q : ab_Q} {a1 : Int32} {a2 : Int32} {a3 : Int32} {a4 : Int32} (hB : bz_B S P) {x : ((Int32 × Int32 × ab_I) ⊕ (Int32 × ab_I))} (H : fX12_staying_142 a1 a2 a3 a4 I = some x) (K1 : ∀ s, x = (.inl s) → ab_WP l G mX12_staying 8 55 [some (.ref 73), some (.int a1), some (.int a2), some (.int s.1), some (.int s.2.1)] [] S s.2.2 J P 0 0 Q) (K0 : ∀ r, x = (.inr r) → Q (some (.int r.1)) S r.2 J P) : ab_WP l G mX12_staying 8 142 [some (.ref 73), some (.int a1), some (.int a2), some (.int a3), some (.int a4)] [] S I J P 0 0 Q := by
  unfold fX12_staying_142 at H
  refine ab_iinc (i := 3) (z := 1) (v := (a3 + (1 : Int32))) (by decide +kernel) rfl rfl (by decide) rfl ?_
  refine ab_ls (ls' := [some (.ref 73), some (.int a1), some (.int a2), some (.int (a3 + (1 : Int32))), some (.int a4)]) rfl ?_
  exact ab_wk (ab_le_some (ab_le_some (ab_le_some (ab_le_some (ab_le_some (ab_le_nil)))))) (fX12_staying_145_ok hB H K1 K0)
def fX12_staying_55 (a1 : Int32) (a2 : Int32) (a3 : Int32) (a4 : Int32) (I : ab_I) : Option ((Int32 × Int32 × ab_I) ⊕ (Int32 × ab_I)) :=
  if (4 : Int32) ≤ a4 then
    (fX12_staying_151 a1 a2 a3 I).map .inr
  else
    ab_gd (ab_ix ((a4 + (2 : Int32)) - (a4 + (2 : Int32)) / (4 : Int32) * (4 : Int32)) 4 = true) (
      ab_gd (ab_ix a4 4 = true) (
        if (I 96 (((a4 + (2 : Int32)) - (a4 + (2 : Int32)) / (4 : Int32) * (4 : Int32)).toNatClampNeg)) < (I 96 a4.toNatClampNeg) then
          fX12_staying_145 a1 a2 a3 a4 I
        else
          ab_gd (ab_ix ((((a4 / (2 : Int32)) * (2 : Int32)) + (1 : Int32)) - (a4 - a4 / (2 : Int32) * (2 : Int32))) 4 = true) (
            ab_gd (ab_ix a4 4 = true) (
              if (I 97 a4.toNatClampNeg) ≤ (I 97 (((((a4 / (2 : Int32)) * (2 : Int32)) + (1 : Int32)) - (a4 - a4 / (2 : Int32) * (2 : Int32))).toNatClampNeg)) then
                if a3 = 0 then
                  ab_gd (ab_ix (0 : Int32) 6 = true) (
                    ab_gd (ab_ix (1 : Int32) 6 = true) (
                      fX12_staying_142 a1 a2 a3 a4 (ab_u (ab_u (ab_u I 93 ((0 : Int32).toNatClampNeg) (a4 / (2 : Int32))) 93 ((1 : Int32).toNatClampNeg) (a4 - a4 / (2 : Int32) * (2 : Int32))) 73 54 (2 : Int32))
                    )
                  )
                else
                  fX12_staying_142 a1 a2 a3 a4 I
              else
                fX12_staying_145 a1 a2 a3 a4 I
            )
          )
      )
    )
set_option maxRecDepth 100000 in
theorem fX12_staying_55_ok {l : Launch} {G : ab_G} {S : ab_S} {I : ab_I} {J : ab_J} {P : ab_P} {Q : ab_Q} {a1 : Int32} {a2 : Int32} {a3 : Int32} {a4 : Int32} (hB : bz_B S P) {x : ((Int32 × Int32 × ab_I) ⊕ (Int32 × ab_I))} (H : fX12_staying_55 a1 a2 a3 a4 I = some x) (K1 : ∀ s, x = (.inl s) → ab_WP l G mX12_staying 8 55 [some (.ref 73), some (.int a1), some (.int a2), some (.int s.1), some (.int s.2.1)] [] S s.2.2 J P 0 0 Q) (K0 : ∀ r, x = (.inr r) → Q (some (.int r.1)) S r.2 J P) : ab_WP l G mX12_staying 8 55 [some (.ref 73), some (.int a1), some (.int a2), some (.int a3), some (.int a4)] [] S I J P 0 0 Q := by
  unfold fX12_staying_55 at H
  refine ab_iload (i := 4) (by decide +kernel) rfl ?_
  refine ab_iconst (z := 4) (v := (4 : Int32)) (by decide +kernel) (by decide) ?_
  refine ab_icmp_ge (off := 93) (tgt := 151) (by decide +kernel) rfl (fun hc => ?_) (fun hc => ?_)
  · replace H := ab_ifp H hc
    obtain ⟨y6, Hy, hx⟩ := ab_mp_of H
    subst hx
    replace H := Hy
    exact ab_wk (ab_le_some (ab_le_some (ab_le_some (ab_le_some (ab_le_none (ab_le_nil)))))) (fX12_staying_151_ok hB H  (K0 _ rfl))
  · replace H := ab_ifn H hc
    refine ab_aload_n (z := 0) (by decide +kernel) rfl rfl ?_
    refine gX12_56 (ix := 81) (by decide +kernel) tw_1137 (hB.1 73 _ rfl) (hB.2.1 101 (73, 56, 96) rfl) ?_
    refine ab_iload (i := 4) (by decide +kernel) rfl ?_
    refine ab_iconst (z := 2) (v := (2 : Int32)) (by decide +kernel) (by decide) ?_
    refine ab_iadd (by decide +kernel) ?_
    refine ab_iconst (z := 4) (v := (4 : Int32)) (by decide +kernel) (by decide) ?_
    refine ab_irem (by decide +kernel) (by decide) ?_
    obtain ⟨hg, H⟩ := ab_gd_of H
    refine ab_iald (ln := 4) (by decide +kernel) (hB.1 96 _ rfl) (ab_ix_in hg) ?_
    refine ab_aload_n (z := 0) (by decide +kernel) rfl rfl ?_
    refine gX12_56 (ix := 81) (by decide +kernel) tw_1137 (hB.1 73 _ rfl) (hB.2.1 101 (73, 56, 96) rfl) ?_
    refine ab_iload (i := 4) (by decide +kernel) rfl ?_
    obtain ⟨hg, H⟩ := ab_gd_of H
    refine ab_iald (ln := 4) (by decide +kernel) (hB.1 96 _ rfl) (ab_ix_in hg) ?_
    refine ab_icmp_lt (off := 66) (tgt := 145) (by decide +kernel) rfl (fun hc => ?_) (fun hc => ?_)
    · replace H := ab_ifp H hc
      exact ab_wk (ab_le_some (ab_le_some (ab_le_some (ab_le_some (ab_le_some (ab_le_nil)))))) (fX12_staying_145_ok hB H K1 K0)
    · replace H := ab_ifn H hc
      refine ab_aload_n (z := 0) (by decide +kernel) rfl rfl ?_
      refine gX12_57 (ix := 84) (by decide +kernel) tw_1138 (hB.1 73 _ rfl) (hB.2.1 102 (73, 57, 97) rfl) ?_
      refine ab_iload (i := 4) (by decide +kernel) rfl ?_
      refine ab_iconst (z := 2) (v := (2 : Int32)) (by decide +kernel) (by decide) ?_
      refine ab_idiv (by decide +kernel) (by decide) ?_
      refine ab_iconst (z := 2) (v := (2 : Int32)) (by decide +kernel) (by decide) ?_
      refine ab_imul (by decide +kernel) ?_
      refine ab_iconst (z := 1) (v := (1 : Int32)) (by decide +kernel) (by decide) ?_
      refine ab_iadd (by decide +kernel) ?_
      refine ab_iload (i := 4) (by decide +kernel) rfl ?_
      refine ab_iconst (z := 2) (v := (2 : Int32)) (by decide +kernel) (by decide) ?_
      refine ab_irem (by decide +kernel) (by decide) ?_
      refine ab_isub (by decide +kernel) ?_
      obtain ⟨hg, H⟩ := ab_gd_of H
      refine ab_iald (ln := 4) (by decide +kernel) (hB.1 97 _ rfl) (ab_ix_in hg) ?_
      refine ab_aload_n (z := 0) (by decide +kernel) rfl rfl ?_
      refine gX12_57 (ix := 84) (by decide +kernel) tw_1138 (hB.1 73 _ rfl) (hB.2.1 102 (73, 57, 97) rfl) ?_
      refine ab_iload (i := 4) (by decide +kernel) rfl ?_
      obtain ⟨hg, H⟩ := ab_gd_of H
      refine ab_iald (ln := 4) (by decide +kernel) (hB.1 97 _ rfl) (ab_ix_in hg) ?_
      refine ab_icmp_ge (off := 6) (tgt := 113) (by decide +kernel) rfl (fun hc => ?_) (fun hc => ?_)
      · replace H := ab_ifp H hc
        refine ab_iload_n (z := 3) (by decide +kernel) rfl rfl ?_
        refine ab_if_ne (off := 28) (tgt := 142) (by decide +kernel) rfl (fun hc => ?_) (fun hc => ?_)
        · replace H := ab_ifn H hc
          exact ab_wk (ab_le_some (ab_le_some (ab_le_some (ab_le_some (ab_le_some (ab_le_nil)))))) (fX12_staying_142_ok hB H K1 K0)
        · replace H := ab_ifp H hc
          refine ab_aload_n (z := 0) (by decide +kernel) rfl rfl ?_
          refine gX12_52 (ix := 72) (by decide +kernel) tw_1133 (hB.1 73 _ rfl) (hB.2.1 98 (73, 52, 93) rfl) ?_
          refine ab_iconst (z := 0) (v := (0 : Int32)) (by decide +kernel) (by decide) ?_
          refine ab_iload (i := 4) (by decide +kernel) rfl ?_
          refine ab_iconst (z := 2) (v := (2 : Int32)) (by decide +kernel) (by decide) ?_
          refine ab_idiv (by decide +kernel) (by decide) ?_
          obtain ⟨hg, H⟩ := ab_gd_of H
          refine ab_iast (ln := 6) (by decide +kernel) (hB.1 93 _ rfl) (ab_ix_in hg) ?_
          refine ab_aload_n (z := 0) (by decide +kernel) rfl rfl ?_
          refine gX12_52 (ix := 72) (by decide +kernel) tw_1133 (hB.1 73 _ rfl) (hB.2.1 98 (73, 52, 93) rfl) ?_
          refine ab_iconst (z := 1) (v := (1 : Int32)) (by decide +kernel) (by decide) ?_
          refine ab_iload (i := 4) (by decide +kernel) rfl ?_
          refine ab_iconst (z := 2) (v := (2 : Int32)) (by decide +kernel) (by decide) ?_
          refine ab_irem (by decide +kernel) (by decide) ?_
          obtain ⟨hg, H⟩ := ab_gd_of H
          refine ab_iast (ln := 6) (by decide +kernel) (hB.1 93 _ rfl) (ab_ix_in hg) ?_
          refine ab_aload_n (z := 0) (by decide +kernel) rfl rfl ?_
          refine ab_iconst (z := 2) (v := (2 : Int32)) (by decide +kernel) (by decide) ?_
          refine pX12_54 (ix := 381) (by decide +kernel) tw_1135 (hB.1 73 _ rfl) ?_
          exact ab_wk (ab_le_some (ab_le_some (ab_le_some (ab_le_some (ab_le_some (ab_le_nil)))))) (fX12_staying_142_ok hB H K1 K0)
      · replace H := ab_ifn H hc
        refine ab_goto (off := 35) (tgt := 145) (by decide +kernel) rfl ?_
        exact ab_wk (ab_le_some (ab_le_some (ab_le_some (ab_le_some (ab_le_some (ab_le_nil)))))) (fX12_staying_145_ok hB H K1 K0)
def fX12_staying (a1 : Int32) (a2 : Int32) (I : ab_I) : Option (Int32 × ab_I) :=
  (fX12_isPerson a1 (ab_u I 73 54 (0 : Int32))).bind fun u1 =>
  if u1 = 0 then
    fX12_staying_42 a1 a2 (ab_u I 73 54 (0 : Int32))
  else
    (fX12_isPerson a2 (ab_u I 73 54 (0 : Int32))).bind fun u2 =>
    if u2 = 0 then
      fX12_staying_42 a1 a2 (ab_u I 73 54 (0 : Int32))
    else
      if a1 = a2 then
        fX12_staying_42 a1 a2 (ab_u I 73 54 (0 : Int32))
      else
        (fX12_isThere a1 (ab_u I 73 54 (0 : Int32))).bind fun u3 =>
        if u3 = 0 then
          fX12_staying_42 a1 a2 (ab_u I 73 54 (0 : Int32))
        else
          (fX12_isThere a2 (ab_u I 73 54 (0 : Int32))).bind fun u4 =>
          if u4 = 0 then
            fX12_staying_42 a1 a2 (ab_u I 73 54 (0 : Int32))
          else
            (fX12_layStays a1 a2 (ab_u I 73 54 (0 : Int32))).bind fun u5 =>
            ab_it (fun s => fX12_staying_55 a1 a2 s.1 s.2.1 s.2.2) 5000 ((0 : Int32), (0 : Int32), u5)
set_option maxRecDepth 100000 in
theorem mX12_staying_ok {l : Launch} {G : ab_G} {S : ab_S} {I : ab_I} {J : ab_J} {P : ab_P} {Q : ab_Q} {a1 : Int32} {a2 : Int32} (hB : bz_B S P) {x : Int32 × ab_I} (H : fX12_staying a1 a2 I = some x) (K0 : Q (some (.int x.1)) S x.2 J P) : ab_Call l G mX12_staying 8 [.ref 73, .int a1, .int a2] S I J P Q := by
  unfold fX12_staying at H
  refine ab_enter rfl (Nat.le_of_ble_eq_true rfl) (ab_wk (ls' := [some (.ref 73), some (.int a1), some (.int a2), none, none]) (ab_le_some (ab_le_some (ab_le_some (ab_le_non0 (ab_le_non0 ab_le_nil))))) ?_)
  refine ab_aload_n (z := 0) (by decide +kernel) rfl rfl ?_
  refine ab_iconst (z := 0) (v := (0 : Int32)) (by decide +kernel) (by decide) ?_
  refine pX12_54 (ix := 381) (by decide +kernel) tw_1135 (hB.1 73 _ rfl) ?_
  refine ab_aload_n (z := 0) (by decide +kernel) rfl rfl ?_
  refine ab_iload_n (z := 1) (by decide +kernel) rfl rfl ?_
  obtain ⟨u1, hu1, H⟩ := ab_bd_of H
  refine kvX12_isPerson (D := 1) (ix := 408) (by decide +kernel) tw_1470 (hB.1 73 _ rfl) (by decide) (Nat.le_of_ble_eq_true rfl) (mX12_isPerson_ok hB hu1 ?_)
  change ab_WP l G mX12_staying 8 10 [some (.ref 73), some (.int a1), some (.int a2), none, none] [.int u1] S (ab_u I 73 54 (0 : Int32)) J P 0 0 Q
  refine ab_if_eq (off := 32) (tgt := 42) (by decide +kernel) rfl (fun hc => ?_) (fun hc => ?_)
  · replace H := ab_ifp H hc
    exact ab_wk (ab_le_some (ab_le_some (ab_le_some (ab_le_none (ab_le_none (ab_le_nil)))))) (fX12_staying_42_ok hB H  K0)
  · replace H := ab_ifn H hc
    refine ab_aload_n (z := 0) (by decide +kernel) rfl rfl ?_
    refine ab_iload_n (z := 2) (by decide +kernel) rfl rfl ?_
    obtain ⟨u2, hu2, H⟩ := ab_bd_of H
    refine kvX12_isPerson (D := 1) (ix := 408) (by decide +kernel) tw_1470 (hB.1 73 _ rfl) (by decide) (Nat.le_of_ble_eq_true rfl) (mX12_isPerson_ok hB hu2 ?_)
    change ab_WP l G mX12_staying 8 18 [some (.ref 73), some (.int a1), some (.int a2), none, none] [.int u2] S (ab_u I 73 54 (0 : Int32)) J P 0 0 Q
    refine ab_if_eq (off := 24) (tgt := 42) (by decide +kernel) rfl (fun hc => ?_) (fun hc => ?_)
    · replace H := ab_ifp H hc
      exact ab_wk (ab_le_some (ab_le_some (ab_le_some (ab_le_none (ab_le_none (ab_le_nil)))))) (fX12_staying_42_ok hB H  K0)
    · replace H := ab_ifn H hc
      refine ab_iload_n (z := 1) (by decide +kernel) rfl rfl ?_
      refine ab_iload_n (z := 2) (by decide +kernel) rfl rfl ?_
      refine ab_icmp_eq (off := 19) (tgt := 42) (by decide +kernel) rfl (fun hc => ?_) (fun hc => ?_)
      · replace H := ab_ifp H hc
        exact ab_wk (ab_le_some (ab_le_some (ab_le_some (ab_le_none (ab_le_none (ab_le_nil)))))) (fX12_staying_42_ok hB H  K0)
      · replace H := ab_ifn H hc
        refine ab_aload_n (z := 0) (by decide +kernel) rfl rfl ?_
        refine ab_iload_n (z := 1) (by decide +kernel) rfl rfl ?_
        obtain ⟨u3, hu3, H⟩ := ab_bd_of H
        refine kvX12_isThere (D := 0) (ix := 430) (by decide +kernel) tw_1562 (hB.1 73 _ rfl) (by decide) (Nat.le_of_ble_eq_true rfl) (mX12_isThere_ok hB hu3 ?_)
        change ab_WP l G mX12_staying 8 31 [some (.ref 73), some (.int a1), some (.int a2), none, none] [.int u3] S (ab_u I 73 54 (0 : Int32)) J P 0 0 Q
        refine ab_if_eq (off := 11) (tgt := 42) (by decide +kernel) rfl (fun hc => ?_) (fun hc => ?_)
        · replace H := ab_ifp H hc
          exact ab_wk (ab_le_some (ab_le_some (ab_le_some (ab_le_none (ab_le_none (ab_le_nil)))))) (fX12_staying_42_ok hB H  K0)
        · replace H := ab_ifn H hc
          refine ab_aload_n (z := 0) (by decide +kernel) rfl rfl ?_
          refine ab_iload_n (z := 2) (by decide +kernel) rfl rfl ?_
          obtain ⟨u4, hu4, H⟩ := ab_bd_of H
          refine kvX12_isThere (D := 0) (ix := 430) (by decide +kernel) tw_1562 (hB.1 73 _ rfl) (by decide) (Nat.le_of_ble_eq_true rfl) (mX12_isThere_ok hB hu4 ?_)
          change ab_WP l G mX12_staying 8 39 [some (.ref 73), some (.int a1), some (.int a2), none, none] [.int u4] S (ab_u I 73 54 (0 : Int32)) J P 0 0 Q
          refine ab_if_ne (off := 5) (tgt := 44) (by decide +kernel) rfl (fun hc => ?_) (fun hc => ?_)
          · replace H := ab_ifn H hc
            refine ab_aload_n (z := 0) (by decide +kernel) rfl rfl ?_
            refine ab_iload_n (z := 1) (by decide +kernel) rfl rfl ?_
            refine ab_iload_n (z := 2) (by decide +kernel) rfl rfl ?_
            obtain ⟨u5, hu5, H⟩ := ab_bd_of H
            refine kvX12_layStays (D := 7) (ix := 467) (by decide +kernel) tw_1686 (hB.1 73 _ rfl) (by decide) (Nat.le_of_ble_eq_true rfl) (mX12_layStays_ok hB hu5 ?_)
            change ab_WP l G mX12_staying 8 50 [some (.ref 73), some (.int a1), some (.int a2), none, none] [] S u5 J P 0 0 Q
            refine ab_iconst (z := 0) (v := (0 : Int32)) (by decide +kernel) (by decide) ?_
            refine ab_istore_n (z := 3) (by decide +kernel) rfl (by decide) rfl ?_
            refine ab_ls (ls' := [some (.ref 73), some (.int a1), some (.int a2), some (.int (0 : Int32)), none]) rfl ?_
            refine ab_iconst (z := 0) (v := (0 : Int32)) (by decide +kernel) (by decide) ?_
            refine ab_istore (i := 4) (by decide +kernel) (by decide) rfl ?_
            refine ab_ls (ls' := [some (.ref 73), some (.int a1), some (.int a2), some (.int (0 : Int32)), some (.int (0 : Int32))]) rfl ?_
            exact ab_wk (ab_le_some (ab_le_some (ab_le_some (ab_le_some (ab_le_some (ab_le_nil)))))) (ab_iter (body := (fun s => fX12_staying_55 a1 a2 s.1 s.2.1 s.2.2)) (W := fun s => ab_WP l G mX12_staying 8 55 [some (.ref 73), some (.int a1), some (.int a2), some (.int s.1), some (.int s.2.1)] [] S s.2.2 J P 0 0 Q) (fun s y hb h1 h2 => fX12_staying_55_ok hB hb h1 (fun r e => by have e2 := h2 _ e; subst e2; exact K0)) 5000 ((0 : Int32), (0 : Int32), u5) H)
          · replace H := ab_ifp H hc
            exact ab_wk (ab_le_some (ab_le_some (ab_le_some (ab_le_none (ab_le_none (ab_le_nil)))))) (fX12_staying_42_ok hB H  K0)
