abbrev mX12_village : ab_M := (yX12_village, cX12_village, 2, some .int, 0, 0)
def fX12_village_269 (I : ab_I) (J : ab_J) : Option (Int32 × ab_I × ab_J) :=
  some ((I 73 39), I, J)
set_option maxRecDepth 100000 in
theorem fX12_village_269_ok {l : Launch} {G : ab_G} {S : ab_S} {I : ab_I} {J : ab_J} {P : ab_P} {Q : ab_Q} (hB : bz_B S P) {x : Int32 × ab_I × ab_J} (H : fX12_village_269 I J = some x) (K0 : Q (some (.int x.1)) S x.2.1 x.2.2 P) : ab_WP l G mX12_village 7 269 [some (.ref 73), none] [] S I J P 0 0 Q := by
  unfold fX12_village_269 at H
  refine ab_aload_n (z := 0) (by decide +kernel) rfl rfl ?_
  refine gX12_39 (ix := 348) (by decide +kernel) tw_1120 (hB.1 73 _ rfl) ?_
  obtain rfl := Option.some.inj H
  exact ab_iret (by decide +kernel) rfl (Nat.le_refl _) (Nat.le_refl _) K0
def fX12_village_251 (a1 : Int32) (I : ab_I) (J : ab_J) : Option ((Int32 × ab_I × ab_J) ⊕ (Int32 × ab_I × ab_J)) :=
  if (3 : Int32) ≤ a1 then
    (fX12_village_269 I J).map .inr
  else
    ab_gd (ab_ix a1 3 = true) (
      some (.inl ((a1 + (1 : Int32)), (ab_u I 107 a1.toNatClampNeg (0 : Int32)), J))
    )
set_option maxRecDepth 100000 in
theorem fX12_village_251_ok {l : Launch} {G : ab_G} {S : ab_S} {I : ab_I} {J : ab_J} {P : ab_P} {Q : ab_Q} {a1 : Int32} (hB : bz_B S P) {x : ((Int32 × ab_I × ab_J) ⊕ (Int32 × ab_I × ab_J))} (H : fX12_village_251 a1 I J = some x) (K1 : ∀ s, x = (.inl s) → ab_WP l G mX12_village 7 251 [some (.ref 73), some (.int s.1)] [] S s.2.1 s.2.2 P 0 0 Q) (K0 : ∀ r, x = (.inr r) → Q (some (.int r.1)) S r.2.1 r.2.2 P) : ab_WP l G mX12_village 7 251 [some (.ref 73), some (.int a1)] [] S I J P 0 0 Q := by
  unfold fX12_village_251 at H
  refine ab_iload_n (z := 1) (by decide +kernel) rfl rfl ?_
  refine ab_iconst (z := 3) (v := (3 : Int32)) (by decide +kernel) (by decide) ?_
  refine ab_icmp_ge (off := 16) (tgt := 269) (by decide +kernel) rfl (fun hc => ?_) (fun hc => ?_)
  · replace H := ab_ifp H hc
    obtain ⟨y8, Hy, hx⟩ := ab_mp_of H
    subst hx
    replace H := Hy
    exact ab_wk (ab_le_some (ab_le_none (ab_le_nil))) (fX12_village_269_ok hB H  (K0 _ rfl))
  · replace H := ab_ifn H hc
    refine ab_aload_n (z := 0) (by decide +kernel) rfl rfl ?_
    refine gX12_69 (ix := 115) (by decide +kernel) tw_1150 (hB.1 73 _ rfl) (hB.2.1 112 (73, 69, 107) rfl) ?_
    refine ab_iload_n (z := 1) (by decide +kernel) rfl rfl ?_
    refine ab_iconst (z := 0) (v := (0 : Int32)) (by decide +kernel) (by decide) ?_
    obtain ⟨hg, H⟩ := ab_gd_of H
    refine ab_zast (ln := 3) (by decide +kernel) (hB.1 107 _ rfl) (ab_ix_in hg) (by decide) ?_
    refine ab_iinc (i := 1) (z := 1) (v := (a1 + (1 : Int32))) (by decide +kernel) rfl rfl (by decide) rfl ?_
    refine ab_ls (ls' := [some (.ref 73), some (.int (a1 + (1 : Int32)))]) rfl ?_
    refine ab_goto (off := -15) (tgt := 251) (by decide +kernel) rfl ?_
    exact ab_wk (ab_le_some (ab_le_some (ab_le_nil))) (K1 ((a1 + (1 : Int32)), (ab_u I 107 a1.toNatClampNeg (0 : Int32)), J) (Option.some.inj H).symm)
def fX12_village_210 (I : ab_I) (J : ab_J) : Option (Int32 × ab_I × ab_J) :=
  (fX12_begin I).bind fun u6 =>
  ab_gd (ab_ix (44 : Int32) 45 = true) (
    (fX12_keepAir (ab_u u6 90 ((44 : Int32).toNatClampNeg) (u6 73 38))).bind fun u7 =>
    ab_it (fun s => fX12_village_251 s.1 s.2.1 s.2.2) 5000 ((0 : Int32), (ab_u (ab_u (ab_u (ab_u u7 73 50 (0 : Int32)) 73 51 (0 : Int32)) 73 64 (0 : Int32)) 73 54 (0 : Int32)), J)
  )
set_option maxRecDepth 100000 in
theorem fX12_village_210_ok {l : Launch} {G : ab_G} {S : ab_S} {I : ab_I} {J : ab_J} {P : ab_P} {Q : ab_Q} (hB : bz_B S P) {x : Int32 × ab_I × ab_J} (H : fX12_village_210 I J = some x) (K0 : Q (some (.int x.1)) S x.2.1 x.2.2 P) : ab_WP l G mX12_village 7 210 [some (.ref 73), none] [] S I J P 0 0 Q := by
  unfold fX12_village_210 at H
  refine ab_aload_n (z := 0) (by decide +kernel) rfl rfl ?_
  obtain ⟨u6, hu6, H⟩ := ab_bd_of H
  refine kvX12_begin (D := 0) (ix := 366) (by decide +kernel) tw_1454 (hB.1 73 _ rfl) (by decide) (Nat.le_of_ble_eq_true rfl) (mX12_begin_ok hB hu6 ?_)
  change ab_WP l G mX12_village 7 214 [some (.ref 73), none] [] S u6 J P 0 0 Q
  refine ab_aload_n (z := 0) (by decide +kernel) rfl rfl ?_
  refine gX12_47 (ix := 63) (by decide +kernel) tw_1128 (hB.1 73 _ rfl) (hB.2.1 95 (73, 47, 90) rfl) ?_
  refine ab_bipush (z := 44) (v := (44 : Int32)) (by decide +kernel) (by decide) ?_
  refine ab_aload_n (z := 0) (by decide +kernel) rfl rfl ?_
  refine gX12_38 (ix := 339) (by decide +kernel) tw_1119 (hB.1 73 _ rfl) ?_
  obtain ⟨hg, H⟩ := ab_gd_of H
  refine ab_iast (ln := 45) (by decide +kernel) (hB.1 90 _ rfl) (ab_ix_in hg) ?_
  refine ab_aload_n (z := 0) (by decide +kernel) rfl rfl ?_
  obtain ⟨u7, hu7, H⟩ := ab_bd_of H
  refine kvX12_keepAir (D := 0) (ix := 369) (by decide +kernel) tw_1458 (hB.1 73 _ rfl) (by decide) (Nat.le_of_ble_eq_true rfl) (mX12_keepAir_ok hB hu7 ?_)
  change ab_WP l G mX12_village 7 229 [some (.ref 73), none] [] S u7 J P 0 0 Q
  refine ab_aload_n (z := 0) (by decide +kernel) rfl rfl ?_
  refine ab_iconst (z := 0) (v := (0 : Int32)) (by decide +kernel) (by decide) ?_
  refine pX12_50 (ix := 372) (by decide +kernel) tw_1131 (hB.1 73 _ rfl) ?_
  refine ab_aload_n (z := 0) (by decide +kernel) rfl rfl ?_
  refine ab_iconst (z := 0) (v := (0 : Int32)) (by decide +kernel) (by decide) ?_
  refine pX12_51 (ix := 375) (by decide +kernel) tw_1132 (hB.1 73 _ rfl) ?_
  refine ab_aload_n (z := 0) (by decide +kernel) rfl rfl ?_
  refine ab_iconst (z := 0) (v := (0 : Int32)) (by decide +kernel) (by decide) ?_
  refine pX12_64 (ix := 378) (by decide +kernel) tw_1145 (hB.1 73 _ rfl) ?_
  refine ab_aload_n (z := 0) (by decide +kernel) rfl rfl ?_
  refine ab_iconst (z := 0) (v := (0 : Int32)) (by decide +kernel) (by decide) ?_
  refine pX12_54 (ix := 381) (by decide +kernel) tw_1135 (hB.1 73 _ rfl) ?_
  refine ab_iconst (z := 0) (v := (0 : Int32)) (by decide +kernel) (by decide) ?_
  refine ab_istore_n (z := 1) (by decide +kernel) rfl (by decide) rfl ?_
  refine ab_ls (ls' := [some (.ref 73), some (.int (0 : Int32))]) rfl ?_
  exact ab_wk (ab_le_some (ab_le_some (ab_le_nil))) (ab_iter (body := (fun s => fX12_village_251 s.1 s.2.1 s.2.2)) (W := fun s => ab_WP l G mX12_village 7 251 [some (.ref 73), some (.int s.1)] [] S s.2.1 s.2.2 P 0 0 Q) (fun s y hb h1 h2 => fX12_village_251_ok hB hb h1 (fun r e => by have e2 := h2 _ e; subst e2; exact K0)) 5000 ((0 : Int32), (ab_u (ab_u (ab_u (ab_u u7 73 50 (0 : Int32)) 73 51 (0 : Int32)) 73 64 (0 : Int32)) 73 54 (0 : Int32)), J) H)
def fX12_village_186 (a1 : Int32) (I : ab_I) (J : ab_J) : Option ((Int32 × ab_I × ab_J) ⊕ (Int32 × ab_I × ab_J)) :=
  if (30 : Int32) ≤ a1 then
    (fX12_village_210 I J).map .inr
  else
    ab_gd (ab_ix a1 30 = true) (
      ab_gd (ab_ix a1 30 = true) (
        some (.inl ((a1 + (1 : Int32)), (ab_u I 88 a1.toNatClampNeg (I 85 a1.toNatClampNeg)), J))
      )
    )
set_option maxRecDepth 100000 in
theorem fX12_village_186_ok {l : Launch} {G : ab_G} {S : ab_S} {I : ab_I} {J : ab_J} {P : ab_P} {Q : ab_Q} {a1 : Int32} (hB : bz_B S P) {x : ((Int32 × ab_I × ab_J) ⊕ (Int32 × ab_I × ab_J))} (H : fX12_village_186 a1 I J = some x) (K1 : ∀ s, x = (.inl s) → ab_WP l G mX12_village 7 186 [some (.ref 73), some (.int s.1)] [] S s.2.1 s.2.2 P 0 0 Q) (K0 : ∀ r, x = (.inr r) → Q (some (.int r.1)) S r.2.1 r.2.2 P) : ab_WP l G mX12_village 7 186 [some (.ref 73), some (.int a1)] [] S I J P 0 0 Q := by
  unfold fX12_village_186 at H
  refine ab_iload_n (z := 1) (by decide +kernel) rfl rfl ?_
  refine ab_bipush (z := 30) (v := (30 : Int32)) (by decide +kernel) (by decide) ?_
  refine ab_icmp_ge (off := 21) (tgt := 210) (by decide +kernel) rfl (fun hc => ?_) (fun hc => ?_)
  · replace H := ab_ifp H hc
    obtain ⟨y5, Hy, hx⟩ := ab_mp_of H
    subst hx
    replace H := Hy
    exact ab_wk (ab_le_some (ab_le_none (ab_le_nil))) (fX12_village_210_ok hB H  (K0 _ rfl))
  · replace H := ab_ifn H hc
    refine ab_aload_n (z := 0) (by decide +kernel) rfl rfl ?_
    refine gX12_32 (ix := 57) (by decide +kernel) tw_1113 (hB.1 73 _ rfl) (hB.2.1 93 (73, 32, 88) rfl) ?_
    refine ab_iload_n (z := 1) (by decide +kernel) rfl rfl ?_
    refine ab_aload_n (z := 0) (by decide +kernel) rfl rfl ?_
    refine gX12_29 (ix := 48) (by decide +kernel) tw_1110 (hB.1 73 _ rfl) (hB.2.1 90 (73, 29, 85) rfl) ?_
    refine ab_iload_n (z := 1) (by decide +kernel) rfl rfl ?_
    obtain ⟨hg, H⟩ := ab_gd_of H
    refine ab_iald (ln := 30) (by decide +kernel) (hB.1 85 _ rfl) (ab_ix_in hg) ?_
    obtain ⟨hg, H⟩ := ab_gd_of H
    refine ab_iast (ln := 30) (by decide +kernel) (hB.1 88 _ rfl) (ab_ix_in hg) ?_
    refine ab_iinc (i := 1) (z := 1) (v := (a1 + (1 : Int32))) (by decide +kernel) rfl rfl (by decide) rfl ?_
    refine ab_ls (ls' := [some (.ref 73), some (.int (a1 + (1 : Int32)))]) rfl ?_
    refine ab_goto (off := -21) (tgt := 186) (by decide +kernel) rfl ?_
    exact ab_wk (ab_le_some (ab_le_some (ab_le_nil))) (K1 ((a1 + (1 : Int32)), (ab_u I 88 a1.toNatClampNeg (I 85 a1.toNatClampNeg)), J) (Option.some.inj H).symm)
def fX12_village_184 (I : ab_I) (J : ab_J) : Option (Int32 × ab_I × ab_J) :=
  ab_it (fun s => fX12_village_186 s.1 s.2.1 s.2.2) 5000 ((0 : Int32), I, J)
set_option maxRecDepth 100000 in
theorem fX12_village_184_ok {l : Launch} {G : ab_G} {S : ab_S} {I : ab_I} {J : ab_J} {P : ab_P} {Q : ab_Q} (hB : bz_B S P) {x : Int32 × ab_I × ab_J} (H : fX12_village_184 I J = some x) (K0 : Q (some (.int x.1)) S x.2.1 x.2.2 P) : ab_WP l G mX12_village 7 184 [some (.ref 73), none] [] S I J P 0 0 Q := by
  unfold fX12_village_184 at H
  refine ab_iconst (z := 0) (v := (0 : Int32)) (by decide +kernel) (by decide) ?_
  refine ab_istore_n (z := 1) (by decide +kernel) rfl (by decide) rfl ?_
  refine ab_ls (ls' := [some (.ref 73), some (.int (0 : Int32))]) rfl ?_
  exact ab_wk (ab_le_some (ab_le_some (ab_le_nil))) (ab_iter (body := (fun s => fX12_village_186 s.1 s.2.1 s.2.2)) (W := fun s => ab_WP l G mX12_village 7 186 [some (.ref 73), some (.int s.1)] [] S s.2.1 s.2.2 P 0 0 Q) (fun s y hb h1 h2 => fX12_village_186_ok hB hb h1 (fun r e => by have e2 := h2 _ e; subst e2; exact K0)) 5000 ((0 : Int32), I, J) H)
def fX12_village_158 (a1 : Int32) (I : ab_I) (J : ab_J) : Option ((Int32 × ab_I × ab_J) ⊕ (Int32 × ab_I × ab_J)) :=
  if (I 73 40) ≤ a1 then
    (fX12_village_184 I J).map .inr
  else
    ab_gd (ab_ix a1 5 = true) (
      ab_gd (ab_ix a1 5 = true) (
        some (.inl ((a1 + (1 : Int32)), (ab_u I 87 a1.toNatClampNeg (I 84 a1.toNatClampNeg)), J))
      )
    )
set_option maxRecDepth 100000 in
theorem fX12_village_158_ok {l : Launch} {G : ab_G} {S : ab_S} {I : ab_I} {J : ab_J} {P : ab_P} {Q : ab_Q} {a1 : Int32} (hB : bz_B S P) {x : ((Int32 × ab_I × ab_J) ⊕ (Int32 × ab_I × ab_J))} (H : fX12_village_158 a1 I J = some x) (K1 : ∀ s, x = (.inl s) → ab_WP l G mX12_village 7 158 [some (.ref 73), some (.int s.1)] [] S s.2.1 s.2.2 P 0 0 Q) (K0 : ∀ r, x = (.inr r) → Q (some (.int r.1)) S r.2.1 r.2.2 P) : ab_WP l G mX12_village 7 158 [some (.ref 73), some (.int a1)] [] S I J P 0 0 Q := by
  unfold fX12_village_158 at H
  refine ab_iload_n (z := 1) (by decide +kernel) rfl rfl ?_
  refine ab_aload_n (z := 0) (by decide +kernel) rfl rfl ?_
  refine gX12_40 (ix := 351) (by decide +kernel) tw_1121 (hB.1 73 _ rfl) ?_
  refine ab_icmp_ge (off := 21) (tgt := 184) (by decide +kernel) rfl (fun hc => ?_) (fun hc => ?_)
  · replace H := ab_ifp H hc
    obtain ⟨y4, Hy, hx⟩ := ab_mp_of H
    subst hx
    replace H := Hy
    exact ab_wk (ab_le_some (ab_le_none (ab_le_nil))) (fX12_village_184_ok hB H  (K0 _ rfl))
  · replace H := ab_ifn H hc
    refine ab_aload_n (z := 0) (by decide +kernel) rfl rfl ?_
    refine gX12_31 (ix := 54) (by decide +kernel) tw_1112 (hB.1 73 _ rfl) (hB.2.1 92 (73, 31, 87) rfl) ?_
    refine ab_iload_n (z := 1) (by decide +kernel) rfl rfl ?_
    refine ab_aload_n (z := 0) (by decide +kernel) rfl rfl ?_
    refine gX12_28 (ix := 45) (by decide +kernel) tw_1109 (hB.1 73 _ rfl) (hB.2.1 89 (73, 28, 84) rfl) ?_
    refine ab_iload_n (z := 1) (by decide +kernel) rfl rfl ?_
    obtain ⟨hg, H⟩ := ab_gd_of H
    refine ab_iald (ln := 5) (by decide +kernel) (hB.1 84 _ rfl) (ab_ix_in hg) ?_
    obtain ⟨hg, H⟩ := ab_gd_of H
    refine ab_iast (ln := 5) (by decide +kernel) (hB.1 87 _ rfl) (ab_ix_in hg) ?_
    refine ab_iinc (i := 1) (z := 1) (v := (a1 + (1 : Int32))) (by decide +kernel) rfl rfl (by decide) rfl ?_
    refine ab_ls (ls' := [some (.ref 73), some (.int (a1 + (1 : Int32)))]) rfl ?_
    refine ab_goto (off := -23) (tgt := 158) (by decide +kernel) rfl ?_
    exact ab_wk (ab_le_some (ab_le_some (ab_le_nil))) (K1 ((a1 + (1 : Int32)), (ab_u I 87 a1.toNatClampNeg (I 84 a1.toNatClampNeg)), J) (Option.some.inj H).symm)
def fX12_village_156 (I : ab_I) (J : ab_J) : Option (Int32 × ab_I × ab_J) :=
  ab_it (fun s => fX12_village_158 s.1 s.2.1 s.2.2) 5000 ((0 : Int32), I, J)
set_option maxRecDepth 100000 in
theorem fX12_village_156_ok {l : Launch} {G : ab_G} {S : ab_S} {I : ab_I} {J : ab_J} {P : ab_P} {Q : ab_Q} (hB : bz_B S P) {x : Int32 × ab_I × ab_J} (H : fX12_village_156 I J = some x) (K0 : Q (some (.int x.1)) S x.2.1 x.2.2 P) : ab_WP l G mX12_village 7 156 [some (.ref 73), none] [] S I J P 0 0 Q := by
  unfold fX12_village_156 at H
  refine ab_iconst (z := 0) (v := (0 : Int32)) (by decide +kernel) (by decide) ?_
  refine ab_istore_n (z := 1) (by decide +kernel) rfl (by decide) rfl ?_
  refine ab_ls (ls' := [some (.ref 73), some (.int (0 : Int32))]) rfl ?_
  exact ab_wk (ab_le_some (ab_le_some (ab_le_nil))) (ab_iter (body := (fun s => fX12_village_158 s.1 s.2.1 s.2.2)) (W := fun s => ab_WP l G mX12_village 7 158 [some (.ref 73), some (.int s.1)] [] S s.2.1 s.2.2 P 0 0 Q) (fun s y hb h1 h2 => fX12_village_158_ok hB hb h1 (fun r e => by have e2 := h2 _ e; subst e2; exact K0)) 5000 ((0 : Int32), I, J) H)
def fX12_village_130 (a1 : Int32) (I : ab_I) (J : ab_J) : Option ((Int32 × ab_I × ab_J) ⊕ (Int32 × ab_I × ab_J)) :=
  if (I 73 39) ≤ a1 then
    (fX12_village_156 I J).map .inr
  else
    ab_gd (ab_ix a1 6 = true) (
      ab_gd (ab_ix a1 6 = true) (
        some (.inl ((a1 + (1 : Int32)), (ab_u I 86 a1.toNatClampNeg (I 83 a1.toNatClampNeg)), J))
      )
    )
set_option maxRecDepth 100000 in
theorem fX12_village_130_ok {l : Launch} {G : ab_G} {S : ab_S} {I : ab_I} {J : ab_J} {P : ab_P} {Q : ab_Q} {a1 : Int32} (hB : bz_B S P) {x : ((Int32 × ab_I × ab_J) ⊕ (Int32 × ab_I × ab_J))} (H : fX12_village_130 a1 I J = some x) (K1 : ∀ s, x = (.inl s) → ab_WP l G mX12_village 7 130 [some (.ref 73), some (.int s.1)] [] S s.2.1 s.2.2 P 0 0 Q) (K0 : ∀ r, x = (.inr r) → Q (some (.int r.1)) S r.2.1 r.2.2 P) : ab_WP l G mX12_village 7 130 [some (.ref 73), some (.int a1)] [] S I J P 0 0 Q := by
  unfold fX12_village_130 at H
  refine ab_iload_n (z := 1) (by decide +kernel) rfl rfl ?_
  refine ab_aload_n (z := 0) (by decide +kernel) rfl rfl ?_
  refine gX12_39 (ix := 348) (by decide +kernel) tw_1120 (hB.1 73 _ rfl) ?_
  refine ab_icmp_ge (off := 21) (tgt := 156) (by decide +kernel) rfl (fun hc => ?_) (fun hc => ?_)
  · replace H := ab_ifp H hc
    obtain ⟨y3, Hy, hx⟩ := ab_mp_of H
    subst hx
    replace H := Hy
    exact ab_wk (ab_le_some (ab_le_none (ab_le_nil))) (fX12_village_156_ok hB H  (K0 _ rfl))
  · replace H := ab_ifn H hc
    refine ab_aload_n (z := 0) (by decide +kernel) rfl rfl ?_
    refine gX12_30 (ix := 51) (by decide +kernel) tw_1111 (hB.1 73 _ rfl) (hB.2.1 91 (73, 30, 86) rfl) ?_
    refine ab_iload_n (z := 1) (by decide +kernel) rfl rfl ?_
    refine ab_aload_n (z := 0) (by decide +kernel) rfl rfl ?_
    refine gX12_27 (ix := 42) (by decide +kernel) tw_1108 (hB.1 73 _ rfl) (hB.2.1 88 (73, 27, 83) rfl) ?_
    refine ab_iload_n (z := 1) (by decide +kernel) rfl rfl ?_
    obtain ⟨hg, H⟩ := ab_gd_of H
    refine ab_iald (ln := 6) (by decide +kernel) (hB.1 83 _ rfl) (ab_ix_in hg) ?_
    obtain ⟨hg, H⟩ := ab_gd_of H
    refine ab_iast (ln := 6) (by decide +kernel) (hB.1 86 _ rfl) (ab_ix_in hg) ?_
    refine ab_iinc (i := 1) (z := 1) (v := (a1 + (1 : Int32))) (by decide +kernel) rfl rfl (by decide) rfl ?_
    refine ab_ls (ls' := [some (.ref 73), some (.int (a1 + (1 : Int32)))]) rfl ?_
    refine ab_goto (off := -23) (tgt := 130) (by decide +kernel) rfl ?_
    exact ab_wk (ab_le_some (ab_le_some (ab_le_nil))) (K1 ((a1 + (1 : Int32)), (ab_u I 86 a1.toNatClampNeg (I 83 a1.toNatClampNeg)), J) (Option.some.inj H).symm)
def fX12_village_128 (I : ab_I) (J : ab_J) : Option (Int32 × ab_I × ab_J) :=
  ab_it (fun s => fX12_village_130 s.1 s.2.1 s.2.2) 5000 ((0 : Int32), I, J)
set_option maxRecDepth 100000 in
theorem fX12_village_128_ok {l : Launch} {G : ab_G} {S : ab_S} {I : ab_I} {J : ab_J} {P : ab_P} {Q : ab_Q} (hB : bz_B S P) {x : Int32 × ab_I × ab_J} (H : fX12_village_128 I J = some x) (K0 : Q (some (.int x.1)) S x.2.1 x.2.2 P) : ab_WP l G mX12_village 7 128 [some (.ref 73), none] [] S I J P 0 0 Q := by
  unfold fX12_village_128 at H
  refine ab_iconst (z := 0) (v := (0 : Int32)) (by decide +kernel) (by decide) ?_
  refine ab_istore_n (z := 1) (by decide +kernel) rfl (by decide) rfl ?_
  refine ab_ls (ls' := [some (.ref 73), some (.int (0 : Int32))]) rfl ?_
  exact ab_wk (ab_le_some (ab_le_some (ab_le_nil))) (ab_iter (body := (fun s => fX12_village_130 s.1 s.2.1 s.2.2)) (W := fun s => ab_WP l G mX12_village 7 130 [some (.ref 73), some (.int s.1)] [] S s.2.1 s.2.2 P 0 0 Q) (fun s y hb h1 h2 => fX12_village_130_ok hB hb h1 (fun r e => by have e2 := h2 _ e; subst e2; exact K0)) 5000 ((0 : Int32), I, J) H)
def fX12_village_90 (a1 : Int32) (I : ab_I) (J : ab_J) : Option ((Int32 × ab_I × ab_J) ⊕ (Int32 × ab_I × ab_J)) :=
  if (I 73 18) ≤ a1 then
    (fX12_village_128 I J).map .inr
  else
    ab_gd (ab_ix a1 320 = true) (
      ab_gd (ab_ix a1 320 = true) (
        ab_gd (ab_ix a1 320 = true) (
          ab_gd (ab_ix a1 320 = true) (
            some (.inl ((a1 + (1 : Int32)), (ab_u (ab_u I 78 a1.toNatClampNeg (I 76 a1.toNatClampNeg)) 79 a1.toNatClampNeg (I 77 a1.toNatClampNeg)), J))
          )
        )
      )
    )
set_option maxRecDepth 100000 in
theorem fX12_village_90_ok {l : Launch} {G : ab_G} {S : ab_S} {I : ab_I} {J : ab_J} {P : ab_P} {Q : ab_Q} {a1 : Int32} (hB : bz_B S P) {x : ((Int32 × ab_I × ab_J) ⊕ (Int32 × ab_I × ab_J))} (H : fX12_village_90 a1 I J = some x) (K1 : ∀ s, x = (.inl s) → ab_WP l G mX12_village 7 90 [some (.ref 73), some (.int s.1)] [] S s.2.1 s.2.2 P 0 0 Q) (K0 : ∀ r, x = (.inr r) → Q (some (.int r.1)) S r.2.1 r.2.2 P) : ab_WP l G mX12_village 7 90 [some (.ref 73), some (.int a1)] [] S I J P 0 0 Q := by
  unfold fX12_village_90 at H
  refine ab_iload_n (z := 1) (by decide +kernel) rfl rfl ?_
  refine ab_aload_n (z := 0) (by decide +kernel) rfl rfl ?_
  refine gX12_18 (ix := 289) (by decide +kernel) tw_1099 (hB.1 73 _ rfl) ?_
  refine ab_icmp_ge (off := 33) (tgt := 128) (by decide +kernel) rfl (fun hc => ?_) (fun hc => ?_)
  · replace H := ab_ifp H hc
    obtain ⟨y2, Hy, hx⟩ := ab_mp_of H
    subst hx
    replace H := Hy
    exact ab_wk (ab_le_some (ab_le_none (ab_le_nil))) (fX12_village_128_ok hB H  (K0 _ rfl))
  · replace H := ab_ifn H hc
    refine ab_aload_n (z := 0) (by decide +kernel) rfl rfl ?_
    refine gX12_13 (ix := 27) (by decide +kernel) tw_1094 (hB.1 73 _ rfl) (hB.2.1 83 (73, 13, 78) rfl) ?_
    refine ab_iload_n (z := 1) (by decide +kernel) rfl rfl ?_
    refine ab_aload_n (z := 0) (by decide +kernel) rfl rfl ?_
    refine gX12_11 (ix := 21) (by decide +kernel) tw_1092 (hB.1 73 _ rfl) (hB.2.1 81 (73, 11, 76) rfl) ?_
    refine ab_iload_n (z := 1) (by decide +kernel) rfl rfl ?_
    obtain ⟨hg, H⟩ := ab_gd_of H
    refine ab_iald (ln := 320) (by decide +kernel) (hB.1 76 _ rfl) (ab_ix_in hg) ?_
    obtain ⟨hg, H⟩ := ab_gd_of H
    refine ab_iast (ln := 320) (by decide +kernel) (hB.1 78 _ rfl) (ab_ix_in hg) ?_
    refine ab_aload_n (z := 0) (by decide +kernel) rfl rfl ?_
    refine gX12_14 (ix := 30) (by decide +kernel) tw_1095 (hB.1 73 _ rfl) (hB.2.1 84 (73, 14, 79) rfl) ?_
    refine ab_iload_n (z := 1) (by decide +kernel) rfl rfl ?_
    refine ab_aload_n (z := 0) (by decide +kernel) rfl rfl ?_
    refine gX12_12 (ix := 24) (by decide +kernel) tw_1093 (hB.1 73 _ rfl) (hB.2.1 82 (73, 12, 77) rfl) ?_
    refine ab_iload_n (z := 1) (by decide +kernel) rfl rfl ?_
    obtain ⟨hg, H⟩ := ab_gd_of H
    refine ab_iald (ln := 320) (by decide +kernel) (hB.1 77 _ rfl) (ab_ix_in hg) ?_
    refine ab_top (y := (I 77 a1.toNatClampNeg)) rfl ?_
    obtain ⟨hg, H⟩ := ab_gd_of H
    refine ab_iast (ln := 320) (by decide +kernel) (hB.1 79 _ rfl) (ab_ix_in hg) ?_
    refine ab_iinc (i := 1) (z := 1) (v := (a1 + (1 : Int32))) (by decide +kernel) rfl rfl (by decide) rfl ?_
    refine ab_ls (ls' := [some (.ref 73), some (.int (a1 + (1 : Int32)))]) rfl ?_
    refine ab_goto (off := -35) (tgt := 90) (by decide +kernel) rfl ?_
    exact ab_wk (ab_le_some (ab_le_some (ab_le_nil))) (K1 ((a1 + (1 : Int32)), (ab_u (ab_u I 78 a1.toNatClampNeg (I 76 a1.toNatClampNeg)) 79 a1.toNatClampNeg (I 77 a1.toNatClampNeg)), J) (Option.some.inj H).symm)
def fX12_village_85 (s1 : Int32) (I : ab_I) (J : ab_J) : Option (Int32 × ab_I × ab_J) :=
  ab_it (fun s => fX12_village_90 s.1 s.2.1 s.2.2) 5000 ((0 : Int32), (ab_u I 73 18 s1), J)
set_option maxRecDepth 100000 in
theorem fX12_village_85_ok {l : Launch} {G : ab_G} {S : ab_S} {I : ab_I} {J : ab_J} {P : ab_P} {Q : ab_Q} {s1 : Int32} (hB : bz_B S P) {x : Int32 × ab_I × ab_J} (H : fX12_village_85 s1 I J = some x) (K0 : Q (some (.int x.1)) S x.2.1 x.2.2 P) : ab_WP l G mX12_village 7 85 [some (.ref 73), none] [.int s1, .ref 73] S I J P 0 0 Q := by
  unfold fX12_village_85 at H
  refine pX12_18 (ix := 289) (by decide +kernel) tw_1099 (hB.1 73 _ rfl) ?_
  refine ab_iconst (z := 0) (v := (0 : Int32)) (by decide +kernel) (by decide) ?_
  refine ab_istore_n (z := 1) (by decide +kernel) rfl (by decide) rfl ?_
  refine ab_ls (ls' := [some (.ref 73), some (.int (0 : Int32))]) rfl ?_
  exact ab_wk (ab_le_some (ab_le_some (ab_le_nil))) (ab_iter (body := (fun s => fX12_village_90 s.1 s.2.1 s.2.2)) (W := fun s => ab_WP l G mX12_village 7 90 [some (.ref 73), some (.int s.1)] [] S s.2.1 s.2.2 P 0 0 Q) (fun s y hb h1 h2 => fX12_village_90_ok hB hb h1 (fun r e => by have e2 := h2 _ e; subst e2; exact K0)) 5000 ((0 : Int32), (ab_u I 73 18 s1), J) H)
def fX12_village (I : ab_I) (J : ab_J) : Option (Int32 × ab_I × ab_J) :=
  (fX12_readAll I J).bind fun u1 =>
  if (u1.1 73 2) ≤ 0 then
    ab_gd ((u1.1 73 24) = 0 ∨ (u1.1 73 24) = 1) (
      if (u1.1 73 24) = 0 then
        fX12_village_85 (0 : Int32) (ab_u (ab_u (ab_u (ab_u (ab_u (ab_u (ab_u u1.1 73 39 (u1.1 73 33)) 73 40 (u1.1 73 34)) 73 41 (u1.1 73 35)) 73 42 (u1.1 73 36)) 73 43 (u1.1 73 37)) 73 21 (u1.1 73 20)) 73 25 (u1.1 73 24)) u1.2
      else
        fX12_village_85 (u1.1 73 17) (ab_u (ab_u (ab_u (ab_u (ab_u (ab_u (ab_u u1.1 73 39 (u1.1 73 33)) 73 40 (u1.1 73 34)) 73 41 (u1.1 73 35)) 73 42 (u1.1 73 36)) 73 43 (u1.1 73 37)) 73 21 (u1.1 73 20)) 73 25 (u1.1 73 24)) u1.2
    )
  else
    some ((-1 : Int32), u1.1, u1.2)
set_option maxRecDepth 100000 in
theorem mX12_village_ok {l : Launch} {G : ab_G} {S : ab_S} {I : ab_I} {J : ab_J} {P : ab_P} {Q : ab_Q} (hB : bz_B S P) {x : Int32 × ab_I × ab_J} (H : fX12_village I J = some x) (K0 : Q (some (.int x.1)) S x.2.1 x.2.2 P) : ab_Call l G mX12_village 7 [.ref 73] S I J P Q := by
  unfold fX12_village at H
  refine ab_enter rfl (Nat.le_of_ble_eq_true rfl) (ab_wk (ls' := [some (.ref 73), none]) (ab_le_some (ab_le_non0 ab_le_nil)) ?_)
  refine ab_aload_n (z := 0) (by decide +kernel) rfl rfl ?_
  obtain ⟨u1, hu1, H⟩ := ab_bd_of H
  refine kvX12_readAll (D := 6) (ix := 345) (by decide +kernel) tw_1311 (hB.1 73 _ rfl) (by decide) (Nat.le_of_ble_eq_true rfl) (mX12_readAll_ok hB hu1 ?_)
  change ab_WP l G mX12_village 7 4 [some (.ref 73), none] [] S u1.1 u1.2 P 0 0 Q
  refine ab_aload_n (z := 0) (by decide +kernel) rfl rfl ?_
  refine gX12_2 (ix := 161) (by decide +kernel) tw_1083 (hB.1 73 _ rfl) ?_
  refine ab_if_le (off := 5) (tgt := 13) (by decide +kernel) rfl (fun hc => ?_) (fun hc => ?_)
  · replace H := ab_ifp H hc
    refine ab_aload_n (z := 0) (by decide +kernel) rfl rfl ?_
    refine ab_aload_n (z := 0) (by decide +kernel) rfl rfl ?_
    refine gX12_33 (ix := 296) (by decide +kernel) tw_1114 (hB.1 73 _ rfl) ?_
    refine pX12_39 (ix := 348) (by decide +kernel) tw_1120 (hB.1 73 _ rfl) ?_
    refine ab_aload_n (z := 0) (by decide +kernel) rfl rfl ?_
    refine ab_aload_n (z := 0) (by decide +kernel) rfl rfl ?_
    refine gX12_34 (ix := 306) (by decide +kernel) tw_1115 (hB.1 73 _ rfl) ?_
    refine ab_top (y := (u1.1 73 34)) rfl ?_
    refine pX12_40 (ix := 351) (by decide +kernel) tw_1121 (hB.1 73 _ rfl) ?_
    refine ab_aload_n (z := 0) (by decide +kernel) rfl rfl ?_
    refine ab_aload_n (z := 0) (by decide +kernel) rfl rfl ?_
    refine gX12_35 (ix := 315) (by decide +kernel) tw_1116 (hB.1 73 _ rfl) ?_
    refine ab_top (y := (u1.1 73 35)) rfl ?_
    refine pX12_41 (ix := 354) (by decide +kernel) tw_1122 (hB.1 73 _ rfl) ?_
    refine ab_aload_n (z := 0) (by decide +kernel) rfl rfl ?_
    refine ab_aload_n (z := 0) (by decide +kernel) rfl rfl ?_
    refine gX12_36 (ix := 312) (by decide +kernel) tw_1117 (hB.1 73 _ rfl) ?_
    refine ab_top (y := (u1.1 73 36)) rfl ?_
    refine pX12_42 (ix := 357) (by decide +kernel) tw_1123 (hB.1 73 _ rfl) ?_
    refine ab_aload_n (z := 0) (by decide +kernel) rfl rfl ?_
    refine ab_aload_n (z := 0) (by decide +kernel) rfl rfl ?_
    refine gX12_37 (ix := 333) (by decide +kernel) tw_1118 (hB.1 73 _ rfl) ?_
    refine ab_top (y := (u1.1 73 37)) rfl ?_
    refine pX12_43 (ix := 360) (by decide +kernel) tw_1124 (hB.1 73 _ rfl) ?_
    refine ab_aload_n (z := 0) (by decide +kernel) rfl rfl ?_
    refine ab_aload_n (z := 0) (by decide +kernel) rfl rfl ?_
    refine gX12_20 (ix := 238) (by decide +kernel) tw_1101 (hB.1 73 _ rfl) ?_
    refine ab_top (y := (u1.1 73 20)) rfl ?_
    refine pX12_21 (ix := 363) (by decide +kernel) tw_1102 (hB.1 73 _ rfl) ?_
    refine ab_aload_n (z := 0) (by decide +kernel) rfl rfl ?_
    refine ab_aload_n (z := 0) (by decide +kernel) rfl rfl ?_
    refine gX12_24 (ix := 260) (by decide +kernel) tw_1105 (hB.1 73 _ rfl) ?_
    refine ab_top (y := (u1.1 73 24)) rfl ?_
    obtain ⟨hg, H⟩ := ab_gd_of H
    refine pX12_25 (ix := 286) (by decide +kernel) tw_1106 (hB.1 73 _ rfl) hg ?_
    refine ab_aload_n (z := 0) (by decide +kernel) rfl rfl ?_
    refine ab_aload_n (z := 0) (by decide +kernel) rfl rfl ?_
    refine gX12_24 (ix := 260) (by decide +kernel) tw_1105 (hB.1 73 _ rfl) ?_
    refine ab_top (y := (u1.1 73 24)) rfl ?_
    refine ab_if_eq (off := 10) (tgt := 84) (by decide +kernel) rfl (fun hc => ?_) (fun hc => ?_)
    · replace H := ab_ifp H hc
      refine ab_iconst (z := 0) (v := (0 : Int32)) (by decide +kernel) (by decide) ?_
      exact ab_wk (ab_le_some (ab_le_none (ab_le_nil))) (fX12_village_85_ok hB H  K0)
    · replace H := ab_ifn H hc
      refine ab_aload_n (z := 0) (by decide +kernel) rfl rfl ?_
      refine gX12_17 (ix := 222) (by decide +kernel) tw_1098 (hB.1 73 _ rfl) ?_
      refine ab_top (y := (u1.1 73 17)) rfl ?_
      refine ab_goto (off := 4) (tgt := 85) (by decide +kernel) rfl ?_
      exact ab_wk (ab_le_some (ab_le_none (ab_le_nil))) (fX12_village_85_ok hB H  K0)
  · replace H := ab_ifn H hc
    refine ab_iconst (z := -1) (v := (-1 : Int32)) (by decide +kernel) (by decide) ?_
    obtain rfl := Option.some.inj H
    exact ab_iret (by decide +kernel) rfl (Nat.le_refl _) (Nat.le_refl _) K0
abbrev mX12_fault : ab_M := (yX12_fault, cX12_fault, 2, some .int, 0, 0)
def fX12_fault_24 (a1 : Int32) (I : ab_I) (s0 : Int32) : Option Int32 :=
  some s0
set_option maxRecDepth 100000 in
theorem fX12_fault_24_ok {l : Launch} {G : ab_G} {S : ab_S} {I : ab_I} {J : ab_J} {P : ab_P} {Q : ab_Q} {a1 : Int32} {s0 : Int32} (hB : bz_B S P) {x : Int32} (H : fX12_fault_24 a1 I s0 = some x) (K0 : Q (some (.int x)) S I J P) : ab_WP l G mX12_fault 0 24 [some (.ref 73), some (.int a1)] [.int s0] S I J P 0 0 Q := by
  unfold fX12_fault_24 at H
  obtain rfl := Option.some.inj H
  exact ab_iret (by decide +kernel) rfl (Nat.le_refl _) (Nat.le_refl _) K0
def fX12_fault (a1 : Int32) (I : ab_I) : Option Int32 :=
  if a1 = 0 then
    fX12_fault_24 a1 I (I 73 2)
  else
    if a1 = (1 : Int32) then
      fX12_fault_24 a1 I (I 73 3)
    else
      fX12_fault_24 a1 I (-1 : Int32)
set_option maxRecDepth 100000 in
theorem mX12_fault_ok {l : Launch} {G : ab_G} {S : ab_S} {I : ab_I} {J : ab_J} {P : ab_P} {Q : ab_Q} {a1 : Int32} (hB : bz_B S P) {x : Int32} (H : fX12_fault a1 I = some x) (K0 : Q (some (.int x)) S I J P) : ab_Call l G mX12_fault 0 [.ref 73, .int a1] S I J P Q := by
  unfold fX12_fault at H
  refine ab_enter rfl (Nat.le_of_ble_eq_true rfl) (ab_wk (ls' := [some (.ref 73), some (.int a1)]) (ab_le_some (ab_le_some (ab_le_nil))) ?_)
  refine ab_iload_n (z := 1) (by decide +kernel) rfl rfl ?_
  refine ab_if_ne (off := 10) (tgt := 11) (by decide +kernel) rfl (fun hc => ?_) (fun hc => ?_)
  · replace H := ab_ifn H hc
    refine ab_iload_n (z := 1) (by decide +kernel) rfl rfl ?_
    refine ab_iconst (z := 1) (v := (1 : Int32)) (by decide +kernel) (by decide) ?_
    refine ab_icmp_ne (off := 10) (tgt := 23) (by decide +kernel) rfl (fun hc => ?_) (fun hc => ?_)
    · replace H := ab_ifn H hc
      refine ab_iconst (z := -1) (v := (-1 : Int32)) (by decide +kernel) (by decide) ?_
      exact ab_wk (ab_le_some (ab_le_some (ab_le_nil))) (fX12_fault_24_ok hB H  K0)
    · replace H := ab_ifp H hc
      refine ab_aload_n (z := 0) (by decide +kernel) rfl rfl ?_
      refine gX12_3 (ix := 13) (by decide +kernel) tw_1084 (hB.1 73 _ rfl) ?_
      refine ab_goto (off := 4) (tgt := 24) (by decide +kernel) rfl ?_
      exact ab_wk (ab_le_some (ab_le_some (ab_le_nil))) (fX12_fault_24_ok hB H  K0)
  · replace H := ab_ifp H hc
    refine ab_aload_n (z := 0) (by decide +kernel) rfl rfl ?_
    refine gX12_2 (ix := 161) (by decide +kernel) tw_1083 (hB.1 73 _ rfl) ?_
    refine ab_goto (off := 16) (tgt := 24) (by decide +kernel) rfl ?_
    exact ab_wk (ab_le_some (ab_le_some (ab_le_nil))) (fX12_fault_24_ok hB H  K0)
abbrev mX12_isIn : ab_M := (yX12_isIn, cX12_isIn, 3, some .boolean, 0, 0)
theorem ksX12_isIn {l : Launch} {G : ab_G} {M : ab_M} {d pc : Nat} {ls : List (Option Value)} {st : List Value} {S : ab_S} {I : ab_I} {J : ab_J} {P : ab_P} {Q : ab_Q} {v0 v1 v2 : Value} {ix D : Nat} (hd : decode M.2.1 pc = .ok (.invokestatic ix, 3)) (h1 : Cond.methodLink M.1.cls ix mX12_isIn.1 ∈ ab_good) (hdg : D + 1 ≤ d) (hsum : (st.map fun v => v.category).sum ≤ 8) (kk : ab_Call l G mX12_isIn D [v0, v1, v2] S I J P (fun v S' I' J' P' => ab_WP l G M d (pc + 3) ls (ab_psh v st) S' I' J' P' 0 0 Q)) : ab_WP l G M d pc ls (v2 :: v1 :: v0 :: st) S I J P 0 0 Q := bz_ks (g := mX12_isIn) (as := [v0, v1, v2]) rfl hd h1 tw_1475 tw_13 tw_1476 ⟨by decide +kernel, by decide +kernel, (by decide +kernel : (parseMethodDescriptor mX12_isIn.1.desc).map (fun d => d.parameters.length) = some 3)⟩ (by decide) rfl hdg hsum kk
def fX12_isIn_15 (a0 : Int32) (a1 : Int32) (a2 : Int32) (s0 : Int32) : Option Int32 :=
  ab_gd (s0 = 0 ∨ s0 = 1) (some s0)
set_option maxRecDepth 100000 in
theorem fX12_isIn_15_ok {l : Launch} {G : ab_G} {S : ab_S} {I : ab_I} {J : ab_J} {P : ab_P} {Q : ab_Q} {a0 : Int32} {a1 : Int32} {a2 : Int32} {s0 : Int32} (hB : bz_B S P) {x : Int32} (H : fX12_isIn_15 a0 a1 a2 s0 = some x) (K0 : Q (some (.int x)) S I J P) : ab_WP l G mX12_isIn 0 15 [some (.int a0), some (.int a1), some (.int a2)] [.int s0] S I J P 0 0 Q := by
  unfold fX12_isIn_15 at H
  obtain ⟨hg, H⟩ := ab_gd_of H
  obtain rfl := Option.some.inj H
  exact ab_zret (by decide +kernel) rfl (Nat.le_refl _) (Nat.le_refl _) hg K0
def fX12_isIn_14 (a0 : Int32) (a1 : Int32) (a2 : Int32) : Option Int32 :=
  fX12_isIn_15 a0 a1 a2 (0 : Int32)
set_option maxRecDepth 100000 in
theorem fX12_isIn_14_ok {l : Launch} {G : ab_G} {S : ab_S} {I : ab_I} {J : ab_J} {P : ab_P} {Q : ab_Q} {a0 : Int32} {a1 : Int32} {a2 : Int32} (hB : bz_B S P) {x : Int32} (H : fX12_isIn_14 a0 a1 a2 = some x) (K0 : Q (some (.int x)) S I J P) : ab_WP l G mX12_isIn 0 14 [some (.int a0), some (.int a1), some (.int a2)] [] S I J P 0 0 Q := by
  unfold fX12_isIn_14 at H
  refine ab_iconst (z := 0) (v := (0 : Int32)) (by decide +kernel) (by decide) ?_
  exact ab_wk (ab_le_some (ab_le_some (ab_le_some (ab_le_nil)))) (fX12_isIn_15_ok hB H  K0)
def fX12_isIn (a0 : Int32) (a1 : Int32) (a2 : Int32) : Option Int32 :=
  if a0 < a1 then
    fX12_isIn_14 a0 a1 a2
  else
    if a2 < a0 then
      fX12_isIn_14 a0 a1 a2
    else
      fX12_isIn_15 a0 a1 a2 (1 : Int32)
set_option maxRecDepth 100000 in
theorem mX12_isIn_ok {l : Launch} {G : ab_G} {S : ab_S} {I : ab_I} {J : ab_J} {P : ab_P} {Q : ab_Q} {a0 : Int32} {a1 : Int32} {a2 : Int32} (hB : bz_B S P) {x : Int32} (H : fX12_isIn a0 a1 a2 = some x) (K0 : Q (some (.int x)) S I J P) : ab_Call l G mX12_isIn 0 [.int a0, .int a1, .int a2] S I J P Q := by
  unfold fX12_isIn at H
  refine ab_enter rfl (Nat.le_of_ble_eq_true rfl) (ab_wk (ls' := [some (.int a0), some (.int a1), some (.int a2)]) (ab_le_some (ab_le_some (ab_le_some (ab_le_nil)))) ?_)
  refine ab_iload_n (z := 0) (by decide +kernel) rfl rfl ?_
  refine ab_iload_n (z := 1) (by decide +kernel) rfl rfl ?_
  refine ab_icmp_lt (off := 12) (tgt := 14) (by decide +kernel) rfl (fun hc => ?_) (fun hc => ?_)
  · replace H := ab_ifp H hc
    exact ab_wk (ab_le_some (ab_le_some (ab_le_some (ab_le_nil)))) (fX12_isIn_14_ok hB H  K0)
  · replace H := ab_ifn H hc
    refine ab_iload_n (z := 0) (by decide +kernel) rfl rfl ?_
    refine ab_iload_n (z := 2) (by decide +kernel) rfl rfl ?_
    refine ab_icmp_gt (off := 7) (tgt := 14) (by decide +kernel) rfl (fun hc => ?_) (fun hc => ?_)
    · replace H := ab_ifp H hc
      exact ab_wk (ab_le_some (ab_le_some (ab_le_some (ab_le_nil)))) (fX12_isIn_14_ok hB H  K0)
    · replace H := ab_ifn H hc
      refine ab_iconst (z := 1) (v := (1 : Int32)) (by decide +kernel) (by decide) ?_
      refine ab_goto (off := 4) (tgt := 15) (by decide +kernel) rfl ?_
      exact ab_wk (ab_le_some (ab_le_some (ab_le_some (ab_le_nil)))) (fX12_isIn_15_ok hB H  K0)
abbrev mX12_isPerson : ab_M := (yX12_isPerson, cX12_isPerson, 2, some .boolean, 0, 0)
theorem kvX12_isPerson {l : Launch} {G : ab_G} {M : ab_M} {d pc : Nat} {ls : List (Option Value)} {st : List Value} {S : ab_S} {I : ab_I} {J : ab_J} {P : ab_P} {Q : ab_Q} {v0 : Value} {ix D r ln : Nat} (hd : decode M.2.1 pc = .ok (.invokevirtual ix, 3)) (h1 : Cond.methodLink M.1.cls ix mX12_isPerson.1 ∈ ab_good) (hs : S[r]? = some (17, ln)) (hdg : D + 1 ≤ d) (hsum : (st.map fun v => v.category).sum ≤ 8) (kk : ab_Call l G mX12_isPerson D (.ref r :: [v0]) S I J P (fun v S' I' J' P' => ab_WP l G M d (pc + 3) ls (ab_psh v st) S' I' J' P' 0 0 Q)) : ab_WP l G M d pc ls (v0 :: .ref r :: st) S I J P 0 0 Q := bz_kv (g := mX12_isPerson) (as := [v0]) (cc := 12) rfl hd h1 tw_1472 tw_p62 tw_13 tw_1473 ⟨by decide +kernel, by decide +kernel, (by decide +kernel : (parseMethodDescriptor mX12_isPerson.1.desc).map (fun d => d.parameters.length) = some 1)⟩ (by decide) rfl rfl rfl hdg hsum hs kk
def fX12_isPerson (a1 : Int32) (I : ab_I) : Option Int32 :=
  (fX12_isIn a1 (0 : Int32) ((I 73 39) - (1 : Int32))).bind fun u1 =>
  ab_gd (u1 = 0 ∨ u1 = 1) (some u1)
set_option maxRecDepth 100000 in
theorem mX12_isPerson_ok {l : Launch} {G : ab_G} {S : ab_S} {I : ab_I} {J : ab_J} {P : ab_P} {Q : ab_Q} {a1 : Int32} (hB : bz_B S P) {x : Int32} (H : fX12_isPerson a1 I = some x) (K0 : Q (some (.int x)) S I J P) : ab_Call l G mX12_isPerson 1 [.ref 73, .int a1] S I J P Q := by
  unfold fX12_isPerson at H
  refine ab_enter rfl (Nat.le_of_ble_eq_true rfl) (ab_wk (ls' := [some (.ref 73), some (.int a1)]) (ab_le_some (ab_le_some (ab_le_nil))) ?_)
  refine ab_iload_n (z := 1) (by decide +kernel) rfl rfl ?_
  refine ab_iconst (z := 0) (v := (0 : Int32)) (by decide +kernel) (by decide) ?_
  refine ab_aload_n (z := 0) (by decide +kernel) rfl rfl ?_
  refine gX12_39 (ix := 348) (by decide +kernel) tw_1120 (hB.1 73 _ rfl) ?_
  refine ab_iconst (z := 1) (v := (1 : Int32)) (by decide +kernel) (by decide) ?_
  refine ab_isub (by decide +kernel) ?_
  obtain ⟨u1, hu1, H⟩ := ab_bd_of H
  refine ksX12_isIn (D := 0) (ix := 384) (by decide +kernel) tw_1474 (by decide) (Nat.le_of_ble_eq_true rfl) (mX12_isIn_ok hB hu1 ?_)
  change ab_WP l G mX12_isPerson 1 11 [some (.ref 73), some (.int a1)] [.int u1] S I J P 0 0 Q
  obtain ⟨hg, H⟩ := ab_gd_of H
  obtain rfl := Option.some.inj H
  exact ab_zret (by decide +kernel) rfl (Nat.le_refl _) (Nat.le_refl _) hg K0
abbrev mX12_isBell : ab_M := (yX12_isBell, cX12_isBell, 2, some .boolean, 0, 0)
theorem kvX12_isBell {l : Launch} {G : ab_G} {M : ab_M} {d pc : Nat} {ls : List (Option Value)} {st : List Value} {S : ab_S} {I : ab_I} {J : ab_J} {P : ab_P} {Q : ab_Q} {v0 : Value} {ix D r ln : Nat} (hd : decode M.2.1 pc = .ok (.invokevirtual ix, 3)) (h1 : Cond.methodLink M.1.cls ix mX12_isBell.1 ∈ ab_good) (hs : S[r]? = some (17, ln)) (hdg : D + 1 ≤ d) (hsum : (st.map fun v => v.category).sum ≤ 8) (kk : ab_Call l G mX12_isBell D (.ref r :: [v0]) S I J P (fun v S' I' J' P' => ab_WP l G M d (pc + 3) ls (ab_psh v st) S' I' J' P' 0 0 Q)) : ab_WP l G M d pc ls (v0 :: .ref r :: st) S I J P 0 0 Q := bz_kv (g := mX12_isBell) (as := [v0]) (cc := 12) rfl hd h1 tw_1531 tw_p72 tw_13 tw_1532 ⟨by decide +kernel, by decide +kernel, (by decide +kernel : (parseMethodDescriptor mX12_isBell.1.desc).map (fun d => d.parameters.length) = some 1)⟩ (by decide) rfl rfl rfl hdg hsum hs kk
def fX12_isBell (a1 : Int32) (I : ab_I) : Option Int32 :=
  (fX12_isIn a1 (0 : Int32) ((I 73 40) - (1 : Int32))).bind fun u1 =>
  ab_gd (u1 = 0 ∨ u1 = 1) (some u1)
set_option maxRecDepth 100000 in
theorem mX12_isBell_ok {l : Launch} {G : ab_G} {S : ab_S} {I : ab_I} {J : ab_J} {P : ab_P} {Q : ab_Q} {a1 : Int32} (hB : bz_B S P) {x : Int32} (H : fX12_isBell a1 I = some x) (K0 : Q (some (.int x)) S I J P) : ab_Call l G mX12_isBell 1 [.ref 73, .int a1] S I J P Q := by
  unfold fX12_isBell at H
  refine ab_enter rfl (Nat.le_of_ble_eq_true rfl) (ab_wk (ls' := [some (.ref 73), some (.int a1)]) (ab_le_some (ab_le_some (ab_le_nil))) ?_)
  refine ab_iload_n (z := 1) (by decide +kernel) rfl rfl ?_
  refine ab_iconst (z := 0) (v := (0 : Int32)) (by decide +kernel) (by decide) ?_
  refine ab_aload_n (z := 0) (by decide +kernel) rfl rfl ?_
  refine gX12_40 (ix := 351) (by decide +kernel) tw_1121 (hB.1 73 _ rfl) ?_
  refine ab_iconst (z := 1) (v := (1 : Int32)) (by decide +kernel) (by decide) ?_
  refine ab_isub (by decide +kernel) ?_
  obtain ⟨u1, hu1, H⟩ := ab_bd_of H
  refine ksX12_isIn (D := 0) (ix := 384) (by decide +kernel) tw_1474 (by decide) (Nat.le_of_ble_eq_true rfl) (mX12_isIn_ok hB hu1 ?_)
  change ab_WP l G mX12_isBell 1 11 [some (.ref 73), some (.int a1)] [.int u1] S I J P 0 0 Q
  obtain ⟨hg, H⟩ := ab_gd_of H
  obtain rfl := Option.some.inj H
  exact ab_zret (by decide +kernel) rfl (Nat.le_refl _) (Nat.le_refl _) hg K0
abbrev mX12_fill : ab_M := (yX12_fill, cX12_fill, 2, none, 0, 0)
theorem kvX12_fill {l : Launch} {G : ab_G} {M : ab_M} {d pc : Nat} {ls : List (Option Value)} {st : List Value} {S : ab_S} {I : ab_I} {J : ab_J} {P : ab_P} {Q : ab_Q} {ix D r ln : Nat} (hd : decode M.2.1 pc = .ok (.invokevirtual ix, 3)) (h1 : Cond.methodLink M.1.cls ix mX12_fill.1 ∈ ab_good) (hs : S[r]? = some (17, ln)) (hdg : D + 1 ≤ d) (hsum : (st.map fun v => v.category).sum ≤ 8) (kk : ab_Call l G mX12_fill D (.ref r :: []) S I J P (fun v S' I' J' P' => ab_WP l G M d (pc + 3) ls (ab_psh v st) S' I' J' P' 0 0 Q)) : ab_WP l G M d pc ls (.ref r :: st) S I J P 0 0 Q := bz_kv (g := mX12_fill) (as := []) (cc := 12) rfl hd h1 tw_1479 tw_p63 tw_13 tw_1480 ⟨by decide +kernel, by decide +kernel, (by decide +kernel : (parseMethodDescriptor mX12_fill.1.desc).map (fun d => d.parameters.length) = some 0)⟩ (by decide) rfl rfl rfl hdg hsum hs kk
def fX12_fill_26 (I : ab_I) : Option ab_I :=
  some I
set_option maxRecDepth 100000 in
theorem fX12_fill_26_ok {l : Launch} {G : ab_G} {S : ab_S} {I : ab_I} {J : ab_J} {P : ab_P} {Q : ab_Q} (hB : bz_B S P) {x : ab_I} (H : fX12_fill_26 I = some x) (K0 : Q none S x J P) : ab_WP l G mX12_fill 0 26 [some (.ref 73), none] [] S I J P 0 0 Q := by
  unfold fX12_fill_26 at H
  obtain rfl := Option.some.inj H
  exact ab_vret (by decide +kernel) rfl (Nat.le_refl _) (Nat.le_refl _) K0
def fX12_fill_2 (a1 : Int32) (I : ab_I) : Option ((Int32 × ab_I) ⊕ ab_I) :=
  if (45 : Int32) ≤ a1 then
    (fX12_fill_26 I).map .inr
  else
    ab_gd (ab_ix a1 45 = true) (
      ab_gd (ab_ix a1 45 = true) (
        some (.inl ((a1 + (1 : Int32)), (ab_u I 90 a1.toNatClampNeg (I 89 a1.toNatClampNeg))))
      )
    )
set_option maxRecDepth 100000 in
theorem fX12_fill_2_ok {l : Launch} {G : ab_G} {S : ab_S} {I : ab_I} {J : ab_J} {P : ab_P} {Q : ab_Q} {a1 : Int32} (hB : bz_B S P) {x : ((Int32 × ab_I) ⊕ ab_I)} (H : fX12_fill_2 a1 I = some x) (K1 : ∀ s, x = (.inl s) → ab_WP l G mX12_fill 0 2 [some (.ref 73), some (.int s.1)] [] S s.2 J P 0 0 Q) (K0 : ∀ r, x = (.inr r) → Q none S r J P) : ab_WP l G mX12_fill 0 2 [some (.ref 73), some (.int a1)] [] S I J P 0 0 Q := by
  unfold fX12_fill_2 at H
  refine ab_iload_n (z := 1) (by decide +kernel) rfl rfl ?_
  refine ab_bipush (z := 45) (v := (45 : Int32)) (by decide +kernel) (by decide) ?_
  refine ab_icmp_ge (off := 21) (tgt := 26) (by decide +kernel) rfl (fun hc => ?_) (fun hc => ?_)
  · replace H := ab_ifp H hc
    obtain ⟨y1, Hy, hx⟩ := ab_mp_of H
    subst hx
    replace H := Hy
    exact ab_wk (ab_le_some (ab_le_none (ab_le_nil))) (fX12_fill_26_ok hB H  (K0 _ rfl))
  · replace H := ab_ifn H hc
    refine ab_aload_n (z := 0) (by decide +kernel) rfl rfl ?_
    refine gX12_47 (ix := 63) (by decide +kernel) tw_1128 (hB.1 73 _ rfl) (hB.2.1 95 (73, 47, 90) rfl) ?_
    refine ab_iload_n (z := 1) (by decide +kernel) rfl rfl ?_
    refine ab_aload_n (z := 0) (by decide +kernel) rfl rfl ?_
    refine gX12_46 (ix := 60) (by decide +kernel) tw_1127 (hB.1 73 _ rfl) (hB.2.1 94 (73, 46, 89) rfl) ?_
    refine ab_iload_n (z := 1) (by decide +kernel) rfl rfl ?_
    obtain ⟨hg, H⟩ := ab_gd_of H
    refine ab_iald (ln := 45) (by decide +kernel) (hB.1 89 _ rfl) (ab_ix_in hg) ?_
    obtain ⟨hg, H⟩ := ab_gd_of H
    refine ab_iast (ln := 45) (by decide +kernel) (hB.1 90 _ rfl) (ab_ix_in hg) ?_
    refine ab_iinc (i := 1) (z := 1) (v := (a1 + (1 : Int32))) (by decide +kernel) rfl rfl (by decide) rfl ?_
    refine ab_ls (ls' := [some (.ref 73), some (.int (a1 + (1 : Int32)))]) rfl ?_
    refine ab_goto (off := -21) (tgt := 2) (by decide +kernel) rfl ?_
    exact ab_wk (ab_le_some (ab_le_some (ab_le_nil))) (K1 ((a1 + (1 : Int32)), (ab_u I 90 a1.toNatClampNeg (I 89 a1.toNatClampNeg))) (Option.some.inj H).symm)
def fX12_fill (I : ab_I) : Option ab_I :=
  ab_it (fun s => fX12_fill_2 s.1 s.2) 5000 ((0 : Int32), I)
set_option maxRecDepth 100000 in
theorem mX12_fill_ok {l : Launch} {G : ab_G} {S : ab_S} {I : ab_I} {J : ab_J} {P : ab_P} {Q : ab_Q} (hB : bz_B S P) {x : ab_I} (H : fX12_fill I = some x) (K0 : Q none S x J P) : ab_Call l G mX12_fill 0 [.ref 73] S I J P Q := by
  unfold fX12_fill at H
  refine ab_enter rfl (Nat.le_of_ble_eq_true rfl) (ab_wk (ls' := [some (.ref 73), none]) (ab_le_some (ab_le_non0 ab_le_nil)) ?_)
  refine ab_iconst (z := 0) (v := (0 : Int32)) (by decide +kernel) (by decide) ?_
  refine ab_istore_n (z := 1) (by decide +kernel) rfl (by decide) rfl ?_
  refine ab_ls (ls' := [some (.ref 73), some (.int (0 : Int32))]) rfl ?_
  exact ab_wk (ab_le_some (ab_le_some (ab_le_nil))) (ab_iter (body := (fun s => fX12_fill_2 s.1 s.2)) (W := fun s => ab_WP l G mX12_fill 0 2 [some (.ref 73), some (.int s.1)] [] S s.2 J P 0 0 Q) (fun s y hb h1 h2 => fX12_fill_2_ok hB hb h1 (fun r e => by have e2 := h2 _ e; subst e2; exact K0)) 5000 ((0 : Int32), I) H)
abbrev mX12_isHere : ab_M := (yX12_isHere, cX12_isHere, 2, some .boolean, 0, 0)
theorem kvX12_isHere {l : Launch} {G : ab_G} {M : ab_M} {d pc : Nat} {ls : List (Option Value)} {st : List Value} {S : ab_S} {I : ab_I} {J : ab_J} {P : ab_P} {Q : ab_Q} {v0 : Value} {ix D r ln : Nat} (hd : decode M.2.1 pc = .ok (.invokevirtual ix, 3)) (h1 : Cond.methodLink M.1.cls ix mX12_isHere.1 ∈ ab_good) (hs : S[r]? = some (17, ln)) (hdg : D + 1 ≤ d) (hsum : (st.map fun v => v.category).sum ≤ 8) (kk : ab_Call l G mX12_isHere D (.ref r :: [v0]) S I J P (fun v S' I' J' P' => ab_WP l G M d (pc + 3) ls (ab_psh v st) S' I' J' P' 0 0 Q)) : ab_WP l G M d pc ls (v0 :: .ref r :: st) S I J P 0 0 Q := bz_kv (g := mX12_isHere) (as := [v0]) (cc := 12) rfl hd h1 tw_1483 tw_p64 tw_13 tw_1484 ⟨by decide +kernel, by decide +kernel, (by decide +kernel : (parseMethodDescriptor mX12_isHere.1.desc).map (fun d => d.parameters.length) = some 1)⟩ (by decide) rfl rfl rfl hdg hsum hs kk
def fX12_isHere_20 (a1 : Int32) (I : ab_I) (s0 : Int32) : Option Int32 :=
  ab_gd (s0 = 0 ∨ s0 = 1) (some s0)
set_option maxRecDepth 100000 in
theorem fX12_isHere_20_ok {l : Launch} {G : ab_G} {S : ab_S} {I : ab_I} {J : ab_J} {P : ab_P} {Q : ab_Q} {a1 : Int32} {s0 : Int32} (hB : bz_B S P) {x : Int32} (H : fX12_isHere_20 a1 I s0 = some x) (K0 : Q (some (.int x)) S I J P) : ab_WP l G mX12_isHere 0 20 [some (.ref 73), some (.int a1)] [.int s0] S I J P 0 0 Q := by
  unfold fX12_isHere_20 at H
  obtain ⟨hg, H⟩ := ab_gd_of H
  obtain rfl := Option.some.inj H
  exact ab_zret (by decide +kernel) rfl (Nat.le_refl _) (Nat.le_refl _) hg K0
def fX12_isHere (a1 : Int32) (I : ab_I) : Option Int32 :=
  ab_gd (ab_ix (12 : Int32) 45 = true) (
    if (((I 90 ((12 : Int32).toNatClampNeg)) >>> (a1 &&& 31)) &&& (1 : Int32)) = (1 : Int32) then
      fX12_isHere_20 a1 I (1 : Int32)
    else
      fX12_isHere_20 a1 I (0 : Int32)
  )
set_option maxRecDepth 100000 in
theorem mX12_isHere_ok {l : Launch} {G : ab_G} {S : ab_S} {I : ab_I} {J : ab_J} {P : ab_P} {Q : ab_Q} {a1 : Int32} (hB : bz_B S P) {x : Int32} (H : fX12_isHere a1 I = some x) (K0 : Q (some (.int x)) S I J P) : ab_Call l G mX12_isHere 0 [.ref 73, .int a1] S I J P Q := by
  unfold fX12_isHere at H
  refine ab_enter rfl (Nat.le_of_ble_eq_true rfl) (ab_wk (ls' := [some (.ref 73), some (.int a1)]) (ab_le_some (ab_le_some (ab_le_nil))) ?_)
  refine ab_aload_n (z := 0) (by decide +kernel) rfl rfl ?_
  refine gX12_47 (ix := 63) (by decide +kernel) tw_1128 (hB.1 73 _ rfl) (hB.2.1 95 (73, 47, 90) rfl) ?_
  refine ab_bipush (z := 12) (v := (12 : Int32)) (by decide +kernel) (by decide) ?_
  obtain ⟨hg, H⟩ := ab_gd_of H
  refine ab_iald (ln := 45) (by decide +kernel) (hB.1 90 _ rfl) (ab_ix_in hg) ?_
  refine ab_iload_n (z := 1) (by decide +kernel) rfl rfl ?_
  refine ab_ishr (by decide +kernel) ?_
  refine ab_iconst (z := 1) (v := (1 : Int32)) (by decide +kernel) (by decide) ?_
  refine ab_iand (by decide +kernel) ?_
  refine ab_iconst (z := 1) (v := (1 : Int32)) (by decide +kernel) (by decide) ?_
  refine ab_icmp_ne (off := 7) (tgt := 19) (by decide +kernel) rfl (fun hc => ?_) (fun hc => ?_)
  · replace H := ab_ifn H hc
    refine ab_iconst (z := 0) (v := (0 : Int32)) (by decide +kernel) (by decide) ?_
    exact ab_wk (ab_le_some (ab_le_some (ab_le_nil))) (fX12_isHere_20_ok hB H  K0)
  · replace H := ab_ifp H hc
    refine ab_iconst (z := 1) (v := (1 : Int32)) (by decide +kernel) (by decide) ?_
    refine ab_goto (off := 4) (tgt := 20) (by decide +kernel) rfl ?_
    exact ab_wk (ab_le_some (ab_le_some (ab_le_nil))) (fX12_isHere_20_ok hB H  K0)
abbrev mX12_mayLose : ab_M := (yX12_mayLose, cX12_mayLose, 3, some .boolean, 0, 0)
theorem kvX12_mayLose {l : Launch} {G : ab_G} {M : ab_M} {d pc : Nat} {ls : List (Option Value)} {st : List Value} {S : ab_S} {I : ab_I} {J : ab_J} {P : ab_P} {Q : ab_Q} {v0 v1 : Value} {ix D r ln : Nat} (hd : decode M.2.1 pc = .ok (.invokevirtual ix, 3)) (h1 : Cond.methodLink M.1.cls ix mX12_mayLose.1 ∈ ab_good) (hs : S[r]? = some (17, ln)) (hdg : D + 1 ≤ d) (hsum : (st.map fun v => v.category).sum ≤ 8) (kk : ab_Call l G mX12_mayLose D (.ref r :: [v0, v1]) S I J P (fun v S' I' J' P' => ab_WP l G M d (pc + 3) ls (ab_psh v st) S' I' J' P' 0 0 Q)) : ab_WP l G M d pc ls (v1 :: v0 :: .ref r :: st) S I J P 0 0 Q := bz_kv (g := mX12_mayLose) (as := [v0, v1]) (cc := 12) rfl hd h1 tw_1494 tw_p66 tw_13 tw_1495 ⟨by decide +kernel, by decide +kernel, (by decide +kernel : (parseMethodDescriptor mX12_mayLose.1.desc).map (fun d => d.parameters.length) = some 2)⟩ (by decide) rfl rfl rfl hdg hsum hs kk
def fX12_mayLose_21 (a1 : Int32) (a2 : Int32) (I : ab_I) (s0 : Int32) : Option Int32 :=
  ab_gd (s0 = 0 ∨ s0 = 1) (some s0)
set_option maxRecDepth 100000 in
theorem fX12_mayLose_21_ok {l : Launch} {G : ab_G} {S : ab_S} {I : ab_I} {J : ab_J} {P : ab_P} {Q : ab_Q} {a1 : Int32} {a2 : Int32} {s0 : Int32} (hB : bz_B S P) {x : Int32} (H : fX12_mayLose_21 a1 a2 I s0 = some x) (K0 : Q (some (.int x)) S I J P) : ab_WP l G mX12_mayLose 0 21 [some (.ref 73), some (.int a1), some (.int a2)] [.int s0] S I J P 0 0 Q := by
  unfold fX12_mayLose_21 at H
  obtain ⟨hg, H⟩ := ab_gd_of H
  obtain rfl := Option.some.inj H
  exact ab_zret (by decide +kernel) rfl (Nat.le_refl _) (Nat.le_refl _) hg K0
def fX12_mayLose (a1 : Int32) (a2 : Int32) (I : ab_I) : Option Int32 :=
  ab_gd (ab_ix (((13 : Int32) + ((5 : Int32) * a1)) + a2) 45 = true) (
    if (I 90 ((((13 : Int32) + ((5 : Int32) * a1)) + a2).toNatClampNeg)) ≤ 0 then
      fX12_mayLose_21 a1 a2 I (0 : Int32)
    else
      fX12_mayLose_21 a1 a2 I (1 : Int32)
  )
set_option maxRecDepth 100000 in
theorem mX12_mayLose_ok {l : Launch} {G : ab_G} {S : ab_S} {I : ab_I} {J : ab_J} {P : ab_P} {Q : ab_Q} {a1 : Int32} {a2 : Int32} (hB : bz_B S P) {x : Int32} (H : fX12_mayLose a1 a2 I = some x) (K0 : Q (some (.int x)) S I J P) : ab_Call l G mX12_mayLose 0 [.ref 73, .int a1, .int a2] S I J P Q := by
  unfold fX12_mayLose at H
  refine ab_enter rfl (Nat.le_of_ble_eq_true rfl) (ab_wk (ls' := [some (.ref 73), some (.int a1), some (.int a2)]) (ab_le_some (ab_le_some (ab_le_some (ab_le_nil)))) ?_)
  refine ab_aload_n (z := 0) (by decide +kernel) rfl rfl ?_
  refine gX12_47 (ix := 63) (by decide +kernel) tw_1128 (hB.1 73 _ rfl) (hB.2.1 95 (73, 47, 90) rfl) ?_
  refine ab_bipush (z := 13) (v := (13 : Int32)) (by decide +kernel) (by decide) ?_
  refine ab_iconst (z := 5) (v := (5 : Int32)) (by decide +kernel) (by decide) ?_
  refine ab_iload_n (z := 1) (by decide +kernel) rfl rfl ?_
  refine ab_imul (by decide +kernel) ?_
  refine ab_iadd (by decide +kernel) ?_
  refine ab_iload_n (z := 2) (by decide +kernel) rfl rfl ?_
  refine ab_iadd (by decide +kernel) ?_
  obtain ⟨hg, H⟩ := ab_gd_of H
  refine ab_iald (ln := 45) (by decide +kernel) (hB.1 90 _ rfl) (ab_ix_in hg) ?_
  refine ab_if_le (off := 7) (tgt := 20) (by decide +kernel) rfl (fun hc => ?_) (fun hc => ?_)
  · replace H := ab_ifp H hc
    refine ab_iconst (z := 0) (v := (0 : Int32)) (by decide +kernel) (by decide) ?_
    exact ab_wk (ab_le_some (ab_le_some (ab_le_some (ab_le_nil)))) (fX12_mayLose_21_ok hB H  K0)
  · replace H := ab_ifn H hc
    refine ab_iconst (z := 1) (v := (1 : Int32)) (by decide +kernel) (by decide) ?_
    refine ab_goto (off := 4) (tgt := 21) (by decide +kernel) rfl ?_
    exact ab_wk (ab_le_some (ab_le_some (ab_le_some (ab_le_nil)))) (fX12_mayLose_21_ok hB H  K0)
abbrev mX12_ringerOf : ab_M := (yX12_ringerOf, cX12_ringerOf, 6, some .int, 0, 0)
theorem kvX12_ringerOf {l : Launch} {G : ab_G} {M : ab_M} {d pc : Nat} {ls : List (Option Value)} {st : List Value} {S : ab_S} {I : ab_I} {J : ab_J} {P : ab_P} {Q : ab_Q} {v0 : Value} {ix D r ln : Nat} (hd : decode M.2.1 pc = .ok (.invokevirtual ix, 3)) (h1 : Cond.methodLink M.1.cls ix mX12_ringerOf.1 ∈ ab_good) (hs : S[r]? = some (17, ln)) (hdg : D + 1 ≤ d) (hsum : (st.map fun v => v.category).sum ≤ 8) (kk : ab_Call l G mX12_ringerOf D (.ref r :: [v0]) S I J P (fun v S' I' J' P' => ab_WP l G M d (pc + 3) ls (ab_psh v st) S' I' J' P' 0 0 Q)) : ab_WP l G M d pc ls (v0 :: .ref r :: st) S I J P 0 0 Q := bz_kv (g := mX12_ringerOf) (as := [v0]) (cc := 12) rfl hd h1 tw_1506 tw_p69 tw_13 tw_1507 ⟨by decide +kernel, by decide +kernel, (by decide +kernel : (parseMethodDescriptor mX12_ringerOf.1.desc).map (fun d => d.parameters.length) = some 1)⟩ (by decide) rfl rfl rfl hdg hsum hs kk
def fX12_ringerOf_68 (a1 : Int32) (a2 : Int32) (I : ab_I) : Option (Int32 × ab_I) :=
  some (a2, I)
set_option maxRecDepth 100000 in
theorem fX12_ringerOf_68_ok {l : Launch} {G : ab_G} {S : ab_S} {I : ab_I} {J : ab_J} {P : ab_P} {Q : ab_Q} {a1 : Int32} {a2 : Int32} (hB : bz_B S P) {x : Int32 × ab_I} (H : fX12_ringerOf_68 a1 a2 I = some x) (K0 : Q (some (.int x.1)) S x.2 J P) : ab_WP l G mX12_ringerOf 3 68 [some (.ref 73), some (.int a1), some (.int a2), none, none, none] [] S I J P 0 0 Q := by
  unfold fX12_ringerOf_68 at H
  refine ab_iload_n (z := 2) (by decide +kernel) rfl rfl ?_
  obtain rfl := Option.some.inj H
  exact ab_iret (by decide +kernel) rfl (Nat.le_refl _) (Nat.le_refl _) K0
def fX12_ringerOf_62 (a1 : Int32) (a2 : Int32) (a3 : Int32) (a4 : Int32) (I : ab_I) : Option ((Int32 × Int32 × Int32 × ab_I) ⊕ (Int32 × ab_I)) :=
  some (.inl (a2, a3, (a4 + (1 : Int32)), I))
set_option maxRecDepth 100000 in
theorem fX12_ringerOf_62_ok {l : Launch} {G : ab_G} {S : ab_S} {I : ab_I} {J : ab_J} {P : ab_P} {Q : ab_Q} {a1 : Int32} {a2 : Int32} {a3 : Int32} {a4 : Int32} (hB : bz_B S P) {x : ((Int32 × Int32 × Int32 × ab_I) ⊕ (Int32 × ab_I))} (H : fX12_ringerOf_62 a1 a2 a3 a4 I = some x) (K1 : ∀ s, x = (.inl s) → ab_WP l G mX12_ringerOf 3 7 [some (.ref 73), some (.int a1), some (.int s.1), some (.int s.2.1), some (.int s.2.2.1), none] [] S s.2.2.2 J P 0 0 Q) (K0 : ∀ r, x = (.inr r) → Q (some (.int r.1)) S r.2 J P) : ab_WP l G mX12_ringerOf 3 62 [some (.ref 73), some (.int a1), some (.int a2), some (.int a3), some (.int a4), none] [] S I J P 0 0 Q := by
  unfold fX12_ringerOf_62 at H
  refine ab_iinc (i := 4) (z := 1) (v := (a4 + (1 : Int32))) (by decide +kernel) rfl rfl (by decide) rfl ?_
  refine ab_ls (ls' := [some (.ref 73), some (.int a1), some (.int a2), some (.int a3), some (.int (a4 + (1 : Int32))), none]) rfl ?_
  refine ab_goto (off := -58) (tgt := 7) (by decide +kernel) rfl ?_
  exact ab_wk (ab_le_some (ab_le_some (ab_le_some (ab_le_some (ab_le_some (ab_le_none (ab_le_nil))))))) (K1 (a2, a3, (a4 + (1 : Int32)), I) (Option.some.inj H).symm)
def fX12_ringerOf_7 (a1 : Int32) (a2 : Int32) (a3 : Int32) (a4 : Int32) (I : ab_I) : Option ((Int32 × Int32 × Int32 × ab_I) ⊕ (Int32 × ab_I)) :=
  if (I 73 39) ≤ a4 then
    (fX12_ringerOf_68 a1 a2 I).map .inr
  else
    (fX12_isHere a4 I).bind fun u2 =>
    if u2 = 0 then
      fX12_ringerOf_62 a1 a2 a3 a4 I
    else
      (fX12_mayLose a4 a1 I).bind fun u3 =>
      if u3 = 0 then
        fX12_ringerOf_62 a1 a2 a3 a4 I
      else
        (fX12_weightOf a4 a1 I).bind fun u4 =>
        if a3 < u4.1 then
          fX12_ringerOf_62 a1 a4 u4.1 a4 u4.2
        else
          fX12_ringerOf_62 a1 a2 a3 a4 u4.2
set_option maxRecDepth 100000 in
theorem fX12_ringerOf_7_ok {l : Launch} {G : ab_G} {S : ab_S} {I : ab_I} {J : ab_J} {P : ab_P} {Q : ab_Q} {a1 : Int32} {a2 : Int32} {a3 : Int32} {a4 : Int32} (hB : bz_B S P) {x : ((Int32 × Int32 × Int32 × ab_I) ⊕ (Int32 × ab_I))} (H : fX12_ringerOf_7 a1 a2 a3 a4 I = some x) (K1 : ∀ s, x = (.inl s) → ab_WP l G mX12_ringerOf 3 7 [some (.ref 73), some (.int a1), some (.int s.1), some (.int s.2.1), some (.int s.2.2.1), none] [] S s.2.2.2 J P 0 0 Q) (K0 : ∀ r, x = (.inr r) → Q (some (.int r.1)) S r.2 J P) : ab_WP l G mX12_ringerOf 3 7 [some (.ref 73), some (.int a1), some (.int a2), some (.int a3), some (.int a4), none] [] S I J P 0 0 Q := by
  unfold fX12_ringerOf_7 at H
  refine ab_iload (i := 4) (by decide +kernel) rfl ?_
  refine ab_aload_n (z := 0) (by decide +kernel) rfl rfl ?_
  refine gX12_39 (ix := 348) (by decide +kernel) tw_1120 (hB.1 73 _ rfl) ?_
  refine ab_icmp_ge (off := 55) (tgt := 68) (by decide +kernel) rfl (fun hc => ?_) (fun hc => ?_)
  · replace H := ab_ifp H hc
    obtain ⟨y1, Hy, hx⟩ := ab_mp_of H
    subst hx
    replace H := Hy
    exact ab_wk (ab_le_some (ab_le_some (ab_le_some (ab_le_none (ab_le_none (ab_le_none (ab_le_nil))))))) (fX12_ringerOf_68_ok hB H  (K0 _ rfl))
  · replace H := ab_ifn H hc
    refine ab_aload_n (z := 0) (by decide +kernel) rfl rfl ?_
    refine ab_iload (i := 4) (by decide +kernel) rfl ?_
    obtain ⟨u2, hu2, H⟩ := ab_bd_of H
    refine kvX12_isHere (D := 0) (ix := 388) (by decide +kernel) tw_1481 (hB.1 73 _ rfl) (by decide) (Nat.le_of_ble_eq_true rfl) (mX12_isHere_ok hB hu2 ?_)
    change ab_WP l G mX12_ringerOf 3 22 [some (.ref 73), some (.int a1), some (.int a2), some (.int a3), some (.int a4), none] [.int u2] S I J P 0 0 Q
    refine ab_if_eq (off := 40) (tgt := 62) (by decide +kernel) rfl (fun hc => ?_) (fun hc => ?_)
    · replace H := ab_ifp H hc
      exact ab_wk (ab_le_some (ab_le_some (ab_le_some (ab_le_some (ab_le_some (ab_le_none (ab_le_nil))))))) (fX12_ringerOf_62_ok hB H K1 K0)
    · replace H := ab_ifn H hc
      refine ab_aload_n (z := 0) (by decide +kernel) rfl rfl ?_
      refine ab_iload (i := 4) (by decide +kernel) rfl ?_
      refine ab_iload_n (z := 1) (by decide +kernel) rfl rfl ?_
      obtain ⟨u3, hu3, H⟩ := ab_bd_of H
      refine kvX12_mayLose (D := 0) (ix := 391) (by decide +kernel) tw_1492 (hB.1 73 _ rfl) (by decide) (Nat.le_of_ble_eq_true rfl) (mX12_mayLose_ok hB hu3 ?_)
      change ab_WP l G mX12_ringerOf 3 32 [some (.ref 73), some (.int a1), some (.int a2), some (.int a3), some (.int a4), none] [.int u3] S I J P 0 0 Q
      refine ab_if_ne (off := 6) (tgt := 38) (by decide +kernel) rfl (fun hc => ?_) (fun hc => ?_)
      · replace H := ab_ifn H hc
        refine ab_aload_n (z := 0) (by decide +kernel) rfl rfl ?_
        refine ab_iload (i := 4) (by decide +kernel) rfl ?_
        refine ab_iload_n (z := 1) (by decide +kernel) rfl rfl ?_
        obtain ⟨u4, hu4, H⟩ := ab_bd_of H
        refine kvX12_weightOf (D := 2) (ix := 395) (by decide +kernel) tw_1508 (hB.1 73 _ rfl) (by decide) (Nat.le_of_ble_eq_true rfl) (mX12_weightOf_ok hB hu4 ?_)
        change ab_WP l G mX12_ringerOf 3 45 [some (.ref 73), some (.int a1), some (.int a2), some (.int a3), some (.int a4), none] [.int u4.1] S u4.2 J P 0 0 Q
        refine ab_istore (i := 5) (by decide +kernel) (by decide) rfl ?_
        refine ab_ls (ls' := [some (.ref 73), some (.int a1), some (.int a2), some (.int a3), some (.int a4), some (.int u4.1)]) rfl ?_
        refine ab_iload (i := 5) (by decide +kernel) rfl ?_
        refine ab_iload_n (z := 3) (by decide +kernel) rfl rfl ?_
        refine ab_icmp_gt (off := 6) (tgt := 56) (by decide +kernel) rfl (fun hc => ?_) (fun hc => ?_)
        · replace H := ab_ifp H hc
          refine ab_iload (i := 4) (by decide +kernel) rfl ?_
          refine ab_istore_n (z := 2) (by decide +kernel) rfl (by decide) rfl ?_
          refine ab_ls (ls' := [some (.ref 73), some (.int a1), some (.int a4), some (.int a3), some (.int a4), some (.int u4.1)]) rfl ?_
          refine ab_iload (i := 5) (by decide +kernel) rfl ?_
          refine ab_istore_n (z := 3) (by decide +kernel) rfl (by decide) rfl ?_
          refine ab_ls (ls' := [some (.ref 73), some (.int a1), some (.int a4), some (.int u4.1), some (.int a4), some (.int u4.1)]) rfl ?_
          exact ab_wk (ab_le_some (ab_le_some (ab_le_some (ab_le_some (ab_le_some (ab_le_none (ab_le_nil))))))) (fX12_ringerOf_62_ok hB H K1 K0)
        · replace H := ab_ifn H hc
          refine ab_goto (off := 9) (tgt := 62) (by decide +kernel) rfl ?_
          exact ab_wk (ab_le_some (ab_le_some (ab_le_some (ab_le_some (ab_le_some (ab_le_none (ab_le_nil))))))) (fX12_ringerOf_62_ok hB H K1 K0)
      · replace H := ab_ifp H hc
        refine ab_goto (off := 27) (tgt := 62) (by decide +kernel) rfl ?_
        exact ab_wk (ab_le_some (ab_le_some (ab_le_some (ab_le_some (ab_le_some (ab_le_none (ab_le_nil))))))) (fX12_ringerOf_62_ok hB H K1 K0)
def fX12_ringerOf (a1 : Int32) (I : ab_I) : Option (Int32 × ab_I) :=
  ab_it (fun s => fX12_ringerOf_7 a1 s.1 s.2.1 s.2.2.1 s.2.2.2) 5000 ((-1 : Int32), (0 : Int32), (0 : Int32), I)
set_option maxRecDepth 100000 in
theorem mX12_ringerOf_ok {l : Launch} {G : ab_G} {S : ab_S} {I : ab_I} {J : ab_J} {P : ab_P} {Q : ab_Q} {a1 : Int32} (hB : bz_B S P) {x : Int32 × ab_I} (H : fX12_ringerOf a1 I = some x) (K0 : Q (some (.int x.1)) S x.2 J P) : ab_Call l G mX12_ringerOf 3 [.ref 73, .int a1] S I J P Q := by
  unfold fX12_ringerOf at H
  refine ab_enter rfl (Nat.le_of_ble_eq_true rfl) (ab_wk (ls' := [some (.ref 73), some (.int a1), none, none, none, none]) (ab_le_some (ab_le_some (ab_le_non0 (ab_le_non0 (ab_le_non0 (ab_le_non0 ab_le_nil)))))) ?_)
  refine ab_iconst (z := -1) (v := (-1 : Int32)) (by decide +kernel) (by decide) ?_
  refine ab_istore_n (z := 2) (by decide +kernel) rfl (by decide) rfl ?_
  refine ab_ls (ls' := [some (.ref 73), some (.int a1), some (.int (-1 : Int32)), none, none, none]) rfl ?_
  refine ab_iconst (z := 0) (v := (0 : Int32)) (by decide +kernel) (by decide) ?_
  refine ab_istore_n (z := 3) (by decide +kernel) rfl (by decide) rfl ?_
  refine ab_ls (ls' := [some (.ref 73), some (.int a1), some (.int (-1 : Int32)), some (.int (0 : Int32)), none, none]) rfl ?_
  refine ab_iconst (z := 0) (v := (0 : Int32)) (by decide +kernel) (by decide) ?_
  refine ab_istore (i := 4) (by decide +kernel) (by decide) rfl ?_
  refine ab_ls (ls' := [some (.ref 73), some (.int a1), some (.int (-1 : Int32)), some (.int (0 : Int32)), some (.int (0 : Int32)), none]) rfl ?_
  exact ab_wk (ab_le_some (ab_le_some (ab_le_some (ab_le_some (ab_le_some (ab_le_none (ab_le_nil))))))) (ab_iter (body := (fun s => fX12_ringerOf_7 a1 s.1 s.2.1 s.2.2.1 s.2.2.2)) (W := fun s => ab_WP l G mX12_ringerOf 3 7 [some (.ref 73), some (.int a1), some (.int s.1), some (.int s.2.1), some (.int s.2.2.1), none] [] S s.2.2.2 J P 0 0 Q) (fun s y hb h1 h2 => fX12_ringerOf_7_ok hB hb h1 (fun r e => by have e2 := h2 _ e; subst e2; exact K0)) 5000 ((-1 : Int32), (0 : Int32), (0 : Int32), I) H)
abbrev mX12_ring : ab_M := (yX12_ring, cX12_ring, 5, some .int, 0, 0)
theorem kvX12_ring {l : Launch} {G : ab_G} {M : ab_M} {d pc : Nat} {ls : List (Option Value)} {st : List Value} {S : ab_S} {I : ab_I} {J : ab_J} {P : ab_P} {Q : ab_Q} {v0 v1 : Value} {ix D r ln : Nat} (hd : decode M.2.1 pc = .ok (.invokevirtual ix, 3)) (h1 : Cond.methodLink M.1.cls ix mX12_ring.1 ∈ ab_good) (hs : S[r]? = some (17, ln)) (hdg : D + 1 ≤ d) (hsum : (st.map fun v => v.category).sum ≤ 8) (kk : ab_Call l G mX12_ring D (.ref r :: [v0, v1]) S I J P (fun v S' I' J' P' => ab_WP l G M d (pc + 3) ls (ab_psh v st) S' I' J' P' 0 0 Q)) : ab_WP l G M d pc ls (v1 :: v0 :: .ref r :: st) S I J P 0 0 Q := bz_kv (g := mX12_ring) (as := [v0, v1]) (cc := 12) rfl hd h1 tw_1502 tw_p68 tw_13 tw_1503 ⟨by decide +kernel, by decide +kernel, (by decide +kernel : (parseMethodDescriptor mX12_ring.1.desc).map (fun d => d.parameters.length) = some 2)⟩ (by decide) rfl rfl rfl hdg hsum hs kk
def fX12_ring_143 (a1 : Int32) (a2 : Int32) (a4 : Int32) (I : ab_I) : Option (Int32 × ab_I) :=
  some (a4, I)
set_option maxRecDepth 100000 in
theorem fX12_ring_143_ok {l : Launch} {G : ab_G} {S : ab_S} {I : ab_I} {J : ab_J} {P : ab_P} {Q : ab_Q} {a1 : Int32} {a2 : Int32} {a4 : Int32} (hB : bz_B S P) {x : Int32 × ab_I} (H : fX12_ring_143 a1 a2 a4 I = some x) (K0 : Q (some (.int x.1)) S x.2 J P) : ab_WP l G mX12_ring 4 143 [some (.ref 73), some (.int a1), some (.int a2), none, some (.int a4)] [] S I J P 0 0 Q := by
  unfold fX12_ring_143 at H
  refine ab_iload (i := 4) (by decide +kernel) rfl ?_
  obtain rfl := Option.some.inj H
  exact ab_iret (by decide +kernel) rfl (Nat.le_refl _) (Nat.le_refl _) K0
def fX12_ring (a1 : Int32) (a2 : Int32) (I : ab_I) : Option (Int32 × ab_I) :=
  (fX12_ringerOf a1 I).bind fun u1 =>
  ab_gd (ab_ix a1 5 = true) (
    if 0 ≤ u1.1 then
      ab_gd (ab_ix u1.1 45 = true) (
        ab_gd (ab_ix (((13 : Int32) + ((5 : Int32) * u1.1)) + a1) 45 = true) (
          (fX12_lesser (u1.2 90 u1.1.toNatClampNeg) (u1.2 90 ((((13 : Int32) + ((5 : Int32) * u1.1)) + a1).toNatClampNeg))).bind fun u2 =>
          ab_gd (ab_ix u1.1 45 = true) (
            ab_gd (ab_ix u1.1 45 = true) (
              ab_gd (ab_ix ((6 : Int32) + u1.1) 45 = true) (
                (fX12_lesser (999 : Int32) (((ab_u (ab_u u1.2 91 a1.toNatClampNeg u1.1) 90 u1.1.toNatClampNeg ((u1.2 90 u1.1.toNatClampNeg) - u2)) 90 (((6 : Int32) + u1.1).toNatClampNeg)) + (1 : Int32))).bind fun u3 =>
                ab_gd (ab_ix ((6 : Int32) + u1.1) 45 = true) (
                  if a2 = 0 then
                    some (u2, (ab_u (ab_u (ab_u u1.2 91 a1.toNatClampNeg u1.1) 90 u1.1.toNatClampNeg ((u1.2 90 u1.1.toNatClampNeg) - u2)) 90 (((6 : Int32) + u1.1).toNatClampNeg) u3))
                  else
                    ab_gd (ab_ix (44 : Int32) 45 = true) (
                      ab_gd (ab_ix (44 : Int32) 45 = true) (
                        ab_gd (ab_ix (44 : Int32) 45 = true) (
                          if (u1.2 73 43) ≤ (((ab_u (ab_u (ab_u (ab_u u1.2 91 a1.toNatClampNeg u1.1) 90 u1.1.toNatClampNeg ((u1.2 90 u1.1.toNatClampNeg) - u2)) 90 (((6 : Int32) + u1.1).toNatClampNeg) u3) 90 ((44 : Int32).toNatClampNeg) (((((ab_u (ab_u (ab_u u1.2 91 a1.toNatClampNeg u1.1) 90 u1.1.toNatClampNeg ((u1.2 90 u1.1.toNatClampNeg) - u2)) 90 (((6 : Int32) + u1.1).toNatClampNeg) u3) 90 ((44 : Int32).toNatClampNeg)) * (137 : Int32)) + (71 : Int32)) - ((((ab_u (ab_u (ab_u u1.2 91 a1.toNatClampNeg u1.1) 90 u1.1.toNatClampNeg ((u1.2 90 u1.1.toNatClampNeg) - u2)) 90 (((6 : Int32) + u1.1).toNatClampNeg) u3) 90 ((44 : Int32).toNatClampNeg)) * (137 : Int32)) + (71 : Int32)) / (1000 : Int32) * (1000 : Int32))) 90 ((44 : Int32).toNatClampNeg)) - ((ab_u (ab_u (ab_u (ab_u u1.2 91 a1.toNatClampNeg u1.1) 90 u1.1.toNatClampNeg ((u1.2 90 u1.1.toNatClampNeg) - u2)) 90 (((6 : Int32) + u1.1).toNatClampNeg) u3) 90 ((44 : Int32).toNatClampNeg) (((((ab_u (ab_u (ab_u u1.2 91 a1.toNatClampNeg u1.1) 90 u1.1.toNatClampNeg ((u1.2 90 u1.1.toNatClampNeg) - u2)) 90 (((6 : Int32) + u1.1).toNatClampNeg) u3) 90 ((44 : Int32).toNatClampNeg)) * (137 : Int32)) + (71 : Int32)) - ((((ab_u (ab_u (ab_u u1.2 91 a1.toNatClampNeg u1.1) 90 u1.1.toNatClampNeg ((u1.2 90 u1.1.toNatClampNeg) - u2)) 90 (((6 : Int32) + u1.1).toNatClampNeg) u3) 90 ((44 : Int32).toNatClampNeg)) * (137 : Int32)) + (71 : Int32)) / (1000 : Int32) * (1000 : Int32))) 90 ((44 : Int32).toNatClampNeg)) / (100 : Int32) * (100 : Int32)) then
                            fX12_ring_143 a1 a2 u2 (ab_u (ab_u (ab_u (ab_u u1.2 91 a1.toNatClampNeg u1.1) 90 u1.1.toNatClampNeg ((u1.2 90 u1.1.toNatClampNeg) - u2)) 90 (((6 : Int32) + u1.1).toNatClampNeg) u3) 90 ((44 : Int32).toNatClampNeg) (((((ab_u (ab_u (ab_u u1.2 91 a1.toNatClampNeg u1.1) 90 u1.1.toNatClampNeg ((u1.2 90 u1.1.toNatClampNeg) - u2)) 90 (((6 : Int32) + u1.1).toNatClampNeg) u3) 90 ((44 : Int32).toNatClampNeg)) * (137 : Int32)) + (71 : Int32)) - ((((ab_u (ab_u (ab_u u1.2 91 a1.toNatClampNeg u1.1) 90 u1.1.toNatClampNeg ((u1.2 90 u1.1.toNatClampNeg) - u2)) 90 (((6 : Int32) + u1.1).toNatClampNeg) u3) 90 ((44 : Int32).toNatClampNeg)) * (137 : Int32)) + (71 : Int32)) / (1000 : Int32) * (1000 : Int32)))
                          else
                            ab_gd (ab_ix (((13 : Int32) + ((5 : Int32) * u1.1)) + a1) 45 = true) (
                              fX12_ring_143 a1 a2 u2 (ab_u (ab_u (ab_u (ab_u (ab_u u1.2 91 a1.toNatClampNeg u1.1) 90 u1.1.toNatClampNeg ((u1.2 90 u1.1.toNatClampNeg) - u2)) 90 (((6 : Int32) + u1.1).toNatClampNeg) u3) 90 ((44 : Int32).toNatClampNeg) (((((ab_u (ab_u (ab_u u1.2 91 a1.toNatClampNeg u1.1) 90 u1.1.toNatClampNeg ((u1.2 90 u1.1.toNatClampNeg) - u2)) 90 (((6 : Int32) + u1.1).toNatClampNeg) u3) 90 ((44 : Int32).toNatClampNeg)) * (137 : Int32)) + (71 : Int32)) - ((((ab_u (ab_u (ab_u u1.2 91 a1.toNatClampNeg u1.1) 90 u1.1.toNatClampNeg ((u1.2 90 u1.1.toNatClampNeg) - u2)) 90 (((6 : Int32) + u1.1).toNatClampNeg) u3) 90 ((44 : Int32).toNatClampNeg)) * (137 : Int32)) + (71 : Int32)) / (1000 : Int32) * (1000 : Int32))) 90 ((((13 : Int32) + ((5 : Int32) * u1.1)) + a1).toNatClampNeg) (0 : Int32))
                            )
                        )
                      )
                    )
                )
              )
            )
          )
        )
      )
    else
      some ((0 : Int32), (ab_u u1.2 91 a1.toNatClampNeg u1.1))
  )
set_option maxRecDepth 100000 in
theorem mX12_ring_ok {l : Launch} {G : ab_G} {S : ab_S} {I : ab_I} {J : ab_J} {P : ab_P} {Q : ab_Q} {a1 : Int32} {a2 : Int32} (hB : bz_B S P) {x : Int32 × ab_I} (H : fX12_ring a1 a2 I = some x) (K0 : Q (some (.int x.1)) S x.2 J P) : ab_Call l G mX12_ring 4 [.ref 73, .int a1, .int a2] S I J P Q := by
  unfold fX12_ring at H
  refine ab_enter rfl (Nat.le_of_ble_eq_true rfl) (ab_wk (ls' := [some (.ref 73), some (.int a1), some (.int a2), none, none]) (ab_le_some (ab_le_some (ab_le_some (ab_le_non0 (ab_le_non0 ab_le_nil))))) ?_)
  refine ab_aload_n (z := 0) (by decide +kernel) rfl rfl ?_
  refine ab_iload_n (z := 1) (by decide +kernel) rfl rfl ?_
  obtain ⟨u1, hu1, H⟩ := ab_bd_of H
  refine kvX12_ringerOf (D := 3) (ix := 398) (by decide +kernel) tw_1504 (hB.1 73 _ rfl) (by decide) (Nat.le_of_ble_eq_true rfl) (mX12_ringerOf_ok hB hu1 ?_)
  change ab_WP l G mX12_ring 4 5 [some (.ref 73), some (.int a1), some (.int a2), none, none] [.int u1.1] S u1.2 J P 0 0 Q
  refine ab_istore_n (z := 3) (by decide +kernel) rfl (by decide) rfl ?_
  refine ab_ls (ls' := [some (.ref 73), some (.int a1), some (.int a2), some (.int u1.1), none]) rfl ?_
  refine ab_aload_n (z := 0) (by decide +kernel) rfl rfl ?_
  refine gX12_48 (ix := 66) (by decide +kernel) tw_1129 (hB.1 73 _ rfl) (hB.2.1 96 (73, 48, 91) rfl) ?_
  refine ab_iload_n (z := 1) (by decide +kernel) rfl rfl ?_
  refine ab_iload_n (z := 3) (by decide +kernel) rfl rfl ?_
  obtain ⟨hg, H⟩ := ab_gd_of H
  refine ab_iast (ln := 5) (by decide +kernel) (hB.1 91 _ rfl) (ab_ix_in hg) ?_
  refine ab_iload_n (z := 3) (by decide +kernel) rfl rfl ?_
  refine ab_if_ge (off := 5) (tgt := 19) (by decide +kernel) rfl (fun hc => ?_) (fun hc => ?_)
  · replace H := ab_ifp H hc
    refine ab_aload_n (z := 0) (by decide +kernel) rfl rfl ?_
    refine gX12_47 (ix := 63) (by decide +kernel) tw_1128 (hB.1 73 _ rfl) (hB.2.1 95 (73, 47, 90) rfl) ?_
    refine ab_iload_n (z := 3) (by decide +kernel) rfl rfl ?_
    obtain ⟨hg, H⟩ := ab_gd_of H
    refine ab_iald (ln := 45) (by decide +kernel) (hB.1 90 _ rfl) (ab_ix_in hg) ?_
    refine ab_top (y := (u1.2 90 u1.1.toNatClampNeg)) rfl ?_
    refine ab_aload_n (z := 0) (by decide +kernel) rfl rfl ?_
    refine gX12_47 (ix := 63) (by decide +kernel) tw_1128 (hB.1 73 _ rfl) (hB.2.1 95 (73, 47, 90) rfl) ?_
    refine ab_bipush (z := 13) (v := (13 : Int32)) (by decide +kernel) (by decide) ?_
    refine ab_iconst (z := 5) (v := (5 : Int32)) (by decide +kernel) (by decide) ?_
    refine ab_iload_n (z := 3) (by decide +kernel) rfl rfl ?_
    refine ab_imul (by decide +kernel) ?_
    refine ab_iadd (by decide +kernel) ?_
    refine ab_iload_n (z := 1) (by decide +kernel) rfl rfl ?_
    refine ab_iadd (by decide +kernel) ?_
    obtain ⟨hg, H⟩ := ab_gd_of H
    refine ab_iald (ln := 45) (by decide +kernel) (hB.1 90 _ rfl) (ab_ix_in hg) ?_
    refine ab_top (y := (u1.2 90 ((((13 : Int32) + ((5 : Int32) * u1.1)) + a1).toNatClampNeg))) rfl ?_
    obtain ⟨u2, hu2, H⟩ := ab_bd_of H
    refine ksX12_lesser (D := 0) (ix := 401) (by decide +kernel) tw_1518 (by decide) (Nat.le_of_ble_eq_true rfl) (mX12_lesser_ok hB hu2 ?_)
    change ab_WP l G mX12_ring 4 41 [some (.ref 73), some (.int a1), some (.int a2), some (.int u1.1), none] [.int u2] S (ab_u u1.2 91 a1.toNatClampNeg u1.1) J P 0 0 Q
    refine ab_istore (i := 4) (by decide +kernel) (by decide) rfl ?_
    refine ab_ls (ls' := [some (.ref 73), some (.int a1), some (.int a2), some (.int u1.1), some (.int u2)]) rfl ?_
    refine ab_aload_n (z := 0) (by decide +kernel) rfl rfl ?_
    refine gX12_47 (ix := 63) (by decide +kernel) tw_1128 (hB.1 73 _ rfl) (hB.2.1 95 (73, 47, 90) rfl) ?_
    refine ab_iload_n (z := 3) (by decide +kernel) rfl rfl ?_
    refine ab_dup2 (by decide +kernel) rfl rfl ?_
    obtain ⟨hg, H⟩ := ab_gd_of H
    refine ab_iald (ln := 45) (by decide +kernel) (hB.1 90 _ rfl) (ab_ix_in hg) ?_
    refine ab_top (y := (u1.2 90 u1.1.toNatClampNeg)) rfl ?_
    refine ab_iload (i := 4) (by decide +kernel) rfl ?_
    refine ab_isub (by decide +kernel) ?_
    obtain ⟨hg, H⟩ := ab_gd_of H
    refine ab_iast (ln := 45) (by decide +kernel) (hB.1 90 _ rfl) (ab_ix_in hg) ?_
    refine ab_aload_n (z := 0) (by decide +kernel) rfl rfl ?_
    refine gX12_47 (ix := 63) (by decide +kernel) tw_1128 (hB.1 73 _ rfl) (hB.2.1 95 (73, 47, 90) rfl) ?_
    refine ab_bipush (z := 6) (v := (6 : Int32)) (by decide +kernel) (by decide) ?_
    refine ab_iload_n (z := 3) (by decide +kernel) rfl rfl ?_
    refine ab_iadd (by decide +kernel) ?_
    refine ab_sipush (z := 999) (v := (999 : Int32)) (by decide +kernel) (by decide) ?_
    refine ab_aload_n (z := 0) (by decide +kernel) rfl rfl ?_
    refine gX12_47 (ix := 63) (by decide +kernel) tw_1128 (hB.1 73 _ rfl) (hB.2.1 95 (73, 47, 90) rfl) ?_
    refine ab_bipush (z := 6) (v := (6 : Int32)) (by decide +kernel) (by decide) ?_
    refine ab_iload_n (z := 3) (by decide +kernel) rfl rfl ?_
    refine ab_iadd (by decide +kernel) ?_
    obtain ⟨hg, H⟩ := ab_gd_of H
    refine ab_iald (ln := 45) (by decide +kernel) (hB.1 90 _ rfl) (ab_ix_in hg) ?_
    refine ab_iconst (z := 1) (v := (1 : Int32)) (by decide +kernel) (by decide) ?_
    refine ab_iadd (by decide +kernel) ?_
    obtain ⟨u3, hu3, H⟩ := ab_bd_of H
    refine ksX12_lesser (D := 0) (ix := 401) (by decide +kernel) tw_1518 (by decide) (Nat.le_of_ble_eq_true rfl) (mX12_lesser_ok hB hu3 ?_)
    change ab_WP l G mX12_ring 4 79 [some (.ref 73), some (.int a1), some (.int a2), some (.int u1.1), some (.int u2)] [.int u3, .int ((6 : Int32) + u1.1), .ref 90] S (ab_u (ab_u u1.2 91 a1.toNatClampNeg u1.1) 90 u1.1.toNatClampNeg ((u1.2 90 u1.1.toNatClampNeg) - u2)) J P 0 0 Q
    obtain ⟨hg, H⟩ := ab_gd_of H
    refine ab_iast (ln := 45) (by decide +kernel) (hB.1 90 _ rfl) (ab_ix_in hg) ?_
    refine ab_iload_n (z := 2) (by decide +kernel) rfl rfl ?_
    refine ab_if_ne (off := 6) (tgt := 87) (by decide +kernel) rfl (fun hc => ?_) (fun hc => ?_)
    · replace H := ab_ifn H hc
      refine ab_aload_n (z := 0) (by decide +kernel) rfl rfl ?_
      refine gX12_47 (ix := 63) (by decide +kernel) tw_1128 (hB.1 73 _ rfl) (hB.2.1 95 (73, 47, 90) rfl) ?_
      refine ab_bipush (z := 44) (v := (44 : Int32)) (by decide +kernel) (by decide) ?_
      refine ab_aload_n (z := 0) (by decide +kernel) rfl rfl ?_
      refine gX12_47 (ix := 63) (by decide +kernel) tw_1128 (hB.1 73 _ rfl) (hB.2.1 95 (73, 47, 90) rfl) ?_
      refine ab_bipush (z := 44) (v := (44 : Int32)) (by decide +kernel) (by decide) ?_
      obtain ⟨hg, H⟩ := ab_gd_of H
      refine ab_iald (ln := 45) (by decide +kernel) (hB.1 90 _ rfl) (ab_ix_in hg) ?_
      refine ab_sipush (z := 137) (v := (137 : Int32)) (by decide +kernel) (by decide) ?_
      refine ab_imul (by decide +kernel) ?_
      refine ab_bipush (z := 71) (v := (71 : Int32)) (by decide +kernel) (by decide) ?_
      refine ab_iadd (by decide +kernel) ?_
      refine ab_sipush (z := 1000) (v := (1000 : Int32)) (by decide +kernel) (by decide) ?_
      refine ab_irem (by decide +kernel) (by decide) ?_
      obtain ⟨hg, H⟩ := ab_gd_of H
      refine ab_iast (ln := 45) (by decide +kernel) (hB.1 90 _ rfl) (ab_ix_in hg) ?_
      refine ab_aload_n (z := 0) (by decide +kernel) rfl rfl ?_
      refine gX12_47 (ix := 63) (by decide +kernel) tw_1128 (hB.1 73 _ rfl) (hB.2.1 95 (73, 47, 90) rfl) ?_
      refine ab_bipush (z := 44) (v := (44 : Int32)) (by decide +kernel) (by decide) ?_
      obtain ⟨hg, H⟩ := ab_gd_of H
      refine ab_iald (ln := 45) (by decide +kernel) (hB.1 90 _ rfl) (ab_ix_in hg) ?_
      refine ab_bipush (z := 100) (v := (100 : Int32)) (by decide +kernel) (by decide) ?_
      refine ab_irem (by decide +kernel) (by decide) ?_
      refine ab_aload_n (z := 0) (by decide +kernel) rfl rfl ?_
      refine gX12_43 (ix := 360) (by decide +kernel) tw_1124 (hB.1 73 _ rfl) ?_
      refine ab_top (y := (u1.2 73 43)) rfl ?_
      refine ab_icmp_ge (off := 17) (tgt := 143) (by decide +kernel) rfl (fun hc => ?_) (fun hc => ?_)
      · replace H := ab_ifp H hc
        exact ab_wk (ab_le_some (ab_le_some (ab_le_some (ab_le_none (ab_le_some (ab_le_nil)))))) (fX12_ring_143_ok hB H  K0)
      · replace H := ab_ifn H hc
        refine ab_aload_n (z := 0) (by decide +kernel) rfl rfl ?_
        refine gX12_47 (ix := 63) (by decide +kernel) tw_1128 (hB.1 73 _ rfl) (hB.2.1 95 (73, 47, 90) rfl) ?_
        refine ab_bipush (z := 13) (v := (13 : Int32)) (by decide +kernel) (by decide) ?_
        refine ab_iconst (z := 5) (v := (5 : Int32)) (by decide +kernel) (by decide) ?_
        refine ab_iload_n (z := 3) (by decide +kernel) rfl rfl ?_
        refine ab_imul (by decide +kernel) ?_
        refine ab_iadd (by decide +kernel) ?_
        refine ab_iload_n (z := 1) (by decide +kernel) rfl rfl ?_
        refine ab_iadd (by decide +kernel) ?_
        refine ab_iconst (z := 0) (v := (0 : Int32)) (by decide +kernel) (by decide) ?_
        obtain ⟨hg, H⟩ := ab_gd_of H
        refine ab_iast (ln := 45) (by decide +kernel) (hB.1 90 _ rfl) (ab_ix_in hg) ?_
        exact ab_wk (ab_le_some (ab_le_some (ab_le_some (ab_le_none (ab_le_some (ab_le_nil)))))) (fX12_ring_143_ok hB H  K0)
    · replace H := ab_ifp H hc
      refine ab_iload (i := 4) (by decide +kernel) rfl ?_
      obtain rfl := Option.some.inj H
      exact ab_iret (by decide +kernel) rfl (Nat.le_refl _) (Nat.le_refl _) K0
  · replace H := ab_ifn H hc
    refine ab_iconst (z := 0) (v := (0 : Int32)) (by decide +kernel) (by decide) ?_
    obtain rfl := Option.some.inj H
    exact ab_iret (by decide +kernel) rfl (Nat.le_refl _) (Nat.le_refl _) K0
