abbrev mX12_close : ab_M := (yX12_close, cX12_close, 2, none, 0, 0)
theorem kvX12_close {l : Launch} {G : ab_G} {M : ab_M} {d pc : Nat} {ls : List (Option Value)} {st : List Value} {S : ab_S} {I : ab_I} {J : ab_J} {P : ab_P} {Q : ab_Q} {v0 : Value} {ix D r ln : Nat} (hd : decode M.2.1 pc = .ok (.invokevirtual ix, 3)) (h1 : Cond.methodLink M.1.cls ix mX12_close.1 ∈ ab_good) (hs : S[r]? = some (17, ln)) (hdg : D + 1 ≤ d) (hsum : (st.map fun v => v.category).sum ≤ 8) (kk : ab_Call l G mX12_close D (.ref r :: [v0]) S I J P (fun v S' I' J' P' => ab_WP l G M d (pc + 3) ls (ab_psh v st) S' I' J' P' 0 0 Q)) : ab_WP l G M d pc ls (v0 :: .ref r :: st) S I J P 0 0 Q := bz_kv (g := mX12_close) (as := [v0]) (cc := 12) rfl hd h1 tw_1448 tw_p58 tw_13 tw_1449 ⟨by decide +kernel, by decide +kernel, (by decide +kernel : (parseMethodDescriptor mX12_close.1.desc).map (fun d => d.parameters.length) = some 1)⟩ (by decide) rfl rfl rfl hdg hsum hs kk
def fX12_close_101 (a1 : Int32) (I : ab_I) : Option ab_I :=
  some I
set_option maxRecDepth 100000 in
theorem fX12_close_101_ok {l : Launch} {G : ab_G} {S : ab_S} {I : ab_I} {J : ab_J} {P : ab_P} {Q : ab_Q} {a1 : Int32} (hB : bz_B S P) {x : ab_I} (H : fX12_close_101 a1 I = some x) (K0 : Q none S x J P) : ab_WP l G mX12_close 1 101 [some (.ref 73), some (.int a1)] [] S I J P 0 0 Q := by
  unfold fX12_close_101 at H
  obtain rfl := Option.some.inj H
  exact ab_vret (by decide +kernel) rfl (Nat.le_refl _) (Nat.le_refl _) K0
def fX12_close_0 (a1 : Int32) (I : ab_I) : Option ((ab_I) ⊕ ab_I) :=
  if (I 73 19) ≤ 0 then
    (fX12_close_101 a1 I).map .inr
  else
    ab_gd (ab_ix ((I 73 19) - (1 : Int32)) 160 = true) (
      if (I 80 (((I 73 19) - (1 : Int32)).toNatClampNeg)) = (20 : Int32) then
        (fX12_close_101 a1 I).map .inr
      else
        ab_gd (ab_ix ((I 73 19) - (1 : Int32)) 160 = true) (
          (fX12_tight (I 80 (((I 73 19) - (1 : Int32)).toNatClampNeg))).bind fun u3 =>
          if u3 < a1 then
            (fX12_close_101 a1 I).map .inr
          else
            ab_gd (ab_ix ((I 73 19) - (1 : Int32)) 160 = true) (
              if (I 80 (((I 73 19) - (1 : Int32)).toNatClampNeg)) = (21 : Int32) then
                (fX12_add (2 : Int32) (0 : Int32) (ab_u I 73 19 ((I 73 19) - (1 : Int32)))).bind fun u6 =>
                some (.inl (ab_u u6 73 23 ((u6 73 23) - (1 : Int32))))
              else
                ab_gd (ab_ix ((I 73 19) - (1 : Int32)) 160 = true) (
                  (fX12_add (3 : Int32) (I 80 (((I 73 19) - (1 : Int32)).toNatClampNeg)) (ab_u I 73 19 ((I 73 19) - (1 : Int32)))).bind fun u5 =>
                  some (.inl u5)
                )
            )
        )
    )
set_option maxRecDepth 100000 in
theorem fX12_close_0_ok {l : Launch} {G : ab_G} {S : ab_S} {I : ab_I} {J : ab_J} {P : ab_P} {Q : ab_Q} {a1 : Int32} (hB : bz_B S P) {x : ((ab_I) ⊕ ab_I)} (H : fX12_close_0 a1 I = some x) (K1 : ∀ s, x = (.inl s) → ab_WP l G mX12_close 1 0 [some (.ref 73), some (.int a1)] [] S s J P 0 0 Q) (K0 : ∀ r, x = (.inr r) → Q none S r J P) : ab_WP l G mX12_close 1 0 [some (.ref 73), some (.int a1)] [] S I J P 0 0 Q := by
  unfold fX12_close_0 at H
  refine ab_aload_n (z := 0) (by decide +kernel) rfl rfl ?_
  refine gX12_19 (ix := 225) (by decide +kernel) tw_1100 (hB.1 73 _ rfl) ?_
  refine ab_if_le (off := 97) (tgt := 101) (by decide +kernel) rfl (fun hc => ?_) (fun hc => ?_)
  · replace H := ab_ifp H hc
    obtain ⟨y1, Hy, hx⟩ := ab_mp_of H
    subst hx
    replace H := Hy
    exact ab_wk (ab_le_some (ab_le_some (ab_le_nil))) (fX12_close_101_ok hB H  (K0 _ rfl))
  · replace H := ab_ifn H hc
    refine ab_aload_n (z := 0) (by decide +kernel) rfl rfl ?_
    refine gX12_15 (ix := 33) (by decide +kernel) tw_1096 (hB.1 73 _ rfl) (hB.2.1 85 (73, 15, 80) rfl) ?_
    refine ab_aload_n (z := 0) (by decide +kernel) rfl rfl ?_
    refine gX12_19 (ix := 225) (by decide +kernel) tw_1100 (hB.1 73 _ rfl) ?_
    refine ab_iconst (z := 1) (v := (1 : Int32)) (by decide +kernel) (by decide) ?_
    refine ab_isub (by decide +kernel) ?_
    obtain ⟨hg, H⟩ := ab_gd_of H
    refine ab_iald (ln := 160) (by decide +kernel) (hB.1 80 _ rfl) (ab_ix_in hg) ?_
    refine ab_bipush (z := 20) (v := (20 : Int32)) (by decide +kernel) (by decide) ?_
    refine ab_icmp_eq (off := 81) (tgt := 101) (by decide +kernel) rfl (fun hc => ?_) (fun hc => ?_)
    · replace H := ab_ifp H hc
      obtain ⟨y2, Hy, hx⟩ := ab_mp_of H
      subst hx
      replace H := Hy
      exact ab_wk (ab_le_some (ab_le_some (ab_le_nil))) (fX12_close_101_ok hB H  (K0 _ rfl))
    · replace H := ab_ifn H hc
      refine ab_aload_n (z := 0) (by decide +kernel) rfl rfl ?_
      refine gX12_15 (ix := 33) (by decide +kernel) tw_1096 (hB.1 73 _ rfl) (hB.2.1 85 (73, 15, 80) rfl) ?_
      refine ab_aload_n (z := 0) (by decide +kernel) rfl rfl ?_
      refine gX12_19 (ix := 225) (by decide +kernel) tw_1100 (hB.1 73 _ rfl) ?_
      refine ab_iconst (z := 1) (v := (1 : Int32)) (by decide +kernel) (by decide) ?_
      refine ab_isub (by decide +kernel) ?_
      obtain ⟨hg, H⟩ := ab_gd_of H
      refine ab_iald (ln := 160) (by decide +kernel) (hB.1 80 _ rfl) (ab_ix_in hg) ?_
      obtain ⟨u3, hu3, H⟩ := ab_bd_of H
      refine ksX12_tight (D := 0) (ix := 228) (by decide +kernel) tw_1415 (by decide) (Nat.le_of_ble_eq_true rfl) (mX12_tight_ok hB hu3 ?_)
      change ab_WP l G mX12_close 1 37 [some (.ref 73), some (.int a1)] [.int u3] S I J P 0 0 Q
      refine ab_iload_n (z := 1) (by decide +kernel) rfl rfl ?_
      refine ab_icmp_lt (off := 63) (tgt := 101) (by decide +kernel) rfl (fun hc => ?_) (fun hc => ?_)
      · replace H := ab_ifp H hc
        obtain ⟨y4, Hy, hx⟩ := ab_mp_of H
        subst hx
        replace H := Hy
        exact ab_wk (ab_le_some (ab_le_some (ab_le_nil))) (fX12_close_101_ok hB H  (K0 _ rfl))
      · replace H := ab_ifn H hc
        refine ab_aload_n (z := 0) (by decide +kernel) rfl rfl ?_
        refine ab_dup (by decide +kernel) rfl ?_
        refine gX12_19 (ix := 225) (by decide +kernel) tw_1100 (hB.1 73 _ rfl) ?_
        refine ab_iconst (z := 1) (v := (1 : Int32)) (by decide +kernel) (by decide) ?_
        refine ab_isub (by decide +kernel) ?_
        refine pX12_19 (ix := 225) (by decide +kernel) tw_1100 (hB.1 73 _ rfl) ?_
        refine ab_aload_n (z := 0) (by decide +kernel) rfl rfl ?_
        refine gX12_15 (ix := 33) (by decide +kernel) tw_1096 (hB.1 73 _ rfl) (hB.2.1 85 (73, 15, 80) rfl) ?_
        refine ab_aload_n (z := 0) (by decide +kernel) rfl rfl ?_
        refine gX12_19 (ix := 225) (by decide +kernel) tw_1100 (hB.1 73 _ rfl) ?_
        refine ab_top (y := ((I 73 19) - (1 : Int32))) rfl ?_
        obtain ⟨hg, H⟩ := ab_gd_of H
        refine ab_iald (ln := 160) (by decide +kernel) (hB.1 80 _ rfl) (ab_ix_in hg) ?_
        refine ab_top (y := (I 80 (((I 73 19) - (1 : Int32)).toNatClampNeg))) rfl ?_
        refine ab_bipush (z := 21) (v := (21 : Int32)) (by decide +kernel) (by decide) ?_
        refine ab_icmp_ne (off := 22) (tgt := 84) (by decide +kernel) rfl (fun hc => ?_) (fun hc => ?_)
        · replace H := ab_ifn H hc
          refine ab_aload_n (z := 0) (by decide +kernel) rfl rfl ?_
          refine ab_iconst (z := 3) (v := (3 : Int32)) (by decide +kernel) (by decide) ?_
          refine ab_aload_n (z := 0) (by decide +kernel) rfl rfl ?_
          refine gX12_15 (ix := 33) (by decide +kernel) tw_1096 (hB.1 73 _ rfl) (hB.2.1 85 (73, 15, 80) rfl) ?_
          refine ab_aload_n (z := 0) (by decide +kernel) rfl rfl ?_
          refine gX12_19 (ix := 225) (by decide +kernel) tw_1100 (hB.1 73 _ rfl) ?_
          refine ab_top (y := ((I 73 19) - (1 : Int32))) rfl ?_
          obtain ⟨hg, H⟩ := ab_gd_of H
          refine ab_iald (ln := 160) (by decide +kernel) (hB.1 80 _ rfl) (ab_ix_in hg) ?_
          refine ab_top (y := (I 80 (((I 73 19) - (1 : Int32)).toNatClampNeg))) rfl ?_
          obtain ⟨u5, hu5, H⟩ := ab_bd_of H
          refine kvX12_add (D := 0) (ix := 231) (by decide +kernel) tw_1434 (hB.1 73 _ rfl) (by decide) (Nat.le_of_ble_eq_true rfl) (mX12_add_ok hB hu5 ?_)
          change ab_WP l G mX12_close 1 98 [some (.ref 73), some (.int a1)] [] S u5 J P 0 0 Q
          refine ab_goto (off := -98) (tgt := 0) (by decide +kernel) rfl ?_
          exact ab_wk (ab_le_some (ab_le_some (ab_le_nil))) (K1 u5 (Option.some.inj H).symm)
        · replace H := ab_ifp H hc
          refine ab_aload_n (z := 0) (by decide +kernel) rfl rfl ?_
          refine ab_iconst (z := 2) (v := (2 : Int32)) (by decide +kernel) (by decide) ?_
          refine ab_iconst (z := 0) (v := (0 : Int32)) (by decide +kernel) (by decide) ?_
          obtain ⟨u6, hu6, H⟩ := ab_bd_of H
          refine kvX12_add (D := 0) (ix := 231) (by decide +kernel) tw_1434 (hB.1 73 _ rfl) (by decide) (Nat.le_of_ble_eq_true rfl) (mX12_add_ok hB hu6 ?_)
          change ab_WP l G mX12_close 1 71 [some (.ref 73), some (.int a1)] [] S u6 J P 0 0 Q
          refine ab_aload_n (z := 0) (by decide +kernel) rfl rfl ?_
          refine ab_dup (by decide +kernel) rfl ?_
          refine gX12_23 (ix := 235) (by decide +kernel) tw_1104 (hB.1 73 _ rfl) ?_
          refine ab_iconst (z := 1) (v := (1 : Int32)) (by decide +kernel) (by decide) ?_
          refine ab_isub (by decide +kernel) ?_
          refine pX12_23 (ix := 235) (by decide +kernel) tw_1104 (hB.1 73 _ rfl) ?_
          refine ab_goto (off := -81) (tgt := 0) (by decide +kernel) rfl ?_
          exact ab_wk (ab_le_some (ab_le_some (ab_le_nil))) (K1 (ab_u u6 73 23 ((u6 73 23) - (1 : Int32))) (Option.some.inj H).symm)
def fX12_close (a1 : Int32) (I : ab_I) : Option ab_I :=
  ab_it (fun s => fX12_close_0 a1 s) 5000 I
set_option maxRecDepth 100000 in
theorem mX12_close_ok {l : Launch} {G : ab_G} {S : ab_S} {I : ab_I} {J : ab_J} {P : ab_P} {Q : ab_Q} {a1 : Int32} (hB : bz_B S P) {x : ab_I} (H : fX12_close a1 I = some x) (K0 : Q none S x J P) : ab_Call l G mX12_close 1 [.ref 73, .int a1] S I J P Q := by
  unfold fX12_close at H
  refine ab_enter rfl (Nat.le_of_ble_eq_true rfl) (ab_wk (ls' := [some (.ref 73), some (.int a1)]) (ab_le_some (ab_le_some (ab_le_nil))) ?_)
  exact ab_wk (ab_le_some (ab_le_some (ab_le_nil))) (ab_iter (body := (fun s => fX12_close_0 a1 s)) (W := fun s => ab_WP l G mX12_close 1 0 [some (.ref 73), some (.int a1)] [] S s J P 0 0 Q) (fun s y hb h1 h2 => fX12_close_0_ok hB hb h1 (fun r e => by have e2 := h2 _ e; subst e2; exact K0)) 5000 I H)
abbrev mX12_hasRelation : ab_M := (yX12_hasRelation, cX12_hasRelation, 2, some .boolean, 0, 0)
theorem kvX12_hasRelation {l : Launch} {G : ab_G} {M : ab_M} {d pc : Nat} {ls : List (Option Value)} {st : List Value} {S : ab_S} {I : ab_I} {J : ab_J} {P : ab_P} {Q : ab_Q} {ix D r ln : Nat} (hd : decode M.2.1 pc = .ok (.invokevirtual ix, 3)) (h1 : Cond.methodLink M.1.cls ix mX12_hasRelation.1 ∈ ab_good) (hs : S[r]? = some (17, ln)) (hdg : D + 1 ≤ d) (hsum : (st.map fun v => v.category).sum ≤ 8) (kk : ab_Call l G mX12_hasRelation D (.ref r :: []) S I J P (fun v S' I' J' P' => ab_WP l G M d (pc + 3) ls (ab_psh v st) S' I' J' P' 0 0 Q)) : ab_WP l G M d pc ls (.ref r :: st) S I J P 0 0 Q := bz_kv (g := mX12_hasRelation) (as := []) (cc := 12) rfl hd h1 tw_1452 tw_p59 tw_13 tw_1453 ⟨by decide +kernel, by decide +kernel, (by decide +kernel : (parseMethodDescriptor mX12_hasRelation.1.desc).map (fun d => d.parameters.length) = some 0)⟩ (by decide) rfl rfl rfl hdg hsum hs kk
def fX12_hasRelation_74 (I : ab_I) (s0 : Int32) : Option Int32 :=
  ab_gd (s0 = 0 ∨ s0 = 1) (some s0)
set_option maxRecDepth 100000 in
theorem fX12_hasRelation_74_ok {l : Launch} {G : ab_G} {S : ab_S} {I : ab_I} {J : ab_J} {P : ab_P} {Q : ab_Q} {s0 : Int32} (hB : bz_B S P) {x : Int32} (H : fX12_hasRelation_74 I s0 = some x) (K0 : Q (some (.int x)) S I J P) : ab_WP l G mX12_hasRelation 1 74 [some (.ref 73), none] [.int s0] S I J P 0 0 Q := by
  unfold fX12_hasRelation_74 at H
  obtain ⟨hg, H⟩ := ab_gd_of H
  obtain rfl := Option.some.inj H
  exact ab_zret (by decide +kernel) rfl (Nat.le_refl _) (Nat.le_refl _) hg K0
def fX12_hasRelation_73 (I : ab_I) : Option Int32 :=
  fX12_hasRelation_74 I (0 : Int32)
set_option maxRecDepth 100000 in
theorem fX12_hasRelation_73_ok {l : Launch} {G : ab_G} {S : ab_S} {I : ab_I} {J : ab_J} {P : ab_P} {Q : ab_Q} (hB : bz_B S P) {x : Int32} (H : fX12_hasRelation_73 I = some x) (K0 : Q (some (.int x)) S I J P) : ab_WP l G mX12_hasRelation 1 73 [some (.ref 73), none] [] S I J P 0 0 Q := by
  unfold fX12_hasRelation_73 at H
  refine ab_iconst (z := 0) (v := (0 : Int32)) (by decide +kernel) (by decide) ?_
  exact ab_wk (ab_le_some (ab_le_none (ab_le_nil))) (fX12_hasRelation_74_ok hB H  K0)
def fX12_hasRelation_41 (I : ab_I) (a1 : Int32) : Option Int32 :=
  if a1 < 0 then
    fX12_hasRelation_73 I
  else
    ab_gd (ab_ix a1 160 = true) (
      if (I 80 a1.toNatClampNeg) = (20 : Int32) then
        fX12_hasRelation_73 I
      else
        ab_gd (ab_ix a1 160 = true) (
          (fX12_tight (I 80 a1.toNatClampNeg)).bind fun u5 =>
          if u5 = (4 : Int32) then
            fX12_hasRelation_74 I (1 : Int32)
          else
            fX12_hasRelation_73 I
        )
    )
set_option maxRecDepth 100000 in
theorem fX12_hasRelation_41_ok {l : Launch} {G : ab_G} {S : ab_S} {I : ab_I} {J : ab_J} {P : ab_P} {Q : ab_Q} {a1 : Int32} (hB : bz_B S P) {x : Int32} (H : fX12_hasRelation_41 I a1 = some x) (K0 : Q (some (.int x)) S I J P) : ab_WP l G mX12_hasRelation 1 41 [some (.ref 73), some (.int a1)] [] S I J P 0 0 Q := by
  unfold fX12_hasRelation_41 at H
  refine ab_iload_n (z := 1) (by decide +kernel) rfl rfl ?_
  refine ab_if_lt (off := 31) (tgt := 73) (by decide +kernel) rfl (fun hc => ?_) (fun hc => ?_)
  · replace H := ab_ifp H hc
    exact ab_wk (ab_le_some (ab_le_none (ab_le_nil))) (fX12_hasRelation_73_ok hB H  K0)
  · replace H := ab_ifn H hc
    refine ab_aload_n (z := 0) (by decide +kernel) rfl rfl ?_
    refine gX12_15 (ix := 33) (by decide +kernel) tw_1096 (hB.1 73 _ rfl) (hB.2.1 85 (73, 15, 80) rfl) ?_
    refine ab_iload_n (z := 1) (by decide +kernel) rfl rfl ?_
    obtain ⟨hg, H⟩ := ab_gd_of H
    refine ab_iald (ln := 160) (by decide +kernel) (hB.1 80 _ rfl) (ab_ix_in hg) ?_
    refine ab_bipush (z := 20) (v := (20 : Int32)) (by decide +kernel) (by decide) ?_
    refine ab_icmp_eq (off := 20) (tgt := 73) (by decide +kernel) rfl (fun hc => ?_) (fun hc => ?_)
    · replace H := ab_ifp H hc
      exact ab_wk (ab_le_some (ab_le_none (ab_le_nil))) (fX12_hasRelation_73_ok hB H  K0)
    · replace H := ab_ifn H hc
      refine ab_aload_n (z := 0) (by decide +kernel) rfl rfl ?_
      refine gX12_15 (ix := 33) (by decide +kernel) tw_1096 (hB.1 73 _ rfl) (hB.2.1 85 (73, 15, 80) rfl) ?_
      refine ab_iload_n (z := 1) (by decide +kernel) rfl rfl ?_
      obtain ⟨hg, H⟩ := ab_gd_of H
      refine ab_iald (ln := 160) (by decide +kernel) (hB.1 80 _ rfl) (ab_ix_in hg) ?_
      obtain ⟨u5, hu5, H⟩ := ab_bd_of H
      refine ksX12_tight (D := 0) (ix := 228) (by decide +kernel) tw_1415 (by decide) (Nat.le_of_ble_eq_true rfl) (mX12_tight_ok hB hu5 ?_)
      change ab_WP l G mX12_hasRelation 1 65 [some (.ref 73), some (.int a1)] [.int u5] S I J P 0 0 Q
      refine ab_iconst (z := 4) (v := (4 : Int32)) (by decide +kernel) (by decide) ?_
      refine ab_icmp_ne (off := 7) (tgt := 73) (by decide +kernel) rfl (fun hc => ?_) (fun hc => ?_)
      · replace H := ab_ifn H hc
        exact ab_wk (ab_le_some (ab_le_none (ab_le_nil))) (fX12_hasRelation_73_ok hB H  K0)
      · replace H := ab_ifp H hc
        refine ab_iconst (z := 1) (v := (1 : Int32)) (by decide +kernel) (by decide) ?_
        refine ab_goto (off := 4) (tgt := 74) (by decide +kernel) rfl ?_
        exact ab_wk (ab_le_some (ab_le_none (ab_le_nil))) (fX12_hasRelation_74_ok hB H  K0)
def fX12_hasRelation_7 (I : ab_I) (a1 : Int32) : Option ((Int32) ⊕ Int32) :=
  if a1 < 0 then
    (fX12_hasRelation_41 I a1).map .inr
  else
    ab_gd (ab_ix a1 160 = true) (
      if (I 80 a1.toNatClampNeg) = (20 : Int32) then
        (fX12_hasRelation_41 I a1).map .inr
      else
        ab_gd (ab_ix a1 160 = true) (
          (fX12_tight (I 80 a1.toNatClampNeg)).bind fun u3 =>
          if u3 ≤ (4 : Int32) then
            (fX12_hasRelation_41 I a1).map .inr
          else
            some (.inl (a1 + (-1 : Int32)))
        )
    )
set_option maxRecDepth 100000 in
theorem fX12_hasRelation_7_ok {l : Launch} {G : ab_G} {S : ab_S} {I : ab_I} {J : ab_J} {P : ab_P} {Q : ab_Q} {a1 : Int32} (hB : bz_B S P) {x : ((Int32) ⊕ Int32)} (H : fX12_hasRelation_7 I a1 = some x) (K1 : ∀ s, x = (.inl s) → ab_WP l G mX12_hasRelation 1 7 [some (.ref 73), some (.int s)] [] S I J P 0 0 Q) (K0 : ∀ r, x = (.inr r) → Q (some (.int r)) S I J P) : ab_WP l G mX12_hasRelation 1 7 [some (.ref 73), some (.int a1)] [] S I J P 0 0 Q := by
  unfold fX12_hasRelation_7 at H
  refine ab_iload_n (z := 1) (by decide +kernel) rfl rfl ?_
  refine ab_if_lt (off := 33) (tgt := 41) (by decide +kernel) rfl (fun hc => ?_) (fun hc => ?_)
  · replace H := ab_ifp H hc
    obtain ⟨y1, Hy, hx⟩ := ab_mp_of H
    subst hx
    replace H := Hy
    exact ab_wk (ab_le_some (ab_le_some (ab_le_nil))) (fX12_hasRelation_41_ok hB H  (K0 _ rfl))
  · replace H := ab_ifn H hc
    refine ab_aload_n (z := 0) (by decide +kernel) rfl rfl ?_
    refine gX12_15 (ix := 33) (by decide +kernel) tw_1096 (hB.1 73 _ rfl) (hB.2.1 85 (73, 15, 80) rfl) ?_
    refine ab_iload_n (z := 1) (by decide +kernel) rfl rfl ?_
    obtain ⟨hg, H⟩ := ab_gd_of H
    refine ab_iald (ln := 160) (by decide +kernel) (hB.1 80 _ rfl) (ab_ix_in hg) ?_
    refine ab_bipush (z := 20) (v := (20 : Int32)) (by decide +kernel) (by decide) ?_
    refine ab_icmp_eq (off := 22) (tgt := 41) (by decide +kernel) rfl (fun hc => ?_) (fun hc => ?_)
    · replace H := ab_ifp H hc
      obtain ⟨y2, Hy, hx⟩ := ab_mp_of H
      subst hx
      replace H := Hy
      exact ab_wk (ab_le_some (ab_le_some (ab_le_nil))) (fX12_hasRelation_41_ok hB H  (K0 _ rfl))
    · replace H := ab_ifn H hc
      refine ab_aload_n (z := 0) (by decide +kernel) rfl rfl ?_
      refine gX12_15 (ix := 33) (by decide +kernel) tw_1096 (hB.1 73 _ rfl) (hB.2.1 85 (73, 15, 80) rfl) ?_
      refine ab_iload_n (z := 1) (by decide +kernel) rfl rfl ?_
      obtain ⟨hg, H⟩ := ab_gd_of H
      refine ab_iald (ln := 160) (by decide +kernel) (hB.1 80 _ rfl) (ab_ix_in hg) ?_
      obtain ⟨u3, hu3, H⟩ := ab_bd_of H
      refine ksX12_tight (D := 0) (ix := 228) (by decide +kernel) tw_1415 (by decide) (Nat.le_of_ble_eq_true rfl) (mX12_tight_ok hB hu3 ?_)
      change ab_WP l G mX12_hasRelation 1 31 [some (.ref 73), some (.int a1)] [.int u3] S I J P 0 0 Q
      refine ab_iconst (z := 4) (v := (4 : Int32)) (by decide +kernel) (by decide) ?_
      refine ab_icmp_le (off := 9) (tgt := 41) (by decide +kernel) rfl (fun hc => ?_) (fun hc => ?_)
      · replace H := ab_ifp H hc
        obtain ⟨y4, Hy, hx⟩ := ab_mp_of H
        subst hx
        replace H := Hy
        exact ab_wk (ab_le_some (ab_le_some (ab_le_nil))) (fX12_hasRelation_41_ok hB H  (K0 _ rfl))
      · replace H := ab_ifn H hc
        refine ab_iinc (i := 1) (z := -1) (v := (a1 + (-1 : Int32))) (by decide +kernel) rfl rfl (by decide) rfl ?_
        refine ab_ls (ls' := [some (.ref 73), some (.int (a1 + (-1 : Int32)))]) rfl ?_
        refine ab_goto (off := -31) (tgt := 7) (by decide +kernel) rfl ?_
        exact ab_wk (ab_le_some (ab_le_some (ab_le_nil))) (K1 (a1 + (-1 : Int32)) (Option.some.inj H).symm)
def fX12_hasRelation (I : ab_I) : Option Int32 :=
  ab_it (fun s => fX12_hasRelation_7 I s) 5000 ((I 73 19) - (1 : Int32))
set_option maxRecDepth 100000 in
theorem mX12_hasRelation_ok {l : Launch} {G : ab_G} {S : ab_S} {I : ab_I} {J : ab_J} {P : ab_P} {Q : ab_Q} (hB : bz_B S P) {x : Int32} (H : fX12_hasRelation I = some x) (K0 : Q (some (.int x)) S I J P) : ab_Call l G mX12_hasRelation 1 [.ref 73] S I J P Q := by
  unfold fX12_hasRelation at H
  refine ab_enter rfl (Nat.le_of_ble_eq_true rfl) (ab_wk (ls' := [some (.ref 73), none]) (ab_le_some (ab_le_non0 ab_le_nil)) ?_)
  refine ab_aload_n (z := 0) (by decide +kernel) rfl rfl ?_
  refine gX12_19 (ix := 225) (by decide +kernel) tw_1100 (hB.1 73 _ rfl) ?_
  refine ab_iconst (z := 1) (v := (1 : Int32)) (by decide +kernel) (by decide) ?_
  refine ab_isub (by decide +kernel) ?_
  refine ab_istore_n (z := 1) (by decide +kernel) rfl (by decide) rfl ?_
  refine ab_ls (ls' := [some (.ref 73), some (.int ((I 73 19) - (1 : Int32)))]) rfl ?_
  exact ab_wk (ab_le_some (ab_le_some (ab_le_nil))) (ab_iter (body := (fun s => fX12_hasRelation_7 I s)) (W := fun s => ab_WP l G mX12_hasRelation 1 7 [some (.ref 73), some (.int s)] [] S I J P 0 0 Q) (fun s y hb h1 h2 => fX12_hasRelation_7_ok hB hb h1 (fun r e => by have e2 := h2 _ e; subst e2; exact K0)) 5000 ((I 73 19) - (1 : Int32)) H)
abbrev mX12_mayNot : ab_M := (yX12_mayNot, cX12_mayNot, 1, some .boolean, 0, 0)
theorem kvX12_mayNot {l : Launch} {G : ab_G} {M : ab_M} {d pc : Nat} {ls : List (Option Value)} {st : List Value} {S : ab_S} {I : ab_I} {J : ab_J} {P : ab_P} {Q : ab_Q} {ix D r ln : Nat} (hd : decode M.2.1 pc = .ok (.invokevirtual ix, 3)) (h1 : Cond.methodLink M.1.cls ix mX12_mayNot.1 ∈ ab_good) (hs : S[r]? = some (17, ln)) (hdg : D + 1 ≤ d) (hsum : (st.map fun v => v.category).sum ≤ 8) (kk : ab_Call l G mX12_mayNot D (.ref r :: []) S I J P (fun v S' I' J' P' => ab_WP l G M d (pc + 3) ls (ab_psh v st) S' I' J' P' 0 0 Q)) : ab_WP l G M d pc ls (.ref r :: st) S I J P 0 0 Q := bz_kv (g := mX12_mayNot) (as := []) (cc := 12) rfl hd h1 tw_1413 tw_p50 tw_13 tw_1414 ⟨by decide +kernel, by decide +kernel, (by decide +kernel : (parseMethodDescriptor mX12_mayNot.1.desc).map (fun d => d.parameters.length) = some 0)⟩ (by decide) rfl rfl rfl hdg hsum hs kk
def fX12_mayNot_46 (I : ab_I) (s0 : Int32) : Option Int32 :=
  ab_gd (s0 = 0 ∨ s0 = 1) (some s0)
set_option maxRecDepth 100000 in
theorem fX12_mayNot_46_ok {l : Launch} {G : ab_G} {S : ab_S} {I : ab_I} {J : ab_J} {P : ab_P} {Q : ab_Q} {s0 : Int32} (hB : bz_B S P) {x : Int32} (H : fX12_mayNot_46 I s0 = some x) (K0 : Q (some (.int x)) S I J P) : ab_WP l G mX12_mayNot 1 46 [some (.ref 73)] [.int s0] S I J P 0 0 Q := by
  unfold fX12_mayNot_46 at H
  obtain ⟨hg, H⟩ := ab_gd_of H
  obtain rfl := Option.some.inj H
  exact ab_zret (by decide +kernel) rfl (Nat.le_refl _) (Nat.le_refl _) hg K0
def fX12_mayNot_41 (I : ab_I) : Option Int32 :=
  fX12_mayNot_46 I (1 : Int32)
set_option maxRecDepth 100000 in
theorem fX12_mayNot_41_ok {l : Launch} {G : ab_G} {S : ab_S} {I : ab_I} {J : ab_J} {P : ab_P} {Q : ab_Q} (hB : bz_B S P) {x : Int32} (H : fX12_mayNot_41 I = some x) (K0 : Q (some (.int x)) S I J P) : ab_WP l G mX12_mayNot 1 41 [some (.ref 73)] [] S I J P 0 0 Q := by
  unfold fX12_mayNot_41 at H
  refine ab_iconst (z := 1) (v := (1 : Int32)) (by decide +kernel) (by decide) ?_
  refine ab_goto (off := 4) (tgt := 46) (by decide +kernel) rfl ?_
  exact ab_wk (ab_le_some (ab_le_nil)) (fX12_mayNot_46_ok hB H  K0)
def fX12_mayNot (I : ab_I) : Option Int32 :=
  if (I 73 19) = 0 then
    fX12_mayNot_41 I
  else
    ab_gd (ab_ix ((I 73 19) - (1 : Int32)) 160 = true) (
      if (I 80 (((I 73 19) - (1 : Int32)).toNatClampNeg)) = (20 : Int32) then
        fX12_mayNot_41 I
      else
        ab_gd (ab_ix ((I 73 19) - (1 : Int32)) 160 = true) (
          (fX12_tight (I 80 (((I 73 19) - (1 : Int32)).toNatClampNeg))).bind fun u1 =>
          if (4 : Int32) ≤ u1 then
            fX12_mayNot_46 I (0 : Int32)
          else
            fX12_mayNot_41 I
        )
    )
set_option maxRecDepth 100000 in
theorem mX12_mayNot_ok {l : Launch} {G : ab_G} {S : ab_S} {I : ab_I} {J : ab_J} {P : ab_P} {Q : ab_Q} (hB : bz_B S P) {x : Int32} (H : fX12_mayNot I = some x) (K0 : Q (some (.int x)) S I J P) : ab_Call l G mX12_mayNot 1 [.ref 73] S I J P Q := by
  unfold fX12_mayNot at H
  refine ab_enter rfl (Nat.le_of_ble_eq_true rfl) (ab_wk (ls' := [some (.ref 73)]) (ab_le_some (ab_le_nil)) ?_)
  refine ab_aload_n (z := 0) (by decide +kernel) rfl rfl ?_
  refine gX12_19 (ix := 225) (by decide +kernel) tw_1100 (hB.1 73 _ rfl) ?_
  refine ab_if_eq (off := 37) (tgt := 41) (by decide +kernel) rfl (fun hc => ?_) (fun hc => ?_)
  · replace H := ab_ifp H hc
    exact ab_wk (ab_le_some (ab_le_nil)) (fX12_mayNot_41_ok hB H  K0)
  · replace H := ab_ifn H hc
    refine ab_aload_n (z := 0) (by decide +kernel) rfl rfl ?_
    refine gX12_15 (ix := 33) (by decide +kernel) tw_1096 (hB.1 73 _ rfl) (hB.2.1 85 (73, 15, 80) rfl) ?_
    refine ab_aload_n (z := 0) (by decide +kernel) rfl rfl ?_
    refine gX12_19 (ix := 225) (by decide +kernel) tw_1100 (hB.1 73 _ rfl) ?_
    refine ab_iconst (z := 1) (v := (1 : Int32)) (by decide +kernel) (by decide) ?_
    refine ab_isub (by decide +kernel) ?_
    obtain ⟨hg, H⟩ := ab_gd_of H
    refine ab_iald (ln := 160) (by decide +kernel) (hB.1 80 _ rfl) (ab_ix_in hg) ?_
    refine ab_bipush (z := 20) (v := (20 : Int32)) (by decide +kernel) (by decide) ?_
    refine ab_icmp_eq (off := 21) (tgt := 41) (by decide +kernel) rfl (fun hc => ?_) (fun hc => ?_)
    · replace H := ab_ifp H hc
      exact ab_wk (ab_le_some (ab_le_nil)) (fX12_mayNot_41_ok hB H  K0)
    · replace H := ab_ifn H hc
      refine ab_aload_n (z := 0) (by decide +kernel) rfl rfl ?_
      refine gX12_15 (ix := 33) (by decide +kernel) tw_1096 (hB.1 73 _ rfl) (hB.2.1 85 (73, 15, 80) rfl) ?_
      refine ab_aload_n (z := 0) (by decide +kernel) rfl rfl ?_
      refine gX12_19 (ix := 225) (by decide +kernel) tw_1100 (hB.1 73 _ rfl) ?_
      refine ab_iconst (z := 1) (v := (1 : Int32)) (by decide +kernel) (by decide) ?_
      refine ab_isub (by decide +kernel) ?_
      obtain ⟨hg, H⟩ := ab_gd_of H
      refine ab_iald (ln := 160) (by decide +kernel) (hB.1 80 _ rfl) (ab_ix_in hg) ?_
      obtain ⟨u1, hu1, H⟩ := ab_bd_of H
      refine ksX12_tight (D := 0) (ix := 228) (by decide +kernel) tw_1415 (by decide) (Nat.le_of_ble_eq_true rfl) (mX12_tight_ok hB hu1 ?_)
      change ab_WP l G mX12_mayNot 1 37 [some (.ref 73)] [.int u1] S I J P 0 0 Q
      refine ab_iconst (z := 4) (v := (4 : Int32)) (by decide +kernel) (by decide) ?_
      refine ab_icmp_ge (off := 7) (tgt := 45) (by decide +kernel) rfl (fun hc => ?_) (fun hc => ?_)
      · replace H := ab_ifp H hc
        refine ab_iconst (z := 0) (v := (0 : Int32)) (by decide +kernel) (by decide) ?_
        exact ab_wk (ab_le_some (ab_le_nil)) (fX12_mayNot_46_ok hB H  K0)
      · replace H := ab_ifn H hc
        exact ab_wk (ab_le_some (ab_le_nil)) (fX12_mayNot_41_ok hB H  K0)
abbrev mX12_asked : ab_M := (yX12_asked, cX12_asked, 1, some .int, 0, 0)
theorem kvX12_asked {l : Launch} {G : ab_G} {M : ab_M} {d pc : Nat} {ls : List (Option Value)} {st : List Value} {S : ab_S} {I : ab_I} {J : ab_J} {P : ab_P} {Q : ab_Q} {ix D r ln : Nat} (hd : decode M.2.1 pc = .ok (.invokevirtual ix, 3)) (h1 : Cond.methodLink M.1.cls ix mX12_asked.1 ∈ ab_good) (hs : S[r]? = some (17, ln)) (hdg : D + 1 ≤ d) (hsum : (st.map fun v => v.category).sum ≤ 8) (kk : ab_Call l G mX12_asked D (.ref r :: []) S I J P (fun v S' I' J' P' => ab_WP l G M d (pc + 3) ls (ab_psh v st) S' I' J' P' 0 0 Q)) : ab_WP l G M d pc ls (.ref r :: st) S I J P 0 0 Q := bz_kv (g := mX12_asked) (as := []) (cc := 12) rfl hd h1 tw_1432 tw_p54 tw_13 tw_1433 ⟨by decide +kernel, by decide +kernel, (by decide +kernel : (parseMethodDescriptor mX12_asked.1.desc).map (fun d => d.parameters.length) = some 0)⟩ (by decide) rfl rfl rfl hdg hsum hs kk
def fX12_asked_91 (I : ab_I) (J : ab_J) (s0 : Int32) : Option Int32 :=
  some s0
set_option maxRecDepth 100000 in
theorem fX12_asked_91_ok {l : Launch} {G : ab_G} {S : ab_S} {I : ab_I} {J : ab_J} {P : ab_P} {Q : ab_Q} {s0 : Int32} (hB : bz_B S P) {x : Int32} (H : fX12_asked_91 I J s0 = some x) (K0 : Q (some (.int x)) S I J P) : ab_WP l G mX12_asked 0 91 [some (.ref 73)] [.int s0] S I J P 0 0 Q := by
  unfold fX12_asked_91 at H
  obtain rfl := Option.some.inj H
  exact ab_iret (by decide +kernel) rfl (Nat.le_refl _) (Nat.le_refl _) K0
def fX12_asked (I : ab_I) (J : ab_J) : Option Int32 :=
  if (I 73 6) = (1 : Int32) then
    if (lg_cmp (J 73 9) (1819243379 : Int64)) = 0 then
      some (0 : Int32)
    else
      if (lg_cmp (J 73 9) (6840691 : Int64)) = 0 then
        some (1 : Int32)
      else
        if (lg_cmp (J 73 9) (1920298599 : Int64)) = 0 then
          some (2 : Int32)
        else
          if (lg_cmp (J 73 9) (1752135026 : Int64)) = 0 then
            some (3 : Int32)
          else
            if (lg_cmp (J 73 9) (1751478885 : Int64)) = 0 then
              some (4 : Int32)
            else
              if (lg_cmp (J 73 9) (6578553 : Int64)) = 0 then
                fX12_asked_91 I J (5 : Int32)
              else
                fX12_asked_91 I J (-1 : Int32)
  else
    some (-1 : Int32)
set_option maxRecDepth 100000 in
theorem mX12_asked_ok {l : Launch} {G : ab_G} {S : ab_S} {I : ab_I} {J : ab_J} {P : ab_P} {Q : ab_Q} (hB : bz_B S P) {x : Int32} (H : fX12_asked I J = some x) (K0 : Q (some (.int x)) S I J P) : ab_Call l G mX12_asked 0 [.ref 73] S I J P Q := by
  unfold fX12_asked at H
  refine ab_enter rfl (Nat.le_of_ble_eq_true rfl) (ab_wk (ls' := [some (.ref 73)]) (ab_le_some (ab_le_nil)) ?_)
  refine ab_aload_n (z := 0) (by decide +kernel) rfl rfl ?_
  refine gX12_6 (ix := 148) (by decide +kernel) tw_1087 (hB.1 73 _ rfl) ?_
  refine ab_iconst (z := 1) (v := (1 : Int32)) (by decide +kernel) (by decide) ?_
  refine ab_icmp_eq (off := 5) (tgt := 10) (by decide +kernel) rfl (fun hc => ?_) (fun hc => ?_)
  · replace H := ab_ifp H hc
    refine ab_aload_n (z := 0) (by decide +kernel) rfl rfl ?_
    refine gX12_9 (ix := 141) (by decide +kernel) tw_1090 (hB.1 73 _ rfl) ?_
    refine ab_ldc2 (ix := 180) (v := (1819243379 : Int64)) (by decide +kernel) tw_1364 ?_
    refine ab_lcmp (by decide +kernel) ?_
    refine ab_if_ne (off := 5) (tgt := 23) (by decide +kernel) rfl (fun hc => ?_) (fun hc => ?_)
    · replace H := ab_ifn H hc
      refine ab_aload_n (z := 0) (by decide +kernel) rfl rfl ?_
      refine gX12_9 (ix := 141) (by decide +kernel) tw_1090 (hB.1 73 _ rfl) ?_
      refine ab_ldc2 (ix := 166) (v := (6840691 : Int64)) (by decide +kernel) tw_1357 ?_
      refine ab_lcmp (by decide +kernel) ?_
      refine ab_if_ne (off := 5) (tgt := 36) (by decide +kernel) rfl (fun hc => ?_) (fun hc => ?_)
      · replace H := ab_ifn H hc
        refine ab_aload_n (z := 0) (by decide +kernel) rfl rfl ?_
        refine gX12_9 (ix := 141) (by decide +kernel) tw_1090 (hB.1 73 _ rfl) ?_
        refine ab_ldc2 (ix := 182) (v := (1920298599 : Int64)) (by decide +kernel) tw_1365 ?_
        refine ab_lcmp (by decide +kernel) ?_
        refine ab_if_ne (off := 5) (tgt := 49) (by decide +kernel) rfl (fun hc => ?_) (fun hc => ?_)
        · replace H := ab_ifn H hc
          refine ab_aload_n (z := 0) (by decide +kernel) rfl rfl ?_
          refine gX12_9 (ix := 141) (by decide +kernel) tw_1090 (hB.1 73 _ rfl) ?_
          refine ab_ldc2 (ix := 170) (v := (1752135026 : Int64)) (by decide +kernel) tw_1359 ?_
          refine ab_lcmp (by decide +kernel) ?_
          refine ab_if_ne (off := 5) (tgt := 62) (by decide +kernel) rfl (fun hc => ?_) (fun hc => ?_)
          · replace H := ab_ifn H hc
            refine ab_aload_n (z := 0) (by decide +kernel) rfl rfl ?_
            refine gX12_9 (ix := 141) (by decide +kernel) tw_1090 (hB.1 73 _ rfl) ?_
            refine ab_ldc2 (ix := 184) (v := (1751478885 : Int64)) (by decide +kernel) tw_1366 ?_
            refine ab_lcmp (by decide +kernel) ?_
            refine ab_if_ne (off := 5) (tgt := 75) (by decide +kernel) rfl (fun hc => ?_) (fun hc => ?_)
            · replace H := ab_ifn H hc
              refine ab_aload_n (z := 0) (by decide +kernel) rfl rfl ?_
              refine gX12_9 (ix := 141) (by decide +kernel) tw_1090 (hB.1 73 _ rfl) ?_
              refine ab_ldc2 (ix := 186) (v := (6578553 : Int64)) (by decide +kernel) tw_1367 ?_
              refine ab_lcmp (by decide +kernel) ?_
              refine ab_if_ne (off := 7) (tgt := 90) (by decide +kernel) rfl (fun hc => ?_) (fun hc => ?_)
              · replace H := ab_ifn H hc
                refine ab_iconst (z := -1) (v := (-1 : Int32)) (by decide +kernel) (by decide) ?_
                exact ab_wk (ab_le_some (ab_le_nil)) (fX12_asked_91_ok hB H  K0)
              · replace H := ab_ifp H hc
                refine ab_iconst (z := 5) (v := (5 : Int32)) (by decide +kernel) (by decide) ?_
                refine ab_goto (off := 4) (tgt := 91) (by decide +kernel) rfl ?_
                exact ab_wk (ab_le_some (ab_le_nil)) (fX12_asked_91_ok hB H  K0)
            · replace H := ab_ifp H hc
              refine ab_iconst (z := 4) (v := (4 : Int32)) (by decide +kernel) (by decide) ?_
              obtain rfl := Option.some.inj H
              exact ab_iret (by decide +kernel) rfl (Nat.le_refl _) (Nat.le_refl _) K0
          · replace H := ab_ifp H hc
            refine ab_iconst (z := 3) (v := (3 : Int32)) (by decide +kernel) (by decide) ?_
            obtain rfl := Option.some.inj H
            exact ab_iret (by decide +kernel) rfl (Nat.le_refl _) (Nat.le_refl _) K0
        · replace H := ab_ifp H hc
          refine ab_iconst (z := 2) (v := (2 : Int32)) (by decide +kernel) (by decide) ?_
          obtain rfl := Option.some.inj H
          exact ab_iret (by decide +kernel) rfl (Nat.le_refl _) (Nat.le_refl _) K0
      · replace H := ab_ifp H hc
        refine ab_iconst (z := 1) (v := (1 : Int32)) (by decide +kernel) (by decide) ?_
        obtain rfl := Option.some.inj H
        exact ab_iret (by decide +kernel) rfl (Nat.le_refl _) (Nat.le_refl _) K0
    · replace H := ab_ifp H hc
      refine ab_iconst (z := 0) (v := (0 : Int32)) (by decide +kernel) (by decide) ?_
      obtain rfl := Option.some.inj H
      exact ab_iret (by decide +kernel) rfl (Nat.le_refl _) (Nat.le_refl _) K0
  · replace H := ab_ifn H hc
    refine ab_iconst (z := -1) (v := (-1 : Int32)) (by decide +kernel) (by decide) ?_
    obtain rfl := Option.some.inj H
    exact ab_iret (by decide +kernel) rfl (Nat.le_refl _) (Nat.le_refl _) K0
abbrev mX12_isFull : ab_M := (yX12_isFull, cX12_isFull, 1, some .boolean, 0, 0)
theorem kvX12_isFull {l : Launch} {G : ab_G} {M : ab_M} {d pc : Nat} {ls : List (Option Value)} {st : List Value} {S : ab_S} {I : ab_I} {J : ab_J} {P : ab_P} {Q : ab_Q} {ix D r ln : Nat} (hd : decode M.2.1 pc = .ok (.invokevirtual ix, 3)) (h1 : Cond.methodLink M.1.cls ix mX12_isFull.1 ∈ ab_good) (hs : S[r]? = some (17, ln)) (hdg : D + 1 ≤ d) (hsum : (st.map fun v => v.category).sum ≤ 8) (kk : ab_Call l G mX12_isFull D (.ref r :: []) S I J P (fun v S' I' J' P' => ab_WP l G M d (pc + 3) ls (ab_psh v st) S' I' J' P' 0 0 Q)) : ab_WP l G M d pc ls (.ref r :: st) S I J P 0 0 Q := bz_kv (g := mX12_isFull) (as := []) (cc := 12) rfl hd h1 tw_1424 tw_p52 tw_13 tw_1425 ⟨by decide +kernel, by decide +kernel, (by decide +kernel : (parseMethodDescriptor mX12_isFull.1.desc).map (fun d => d.parameters.length) = some 0)⟩ (by decide) rfl rfl rfl hdg hsum hs kk
def fX12_isFull_23 (I : ab_I) (s0 : Int32) : Option Int32 :=
  ab_gd (s0 = 0 ∨ s0 = 1) (some s0)
set_option maxRecDepth 100000 in
theorem fX12_isFull_23_ok {l : Launch} {G : ab_G} {S : ab_S} {I : ab_I} {J : ab_J} {P : ab_P} {Q : ab_Q} {s0 : Int32} (hB : bz_B S P) {x : Int32} (H : fX12_isFull_23 I s0 = some x) (K0 : Q (some (.int x)) S I J P) : ab_WP l G mX12_isFull 0 23 [some (.ref 73)] [.int s0] S I J P 0 0 Q := by
  unfold fX12_isFull_23 at H
  obtain ⟨hg, H⟩ := ab_gd_of H
  obtain rfl := Option.some.inj H
  exact ab_zret (by decide +kernel) rfl (Nat.le_refl _) (Nat.le_refl _) hg K0
def fX12_isFull_18 (I : ab_I) : Option Int32 :=
  fX12_isFull_23 I (1 : Int32)
set_option maxRecDepth 100000 in
theorem fX12_isFull_18_ok {l : Launch} {G : ab_G} {S : ab_S} {I : ab_I} {J : ab_J} {P : ab_P} {Q : ab_Q} (hB : bz_B S P) {x : Int32} (H : fX12_isFull_18 I = some x) (K0 : Q (some (.int x)) S I J P) : ab_WP l G mX12_isFull 0 18 [some (.ref 73)] [] S I J P 0 0 Q := by
  unfold fX12_isFull_18 at H
  refine ab_iconst (z := 1) (v := (1 : Int32)) (by decide +kernel) (by decide) ?_
  refine ab_goto (off := 4) (tgt := 23) (by decide +kernel) rfl ?_
  exact ab_wk (ab_le_some (ab_le_nil)) (fX12_isFull_23_ok hB H  K0)
def fX12_isFull (I : ab_I) : Option Int32 :=
  if (I 73 20) = (60 : Int32) then
    fX12_isFull_18 I
  else
    if (I 73 22) = (30 : Int32) then
      fX12_isFull_18 I
    else
      fX12_isFull_23 I (0 : Int32)
set_option maxRecDepth 100000 in
theorem mX12_isFull_ok {l : Launch} {G : ab_G} {S : ab_S} {I : ab_I} {J : ab_J} {P : ab_P} {Q : ab_Q} (hB : bz_B S P) {x : Int32} (H : fX12_isFull I = some x) (K0 : Q (some (.int x)) S I J P) : ab_Call l G mX12_isFull 0 [.ref 73] S I J P Q := by
  unfold fX12_isFull at H
  refine ab_enter rfl (Nat.le_of_ble_eq_true rfl) (ab_wk (ls' := [some (.ref 73)]) (ab_le_some (ab_le_nil)) ?_)
  refine ab_aload_n (z := 0) (by decide +kernel) rfl rfl ?_
  refine gX12_20 (ix := 238) (by decide +kernel) tw_1101 (hB.1 73 _ rfl) ?_
  refine ab_bipush (z := 60) (v := (60 : Int32)) (by decide +kernel) (by decide) ?_
  refine ab_icmp_eq (off := 12) (tgt := 18) (by decide +kernel) rfl (fun hc => ?_) (fun hc => ?_)
  · replace H := ab_ifp H hc
    exact ab_wk (ab_le_some (ab_le_nil)) (fX12_isFull_18_ok hB H  K0)
  · replace H := ab_ifn H hc
    refine ab_aload_n (z := 0) (by decide +kernel) rfl rfl ?_
    refine gX12_22 (ix := 241) (by decide +kernel) tw_1103 (hB.1 73 _ rfl) ?_
    refine ab_bipush (z := 30) (v := (30 : Int32)) (by decide +kernel) (by decide) ?_
    refine ab_icmp_ne (off := 7) (tgt := 22) (by decide +kernel) rfl (fun hc => ?_) (fun hc => ?_)
    · replace H := ab_ifn H hc
      refine ab_iconst (z := 0) (v := (0 : Int32)) (by decide +kernel) (by decide) ?_
      exact ab_wk (ab_le_some (ab_le_nil)) (fX12_isFull_23_ok hB H  K0)
    · replace H := ab_ifp H hc
      exact ab_wk (ab_le_some (ab_le_nil)) (fX12_isFull_18_ok hB H  K0)
abbrev mX12_countUnit : ab_M := (yX12_countUnit, cX12_countUnit, 1, none, 0, 0)
theorem kvX12_countUnit {l : Launch} {G : ab_G} {M : ab_M} {d pc : Nat} {ls : List (Option Value)} {st : List Value} {S : ab_S} {I : ab_I} {J : ab_J} {P : ab_P} {Q : ab_Q} {ix D r ln : Nat} (hd : decode M.2.1 pc = .ok (.invokevirtual ix, 3)) (h1 : Cond.methodLink M.1.cls ix mX12_countUnit.1 ∈ ab_good) (hs : S[r]? = some (17, ln)) (hdg : D + 1 ≤ d) (hsum : (st.map fun v => v.category).sum ≤ 8) (kk : ab_Call l G mX12_countUnit D (.ref r :: []) S I J P (fun v S' I' J' P' => ab_WP l G M d (pc + 3) ls (ab_psh v st) S' I' J' P' 0 0 Q)) : ab_WP l G M d pc ls (.ref r :: st) S I J P 0 0 Q := bz_kv (g := mX12_countUnit) (as := []) (cc := 12) rfl hd h1 tw_1428 tw_p53 tw_13 tw_1429 ⟨by decide +kernel, by decide +kernel, (by decide +kernel : (parseMethodDescriptor mX12_countUnit.1.desc).map (fun d => d.parameters.length) = some 0)⟩ (by decide) rfl rfl rfl hdg hsum hs kk
def fX12_countUnit (I : ab_I) : Option ab_I :=
  some (ab_u (ab_u I 73 20 ((I 73 20) + (1 : Int32))) 73 22 ((I 73 22) + (1 : Int32)))
set_option maxRecDepth 100000 in
theorem mX12_countUnit_ok {l : Launch} {G : ab_G} {S : ab_S} {I : ab_I} {J : ab_J} {P : ab_P} {Q : ab_Q} (hB : bz_B S P) {x : ab_I} (H : fX12_countUnit I = some x) (K0 : Q none S x J P) : ab_Call l G mX12_countUnit 0 [.ref 73] S I J P Q := by
  unfold fX12_countUnit at H
  refine ab_enter rfl (Nat.le_of_ble_eq_true rfl) (ab_wk (ls' := [some (.ref 73)]) (ab_le_some (ab_le_nil)) ?_)
  refine ab_aload_n (z := 0) (by decide +kernel) rfl rfl ?_
  refine ab_dup (by decide +kernel) rfl ?_
  refine gX12_20 (ix := 238) (by decide +kernel) tw_1101 (hB.1 73 _ rfl) ?_
  refine ab_iconst (z := 1) (v := (1 : Int32)) (by decide +kernel) (by decide) ?_
  refine ab_iadd (by decide +kernel) ?_
  refine pX12_20 (ix := 238) (by decide +kernel) tw_1101 (hB.1 73 _ rfl) ?_
  refine ab_aload_n (z := 0) (by decide +kernel) rfl rfl ?_
  refine ab_dup (by decide +kernel) rfl ?_
  refine gX12_22 (ix := 241) (by decide +kernel) tw_1103 (hB.1 73 _ rfl) ?_
  refine ab_top (y := (I 73 22)) rfl ?_
  refine ab_iconst (z := 1) (v := (1 : Int32)) (by decide +kernel) (by decide) ?_
  refine ab_iadd (by decide +kernel) ?_
  refine pX12_22 (ix := 241) (by decide +kernel) tw_1103 (hB.1 73 _ rfl) ?_
  obtain rfl := Option.some.inj H
  exact ab_vret (by decide +kernel) rfl (Nat.le_refl _) (Nat.le_refl _) K0
abbrev mX12_openUp : ab_M := (yX12_openUp, cX12_openUp, 2, none, 0, 0)
theorem kvX12_openUp {l : Launch} {G : ab_G} {M : ab_M} {d pc : Nat} {ls : List (Option Value)} {st : List Value} {S : ab_S} {I : ab_I} {J : ab_J} {P : ab_P} {Q : ab_Q} {v0 : Value} {ix D r ln : Nat} (hd : decode M.2.1 pc = .ok (.invokevirtual ix, 3)) (h1 : Cond.methodLink M.1.cls ix mX12_openUp.1 ∈ ab_good) (hs : S[r]? = some (17, ln)) (hdg : D + 1 ≤ d) (hsum : (st.map fun v => v.category).sum ≤ 8) (kk : ab_Call l G mX12_openUp D (.ref r :: [v0]) S I J P (fun v S' I' J' P' => ab_WP l G M d (pc + 3) ls (ab_psh v st) S' I' J' P' 0 0 Q)) : ab_WP l G M d pc ls (v0 :: .ref r :: st) S I J P 0 0 Q := bz_kv (g := mX12_openUp) (as := [v0]) (cc := 12) rfl hd h1 tw_1420 tw_p51 tw_13 tw_1421 ⟨by decide +kernel, by decide +kernel, (by decide +kernel : (parseMethodDescriptor mX12_openUp.1.desc).map (fun d => d.parameters.length) = some 1)⟩ (by decide) rfl rfl rfl hdg hsum hs kk
def fX12_openUp_41 (a1 : Int32) (I : ab_I) (J : ab_J) : Option (ab_I × ab_J) :=
  some (I, J)
set_option maxRecDepth 100000 in
theorem fX12_openUp_41_ok {l : Launch} {G : ab_G} {S : ab_S} {I : ab_I} {J : ab_J} {P : ab_P} {Q : ab_Q} {a1 : Int32} (hB : bz_B S P) {x : ab_I × ab_J} (H : fX12_openUp_41 a1 I J = some x) (K0 : Q none S x.1 x.2 P) : ab_WP l G mX12_openUp 2 41 [some (.ref 73), some (.int a1)] [] S I J P 0 0 Q := by
  unfold fX12_openUp_41 at H
  obtain rfl := Option.some.inj H
  exact ab_vret (by decide +kernel) rfl (Nat.le_refl _) (Nat.le_refl _) K0
def fX12_openUp (a1 : Int32) (I : ab_I) (J : ab_J) : Option (ab_I × ab_J) :=
  ab_gd (ab_ix (I 73 19) 160 = true) (
    if (I 73 2) = 0 then
      (fX12_token (ab_u (ab_u (ab_u I 80 ((I 73 19).toNatClampNeg) a1) 73 19 ((I 73 19) + (1 : Int32))) 73 23 ((I 73 23) + (1 : Int32))) J).bind fun u1 =>
      fX12_openUp_41 a1 u1.1 u1.2
    else
      fX12_openUp_41 a1 (ab_u (ab_u (ab_u I 80 ((I 73 19).toNatClampNeg) a1) 73 19 ((I 73 19) + (1 : Int32))) 73 23 ((I 73 23) + (1 : Int32))) J
  )
set_option maxRecDepth 100000 in
theorem mX12_openUp_ok {l : Launch} {G : ab_G} {S : ab_S} {I : ab_I} {J : ab_J} {P : ab_P} {Q : ab_Q} {a1 : Int32} (hB : bz_B S P) {x : ab_I × ab_J} (H : fX12_openUp a1 I J = some x) (K0 : Q none S x.1 x.2 P) : ab_Call l G mX12_openUp 2 [.ref 73, .int a1] S I J P Q := by
  unfold fX12_openUp at H
  refine ab_enter rfl (Nat.le_of_ble_eq_true rfl) (ab_wk (ls' := [some (.ref 73), some (.int a1)]) (ab_le_some (ab_le_some (ab_le_nil))) ?_)
  refine ab_aload_n (z := 0) (by decide +kernel) rfl rfl ?_
  refine gX12_15 (ix := 33) (by decide +kernel) tw_1096 (hB.1 73 _ rfl) (hB.2.1 85 (73, 15, 80) rfl) ?_
  refine ab_aload_n (z := 0) (by decide +kernel) rfl rfl ?_
  refine gX12_19 (ix := 225) (by decide +kernel) tw_1100 (hB.1 73 _ rfl) ?_
  refine ab_iload_n (z := 1) (by decide +kernel) rfl rfl ?_
  obtain ⟨hg, H⟩ := ab_gd_of H
  refine ab_iast (ln := 160) (by decide +kernel) (hB.1 80 _ rfl) (ab_ix_in hg) ?_
  refine ab_aload_n (z := 0) (by decide +kernel) rfl rfl ?_
  refine ab_dup (by decide +kernel) rfl ?_
  refine gX12_19 (ix := 225) (by decide +kernel) tw_1100 (hB.1 73 _ rfl) ?_
  refine ab_top (y := (I 73 19)) rfl ?_
  refine ab_iconst (z := 1) (v := (1 : Int32)) (by decide +kernel) (by decide) ?_
  refine ab_iadd (by decide +kernel) ?_
  refine pX12_19 (ix := 225) (by decide +kernel) tw_1100 (hB.1 73 _ rfl) ?_
  refine ab_aload_n (z := 0) (by decide +kernel) rfl rfl ?_
  refine ab_dup (by decide +kernel) rfl ?_
  refine gX12_23 (ix := 235) (by decide +kernel) tw_1104 (hB.1 73 _ rfl) ?_
  refine ab_top (y := (I 73 23)) rfl ?_
  refine ab_iconst (z := 1) (v := (1 : Int32)) (by decide +kernel) (by decide) ?_
  refine ab_iadd (by decide +kernel) ?_
  refine pX12_23 (ix := 235) (by decide +kernel) tw_1104 (hB.1 73 _ rfl) ?_
  refine ab_aload_n (z := 0) (by decide +kernel) rfl rfl ?_
  refine gX12_2 (ix := 161) (by decide +kernel) tw_1083 (hB.1 73 _ rfl) ?_
  refine ab_top (y := (I 73 2)) rfl ?_
  refine ab_if_ne (off := 7) (tgt := 41) (by decide +kernel) rfl (fun hc => ?_) (fun hc => ?_)
  · replace H := ab_ifn H hc
    exact ab_wk (ab_le_some (ab_le_some (ab_le_nil))) (fX12_openUp_41_ok hB H  K0)
  · replace H := ab_ifp H hc
    refine ab_aload_n (z := 0) (by decide +kernel) rfl rfl ?_
    obtain ⟨u1, hu1, H⟩ := ab_bd_of H
    refine kvX12_token (D := 1) (ix := 205) (by decide +kernel) tw_1315 (hB.1 73 _ rfl) (by decide) (Nat.le_of_ble_eq_true rfl) (mX12_token_ok hB hu1 ?_)
    change ab_WP l G mX12_openUp 2 41 [some (.ref 73), some (.int a1)] [] S u1.1 u1.2 P 0 0 Q
    exact ab_wk (ab_le_some (ab_le_some (ab_le_nil))) (fX12_openUp_41_ok hB H  K0)
abbrev mX12_unit : ab_M := (yX12_unit, cX12_unit, 3, none, 0, 0)
theorem kvX12_unit {l : Launch} {G : ab_G} {M : ab_M} {d pc : Nat} {ls : List (Option Value)} {st : List Value} {S : ab_S} {I : ab_I} {J : ab_J} {P : ab_P} {Q : ab_Q} {ix D r ln : Nat} (hd : decode M.2.1 pc = .ok (.invokevirtual ix, 3)) (h1 : Cond.methodLink M.1.cls ix mX12_unit.1 ∈ ab_good) (hs : S[r]? = some (17, ln)) (hdg : D + 1 ≤ d) (hsum : (st.map fun v => v.category).sum ≤ 8) (kk : ab_Call l G mX12_unit D (.ref r :: []) S I J P (fun v S' I' J' P' => ab_WP l G M d (pc + 3) ls (ab_psh v st) S' I' J' P' 0 0 Q)) : ab_WP l G M d pc ls (.ref r :: st) S I J P 0 0 Q := bz_kv (g := mX12_unit) (as := []) (cc := 12) rfl hd h1 tw_1409 tw_p49 tw_13 tw_1410 ⟨by decide +kernel, by decide +kernel, (by decide +kernel : (parseMethodDescriptor mX12_unit.1.desc).map (fun d => d.parameters.length) = some 0)⟩ (by decide) rfl rfl rfl hdg hsum hs kk
def fX12_unit_172 (s1 : Int32) (s2 : Int32) (I : ab_I) (J : ab_J) : Option (ab_I × ab_J) :=
  (fX12_add s1 s2 I).bind fun u15 =>
  (fX12_token u15 J).bind fun u16 =>
  some (u16.1, u16.2)
set_option maxRecDepth 100000 in
theorem fX12_unit_172_ok {l : Launch} {G : ab_G} {S : ab_S} {I : ab_I} {J : ab_J} {P : ab_P} {Q : ab_Q} {s1 : Int32} {s2 : Int32} (hB : bz_B S P) {x : ab_I × ab_J} (H : fX12_unit_172 s1 s2 I J = some x) (K0 : Q none S x.1 x.2 P) : ab_WP l G mX12_unit 3 172 [some (.ref 73), none, none] [.int s2, .int s1, .ref 73] S I J P 0 0 Q := by
  unfold fX12_unit_172 at H
  obtain ⟨u15, hu15, H⟩ := ab_bd_of H
  refine kvX12_add (D := 0) (ix := 231) (by decide +kernel) tw_1434 (hB.1 73 _ rfl) (by decide) (Nat.le_of_ble_eq_true rfl) (mX12_add_ok hB hu15 ?_)
  change ab_WP l G mX12_unit 3 175 [some (.ref 73), none, none] [] S u15 J P 0 0 Q
  refine ab_aload_n (z := 0) (by decide +kernel) rfl rfl ?_
  obtain ⟨u16, hu16, H⟩ := ab_bd_of H
  refine kvX12_token (D := 1) (ix := 205) (by decide +kernel) tw_1315 (hB.1 73 _ rfl) (by decide) (Nat.le_of_ble_eq_true rfl) (mX12_token_ok hB hu16 ?_)
  change ab_WP l G mX12_unit 3 179 [some (.ref 73), none, none] [] S u16.1 u16.2 P 0 0 Q
  obtain rfl := Option.some.inj H
  exact ab_vret (by decide +kernel) rfl (Nat.le_refl _) (Nat.le_refl _) K0
def fX12_unit_83 (a1 : Int32) (I : ab_I) (J : ab_J) : Option ((Int32 × ab_I × ab_J) ⊕ (ab_I × ab_J)) :=
  (fX12_countUnit I).bind fun u12 =>
  (fX12_openUp (20 : Int32) u12 J).bind fun u13 =>
  some (.inl (a1, u13.1, u13.2))
set_option maxRecDepth 100000 in
theorem fX12_unit_83_ok {l : Launch} {G : ab_G} {S : ab_S} {I : ab_I} {J : ab_J} {P : ab_P} {Q : ab_Q} {a1 : Int32} (hB : bz_B S P) {x : ((Int32 × ab_I × ab_J) ⊕ (ab_I × ab_J))} (H : fX12_unit_83 a1 I J = some x) (K1 : ∀ s, x = (.inl s) → ab_WP l G mX12_unit 3 2 [some (.ref 73), some (.int s.1), none] [] S s.2.1 s.2.2 P 0 0 Q) (K0 : ∀ r, x = (.inr r) → Q none S r.1 r.2 P) : ab_WP l G mX12_unit 3 83 [some (.ref 73), some (.int a1), none] [] S I J P 0 0 Q := by
  unfold fX12_unit_83 at H
  refine ab_aload_n (z := 0) (by decide +kernel) rfl rfl ?_
  obtain ⟨u12, hu12, H⟩ := ab_bd_of H
  refine kvX12_countUnit (D := 0) (ix := 253) (by decide +kernel) tw_1426 (hB.1 73 _ rfl) (by decide) (Nat.le_of_ble_eq_true rfl) (mX12_countUnit_ok hB hu12 ?_)
  change ab_WP l G mX12_unit 3 87 [some (.ref 73), some (.int a1), none] [] S u12 J P 0 0 Q
  refine ab_aload_n (z := 0) (by decide +kernel) rfl rfl ?_
  refine ab_bipush (z := 20) (v := (20 : Int32)) (by decide +kernel) (by decide) ?_
  obtain ⟨u13, hu13, H⟩ := ab_bd_of H
  refine kvX12_openUp (D := 2) (ix := 247) (by decide +kernel) tw_1418 (hB.1 73 _ rfl) (by decide) (Nat.le_of_ble_eq_true rfl) (mX12_openUp_ok hB hu13 ?_)
  change ab_WP l G mX12_unit 3 93 [some (.ref 73), some (.int a1), none] [] S u13.1 u13.2 P 0 0 Q
  refine ab_goto (off := -91) (tgt := 2) (by decide +kernel) rfl ?_
  exact ab_wk (ab_le_some (ab_le_some (ab_le_none (ab_le_nil)))) (K1 (a1, u13.1, u13.2) (Option.some.inj H).symm)
def fX12_unit_44 (a1 : Int32) (I : ab_I) (J : ab_J) : Option ((Int32 × ab_I × ab_J) ⊕ (ab_I × ab_J)) :=
  (fX12_openUp (21 : Int32) I J).bind fun u8 =>
  some (.inl (a1, u8.1, u8.2))
set_option maxRecDepth 100000 in
theorem fX12_unit_44_ok {l : Launch} {G : ab_G} {S : ab_S} {I : ab_I} {J : ab_J} {P : ab_P} {Q : ab_Q} {a1 : Int32} (hB : bz_B S P) {x : ((Int32 × ab_I × ab_J) ⊕ (ab_I × ab_J))} (H : fX12_unit_44 a1 I J = some x) (K1 : ∀ s, x = (.inl s) → ab_WP l G mX12_unit 3 2 [some (.ref 73), some (.int s.1), none] [] S s.2.1 s.2.2 P 0 0 Q) (K0 : ∀ r, x = (.inr r) → Q none S r.1 r.2 P) : ab_WP l G mX12_unit 3 44 [some (.ref 73), some (.int a1), none] [] S I J P 0 0 Q := by
  unfold fX12_unit_44 at H
  refine ab_aload_n (z := 0) (by decide +kernel) rfl rfl ?_
  refine ab_bipush (z := 21) (v := (21 : Int32)) (by decide +kernel) (by decide) ?_
  obtain ⟨u8, hu8, H⟩ := ab_bd_of H
  refine kvX12_openUp (D := 2) (ix := 247) (by decide +kernel) tw_1418 (hB.1 73 _ rfl) (by decide) (Nat.le_of_ble_eq_true rfl) (mX12_openUp_ok hB hu8 ?_)
  change ab_WP l G mX12_unit 3 50 [some (.ref 73), some (.int a1), none] [] S u8.1 u8.2 P 0 0 Q
  refine ab_goto (off := -48) (tgt := 2) (by decide +kernel) rfl ?_
  exact ab_wk (ab_le_some (ab_le_some (ab_le_none (ab_le_nil)))) (K1 (a1, u8.1, u8.2) (Option.some.inj H).symm)
def fX12_unit_160 (a2 : Int32) (s1 : Int32) (I : ab_I) (J : ab_J) : Option (ab_I × ab_J) :=
  if 0 ≤ a2 then
    fX12_unit_172 s1 a2 I J
  else
    fX12_unit_172 s1 (I 73 8) I J
set_option maxRecDepth 100000 in
theorem fX12_unit_160_ok {l : Launch} {G : ab_G} {S : ab_S} {I : ab_I} {J : ab_J} {P : ab_P} {Q : ab_Q} {a2 : Int32} {s1 : Int32} (hB : bz_B S P) {x : ab_I × ab_J} (H : fX12_unit_160 a2 s1 I J = some x) (K0 : Q none S x.1 x.2 P) : ab_WP l G mX12_unit 3 160 [some (.ref 73), none, some (.int a2)] [.int s1, .ref 73] S I J P 0 0 Q := by
  unfold fX12_unit_160 at H
  refine ab_iload_n (z := 2) (by decide +kernel) rfl rfl ?_
  refine ab_if_ge (off := 10) (tgt := 171) (by decide +kernel) rfl (fun hc => ?_) (fun hc => ?_)
  · replace H := ab_ifp H hc
    refine ab_iload_n (z := 2) (by decide +kernel) rfl rfl ?_
    exact ab_wk (ab_le_some (ab_le_none (ab_le_none (ab_le_nil)))) (fX12_unit_172_ok hB H  K0)
  · replace H := ab_ifn H hc
    refine ab_aload_n (z := 0) (by decide +kernel) rfl rfl ?_
    refine gX12_8 (ix := 145) (by decide +kernel) tw_1089 (hB.1 73 _ rfl) ?_
    refine ab_goto (off := 4) (tgt := 172) (by decide +kernel) rfl ?_
    exact ab_wk (ab_le_some (ab_le_none (ab_le_none (ab_le_nil)))) (fX12_unit_172_ok hB H  K0)
def fX12_unit_78 (a1 : Int32) (I : ab_I) (J : ab_J) : Option ((Int32 × ab_I × ab_J) ⊕ (ab_I × ab_J)) :=
  (fX12_wrong (2 : Int32) I).bind fun u11 =>
  fX12_unit_83 a1 u11 J
set_option maxRecDepth 100000 in
theorem fX12_unit_78_ok {l : Launch} {G : ab_G} {S : ab_S} {I : ab_I} {J : ab_J} {P : ab_P} {Q : ab_Q} {a1 : Int32} (hB : bz_B S P) {x : ((Int32 × ab_I × ab_J) ⊕ (ab_I × ab_J))} (H : fX12_unit_78 a1 I J = some x) (K1 : ∀ s, x = (.inl s) → ab_WP l G mX12_unit 3 2 [some (.ref 73), some (.int s.1), none] [] S s.2.1 s.2.2 P 0 0 Q) (K0 : ∀ r, x = (.inr r) → Q none S r.1 r.2 P) : ab_WP l G mX12_unit 3 78 [some (.ref 73), some (.int a1), none] [] S I J P 0 0 Q := by
  unfold fX12_unit_78 at H
  refine ab_aload_n (z := 0) (by decide +kernel) rfl rfl ?_
  refine ab_iconst (z := 2) (v := (2 : Int32)) (by decide +kernel) (by decide) ?_
  obtain ⟨u11, hu11, H⟩ := ab_bd_of H
  refine kvX12_wrong (D := 0) (ix := 202) (by decide +kernel) tw_1371 (hB.1 73 _ rfl) (by decide) (Nat.le_of_ble_eq_true rfl) (mX12_wrong_ok hB hu11 ?_)
  change ab_WP l G mX12_unit 3 83 [some (.ref 73), some (.int a1), none] [] S u11 J P 0 0 Q
  exact ab_wk (ab_le_some (ab_le_some (ab_le_none (ab_le_nil)))) (fX12_unit_83_ok hB H K1 K0)
def fX12_unit_138 (a2 : Int32) (I : ab_I) (J : ab_J) : Option (ab_I × ab_J) :=
  if (I 73 2) ≤ 0 then
    (fX12_countUnit I).bind fun u14 =>
    if 0 ≤ a2 then
      fX12_unit_160 a2 (1 : Int32) u14 J
    else
      fX12_unit_160 a2 (0 : Int32) u14 J
  else
    some (I, J)
set_option maxRecDepth 100000 in
theorem fX12_unit_138_ok {l : Launch} {G : ab_G} {S : ab_S} {I : ab_I} {J : ab_J} {P : ab_P} {Q : ab_Q} {a2 : Int32} (hB : bz_B S P) {x : ab_I × ab_J} (H : fX12_unit_138 a2 I J = some x) (K0 : Q none S x.1 x.2 P) : ab_WP l G mX12_unit 3 138 [some (.ref 73), none, some (.int a2)] [] S I J P 0 0 Q := by
  unfold fX12_unit_138 at H
  refine ab_aload_n (z := 0) (by decide +kernel) rfl rfl ?_
  refine gX12_2 (ix := 161) (by decide +kernel) tw_1083 (hB.1 73 _ rfl) ?_
  refine ab_if_le (off := 4) (tgt := 146) (by decide +kernel) rfl (fun hc => ?_) (fun hc => ?_)
  · replace H := ab_ifp H hc
    refine ab_aload_n (z := 0) (by decide +kernel) rfl rfl ?_
    obtain ⟨u14, hu14, H⟩ := ab_bd_of H
    refine kvX12_countUnit (D := 0) (ix := 253) (by decide +kernel) tw_1426 (hB.1 73 _ rfl) (by decide) (Nat.le_of_ble_eq_true rfl) (mX12_countUnit_ok hB hu14 ?_)
    change ab_WP l G mX12_unit 3 150 [some (.ref 73), none, some (.int a2)] [] S u14 J P 0 0 Q
    refine ab_aload_n (z := 0) (by decide +kernel) rfl rfl ?_
    refine ab_iload_n (z := 2) (by decide +kernel) rfl rfl ?_
    refine ab_if_ge (off := 7) (tgt := 159) (by decide +kernel) rfl (fun hc => ?_) (fun hc => ?_)
    · replace H := ab_ifp H hc
      refine ab_iconst (z := 1) (v := (1 : Int32)) (by decide +kernel) (by decide) ?_
      exact ab_wk (ab_le_some (ab_le_none (ab_le_some (ab_le_nil)))) (fX12_unit_160_ok hB H  K0)
    · replace H := ab_ifn H hc
      refine ab_iconst (z := 0) (v := (0 : Int32)) (by decide +kernel) (by decide) ?_
      refine ab_goto (off := 4) (tgt := 160) (by decide +kernel) rfl ?_
      exact ab_wk (ab_le_some (ab_le_none (ab_le_some (ab_le_nil)))) (fX12_unit_160_ok hB H  K0)
  · replace H := ab_ifn H hc
    obtain rfl := Option.some.inj H
    exact ab_vret (by decide +kernel) rfl (Nat.le_refl _) (Nat.le_refl _) K0
def fX12_unit_53 (a1 : Int32) (I : ab_I) (J : ab_J) : Option ((Int32 × ab_I × ab_J) ⊕ (ab_I × ab_J)) :=
  if (I 73 6) = (40 : Int32) then
    (fX12_isFull I).bind fun u7 =>
    if u7 = 0 then
      if (I 73 23) ≤ (6 : Int32) then
        fX12_unit_83 a1 I J
      else
        fX12_unit_78 a1 I J
    else
      fX12_unit_78 a1 I J
  else
    some (.inl ((0 : Int32), I, J))
set_option maxRecDepth 100000 in
theorem fX12_unit_53_ok {l : Launch} {G : ab_G} {S : ab_S} {I : ab_I} {J : ab_J} {P : ab_P} {Q : ab_Q} {a1 : Int32} (hB : bz_B S P) {x : ((Int32 × ab_I × ab_J) ⊕ (ab_I × ab_J))} (H : fX12_unit_53 a1 I J = some x) (K1 : ∀ s, x = (.inl s) → ab_WP l G mX12_unit 3 2 [some (.ref 73), some (.int s.1), none] [] S s.2.1 s.2.2 P 0 0 Q) (K0 : ∀ r, x = (.inr r) → Q none S r.1 r.2 P) : ab_WP l G mX12_unit 3 53 [some (.ref 73), some (.int a1), none] [] S I J P 0 0 Q := by
  unfold fX12_unit_53 at H
  refine ab_aload_n (z := 0) (by decide +kernel) rfl rfl ?_
  refine gX12_6 (ix := 148) (by decide +kernel) tw_1087 (hB.1 73 _ rfl) ?_
  refine ab_bipush (z := 40) (v := (40 : Int32)) (by decide +kernel) (by decide) ?_
  refine ab_icmp_ne (off := 37) (tgt := 96) (by decide +kernel) rfl (fun hc => ?_) (fun hc => ?_)
  · replace H := ab_ifn H hc
    refine ab_iconst (z := 0) (v := (0 : Int32)) (by decide +kernel) (by decide) ?_
    refine ab_istore_n (z := 1) (by decide +kernel) rfl (by decide) rfl ?_
    refine ab_ls (ls' := [some (.ref 73), some (.int (0 : Int32)), none]) rfl ?_
    refine ab_goto (off := -96) (tgt := 2) (by decide +kernel) rfl ?_
    exact ab_wk (ab_le_some (ab_le_some (ab_le_none (ab_le_nil)))) (K1 ((0 : Int32), I, J) (Option.some.inj H).symm)
  · replace H := ab_ifp H hc
    refine ab_aload_n (z := 0) (by decide +kernel) rfl rfl ?_
    obtain ⟨u7, hu7, H⟩ := ab_bd_of H
    refine kvX12_isFull (D := 0) (ix := 250) (by decide +kernel) tw_1422 (hB.1 73 _ rfl) (by decide) (Nat.le_of_ble_eq_true rfl) (mX12_isFull_ok hB hu7 ?_)
    change ab_WP l G mX12_unit 3 66 [some (.ref 73), some (.int a1), none] [.int u7] S I J P 0 0 Q
    refine ab_if_ne (off := 12) (tgt := 78) (by decide +kernel) rfl (fun hc => ?_) (fun hc => ?_)
    · replace H := ab_ifn H hc
      exact ab_wk (ab_le_some (ab_le_some (ab_le_none (ab_le_nil)))) (fX12_unit_78_ok hB H K1 K0)
    · replace H := ab_ifp H hc
      refine ab_aload_n (z := 0) (by decide +kernel) rfl rfl ?_
      refine gX12_23 (ix := 235) (by decide +kernel) tw_1104 (hB.1 73 _ rfl) ?_
      refine ab_bipush (z := 6) (v := (6 : Int32)) (by decide +kernel) (by decide) ?_
      refine ab_icmp_le (off := 8) (tgt := 83) (by decide +kernel) rfl (fun hc => ?_) (fun hc => ?_)
      · replace H := ab_ifp H hc
        exact ab_wk (ab_le_some (ab_le_some (ab_le_none (ab_le_nil)))) (fX12_unit_83_ok hB H K1 K0)
      · replace H := ab_ifn H hc
        exact ab_wk (ab_le_some (ab_le_some (ab_le_none (ab_le_nil)))) (fX12_unit_78_ok hB H K1 K0)
def fX12_unit_133 (a2 : Int32) (I : ab_I) (J : ab_J) : Option (ab_I × ab_J) :=
  (fX12_wrong (2 : Int32) I).bind fun u10 =>
  fX12_unit_138 a2 u10 J
set_option maxRecDepth 100000 in
theorem fX12_unit_133_ok {l : Launch} {G : ab_G} {S : ab_S} {I : ab_I} {J : ab_J} {P : ab_P} {Q : ab_Q} {a2 : Int32} (hB : bz_B S P) {x : ab_I × ab_J} (H : fX12_unit_133 a2 I J = some x) (K0 : Q none S x.1 x.2 P) : ab_WP l G mX12_unit 3 133 [some (.ref 73), none, some (.int a2)] [] S I J P 0 0 Q := by
  unfold fX12_unit_133 at H
  refine ab_aload_n (z := 0) (by decide +kernel) rfl rfl ?_
  refine ab_iconst (z := 2) (v := (2 : Int32)) (by decide +kernel) (by decide) ?_
  obtain ⟨u10, hu10, H⟩ := ab_bd_of H
  refine kvX12_wrong (D := 0) (ix := 202) (by decide +kernel) tw_1371 (hB.1 73 _ rfl) (by decide) (Nat.le_of_ble_eq_true rfl) (mX12_wrong_ok hB hu10 ?_)
  change ab_WP l G mX12_unit 3 138 [some (.ref 73), none, some (.int a2)] [] S u10 J P 0 0 Q
  exact ab_wk (ab_le_some (ab_le_none (ab_le_some (ab_le_nil)))) (fX12_unit_138_ok hB H  K0)
def fX12_unit_126 (a2 : Int32) (I : ab_I) (J : ab_J) : Option (ab_I × ab_J) :=
  (fX12_isFull I).bind fun u9 =>
  if u9 = 0 then
    fX12_unit_138 a2 I J
  else
    fX12_unit_133 a2 I J
set_option maxRecDepth 100000 in
theorem fX12_unit_126_ok {l : Launch} {G : ab_G} {S : ab_S} {I : ab_I} {J : ab_J} {P : ab_P} {Q : ab_Q} {a2 : Int32} (hB : bz_B S P) {x : ab_I × ab_J} (H : fX12_unit_126 a2 I J = some x) (K0 : Q none S x.1 x.2 P) : ab_WP l G mX12_unit 3 126 [some (.ref 73), none, some (.int a2)] [] S I J P 0 0 Q := by
  unfold fX12_unit_126 at H
  refine ab_aload_n (z := 0) (by decide +kernel) rfl rfl ?_
  obtain ⟨u9, hu9, H⟩ := ab_bd_of H
  refine kvX12_isFull (D := 0) (ix := 250) (by decide +kernel) tw_1422 (hB.1 73 _ rfl) (by decide) (Nat.le_of_ble_eq_true rfl) (mX12_isFull_ok hB hu9 ?_)
  change ab_WP l G mX12_unit 3 130 [some (.ref 73), none, some (.int a2)] [.int u9] S I J P 0 0 Q
  refine ab_if_eq (off := 8) (tgt := 138) (by decide +kernel) rfl (fun hc => ?_) (fun hc => ?_)
  · replace H := ab_ifp H hc
    exact ab_wk (ab_le_some (ab_le_none (ab_le_some (ab_le_nil)))) (fX12_unit_138_ok hB H  K0)
  · replace H := ab_ifn H hc
    exact ab_wk (ab_le_some (ab_le_none (ab_le_some (ab_le_nil)))) (fX12_unit_133_ok hB H  K0)
def fX12_unit_101 (I : ab_I) (J : ab_J) : Option (ab_I × ab_J) :=
  if (I 73 2) ≤ 0 then
    (fX12_asked I J).bind fun u6 =>
    if (I 73 6) = (2 : Int32) then
      fX12_unit_126 u6 I J
    else
      if u6 < 0 then
        fX12_unit_133 u6 I J
      else
        fX12_unit_126 u6 I J
  else
    some (I, J)
set_option maxRecDepth 100000 in
theorem fX12_unit_101_ok {l : Launch} {G : ab_G} {S : ab_S} {I : ab_I} {J : ab_J} {P : ab_P} {Q : ab_Q} (hB : bz_B S P) {x : ab_I × ab_J} (H : fX12_unit_101 I J = some x) (K0 : Q none S x.1 x.2 P) : ab_WP l G mX12_unit 3 101 [some (.ref 73), none, none] [] S I J P 0 0 Q := by
  unfold fX12_unit_101 at H
  refine ab_aload_n (z := 0) (by decide +kernel) rfl rfl ?_
  refine gX12_2 (ix := 161) (by decide +kernel) tw_1083 (hB.1 73 _ rfl) ?_
  refine ab_if_le (off := 4) (tgt := 109) (by decide +kernel) rfl (fun hc => ?_) (fun hc => ?_)
  · replace H := ab_ifp H hc
    refine ab_aload_n (z := 0) (by decide +kernel) rfl rfl ?_
    obtain ⟨u6, hu6, H⟩ := ab_bd_of H
    refine kvX12_asked (D := 0) (ix := 256) (by decide +kernel) tw_1430 (hB.1 73 _ rfl) (by decide) (Nat.le_of_ble_eq_true rfl) (mX12_asked_ok hB hu6 ?_)
    change ab_WP l G mX12_unit 3 113 [some (.ref 73), none, none] [.int u6] S I J P 0 0 Q
    refine ab_istore_n (z := 2) (by decide +kernel) rfl (by decide) rfl ?_
    refine ab_ls (ls' := [some (.ref 73), none, some (.int u6)]) rfl ?_
    refine ab_aload_n (z := 0) (by decide +kernel) rfl rfl ?_
    refine gX12_6 (ix := 148) (by decide +kernel) tw_1087 (hB.1 73 _ rfl) ?_
    refine ab_iconst (z := 2) (v := (2 : Int32)) (by decide +kernel) (by decide) ?_
    refine ab_icmp_eq (off := 7) (tgt := 126) (by decide +kernel) rfl (fun hc => ?_) (fun hc => ?_)
    · replace H := ab_ifp H hc
      exact ab_wk (ab_le_some (ab_le_none (ab_le_some (ab_le_nil)))) (fX12_unit_126_ok hB H  K0)
    · replace H := ab_ifn H hc
      refine ab_iload_n (z := 2) (by decide +kernel) rfl rfl ?_
      refine ab_if_lt (off := 10) (tgt := 133) (by decide +kernel) rfl (fun hc => ?_) (fun hc => ?_)
      · replace H := ab_ifp H hc
        exact ab_wk (ab_le_some (ab_le_none (ab_le_some (ab_le_nil)))) (fX12_unit_133_ok hB H  K0)
      · replace H := ab_ifn H hc
        exact ab_wk (ab_le_some (ab_le_none (ab_le_some (ab_le_nil)))) (fX12_unit_126_ok hB H  K0)
  · replace H := ab_ifn H hc
    obtain rfl := Option.some.inj H
    exact ab_vret (by decide +kernel) rfl (Nat.le_refl _) (Nat.le_refl _) K0
def fX12_unit_2 (a1 : Int32) (I : ab_I) (J : ab_J) : Option ((Int32 × ab_I × ab_J) ⊕ (ab_I × ab_J)) :=
  if a1 = 0 then
    (fX12_unit_101 I J).map .inr
  else
    if (I 73 2) = 0 then
      (fX12_isWord (7237492 : Int64) I J).bind fun u3 =>
      if u3 = 0 then
        fX12_unit_53 a1 I J
      else
        (fX12_mayNot I).bind fun u4 =>
        if u4 = 0 then
          fX12_unit_53 a1 I J
        else
          if (I 73 23) ≤ (6 : Int32) then
            fX12_unit_44 a1 I J
          else
            (fX12_wrong (2 : Int32) I).bind fun u5 =>
            fX12_unit_44 a1 u5 J
    else
      (fX12_unit_101 I J).map .inr
set_option maxRecDepth 100000 in
theorem fX12_unit_2_ok {l : Launch} {G : ab_G} {S : ab_S} {I : ab_I} {J : ab_J} {P : ab_P} {Q : ab_Q} {a1 : Int32} (hB : bz_B S P) {x : ((Int32 × ab_I × ab_J) ⊕ (ab_I × ab_J))} (H : fX12_unit_2 a1 I J = some x) (K1 : ∀ s, x = (.inl s) → ab_WP l G mX12_unit 3 2 [some (.ref 73), some (.int s.1), none] [] S s.2.1 s.2.2 P 0 0 Q) (K0 : ∀ r, x = (.inr r) → Q none S r.1 r.2 P) : ab_WP l G mX12_unit 3 2 [some (.ref 73), some (.int a1), none] [] S I J P 0 0 Q := by
  unfold fX12_unit_2 at H
  refine ab_iload_n (z := 1) (by decide +kernel) rfl rfl ?_
  refine ab_if_eq (off := 98) (tgt := 101) (by decide +kernel) rfl (fun hc => ?_) (fun hc => ?_)
  · replace H := ab_ifp H hc
    obtain ⟨y1, Hy, hx⟩ := ab_mp_of H
    subst hx
    replace H := Hy
    exact ab_wk (ab_le_some (ab_le_none (ab_le_none (ab_le_nil)))) (fX12_unit_101_ok hB H  (K0 _ rfl))
  · replace H := ab_ifn H hc
    refine ab_aload_n (z := 0) (by decide +kernel) rfl rfl ?_
    refine gX12_2 (ix := 161) (by decide +kernel) tw_1083 (hB.1 73 _ rfl) ?_
    refine ab_if_ne (off := 91) (tgt := 101) (by decide +kernel) rfl (fun hc => ?_) (fun hc => ?_)
    · replace H := ab_ifn H hc
      obtain ⟨y2, Hy, hx⟩ := ab_mp_of H
      subst hx
      replace H := Hy
      exact ab_wk (ab_le_some (ab_le_none (ab_le_none (ab_le_nil)))) (fX12_unit_101_ok hB H  (K0 _ rfl))
    · replace H := ab_ifp H hc
      refine ab_aload_n (z := 0) (by decide +kernel) rfl rfl ?_
      refine ab_ldc2 (ix := 192) (v := (7237492 : Int64)) (by decide +kernel) tw_1370 ?_
      obtain ⟨u3, hu3, H⟩ := ab_bd_of H
      refine kvX12_isWord (D := 0) (ix := 198) (by decide +kernel) tw_1337 (hB.1 73 _ rfl) (by decide) (Nat.le_of_ble_eq_true rfl) (mX12_isWord_ok hB hu3 ?_)
      change ab_WP l G mX12_unit 3 20 [some (.ref 73), some (.int a1), none] [.int u3] S I J P 0 0 Q
      refine ab_if_eq (off := 33) (tgt := 53) (by decide +kernel) rfl (fun hc => ?_) (fun hc => ?_)
      · replace H := ab_ifp H hc
        exact ab_wk (ab_le_some (ab_le_some (ab_le_none (ab_le_nil)))) (fX12_unit_53_ok hB H K1 K0)
      · replace H := ab_ifn H hc
        refine ab_aload_n (z := 0) (by decide +kernel) rfl rfl ?_
        obtain ⟨u4, hu4, H⟩ := ab_bd_of H
        refine kvX12_mayNot (D := 1) (ix := 244) (by decide +kernel) tw_1411 (hB.1 73 _ rfl) (by decide) (Nat.le_of_ble_eq_true rfl) (mX12_mayNot_ok hB hu4 ?_)
        change ab_WP l G mX12_unit 3 27 [some (.ref 73), some (.int a1), none] [.int u4] S I J P 0 0 Q
        refine ab_if_eq (off := 26) (tgt := 53) (by decide +kernel) rfl (fun hc => ?_) (fun hc => ?_)
        · replace H := ab_ifp H hc
          exact ab_wk (ab_le_some (ab_le_some (ab_le_none (ab_le_nil)))) (fX12_unit_53_ok hB H K1 K0)
        · replace H := ab_ifn H hc
          refine ab_aload_n (z := 0) (by decide +kernel) rfl rfl ?_
          refine gX12_23 (ix := 235) (by decide +kernel) tw_1104 (hB.1 73 _ rfl) ?_
          refine ab_bipush (z := 6) (v := (6 : Int32)) (by decide +kernel) (by decide) ?_
          refine ab_icmp_le (off := 8) (tgt := 44) (by decide +kernel) rfl (fun hc => ?_) (fun hc => ?_)
          · replace H := ab_ifp H hc
            exact ab_wk (ab_le_some (ab_le_some (ab_le_none (ab_le_nil)))) (fX12_unit_44_ok hB H K1 K0)
          · replace H := ab_ifn H hc
            refine ab_aload_n (z := 0) (by decide +kernel) rfl rfl ?_
            refine ab_iconst (z := 2) (v := (2 : Int32)) (by decide +kernel) (by decide) ?_
            obtain ⟨u5, hu5, H⟩ := ab_bd_of H
            refine kvX12_wrong (D := 0) (ix := 202) (by decide +kernel) tw_1371 (hB.1 73 _ rfl) (by decide) (Nat.le_of_ble_eq_true rfl) (mX12_wrong_ok hB hu5 ?_)
            change ab_WP l G mX12_unit 3 44 [some (.ref 73), some (.int a1), none] [] S u5 J P 0 0 Q
            exact ab_wk (ab_le_some (ab_le_some (ab_le_none (ab_le_nil)))) (fX12_unit_44_ok hB H K1 K0)
def fX12_unit (I : ab_I) (J : ab_J) : Option (ab_I × ab_J) :=
  ab_it (fun s => fX12_unit_2 s.1 s.2.1 s.2.2) 5000 ((1 : Int32), I, J)
set_option maxRecDepth 100000 in
theorem mX12_unit_ok {l : Launch} {G : ab_G} {S : ab_S} {I : ab_I} {J : ab_J} {P : ab_P} {Q : ab_Q} (hB : bz_B S P) {x : ab_I × ab_J} (H : fX12_unit I J = some x) (K0 : Q none S x.1 x.2 P) : ab_Call l G mX12_unit 3 [.ref 73] S I J P Q := by
  unfold fX12_unit at H
  refine ab_enter rfl (Nat.le_of_ble_eq_true rfl) (ab_wk (ls' := [some (.ref 73), none, none]) (ab_le_some (ab_le_non0 (ab_le_non0 ab_le_nil))) ?_)
  refine ab_iconst (z := 1) (v := (1 : Int32)) (by decide +kernel) (by decide) ?_
  refine ab_istore_n (z := 1) (by decide +kernel) rfl (by decide) rfl ?_
  refine ab_ls (ls' := [some (.ref 73), some (.int (1 : Int32)), none]) rfl ?_
  exact ab_wk (ab_le_some (ab_le_some (ab_le_none (ab_le_nil)))) (ab_iter (body := (fun s => fX12_unit_2 s.1 s.2.1 s.2.2)) (W := fun s => ab_WP l G mX12_unit 3 2 [some (.ref 73), some (.int s.1), none] [] S s.2.1 s.2.2 P 0 0 Q) (fun s y hb h1 h2 => fX12_unit_2_ok hB hb h1 (fun r e => by have e2 := h2 _ e; subst e2; exact K0)) 5000 ((1 : Int32), I, J) H)
