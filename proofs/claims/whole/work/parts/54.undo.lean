/-! ===== takenBack, doneAgain, undo, redo ===== -/
abbrev mX0_takenBack : ab_M := (yX0_takenBack, cX0_takenBack, 3, some (.object "BellRingers$State"), 0, 0)
abbrev mX0_doneAgain : ab_M := (yX0_doneAgain, cX0_doneAgain, 3, some (.object "BellRingers$State"), 0, 0)
def ac_val (o : Option Nat) : Value := match o with
  | none => .null
  | some a => .ref a
def fX0_takenBack (q : Nat) (I : ab_I) (P : ab_P) : Option (Option Nat × ab_I × ab_P) :=
  if I 53 1 ≤ 0 then some (none, I, P)
  else if I 53 1 ≤ 40 then
    ab_gd (ab_ix (I 53 1 - 1) 40 = true) ((P 54 (I 53 1 - 1).toNatClampNeg).bind fun a => some (some a, ab_u I 53 1 (I 53 1 - 1), ab_u P 54 (I 53 1 - 1).toNatClampNeg (some q)))
  else some (none, I, P)
def fX0_doneAgain (q : Nat) (I : ab_I) (P : ab_P) : Option (Option Nat × ab_I × ab_P) :=
  if I 53 2 ≤ I 53 1 then some (none, I, P)
  else if I 53 1 < 40 then
    ab_gd (ab_ix (I 53 1) 40 = true) ((P 54 (I 53 1).toNatClampNeg).bind fun a => some (some a, ab_u I 53 1 (I 53 1 + 1), ab_u P 54 (I 53 1).toNatClampNeg (some q)))
  else some (none, I, P)
section AU
variable {l : Launch} {G : ab_G} {S : ab_S} {I : ab_I} {J : ab_J} {P : ab_P} {Q : ab_Q}
set_option maxRecDepth 100000 in
theorem ac_tb21 {q1 : Nat} (hB : bz_B S P) (hq1 : bz_st S P q1) {a : Nat} (hi : ab_ix (I 53 1 - 1) 40 = true) (ha : P 54 (I 53 1 - 1).toNatClampNeg = some a) (K0 : Q (some (.ref a)) S (ab_u I 53 1 (I 53 1 - 1)) J (ab_u P 54 (I 53 1 - 1).toNatClampNeg (some q1))) : ab_WP l G mX0_takenBack 0 21 [some (.ref 53), some (.ref q1), none] [] S I J P 0 0 Q := by
  have h53 : S[53]? = some (5, 0) := hB.1 53 _ rfl
  have h54 : S[54]? = some (4, 40) := hB.1 54 _ rfl
  have hp0 := bz_p53 hB
  refine ab_aload_n (z := 0) (by decide +kernel) rfl rfl ?_
  refine ab_dup (by decide +kernel) rfl ?_
  refine gX0_1 (ix := 17) (by decide +kernel) tw_395 h53 ?_
  refine ab_iconst (z := 1) (v := (1 : Int32)) (by decide +kernel) (by decide) ?_
  refine ab_isub (by decide +kernel) ?_
  refine pX0_1 (ix := 17) (by decide +kernel) tw_395 h53 ?_
  refine ab_aload_n (z := 0) (by decide +kernel) rfl rfl ?_
  refine bz_gP0_0 (ix := 11) (by decide +kernel) tw_394 h53 hp0 ?_
  refine ab_aload_n (z := 0) (by decide +kernel) rfl rfl ?_
  refine gX0_1 (ix := 17) (by decide +kernel) tw_395 h53 ?_
  refine ab_top (y := I 53 1 - 1) ab_u_at ?_
  refine ab_aald (ln := 40) (a := a) (by decide +kernel) h54 (ab_ix_in hi) ha ?_
  refine ab_astore_n (z := 2) (by decide +kernel) rfl (by decide) rfl ?_
  refine ab_ls (ls' := [some (.ref 53), some (.ref q1), some (.ref a)]) rfl ?_
  refine ab_aload_n (z := 0) (by decide +kernel) rfl rfl ?_
  refine bz_gP0_0 (ix := 11) (by decide +kernel) tw_394 h53 hp0 ?_
  refine ab_aload_n (z := 0) (by decide +kernel) rfl rfl ?_
  refine gX0_1 (ix := 17) (by decide +kernel) tw_395 h53 ?_
  refine ab_top (y := I 53 1 - 1) ab_u_at ?_
  refine ab_aload_n (z := 1) (by decide +kernel) rfl rfl ?_
  refine ab_aast (ln := 40) (la := 0) (by decide +kernel) h54 hq1.1 (ab_ix_in hi) ?_
  refine ab_aload_n (z := 2) (by decide +kernel) rfl rfl ?_
  exact ab_aret (C0 := "BellRingers$State") (by decide +kernel) rfl (Nat.le_refl _) (Nat.le_refl _) (Or.inr ⟨_, rfl⟩) K0
set_option maxRecDepth 100000 in
theorem mX0_takenBack_ok {q1 : Nat} (hB : bz_B S P) (hq1 : bz_st S P q1) {x : Option Nat × ab_I × ab_P} (H : fX0_takenBack q1 I P = some x) (K0 : Q (some (ac_val x.1)) S x.2.1 J x.2.2) : ab_Call l G mX0_takenBack 0 [.ref 53, .ref q1] S I J P Q := by
  have h53 : S[53]? = some (5, 0) := hB.1 53 _ rfl
  have h54 : S[54]? = some (4, 40) := hB.1 54 _ rfl
  have hp0 := bz_p53 hB
  unfold fX0_takenBack at H
  refine ab_enter rfl (Nat.le_of_ble_eq_true rfl) (ab_wk (ls' := [some (.ref 53), some (.ref q1), none]) (ab_le_some (ab_le_some (ab_le_non0 ab_le_nil))) ?_)
  refine ab_aload_n (z := 0) (by decide +kernel) rfl rfl ?_
  refine gX0_1 (ix := 17) (by decide +kernel) tw_395 h53 ?_
  refine ab_if_le (off := 15) (tgt := 19) (by decide +kernel) rfl (fun hc => ?_) (fun hc => ?_)
  · replace H := ab_ifp H hc
    obtain rfl := Option.some.inj H
    refine ab_anull (by decide +kernel) ?_
    exact ab_aret (C0 := "BellRingers$State") (by decide +kernel) rfl (Nat.le_refl _) (Nat.le_refl _) (Or.inl rfl) K0
  · replace H := ab_ifn H hc
    refine ab_aload_n (z := 0) (by decide +kernel) rfl rfl ?_
    refine gX0_1 (ix := 17) (by decide +kernel) tw_395 h53 ?_
    refine ab_aload_n (z := 0) (by decide +kernel) rfl rfl ?_
    refine bz_gP0_0 (ix := 11) (by decide +kernel) tw_394 h53 hp0 ?_
    refine ab_alen (v := (40 : Int32)) (by decide +kernel) h54 (by decide) (by decide) ?_
    refine ab_icmp_le (off := 5) (tgt := 21) (by decide +kernel) rfl (fun hc => ?_) (fun hc => ?_)
    · replace H := ab_ifp H hc
      obtain ⟨hi, H⟩ := ab_gd_of H
      obtain ⟨a, ha, H⟩ := ab_bd_of H
      obtain rfl := Option.some.inj H
      exact ac_tb21 hB hq1 hi ha K0
    · replace H := ab_ifn H hc
      obtain rfl := Option.some.inj H
      refine ab_anull (by decide +kernel) ?_
      exact ab_aret (C0 := "BellRingers$State") (by decide +kernel) rfl (Nat.le_refl _) (Nat.le_refl _) (Or.inl rfl) K0
set_option maxRecDepth 100000 in
theorem ac_da25 {q1 : Nat} (hB : bz_B S P) (hq1 : bz_st S P q1) {a : Nat} (hi : ab_ix (I 53 1) 40 = true) (ha : P 54 (I 53 1).toNatClampNeg = some a) (K0 : Q (some (.ref a)) S (ab_u I 53 1 (I 53 1 + 1)) J (ab_u P 54 (I 53 1).toNatClampNeg (some q1))) : ab_WP l G mX0_doneAgain 0 25 [some (.ref 53), some (.ref q1), none] [] S I J P 0 0 Q := by
  have h53 : S[53]? = some (5, 0) := hB.1 53 _ rfl
  have h54 : S[54]? = some (4, 40) := hB.1 54 _ rfl
  have hp0 := bz_p53 hB
  refine ab_aload_n (z := 0) (by decide +kernel) rfl rfl ?_
  refine bz_gP0_0 (ix := 11) (by decide +kernel) tw_394 h53 hp0 ?_
  refine ab_aload_n (z := 0) (by decide +kernel) rfl rfl ?_
  refine gX0_1 (ix := 17) (by decide +kernel) tw_395 h53 ?_
  refine ab_aald (ln := 40) (a := a) (by decide +kernel) h54 (ab_ix_in hi) ha ?_
  refine ab_astore_n (z := 2) (by decide +kernel) rfl (by decide) rfl ?_
  refine ab_ls (ls' := [some (.ref 53), some (.ref q1), some (.ref a)]) rfl ?_
  refine ab_aload_n (z := 0) (by decide +kernel) rfl rfl ?_
  refine bz_gP0_0 (ix := 11) (by decide +kernel) tw_394 h53 hp0 ?_
  refine ab_aload_n (z := 0) (by decide +kernel) rfl rfl ?_
  refine gX0_1 (ix := 17) (by decide +kernel) tw_395 h53 ?_
  refine ab_aload_n (z := 1) (by decide +kernel) rfl rfl ?_
  refine ab_aast (ln := 40) (la := 0) (by decide +kernel) h54 hq1.1 (ab_ix_in hi) ?_
  refine ab_aload_n (z := 0) (by decide +kernel) rfl rfl ?_
  refine ab_dup (by decide +kernel) rfl ?_
  refine gX0_1 (ix := 17) (by decide +kernel) tw_395 h53 ?_
  refine ab_iconst (z := 1) (v := (1 : Int32)) (by decide +kernel) (by decide) ?_
  refine ab_iadd (by decide +kernel) ?_
  refine pX0_1 (ix := 17) (by decide +kernel) tw_395 h53 ?_
  refine ab_aload_n (z := 2) (by decide +kernel) rfl rfl ?_
  exact ab_aret (C0 := "BellRingers$State") (by decide +kernel) rfl (Nat.le_refl _) (Nat.le_refl _) (Or.inr ⟨_, rfl⟩) K0
set_option maxRecDepth 100000 in
theorem mX0_doneAgain_ok {q1 : Nat} (hB : bz_B S P) (hq1 : bz_st S P q1) {x : Option Nat × ab_I × ab_P} (H : fX0_doneAgain q1 I P = some x) (K0 : Q (some (ac_val x.1)) S x.2.1 J x.2.2) : ab_Call l G mX0_doneAgain 0 [.ref 53, .ref q1] S I J P Q := by
  have h53 : S[53]? = some (5, 0) := hB.1 53 _ rfl
  have h54 : S[54]? = some (4, 40) := hB.1 54 _ rfl
  have hp0 := bz_p53 hB
  unfold fX0_doneAgain at H
  refine ab_enter rfl (Nat.le_of_ble_eq_true rfl) (ab_wk (ls' := [some (.ref 53), some (.ref q1), none]) (ab_le_some (ab_le_some (ab_le_non0 ab_le_nil))) ?_)
  refine ab_aload_n (z := 0) (by decide +kernel) rfl rfl ?_
  refine gX0_1 (ix := 17) (by decide +kernel) tw_395 h53 ?_
  refine ab_aload_n (z := 0) (by decide +kernel) rfl rfl ?_
  refine gX0_2 (ix := 21) (by decide +kernel) tw_397 h53 ?_
  refine ab_icmp_ge (off := 15) (tgt := 23) (by decide +kernel) rfl (fun hc => ?_) (fun hc => ?_)
  · replace H := ab_ifp H hc
    obtain rfl := Option.some.inj H
    refine ab_anull (by decide +kernel) ?_
    exact ab_aret (C0 := "BellRingers$State") (by decide +kernel) rfl (Nat.le_refl _) (Nat.le_refl _) (Or.inl rfl) K0
  · replace H := ab_ifn H hc
    refine ab_aload_n (z := 0) (by decide +kernel) rfl rfl ?_
    refine gX0_1 (ix := 17) (by decide +kernel) tw_395 h53 ?_
    refine ab_aload_n (z := 0) (by decide +kernel) rfl rfl ?_
    refine bz_gP0_0 (ix := 11) (by decide +kernel) tw_394 h53 hp0 ?_
    refine ab_alen (v := (40 : Int32)) (by decide +kernel) h54 (by decide) (by decide) ?_
    refine ab_icmp_lt (off := 5) (tgt := 25) (by decide +kernel) rfl (fun hc => ?_) (fun hc => ?_)
    · replace H := ab_ifp H hc
      obtain ⟨hi, H⟩ := ab_gd_of H
      obtain ⟨a, ha, H⟩ := ab_bd_of H
      obtain rfl := Option.some.inj H
      exact ac_da25 hB hq1 hi ha K0
    · replace H := ab_ifn H hc
      obtain rfl := Option.some.inj H
      refine ab_anull (by decide +kernel) ?_
      exact ab_aret (C0 := "BellRingers$State") (by decide +kernel) rfl (Nat.le_refl _) (Nat.le_refl _) (Or.inl rfl) K0
abbrev mX11_undo : ab_M := (yX11_undo, cX11_undo, 2, some .boolean, 0, 0)
def fX11_undo (I : ab_I) (P : ab_P) : Option (Int32 × ab_I × ab_P) :=
  (P 0 12).bind fun q => (fX0_takenBack q I P).bind fun u => match u.1 with
    | none => some (0, u.2.1, u.2.2)
    | some a => some (1, u.2.1, ab_u u.2.2 0 12 (some a))
set_option maxRecDepth 100000 in
theorem mX11_undo_ok (hB : bz_B S P) {x : Int32 × ab_I × ab_P} (H : fX11_undo I P = some x) (K0 : Q (some (.int x.1)) S x.2.1 J x.2.2) : ab_Call l G mX11_undo 1 [.ref 0] S I J P Q := by
  have h0 : S[0]? = some (16, 0) := hB.1 0 _ rfl
  have h53 : S[53]? = some (5, 0) := hB.1 53 _ rfl
  have hp7 : P 0 7 = some 53 := by
    have : ∃ i : Nat, bz_P0[i]? = some (0, 7, 53) := List.getElem?_of_mem (by decide)
    obtain ⟨i, hi⟩ := this
    exact hB.2.1 i _ hi
  unfold fX11_undo at H
  obtain ⟨q, hq, H⟩ := ab_bd_of H
  obtain ⟨⟨o, I2, P2⟩, hu, H⟩ := ab_bd_of H
  refine ab_enter rfl (Nat.le_of_ble_eq_true rfl) (ab_wk (ls' := [some (.ref 0), none]) (ab_le_some (ab_le_non0 ab_le_nil)) ?_)
  refine ab_aload_n (z := 0) (by decide +kernel) rfl rfl ?_
  refine bz_gP11_7 (ix := 67) (by decide +kernel) tw_415 h0 hp7 ?_
  refine ab_aload_n (z := 0) (by decide +kernel) rfl rfl ?_
  refine bz_gP11_12 (ix := 89) (by decide +kernel) tw_420 h0 hq ?_
  refine bz_kv (g := mX0_takenBack) (D := 0) (ix := 208) (as := [.ref q]) (cc := 0) (r := 53) (st := []) rfl (by decide +kernel) tw_766 tw_767 tw_768 tw_12 tw_769 ⟨by decide +kernel, by decide +kernel, (by decide +kernel : (parseMethodDescriptor mX0_takenBack.1.desc).map (fun d => d.parameters.length) = some 1)⟩ (by decide) rfl rfl rfl (by decide) (Nat.le_of_ble_eq_true rfl) h53 (mX0_takenBack_ok hB (hB.2.2.1 q hq) hu ?_)
  cases o with
  | none =>
    obtain rfl := Option.some.inj H
    change ab_WP l G mX11_undo 1 11 [some (.ref 0), none] [.null] S I2 J P2 0 0 Q
    refine ab_astore_nN (z := 1) (by decide +kernel) rfl (by decide) rfl ?_
    refine ab_ls (ls' := [some (.ref 0), some .null]) rfl ?_
    refine ab_aload_nN (z := 1) (by decide +kernel) rfl rfl ?_
    refine ab_ifnonnullN (off := 5) (by decide +kernel) ?_
    refine ab_iconst (z := 0) (v := (0 : Int32)) (by decide +kernel) (by decide) ?_
    exact ab_zret (by decide +kernel) rfl (Nat.le_refl _) (Nat.le_refl _) (by decide) K0
  | some a =>
    obtain rfl := Option.some.inj H
    change ab_WP l G mX11_undo 1 11 [some (.ref 0), none] [.ref a] S I2 J P2 0 0 Q
    refine ab_astore_n (z := 1) (by decide +kernel) rfl (by decide) rfl ?_
    refine ab_ls (ls' := [some (.ref 0), some (.ref a)]) rfl ?_
    refine ab_aload_n (z := 1) (by decide +kernel) rfl rfl ?_
    refine ab_ifnonnull (off := 5) (tgt := 18) (by decide +kernel) rfl ?_
    refine ab_aload_n (z := 0) (by decide +kernel) rfl rfl ?_
    refine ab_aload_n (z := 1) (by decide +kernel) rfl rfl ?_
    refine bz_pN (ix := 89) (by decide +kernel) tw_420 h0 ?_
    refine ab_iconst (z := 1) (v := (1 : Int32)) (by decide +kernel) (by decide) ?_
    exact ab_zret (by decide +kernel) rfl (Nat.le_refl _) (Nat.le_refl _) (by decide) K0
abbrev mX11_redo : ab_M := (yX11_redo, cX11_redo, 2, some .boolean, 0, 0)
def fX11_redo (I : ab_I) (P : ab_P) : Option (Int32 × ab_I × ab_P) :=
  (P 0 12).bind fun q => (fX0_doneAgain q I P).bind fun u => match u.1 with
    | none => some (0, u.2.1, u.2.2)
    | some a => some (1, u.2.1, ab_u u.2.2 0 12 (some a))
set_option maxRecDepth 100000 in
theorem mX11_redo_ok (hB : bz_B S P) {x : Int32 × ab_I × ab_P} (H : fX11_redo I P = some x) (K0 : Q (some (.int x.1)) S x.2.1 J x.2.2) : ab_Call l G mX11_redo 1 [.ref 0] S I J P Q := by
  have h0 : S[0]? = some (16, 0) := hB.1 0 _ rfl
  have h53 : S[53]? = some (5, 0) := hB.1 53 _ rfl
  have hp7 : P 0 7 = some 53 := by
    have : ∃ i : Nat, bz_P0[i]? = some (0, 7, 53) := List.getElem?_of_mem (by decide)
    obtain ⟨i, hi⟩ := this
    exact hB.2.1 i _ hi
  unfold fX11_redo at H
  obtain ⟨q, hq, H⟩ := ab_bd_of H
  obtain ⟨⟨o, I2, P2⟩, hu, H⟩ := ab_bd_of H
  refine ab_enter rfl (Nat.le_of_ble_eq_true rfl) (ab_wk (ls' := [some (.ref 0), none]) (ab_le_some (ab_le_non0 ab_le_nil)) ?_)
  refine ab_aload_n (z := 0) (by decide +kernel) rfl rfl ?_
  refine bz_gP11_7 (ix := 67) (by decide +kernel) tw_415 h0 hp7 ?_
  refine ab_aload_n (z := 0) (by decide +kernel) rfl rfl ?_
  refine bz_gP11_12 (ix := 89) (by decide +kernel) tw_420 h0 hq ?_
  refine bz_kv (g := mX0_doneAgain) (D := 0) (ix := 212) (as := [.ref q]) (cc := 0) (r := 53) (st := []) rfl (by decide +kernel) tw_774 tw_775 tw_776 tw_12 tw_777 ⟨by decide +kernel, by decide +kernel, (by decide +kernel : (parseMethodDescriptor mX0_doneAgain.1.desc).map (fun d => d.parameters.length) = some 1)⟩ (by decide) rfl rfl rfl (by decide) (Nat.le_of_ble_eq_true rfl) h53 (mX0_doneAgain_ok hB (hB.2.2.1 q hq) hu ?_)
  cases o with
  | none =>
    obtain rfl := Option.some.inj H
    change ab_WP l G mX11_redo 1 11 [some (.ref 0), none] [.null] S I2 J P2 0 0 Q
    refine ab_astore_nN (z := 1) (by decide +kernel) rfl (by decide) rfl ?_
    refine ab_ls (ls' := [some (.ref 0), some .null]) rfl ?_
    refine ab_aload_nN (z := 1) (by decide +kernel) rfl rfl ?_
    refine ab_ifnonnullN (off := 5) (by decide +kernel) ?_
    refine ab_iconst (z := 0) (v := (0 : Int32)) (by decide +kernel) (by decide) ?_
    exact ab_zret (by decide +kernel) rfl (Nat.le_refl _) (Nat.le_refl _) (by decide) K0
  | some a =>
    obtain rfl := Option.some.inj H
    change ab_WP l G mX11_redo 1 11 [some (.ref 0), none] [.ref a] S I2 J P2 0 0 Q
    refine ab_astore_n (z := 1) (by decide +kernel) rfl (by decide) rfl ?_
    refine ab_ls (ls' := [some (.ref 0), some (.ref a)]) rfl ?_
    refine ab_aload_n (z := 1) (by decide +kernel) rfl rfl ?_
    refine ab_ifnonnull (off := 5) (tgt := 18) (by decide +kernel) rfl ?_
    refine ab_aload_n (z := 0) (by decide +kernel) rfl rfl ?_
    refine ab_aload_n (z := 1) (by decide +kernel) rfl rfl ?_
    refine bz_pN (ix := 89) (by decide +kernel) tw_420 h0 ?_
    refine ab_iconst (z := 1) (v := (1 : Int32)) (by decide +kernel) (by decide) ?_
    exact ab_zret (by decide +kernel) rfl (Nat.le_refl _) (Nat.le_refl _) (by decide) K0
end AU
