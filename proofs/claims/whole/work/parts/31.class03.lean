def fX4_readsLevel_129 (rec : Int32 → Int32 → ab_I → ab_J → Option (Int32 × ab_I × ab_J)) (a1 : Int32) (a2 : Int32) (a3 : Int32) (I : ab_I) (J : ab_J) : Option (Int32 × ab_I × ab_J) :=
  ab_gd (a3 = 0 ∨ a3 = 1) (some (a3, I, J))
set_option maxRecDepth 100000 in
theorem fX4_readsLevel_129_ok {l : Launch} {G : ab_G} {S : ab_S} {I : ab_I} {J : ab_J} {P : ab_P} {Q : ab_Q} {a1 : Int32} {a2 : Int32} {a3 : Int32} (hB : bz_B S P) {rec : Int32 → Int32 → ab_I → ab_J → Option (Int32 × ab_I × ab_J)} {d0 : Nat} (hd0 : 6 ≤ d0) (hrec : ∀ {a1 : Int32} {a2 : Int32} {I : ab_I} {J : ab_J} {r : Int32 × ab_I × ab_J} {Q : ab_Q} , rec a1 a2 I J = some r → Q (some (.int r.1)) S r.2.1 r.2.2 P → ab_Call l G mX4_readsLevel d0 [.ref 11, .int a1, .int a2] S I J P Q) {x : Int32 × ab_I × ab_J} (H : fX4_readsLevel_129 rec a1 a2 a3 I J = some x) (K0 : Q (some (.int x.1)) S x.2.1 x.2.2 P) : ab_WP l G mX4_readsLevel (d0 + 2) 129 [some (.ref 11), some (.int a1), some (.int a2), some (.int a3), none, none, none] [] S I J P 0 0 Q := by
  unfold fX4_readsLevel_129 at H
  refine ab_iload_n (z := 3) (by decide +kernel) rfl rfl ?_
  obtain ⟨hg, H⟩ := ab_gd_of H
  obtain rfl := Option.some.inj H
  exact ab_zret (by decide +kernel) rfl (Nat.le_refl _) (Nat.le_refl _) hg K0
def fX4_readsLevel_60 (rec : Int32 → Int32 → ab_I → ab_J → Option (Int32 × ab_I × ab_J)) (a1 : Int32) (a2 : Int32) (a3 : Int32) (a4 : Int32) (a5 : Int32) (I : ab_I) (J : ab_J) : Option ((Int32 × Int32 × Int32 × ab_I × ab_J) ⊕ (Int32 × ab_I × ab_J)) :=
  if a4 ≤ a5 then
    (fX4_readsLevel_129 rec a1 a2 a3 I J).map .inr
  else
    if a3 = 0 then
      (fX4_readsLevel_129 rec a1 a2 a3 I J).map .inr
    else
      (fX4_levelOf (I 22 2)).bind fun u6 =>
      if u6 = a1 then
        (fX8_advance I J).bind fun u8 =>
        (rec (a1 + (1 : Int32)) a2 u8.1 u8.2).bind fun u9 =>
        (fX2_add (-(I 22 2)) u9.2.1).bind fun u10 =>
        some (.inl (u9.1, a4, (a5 + (1 : Int32)), u10, u9.2.2))
      else
        (fX4_readsLevel_129 rec a1 a2 a3 I J).map .inr
set_option maxRecDepth 100000 in
theorem fX4_readsLevel_60_ok {l : Launch} {G : ab_G} {S : ab_S} {I : ab_I} {J : ab_J} {P : ab_P} {Q : ab_Q} {a1 : Int32} {a2 : Int32} {a3 : Int32} {a4 : Int32} {a5 : Int32} (hB : bz_B S P) {rec : Int32 → Int32 → ab_I → ab_J → Option (Int32 × ab_I × ab_J)} {d0 : Nat} (hd0 : 6 ≤ d0) (hrec : ∀ {a1 : Int32} {a2 : Int32} {I : ab_I} {J : ab_J} {r : Int32 × ab_I × ab_J} {Q : ab_Q} , rec a1 a2 I J = some r → Q (some (.int r.1)) S r.2.1 r.2.2 P → ab_Call l G mX4_readsLevel d0 [.ref 11, .int a1, .int a2] S I J P Q) {x : ((Int32 × Int32 × Int32 × ab_I × ab_J) ⊕ (Int32 × ab_I × ab_J))} (H : fX4_readsLevel_60 rec a1 a2 a3 a4 a5 I J = some x) (K1 : ∀ s, x = (.inl s) → ab_WP l G mX4_readsLevel (d0 + 2) 60 [some (.ref 11), some (.int a1), some (.int a2), some (.int s.1), some (.int s.2.1), some (.int s.2.2.1), none] [] S s.2.2.2.1 s.2.2.2.2 P 0 0 Q) (K0 : ∀ r, x = (.inr r) → Q (some (.int r.1)) S r.2.1 r.2.2 P) : ab_WP l G mX4_readsLevel (d0 + 2) 60 [some (.ref 11), some (.int a1), some (.int a2), some (.int a3), some (.int a4), some (.int a5), none] [] S I J P 0 0 Q := by
  unfold fX4_readsLevel_60 at H
  refine ab_iload (i := 5) (by decide +kernel) rfl ?_
  refine ab_iload (i := 4) (by decide +kernel) rfl ?_
  refine ab_icmp_ge (off := 65) (tgt := 129) (by decide +kernel) rfl (fun hc => ?_) (fun hc => ?_)
  · replace H := ab_ifp H hc
    obtain ⟨y4, Hy, hx⟩ := ab_mp_of H
    subst hx
    replace H := Hy
    exact ab_wk (ab_le_some (ab_le_some (ab_le_some (ab_le_some (ab_le_none (ab_le_none (ab_le_none (ab_le_nil)))))))) (fX4_readsLevel_129_ok hB hd0 hrec H  (K0 _ rfl))
  · replace H := ab_ifn H hc
    refine ab_iload_n (z := 3) (by decide +kernel) rfl rfl ?_
    refine ab_if_eq (off := 61) (tgt := 129) (by decide +kernel) rfl (fun hc => ?_) (fun hc => ?_)
    · replace H := ab_ifp H hc
      obtain ⟨y5, Hy, hx⟩ := ab_mp_of H
      subst hx
      replace H := Hy
      exact ab_wk (ab_le_some (ab_le_some (ab_le_some (ab_le_some (ab_le_none (ab_le_none (ab_le_none (ab_le_nil)))))))) (fX4_readsLevel_129_ok hB hd0 hrec H  (K0 _ rfl))
    · replace H := ab_ifn H hc
      refine ab_aload_n (z := 0) (by decide +kernel) rfl rfl ?_
      refine gX4_0 (ix := 50) (by decide +kernel) tw_171 (hB.1 11 _ rfl) (hB.2.1 18 (11, 0, 22) rfl) ?_
      refine gX8_2 (ix := 57) (by decide +kernel) tw_150 (hB.1 22 _ rfl) ?_
      obtain ⟨u6, hu6, H⟩ := ab_bd_of H
      refine ksX4_levelOf (D := 0) (ix := 146) (by decide +kernel) tw_593 (by omega) (Nat.le_of_ble_eq_true rfl) (mX4_levelOf_ok hB hu6 ?_)
      change ab_WP l G mX4_readsLevel (d0 + 2) 81 [some (.ref 11), some (.int a1), some (.int a2), some (.int a3), some (.int a4), some (.int a5), none] [.int u6] S I J P 0 0 Q
      refine ab_iload_n (z := 1) (by decide +kernel) rfl rfl ?_
      refine ab_icmp_ne (off := 47) (tgt := 129) (by decide +kernel) rfl (fun hc => ?_) (fun hc => ?_)
      · replace H := ab_ifn H hc
        obtain ⟨y7, Hy, hx⟩ := ab_mp_of H
        subst hx
        replace H := Hy
        exact ab_wk (ab_le_some (ab_le_some (ab_le_some (ab_le_some (ab_le_none (ab_le_none (ab_le_none (ab_le_nil)))))))) (fX4_readsLevel_129_ok hB hd0 hrec H  (K0 _ rfl))
      · replace H := ab_ifp H hc
        refine ab_aload_n (z := 0) (by decide +kernel) rfl rfl ?_
        refine gX4_0 (ix := 50) (by decide +kernel) tw_171 (hB.1 11 _ rfl) (hB.2.1 18 (11, 0, 22) rfl) ?_
        refine gX8_2 (ix := 57) (by decide +kernel) tw_150 (hB.1 22 _ rfl) ?_
        refine ab_istore (i := 6) (by decide +kernel) (by decide) rfl ?_
        refine ab_ls (ls' := [some (.ref 11), some (.int a1), some (.int a2), some (.int a3), some (.int a4), some (.int a5), some (.int (I 22 2))]) rfl ?_
        refine ab_aload_n (z := 0) (by decide +kernel) rfl rfl ?_
        refine gX4_0 (ix := 50) (by decide +kernel) tw_171 (hB.1 11 _ rfl) (hB.2.1 18 (11, 0, 22) rfl) ?_
        obtain ⟨u8, hu8, H⟩ := ab_bd_of H
        refine kvX8_advance (D := 2) (ix := 93) (by decide +kernel) tw_535 (hB.1 22 _ rfl) (by omega) (Nat.le_of_ble_eq_true rfl) (mX8_advance_ok hB hu8 ?_)
        change ab_WP l G mX4_readsLevel (d0 + 2) 101 [some (.ref 11), some (.int a1), some (.int a2), some (.int a3), some (.int a4), some (.int a5), some (.int (I 22 2))] [] S u8.1 u8.2 P 0 0 Q
        refine ab_aload_n (z := 0) (by decide +kernel) rfl rfl ?_
        refine ab_iload_n (z := 1) (by decide +kernel) rfl rfl ?_
        refine ab_iconst (z := 1) (v := (1 : Int32)) (by decide +kernel) (by decide) ?_
        refine ab_iadd (by decide +kernel) ?_
        refine ab_iload_n (z := 2) (by decide +kernel) rfl rfl ?_
        obtain ⟨u9, hu9, H⟩ := ab_bd_of H
        refine kvX4_readsLevel (D := d0) (ix := 131) (by decide +kernel) tw_574 (hB.1 11 _ rfl) (by omega) (Nat.le_of_ble_eq_true rfl) (hrec hu9 ?_)
        change ab_WP l G mX4_readsLevel (d0 + 2) 109 [some (.ref 11), some (.int a1), some (.int a2), some (.int a3), some (.int a4), some (.int a5), some (.int (I 22 2))] [.int u9.1] S u9.2.1 u9.2.2 P 0 0 Q
        refine ab_istore_n (z := 3) (by decide +kernel) rfl (by decide) rfl ?_
        refine ab_ls (ls' := [some (.ref 11), some (.int a1), some (.int a2), some (.int u9.1), some (.int a4), some (.int a5), some (.int (I 22 2))]) rfl ?_
        refine ab_aload_n (z := 0) (by decide +kernel) rfl rfl ?_
        refine gX4_7 (ix := 35) (by decide +kernel) tw_178 (hB.1 11 _ rfl) (hB.2.1 21 (11, 7, 14) rfl) ?_
        refine gX9_3 (ix := 150) (by decide +kernel) tw_84 (hB.1 14 _ rfl) (hB.2.1 25 (14, 3, 18) rfl) ?_
        refine ab_iload (i := 6) (by decide +kernel) rfl ?_
        refine ab_ineg (by decide +kernel) ?_
        obtain ⟨u10, hu10, H⟩ := ab_bd_of H
        refine kvX2_add (D := 0) (ix := 154) (by decide +kernel) tw_585 (hB.1 18 _ rfl) (by omega) (Nat.le_of_ble_eq_true rfl) (mX2_add_ok hB hu10 ?_)
        change ab_WP l G mX4_readsLevel (d0 + 2) 123 [some (.ref 11), some (.int a1), some (.int a2), some (.int u9.1), some (.int a4), some (.int a5), some (.int (I 22 2))] [] S u10 u9.2.2 P 0 0 Q
        refine ab_iinc (i := 5) (z := 1) (v := (a5 + (1 : Int32))) (by decide +kernel) rfl rfl (by decide) rfl ?_
        refine ab_ls (ls' := [some (.ref 11), some (.int a1), some (.int a2), some (.int u9.1), some (.int a4), some (.int (a5 + (1 : Int32))), some (.int (I 22 2))]) rfl ?_
        refine ab_goto (off := -66) (tgt := 60) (by decide +kernel) rfl ?_
        exact ab_wk (ab_le_some (ab_le_some (ab_le_some (ab_le_some (ab_le_some (ab_le_some (ab_le_none (ab_le_nil)))))))) (K1 (u9.1, a4, (a5 + (1 : Int32)), u10, u9.2.2) (Option.some.inj H).symm)
def fX4_readsLevel_55 (rec : Int32 → Int32 → ab_I → ab_J → Option (Int32 × ab_I × ab_J)) (a1 : Int32) (a2 : Int32) (a3 : Int32) (s0 : Int32) (I : ab_I) (J : ab_J) : Option (Int32 × ab_I × ab_J) :=
  ab_it (fun s => fX4_readsLevel_60 rec a1 a2 s.1 s.2.1 s.2.2.1 s.2.2.2.1 s.2.2.2.2) 5000 (a3, s0, (0 : Int32), I, J)
set_option maxRecDepth 100000 in
theorem fX4_readsLevel_55_ok {l : Launch} {G : ab_G} {S : ab_S} {I : ab_I} {J : ab_J} {P : ab_P} {Q : ab_Q} {a1 : Int32} {a2 : Int32} {a3 : Int32} {s0 : Int32} (hB : bz_B S P) {rec : Int32 → Int32 → ab_I → ab_J → Option (Int32 × ab_I × ab_J)} {d0 : Nat} (hd0 : 6 ≤ d0) (hrec : ∀ {a1 : Int32} {a2 : Int32} {I : ab_I} {J : ab_J} {r : Int32 × ab_I × ab_J} {Q : ab_Q} , rec a1 a2 I J = some r → Q (some (.int r.1)) S r.2.1 r.2.2 P → ab_Call l G mX4_readsLevel d0 [.ref 11, .int a1, .int a2] S I J P Q) {x : Int32 × ab_I × ab_J} (H : fX4_readsLevel_55 rec a1 a2 a3 s0 I J = some x) (K0 : Q (some (.int x.1)) S x.2.1 x.2.2 P) : ab_WP l G mX4_readsLevel (d0 + 2) 55 [some (.ref 11), some (.int a1), some (.int a2), some (.int a3), none, none, none] [.int s0] S I J P 0 0 Q := by
  unfold fX4_readsLevel_55 at H
  refine ab_istore (i := 4) (by decide +kernel) (by decide) rfl ?_
  refine ab_ls (ls' := [some (.ref 11), some (.int a1), some (.int a2), some (.int a3), some (.int s0), none, none]) rfl ?_
  refine ab_iconst (z := 0) (v := (0 : Int32)) (by decide +kernel) (by decide) ?_
  refine ab_istore (i := 5) (by decide +kernel) (by decide) rfl ?_
  refine ab_ls (ls' := [some (.ref 11), some (.int a1), some (.int a2), some (.int a3), some (.int s0), some (.int (0 : Int32)), none]) rfl ?_
  exact ab_wk (ab_le_some (ab_le_some (ab_le_some (ab_le_some (ab_le_some (ab_le_some (ab_le_none (ab_le_nil)))))))) (ab_iter (W := fun s => ab_WP l G mX4_readsLevel (d0 + 2) 60 [some (.ref 11), some (.int a1), some (.int a2), some (.int s.1), some (.int s.2.1), some (.int s.2.2.1), none] [] S s.2.2.2.1 s.2.2.2.2 P 0 0 Q) (fun s y hb h1 h2 => fX4_readsLevel_60_ok hB hd0 hrec hb h1 (fun r e => by have e2 := h2 _ e; subst e2; exact K0)) 5000 (a3, s0, (0 : Int32), I, J) H)
def fX4_readsLevel_35 (rec : Int32 → Int32 → ab_I → ab_J → Option (Int32 × ab_I × ab_J)) (a1 : Int32) (a2 : Int32) (I : ab_I) (J : ab_J) : Option (Int32 × ab_I × ab_J) :=
  (rec (a1 + (1 : Int32)) a2 I J).bind fun u3 =>
  if a1 = (2 : Int32) then
    fX4_readsLevel_55 rec a1 a2 u3.1 (1 : Int32) u3.2.1 u3.2.2
  else
    fX4_readsLevel_55 rec a1 a2 u3.1 (30 : Int32) u3.2.1 u3.2.2
set_option maxRecDepth 100000 in
theorem fX4_readsLevel_35_ok {l : Launch} {G : ab_G} {S : ab_S} {I : ab_I} {J : ab_J} {P : ab_P} {Q : ab_Q} {a1 : Int32} {a2 : Int32} (hB : bz_B S P) {rec : Int32 → Int32 → ab_I → ab_J → Option (Int32 × ab_I × ab_J)} {d0 : Nat} (hd0 : 6 ≤ d0) (hrec : ∀ {a1 : Int32} {a2 : Int32} {I : ab_I} {J : ab_J} {r : Int32 × ab_I × ab_J} {Q : ab_Q} , rec a1 a2 I J = some r → Q (some (.int r.1)) S r.2.1 r.2.2 P → ab_Call l G mX4_readsLevel d0 [.ref 11, .int a1, .int a2] S I J P Q) {x : Int32 × ab_I × ab_J} (H : fX4_readsLevel_35 rec a1 a2 I J = some x) (K0 : Q (some (.int x.1)) S x.2.1 x.2.2 P) : ab_WP l G mX4_readsLevel (d0 + 2) 35 [some (.ref 11), some (.int a1), some (.int a2), none, none, none, none] [] S I J P 0 0 Q := by
  unfold fX4_readsLevel_35 at H
  refine ab_aload_n (z := 0) (by decide +kernel) rfl rfl ?_
  refine ab_iload_n (z := 1) (by decide +kernel) rfl rfl ?_
  refine ab_iconst (z := 1) (v := (1 : Int32)) (by decide +kernel) (by decide) ?_
  refine ab_iadd (by decide +kernel) ?_
  refine ab_iload_n (z := 2) (by decide +kernel) rfl rfl ?_
  obtain ⟨u3, hu3, H⟩ := ab_bd_of H
  refine kvX4_readsLevel (D := d0) (ix := 131) (by decide +kernel) tw_574 (hB.1 11 _ rfl) (by omega) (Nat.le_of_ble_eq_true rfl) (hrec hu3 ?_)
  change ab_WP l G mX4_readsLevel (d0 + 2) 43 [some (.ref 11), some (.int a1), some (.int a2), none, none, none, none] [.int u3.1] S u3.2.1 u3.2.2 P 0 0 Q
  refine ab_istore_n (z := 3) (by decide +kernel) rfl (by decide) rfl ?_
  refine ab_ls (ls' := [some (.ref 11), some (.int a1), some (.int a2), some (.int u3.1), none, none, none]) rfl ?_
  refine ab_iload_n (z := 1) (by decide +kernel) rfl rfl ?_
  refine ab_iconst (z := 2) (v := (2 : Int32)) (by decide +kernel) (by decide) ?_
  refine ab_icmp_ne (off := 7) (tgt := 53) (by decide +kernel) rfl (fun hc => ?_) (fun hc => ?_)
  · replace H := ab_ifn H hc
    refine ab_bipush (z := 30) (v := (30 : Int32)) (by decide +kernel) (by decide) ?_
    exact ab_wk (ab_le_some (ab_le_some (ab_le_some (ab_le_some (ab_le_none (ab_le_none (ab_le_none (ab_le_nil)))))))) (fX4_readsLevel_55_ok hB hd0 hrec H  K0)
  · replace H := ab_ifp H hc
    refine ab_iconst (z := 1) (v := (1 : Int32)) (by decide +kernel) (by decide) ?_
    refine ab_goto (off := 5) (tgt := 55) (by decide +kernel) rfl ?_
    exact ab_wk (ab_le_some (ab_le_some (ab_le_some (ab_le_some (ab_le_none (ab_le_none (ab_le_none (ab_le_nil)))))))) (fX4_readsLevel_55_ok hB hd0 hrec H  K0)
def fX4_readsLevel_b (rec : Int32 → Int32 → ab_I → ab_J → Option (Int32 × ab_I × ab_J)) (a1 : Int32) (a2 : Int32) (I : ab_I) (J : ab_J) : Option (Int32 × ab_I × ab_J) :=
  if a1 ≤ (4 : Int32) then
    if a1 = (2 : Int32) then
      if (I 22 2) = (214 : Int32) then
        (fX4_readsNot rec a2 I J).bind fun u1 =>
        ab_gd (u1.1 = 0 ∨ u1.1 = 1) (some (u1.1, u1.2.1, u1.2.2))
      else
        fX4_readsLevel_35 rec a1 a2 I J
    else
      fX4_readsLevel_35 rec a1 a2 I J
  else
    (fX4_readsUnit rec a2 I J).bind fun u2 =>
    ab_gd (u2.1 = 0 ∨ u2.1 = 1) (some (u2.1, u2.2.1, u2.2.2))
set_option maxRecDepth 100000 in
theorem mX4_readsLevel_okb {l : Launch} {G : ab_G} {S : ab_S} {I : ab_I} {J : ab_J} {P : ab_P} {Q : ab_Q} {a1 : Int32} {a2 : Int32} (hB : bz_B S P) {rec : Int32 → Int32 → ab_I → ab_J → Option (Int32 × ab_I × ab_J)} {d0 : Nat} (hd0 : 6 ≤ d0) (hrec : ∀ {a1 : Int32} {a2 : Int32} {I : ab_I} {J : ab_J} {r : Int32 × ab_I × ab_J} {Q : ab_Q} , rec a1 a2 I J = some r → Q (some (.int r.1)) S r.2.1 r.2.2 P → ab_Call l G mX4_readsLevel d0 [.ref 11, .int a1, .int a2] S I J P Q) {x : Int32 × ab_I × ab_J} (H : fX4_readsLevel_b rec a1 a2 I J = some x) (K0 : Q (some (.int x.1)) S x.2.1 x.2.2 P) : ab_Call l G mX4_readsLevel (d0 + 2) [.ref 11, .int a1, .int a2] S I J P Q := by
  unfold fX4_readsLevel_b at H
  refine ab_enter rfl (Nat.le_of_ble_eq_true rfl) (ab_wk (ls' := [some (.ref 11), some (.int a1), some (.int a2), none, none, none, none]) (ab_le_some (ab_le_some (ab_le_some (ab_le_non0 (ab_le_non0 (ab_le_non0 (ab_le_non0 ab_le_nil))))))) ?_)
  refine ab_iload_n (z := 1) (by decide +kernel) rfl rfl ?_
  refine ab_iconst (z := 4) (v := (4 : Int32)) (by decide +kernel) (by decide) ?_
  refine ab_icmp_le (off := 9) (tgt := 11) (by decide +kernel) rfl (fun hc => ?_) (fun hc => ?_)
  · replace H := ab_ifp H hc
    refine ab_iload_n (z := 1) (by decide +kernel) rfl rfl ?_
    refine ab_iconst (z := 2) (v := (2 : Int32)) (by decide +kernel) (by decide) ?_
    refine ab_icmp_ne (off := 22) (tgt := 35) (by decide +kernel) rfl (fun hc => ?_) (fun hc => ?_)
    · replace H := ab_ifn H hc
      exact ab_wk (ab_le_some (ab_le_some (ab_le_some (ab_le_none (ab_le_none (ab_le_none (ab_le_none (ab_le_nil)))))))) (fX4_readsLevel_35_ok hB hd0 hrec H  K0)
    · replace H := ab_ifp H hc
      refine ab_aload_n (z := 0) (by decide +kernel) rfl rfl ?_
      refine gX4_0 (ix := 50) (by decide +kernel) tw_171 (hB.1 11 _ rfl) (hB.2.1 18 (11, 0, 22) rfl) ?_
      refine gX8_2 (ix := 57) (by decide +kernel) tw_150 (hB.1 22 _ rfl) ?_
      refine ab_sipush (z := 214) (v := (214 : Int32)) (by decide +kernel) (by decide) ?_
      refine ab_icmp_ne (off := 9) (tgt := 35) (by decide +kernel) rfl (fun hc => ?_) (fun hc => ?_)
      · replace H := ab_ifn H hc
        exact ab_wk (ab_le_some (ab_le_some (ab_le_some (ab_le_none (ab_le_none (ab_le_none (ab_le_none (ab_le_nil)))))))) (fX4_readsLevel_35_ok hB hd0 hrec H  K0)
      · replace H := ab_ifp H hc
        refine ab_aload_n (z := 0) (by decide +kernel) rfl rfl ?_
        refine ab_iload_n (z := 2) (by decide +kernel) rfl rfl ?_
        obtain ⟨u1, hu1, H⟩ := ab_bd_of H
        refine kvX4_readsNot (D := (d0 + 1)) (ix := 143) (by decide +kernel) tw_589 (hB.1 11 _ rfl) (by omega) (Nat.le_of_ble_eq_true rfl) (mX4_readsNot_ok hB hd0 hrec hu1 ?_)
        change ab_WP l G mX4_readsLevel (d0 + 2) 34 [some (.ref 11), some (.int a1), some (.int a2), none, none, none, none] [.int u1.1] S u1.2.1 u1.2.2 P 0 0 Q
        obtain ⟨hg, H⟩ := ab_gd_of H
        obtain rfl := Option.some.inj H
        exact ab_zret (by decide +kernel) rfl (Nat.le_refl _) (Nat.le_refl _) hg K0
  · replace H := ab_ifn H hc
    refine ab_aload_n (z := 0) (by decide +kernel) rfl rfl ?_
    refine ab_iload_n (z := 2) (by decide +kernel) rfl rfl ?_
    obtain ⟨u2, hu2, H⟩ := ab_bd_of H
    refine kvX4_readsUnit (D := (d0 + 1)) (ix := 140) (by decide +kernel) tw_578 (hB.1 11 _ rfl) (by omega) (Nat.le_of_ble_eq_true rfl) (mX4_readsUnit_ok hB hd0 hrec hu2 ?_)
    change ab_WP l G mX4_readsLevel (d0 + 2) 10 [some (.ref 11), some (.int a1), some (.int a2), none, none, none, none] [.int u2.1] S u2.2.1 u2.2.2 P 0 0 Q
    obtain ⟨hg, H⟩ := ab_gd_of H
    obtain rfl := Option.some.inj H
    exact ab_zret (by decide +kernel) rfl (Nat.le_refl _) (Nat.le_refl _) hg K0
def fX4_readsLevel : Nat → Int32 → Int32 → ab_I → ab_J → Option (Int32 × ab_I × ab_J)
  | 0 => fun _ _ _ _ => none
  | n + 1 => fX4_readsLevel_b (fX4_readsLevel n)
theorem mX4_readsLevel_okr {l : Launch} {G : ab_G} {S : ab_S} {P : ab_P} (hB : bz_B S P) : ∀ (n : Nat) {a1 : Int32} {a2 : Int32} {I : ab_I} {J : ab_J} {x : Int32 × ab_I × ab_J} {Q : ab_Q}, fX4_readsLevel n a1 a2 I J = some x → Q (some (.int x.1)) S x.2.1 x.2.2 P → ab_Call l G mX4_readsLevel (6 + 2 * n) [.ref 11, .int a1, .int a2] S I J P Q
  | 0, _, _, _, _, _, _, H, _ => by cases H
  | n + 1, _, _, _, _, _, _, H, K => mX4_readsLevel_okb hB (d0 := 6 + 2 * n) (by omega) (fun H K => mX4_readsLevel_okr hB n H K) H K
theorem mX4_readsLevel_ok (n : Nat) {l : Launch} {G : ab_G} {S : ab_S} {I : ab_I} {J : ab_J} {P : ab_P} {Q : ab_Q} {a1 : Int32} {a2 : Int32} (hB : bz_B S P) {x : Int32 × ab_I × ab_J} (H : fX4_readsLevel n a1 a2 I J = some x) (K0 : Q (some (.int x.1)) S x.2.1 x.2.2 P) : ab_Call l G mX4_readsLevel (6 + 2 * n) [.ref 11, .int a1, .int a2] S I J P Q := mX4_readsLevel_okr hB n H K0
abbrev mX4_readsWeighs : ab_M := (yX4_readsWeighs, cX4_readsWeighs, 1, some .boolean, 0, 0)
theorem kvX4_readsWeighs {l : Launch} {G : ab_G} {M : ab_M} {d pc : Nat} {ls : List (Option Value)} {st : List Value} {S : ab_S} {I : ab_I} {J : ab_J} {P : ab_P} {Q : ab_Q} {ix D r ln : Nat} (hd : decode M.2.1 pc = .ok (.invokevirtual ix, 3)) (h1 : Cond.methodLink M.1.cls ix mX4_readsWeighs.1 ∈ ab_good) (hs : S[r]? = some (9, ln)) (hdg : D + 1 ≤ d) (hsum : (st.map fun v => v.category).sum ≤ 8) (kk : ab_Call l G mX4_readsWeighs D (.ref r :: []) S I J P (fun v S' I' J' P' => ab_WP l G M d (pc + 3) ls (ab_psh v st) S' I' J' P' 0 0 Q)) : ab_WP l G M d pc ls (.ref r :: st) S I J P 0 0 Q := bz_kv (g := mX4_readsWeighs) (as := []) (cc := 4) rfl hd h1 tw_572 tw_p13 tw_5 tw_573 ⟨by decide +kernel, by decide +kernel, (by decide +kernel : (parseMethodDescriptor mX4_readsWeighs.1.desc).map (fun d => d.parameters.length) = some 0)⟩ (by decide) rfl rfl rfl hdg hsum hs kk
def fX4_readsWeighs (I : ab_I) (J : ab_J) : Option (Int32 × ab_I × ab_J) :=
  if (I 11 3) = 0 then
    (fX8_advance (ab_u I 11 3 (1 : Int32)) J).bind fun u1 =>
    (fX4_readsLevel 60 (0 : Int32) (0 : Int32) u1.1 u1.2).bind fun u2 =>
    ab_gd (u2.1 = 0 ∨ u2.1 = 1) (some (u2.1, u2.2.1, u2.2.2))
  else
    (fX4_refuses (2 : Int32) I).bind fun u3 =>
    ab_gd (u3.1 = 0 ∨ u3.1 = 1) (some (u3.1, u3.2, J))
set_option maxRecDepth 100000 in
theorem mX4_readsWeighs_ok {l : Launch} {G : ab_G} {S : ab_S} {I : ab_I} {J : ab_J} {P : ab_P} {Q : ab_Q} (hB : bz_B S P) {x : Int32 × ab_I × ab_J} (H : fX4_readsWeighs I J = some x) (K0 : Q (some (.int x.1)) S x.2.1 x.2.2 P) : ab_Call l G mX4_readsWeighs 127 [.ref 11] S I J P Q := by
  unfold fX4_readsWeighs at H
  refine ab_enter rfl (Nat.le_of_ble_eq_true rfl) (ab_wk (ls' := [some (.ref 11)]) (ab_le_some (ab_le_nil)) ?_)
  refine ab_aload_n (z := 0) (by decide +kernel) rfl rfl ?_
  refine gX4_3 (ix := 18) (by decide +kernel) tw_174 (hB.1 11 _ rfl) ?_
  refine ab_if_eq (off := 9) (tgt := 13) (by decide +kernel) rfl (fun hc => ?_) (fun hc => ?_)
  · replace H := ab_ifp H hc
    refine ab_aload_n (z := 0) (by decide +kernel) rfl rfl ?_
    refine ab_iconst (z := 1) (v := (1 : Int32)) (by decide +kernel) (by decide) ?_
    refine pX4_3 (ix := 18) (by decide +kernel) tw_174 (hB.1 11 _ rfl) (by decide) ?_
    refine ab_aload_n (z := 0) (by decide +kernel) rfl rfl ?_
    refine gX4_0 (ix := 50) (by decide +kernel) tw_171 (hB.1 11 _ rfl) (hB.2.1 18 (11, 0, 22) rfl) ?_
    obtain ⟨u1, hu1, H⟩ := ab_bd_of H
    refine kvX8_advance (D := 2) (ix := 93) (by decide +kernel) tw_535 (hB.1 22 _ rfl) (by decide) (Nat.le_of_ble_eq_true rfl) (mX8_advance_ok hB hu1 ?_)
    change ab_WP l G mX4_readsWeighs 127 25 [some (.ref 11)] [] S u1.1 u1.2 P 0 0 Q
    refine ab_aload_n (z := 0) (by decide +kernel) rfl rfl ?_
    refine ab_iconst (z := 0) (v := (0 : Int32)) (by decide +kernel) (by decide) ?_
    refine ab_iconst (z := 0) (v := (0 : Int32)) (by decide +kernel) (by decide) ?_
    obtain ⟨u2, hu2, H⟩ := ab_bd_of H
    refine kvX4_readsLevel (D := 126) (ix := 131) (by decide +kernel) tw_574 (hB.1 11 _ rfl) (by decide) (Nat.le_of_ble_eq_true rfl) (mX4_readsLevel_ok 60 hB hu2 ?_)
    change ab_WP l G mX4_readsWeighs 127 31 [some (.ref 11)] [.int u2.1] S u2.2.1 u2.2.2 P 0 0 Q
    obtain ⟨hg, H⟩ := ab_gd_of H
    obtain rfl := Option.some.inj H
    exact ab_zret (by decide +kernel) rfl (Nat.le_refl _) (Nat.le_refl _) hg K0
  · replace H := ab_ifn H hc
    refine ab_aload_n (z := 0) (by decide +kernel) rfl rfl ?_
    refine ab_iconst (z := 2) (v := (2 : Int32)) (by decide +kernel) (by decide) ?_
    obtain ⟨u3, hu3, H⟩ := ab_bd_of H
    refine kvX4_refuses (D := 0) (ix := 79) (by decide +kernel) tw_531 (hB.1 11 _ rfl) (by decide) (Nat.le_of_ble_eq_true rfl) (mX4_refuses_ok hB hu3 ?_)
    change ab_WP l G mX4_readsWeighs 127 12 [some (.ref 11)] [.int u3.1] S u3.2 J P 0 0 Q
    obtain ⟨hg, H⟩ := ab_gd_of H
    obtain rfl := Option.some.inj H
    exact ab_zret (by decide +kernel) rfl (Nat.le_refl _) (Nat.le_refl _) hg K0
abbrev mX4_readsFaces : ab_M := (yX4_readsFaces, cX4_readsFaces, 1, some .boolean, 0, 0)
theorem kvX4_readsFaces {l : Launch} {G : ab_G} {M : ab_M} {d pc : Nat} {ls : List (Option Value)} {st : List Value} {S : ab_S} {I : ab_I} {J : ab_J} {P : ab_P} {Q : ab_Q} {ix D r ln : Nat} (hd : decode M.2.1 pc = .ok (.invokevirtual ix, 3)) (h1 : Cond.methodLink M.1.cls ix mX4_readsFaces.1 ∈ ab_good) (hs : S[r]? = some (9, ln)) (hdg : D + 1 ≤ d) (hsum : (st.map fun v => v.category).sum ≤ 8) (kk : ab_Call l G mX4_readsFaces D (.ref r :: []) S I J P (fun v S' I' J' P' => ab_WP l G M d (pc + 3) ls (ab_psh v st) S' I' J' P' 0 0 Q)) : ab_WP l G M d pc ls (.ref r :: st) S I J P 0 0 Q := bz_kv (g := mX4_readsFaces) (as := []) (cc := 4) rfl hd h1 tw_598 tw_p17 tw_5 tw_599 ⟨by decide +kernel, by decide +kernel, (by decide +kernel : (parseMethodDescriptor mX4_readsFaces.1.desc).map (fun d => d.parameters.length) = some 0)⟩ (by decide) rfl rfl rfl hdg hsum hs kk
def fX4_readsFaces (I : ab_I) (J : ab_J) : Option (Int32 × ab_I × ab_J) :=
  if (I 11 4) = 0 then
    (fX8_advance (ab_u I 11 4 (1 : Int32)) J).bind fun u1 =>
    (fX4_takesNumber (0 : Int32) (100 : Int32) u1.1 u1.2).bind fun u2 =>
    if u2.1 = 0 then
      some ((0 : Int32), u2.2.1, u2.2.2)
    else
      some ((1 : Int32), (ab_u u2.2.1 14 8 (u2.2.1 11 6)), u2.2.2)
  else
    (fX4_refuses (2 : Int32) I).bind fun u3 =>
    ab_gd (u3.1 = 0 ∨ u3.1 = 1) (some (u3.1, u3.2, J))
set_option maxRecDepth 100000 in
theorem mX4_readsFaces_ok {l : Launch} {G : ab_G} {S : ab_S} {I : ab_I} {J : ab_J} {P : ab_P} {Q : ab_Q} (hB : bz_B S P) {x : Int32 × ab_I × ab_J} (H : fX4_readsFaces I J = some x) (K0 : Q (some (.int x.1)) S x.2.1 x.2.2 P) : ab_Call l G mX4_readsFaces 4 [.ref 11] S I J P Q := by
  unfold fX4_readsFaces at H
  refine ab_enter rfl (Nat.le_of_ble_eq_true rfl) (ab_wk (ls' := [some (.ref 11)]) (ab_le_some (ab_le_nil)) ?_)
  refine ab_aload_n (z := 0) (by decide +kernel) rfl rfl ?_
  refine gX4_4 (ix := 22) (by decide +kernel) tw_175 (hB.1 11 _ rfl) ?_
  refine ab_if_eq (off := 9) (tgt := 13) (by decide +kernel) rfl (fun hc => ?_) (fun hc => ?_)
  · replace H := ab_ifp H hc
    refine ab_aload_n (z := 0) (by decide +kernel) rfl rfl ?_
    refine ab_iconst (z := 1) (v := (1 : Int32)) (by decide +kernel) (by decide) ?_
    refine pX4_4 (ix := 22) (by decide +kernel) tw_175 (hB.1 11 _ rfl) (by decide) ?_
    refine ab_aload_n (z := 0) (by decide +kernel) rfl rfl ?_
    refine gX4_0 (ix := 50) (by decide +kernel) tw_171 (hB.1 11 _ rfl) (hB.2.1 18 (11, 0, 22) rfl) ?_
    obtain ⟨u1, hu1, H⟩ := ab_bd_of H
    refine kvX8_advance (D := 2) (ix := 93) (by decide +kernel) tw_535 (hB.1 22 _ rfl) (by decide) (Nat.le_of_ble_eq_true rfl) (mX8_advance_ok hB hu1 ?_)
    change ab_WP l G mX4_readsFaces 4 25 [some (.ref 11)] [] S u1.1 u1.2 P 0 0 Q
    refine ab_aload_n (z := 0) (by decide +kernel) rfl rfl ?_
    refine ab_iconst (z := 0) (v := (0 : Int32)) (by decide +kernel) (by decide) ?_
    refine ab_bipush (z := 100) (v := (100 : Int32)) (by decide +kernel) (by decide) ?_
    obtain ⟨u2, hu2, H⟩ := ab_bd_of H
    refine kvX4_takesNumber (D := 3) (ix := 100) (by decide +kernel) tw_548 (hB.1 11 _ rfl) (by decide) (Nat.le_of_ble_eq_true rfl) (mX4_takesNumber_ok hB hu2 ?_)
    change ab_WP l G mX4_readsFaces 4 32 [some (.ref 11)] [.int u2.1] S u2.2.1 u2.2.2 P 0 0 Q
    refine ab_if_ne (off := 5) (tgt := 37) (by decide +kernel) rfl (fun hc => ?_) (fun hc => ?_)
    · replace H := ab_ifn H hc
      refine ab_aload_n (z := 0) (by decide +kernel) rfl rfl ?_
      refine gX4_7 (ix := 35) (by decide +kernel) tw_178 (hB.1 11 _ rfl) (hB.2.1 21 (11, 7, 14) rfl) ?_
      refine ab_aload_n (z := 0) (by decide +kernel) rfl rfl ?_
      refine gX4_6 (ix := 28) (by decide +kernel) tw_177 (hB.1 11 _ rfl) ?_
      refine pX9_8 (ix := 134) (by decide +kernel) tw_108 (hB.1 14 _ rfl) ?_
      refine ab_iconst (z := 1) (v := (1 : Int32)) (by decide +kernel) (by decide) ?_
      obtain rfl := Option.some.inj H
      exact ab_zret (by decide +kernel) rfl (Nat.le_refl _) (Nat.le_refl _) (by decide) K0
    · replace H := ab_ifp H hc
      refine ab_iconst (z := 0) (v := (0 : Int32)) (by decide +kernel) (by decide) ?_
      obtain rfl := Option.some.inj H
      exact ab_zret (by decide +kernel) rfl (Nat.le_refl _) (Nat.le_refl _) (by decide) K0
  · replace H := ab_ifn H hc
    refine ab_aload_n (z := 0) (by decide +kernel) rfl rfl ?_
    refine ab_iconst (z := 2) (v := (2 : Int32)) (by decide +kernel) (by decide) ?_
    obtain ⟨u3, hu3, H⟩ := ab_bd_of H
    refine kvX4_refuses (D := 0) (ix := 79) (by decide +kernel) tw_531 (hB.1 11 _ rfl) (by decide) (Nat.le_of_ble_eq_true rfl) (mX4_refuses_ok hB hu3 ?_)
    change ab_WP l G mX4_readsFaces 4 12 [some (.ref 11)] [.int u3.1] S u3.2 J P 0 0 Q
    obtain ⟨hg, H⟩ := ab_gd_of H
    obtain rfl := Option.some.inj H
    exact ab_zret (by decide +kernel) rfl (Nat.le_refl _) (Nat.le_refl _) hg K0
abbrev mX4_readsDraw : ab_M := (yX4_readsDraw, cX4_readsDraw, 1, some .boolean, 0, 0)
theorem kvX4_readsDraw {l : Launch} {G : ab_G} {M : ab_M} {d pc : Nat} {ls : List (Option Value)} {st : List Value} {S : ab_S} {I : ab_I} {J : ab_J} {P : ab_P} {Q : ab_Q} {ix D r ln : Nat} (hd : decode M.2.1 pc = .ok (.invokevirtual ix, 3)) (h1 : Cond.methodLink M.1.cls ix mX4_readsDraw.1 ∈ ab_good) (hs : S[r]? = some (9, ln)) (hdg : D + 1 ≤ d) (hsum : (st.map fun v => v.category).sum ≤ 8) (kk : ab_Call l G mX4_readsDraw D (.ref r :: []) S I J P (fun v S' I' J' P' => ab_WP l G M d (pc + 3) ls (ab_psh v st) S' I' J' P' 0 0 Q)) : ab_WP l G M d pc ls (.ref r :: st) S I J P 0 0 Q := bz_kv (g := mX4_readsDraw) (as := []) (cc := 4) rfl hd h1 tw_602 tw_p18 tw_5 tw_603 ⟨by decide +kernel, by decide +kernel, (by decide +kernel : (parseMethodDescriptor mX4_readsDraw.1.desc).map (fun d => d.parameters.length) = some 0)⟩ (by decide) rfl rfl rfl hdg hsum hs kk
def fX4_readsDraw (I : ab_I) (J : ab_J) : Option (Int32 × ab_I × ab_J) :=
  if (I 11 5) = 0 then
    (fX8_advance (ab_u I 11 5 (1 : Int32)) J).bind fun u1 =>
    (fX4_takesNumber (0 : Int32) (999 : Int32) u1.1 u1.2).bind fun u2 =>
    if u2.1 = 0 then
      some ((0 : Int32), u2.2.1, u2.2.2)
    else
      some ((1 : Int32), (ab_u u2.2.1 14 9 (u2.2.1 11 6)), u2.2.2)
  else
    (fX4_refuses (2 : Int32) I).bind fun u3 =>
    ab_gd (u3.1 = 0 ∨ u3.1 = 1) (some (u3.1, u3.2, J))
set_option maxRecDepth 100000 in
theorem mX4_readsDraw_ok {l : Launch} {G : ab_G} {S : ab_S} {I : ab_I} {J : ab_J} {P : ab_P} {Q : ab_Q} (hB : bz_B S P) {x : Int32 × ab_I × ab_J} (H : fX4_readsDraw I J = some x) (K0 : Q (some (.int x.1)) S x.2.1 x.2.2 P) : ab_Call l G mX4_readsDraw 4 [.ref 11] S I J P Q := by
  unfold fX4_readsDraw at H
  refine ab_enter rfl (Nat.le_of_ble_eq_true rfl) (ab_wk (ls' := [some (.ref 11)]) (ab_le_some (ab_le_nil)) ?_)
  refine ab_aload_n (z := 0) (by decide +kernel) rfl rfl ?_
  refine gX4_5 (ix := 25) (by decide +kernel) tw_176 (hB.1 11 _ rfl) ?_
  refine ab_if_eq (off := 9) (tgt := 13) (by decide +kernel) rfl (fun hc => ?_) (fun hc => ?_)
  · replace H := ab_ifp H hc
    refine ab_aload_n (z := 0) (by decide +kernel) rfl rfl ?_
    refine ab_iconst (z := 1) (v := (1 : Int32)) (by decide +kernel) (by decide) ?_
    refine pX4_5 (ix := 25) (by decide +kernel) tw_176 (hB.1 11 _ rfl) (by decide) ?_
    refine ab_aload_n (z := 0) (by decide +kernel) rfl rfl ?_
    refine gX4_0 (ix := 50) (by decide +kernel) tw_171 (hB.1 11 _ rfl) (hB.2.1 18 (11, 0, 22) rfl) ?_
    obtain ⟨u1, hu1, H⟩ := ab_bd_of H
    refine kvX8_advance (D := 2) (ix := 93) (by decide +kernel) tw_535 (hB.1 22 _ rfl) (by decide) (Nat.le_of_ble_eq_true rfl) (mX8_advance_ok hB hu1 ?_)
    change ab_WP l G mX4_readsDraw 4 25 [some (.ref 11)] [] S u1.1 u1.2 P 0 0 Q
    refine ab_aload_n (z := 0) (by decide +kernel) rfl rfl ?_
    refine ab_iconst (z := 0) (v := (0 : Int32)) (by decide +kernel) (by decide) ?_
    refine ab_sipush (z := 999) (v := (999 : Int32)) (by decide +kernel) (by decide) ?_
    obtain ⟨u2, hu2, H⟩ := ab_bd_of H
    refine kvX4_takesNumber (D := 3) (ix := 100) (by decide +kernel) tw_548 (hB.1 11 _ rfl) (by decide) (Nat.le_of_ble_eq_true rfl) (mX4_takesNumber_ok hB hu2 ?_)
    change ab_WP l G mX4_readsDraw 4 33 [some (.ref 11)] [.int u2.1] S u2.2.1 u2.2.2 P 0 0 Q
    refine ab_if_ne (off := 5) (tgt := 38) (by decide +kernel) rfl (fun hc => ?_) (fun hc => ?_)
    · replace H := ab_ifn H hc
      refine ab_aload_n (z := 0) (by decide +kernel) rfl rfl ?_
      refine gX4_7 (ix := 35) (by decide +kernel) tw_178 (hB.1 11 _ rfl) (hB.2.1 21 (11, 7, 14) rfl) ?_
      refine ab_aload_n (z := 0) (by decide +kernel) rfl rfl ?_
      refine gX4_6 (ix := 28) (by decide +kernel) tw_177 (hB.1 11 _ rfl) ?_
      refine pX9_9 (ix := 137) (by decide +kernel) tw_111 (hB.1 14 _ rfl) ?_
      refine ab_iconst (z := 1) (v := (1 : Int32)) (by decide +kernel) (by decide) ?_
      obtain rfl := Option.some.inj H
      exact ab_zret (by decide +kernel) rfl (Nat.le_refl _) (Nat.le_refl _) (by decide) K0
    · replace H := ab_ifp H hc
      refine ab_iconst (z := 0) (v := (0 : Int32)) (by decide +kernel) (by decide) ?_
      obtain rfl := Option.some.inj H
      exact ab_zret (by decide +kernel) rfl (Nat.le_refl _) (Nat.le_refl _) (by decide) K0
  · replace H := ab_ifn H hc
    refine ab_aload_n (z := 0) (by decide +kernel) rfl rfl ?_
    refine ab_iconst (z := 2) (v := (2 : Int32)) (by decide +kernel) (by decide) ?_
    obtain ⟨u3, hu3, H⟩ := ab_bd_of H
    refine kvX4_refuses (D := 0) (ix := 79) (by decide +kernel) tw_531 (hB.1 11 _ rfl) (by decide) (Nat.le_of_ble_eq_true rfl) (mX4_refuses_ok hB hu3 ?_)
    change ab_WP l G mX4_readsDraw 4 12 [some (.ref 11)] [.int u3.1] S u3.2 J P 0 0 Q
    obtain ⟨hg, H⟩ := ab_gd_of H
    obtain rfl := Option.some.inj H
    exact ab_zret (by decide +kernel) rfl (Nat.le_refl _) (Nat.le_refl _) hg K0
abbrev mX4_readsAll : ab_M := (yX4_readsAll, cX4_readsAll, 3, some .boolean, 0, 0)
theorem kvX4_readsAll {l : Launch} {G : ab_G} {M : ab_M} {d pc : Nat} {ls : List (Option Value)} {st : List Value} {S : ab_S} {I : ab_I} {J : ab_J} {P : ab_P} {Q : ab_Q} {ix D r ln : Nat} (hd : decode M.2.1 pc = .ok (.invokevirtual ix, 3)) (h1 : Cond.methodLink M.1.cls ix mX4_readsAll.1 ∈ ab_good) (hs : S[r]? = some (9, ln)) (hdg : D + 1 ≤ d) (hsum : (st.map fun v => v.category).sum ≤ 8) (kk : ab_Call l G mX4_readsAll D (.ref r :: []) S I J P (fun v S' I' J' P' => ab_WP l G M d (pc + 3) ls (ab_psh v st) S' I' J' P' 0 0 Q)) : ab_WP l G M d pc ls (.ref r :: st) S I J P 0 0 Q := bz_kv (g := mX4_readsAll) (as := []) (cc := 4) rfl hd h1 tw_471 tw_472 tw_5 tw_473 ⟨by decide +kernel, by decide +kernel, (by decide +kernel : (parseMethodDescriptor mX4_readsAll.1.desc).map (fun d => d.parameters.length) = some 0)⟩ (by decide) rfl rfl rfl hdg hsum hs kk
def fX4_readsAll_149 (a1 : Int32) (I : ab_I) (J : ab_J) : Option (Int32 × ab_I × ab_J) :=
  ab_gd (a1 = 0 ∨ a1 = 1) (some (a1, I, J))
set_option maxRecDepth 100000 in
theorem fX4_readsAll_149_ok {l : Launch} {G : ab_G} {S : ab_S} {I : ab_I} {J : ab_J} {P : ab_P} {Q : ab_Q} {a1 : Int32} (hB : bz_B S P) {x : Int32 × ab_I × ab_J} (H : fX4_readsAll_149 a1 I J = some x) (K0 : Q (some (.int x.1)) S x.2.1 x.2.2 P) : ab_WP l G mX4_readsAll 128 149 [some (.ref 11), some (.int a1), none] [] S I J P 0 0 Q := by
  unfold fX4_readsAll_149 at H
  refine ab_iload_n (z := 1) (by decide +kernel) rfl rfl ?_
  obtain ⟨hg, H⟩ := ab_gd_of H
  obtain rfl := Option.some.inj H
  exact ab_zret (by decide +kernel) rfl (Nat.le_refl _) (Nat.le_refl _) hg K0
def fX4_readsAll_142 (a2 : Int32) (s0 : Int32) (I : ab_I) (J : ab_J) : Option ((Int32 × Int32 × ab_I × ab_J) ⊕ (Int32 × ab_I × ab_J)) :=
  some (.inl (s0, (a2 + (1 : Int32)), I, J))
set_option maxRecDepth 100000 in
theorem fX4_readsAll_142_ok {l : Launch} {G : ab_G} {S : ab_S} {I : ab_I} {J : ab_J} {P : ab_P} {Q : ab_Q} {a2 : Int32} {s0 : Int32} (hB : bz_B S P) {x : ((Int32 × Int32 × ab_I × ab_J) ⊕ (Int32 × ab_I × ab_J))} (H : fX4_readsAll_142 a2 s0 I J = some x) (K1 : ∀ s, x = (.inl s) → ab_WP l G mX4_readsAll 128 8 [some (.ref 11), some (.int s.1), some (.int s.2.1)] [] S s.2.2.1 s.2.2.2 P 0 0 Q) (K0 : ∀ r, x = (.inr r) → Q (some (.int r.1)) S r.2.1 r.2.2 P) : ab_WP l G mX4_readsAll 128 142 [some (.ref 11), none, some (.int a2)] [.int s0] S I J P 0 0 Q := by
  unfold fX4_readsAll_142 at H
  refine ab_istore_n (z := 1) (by decide +kernel) rfl (by decide) rfl ?_
  refine ab_ls (ls' := [some (.ref 11), some (.int s0), some (.int a2)]) rfl ?_
  refine ab_iinc (i := 2) (z := 1) (v := (a2 + (1 : Int32))) (by decide +kernel) rfl rfl (by decide) rfl ?_
  refine ab_ls (ls' := [some (.ref 11), some (.int s0), some (.int (a2 + (1 : Int32)))]) rfl ?_
  refine ab_goto (off := -138) (tgt := 8) (by decide +kernel) rfl ?_
  exact ab_wk (ab_le_some (ab_le_some (ab_le_some (ab_le_nil)))) (K1 (s0, (a2 + (1 : Int32)), I, J) (Option.some.inj H).symm)
def fX4_readsAll_141 (a2 : Int32) (I : ab_I) (J : ab_J) : Option ((Int32 × Int32 × ab_I × ab_J) ⊕ (Int32 × ab_I × ab_J)) :=
  fX4_readsAll_142 a2 (0 : Int32) I J
set_option maxRecDepth 100000 in
theorem fX4_readsAll_141_ok {l : Launch} {G : ab_G} {S : ab_S} {I : ab_I} {J : ab_J} {P : ab_P} {Q : ab_Q} {a2 : Int32} (hB : bz_B S P) {x : ((Int32 × Int32 × ab_I × ab_J) ⊕ (Int32 × ab_I × ab_J))} (H : fX4_readsAll_141 a2 I J = some x) (K1 : ∀ s, x = (.inl s) → ab_WP l G mX4_readsAll 128 8 [some (.ref 11), some (.int s.1), some (.int s.2.1)] [] S s.2.2.1 s.2.2.2 P 0 0 Q) (K0 : ∀ r, x = (.inr r) → Q (some (.int r.1)) S r.2.1 r.2.2 P) : ab_WP l G mX4_readsAll 128 141 [some (.ref 11), none, some (.int a2)] [] S I J P 0 0 Q := by
  unfold fX4_readsAll_141 at H
  refine ab_iconst (z := 0) (v := (0 : Int32)) (by decide +kernel) (by decide) ?_
  exact ab_wk (ab_le_some (ab_le_none (ab_le_some (ab_le_nil)))) (fX4_readsAll_142_ok hB H K1 K0)
def fX4_readsAll_123 (a2 : Int32) (s0 : Int32) (I : ab_I) (J : ab_J) : Option ((Int32 × Int32 × ab_I × ab_J) ⊕ (Int32 × ab_I × ab_J)) :=
  if s0 = 0 then
    fX4_readsAll_141 a2 I J
  else
    (fX4_takes (59 : Int32) I J).bind fun u12 =>
    if u12.1 = 0 then
      fX4_readsAll_141 a2 u12.2.1 u12.2.2
    else
      fX4_readsAll_142 a2 (1 : Int32) u12.2.1 u12.2.2
set_option maxRecDepth 100000 in
theorem fX4_readsAll_123_ok {l : Launch} {G : ab_G} {S : ab_S} {I : ab_I} {J : ab_J} {P : ab_P} {Q : ab_Q} {a2 : Int32} {s0 : Int32} (hB : bz_B S P) {x : ((Int32 × Int32 × ab_I × ab_J) ⊕ (Int32 × ab_I × ab_J))} (H : fX4_readsAll_123 a2 s0 I J = some x) (K1 : ∀ s, x = (.inl s) → ab_WP l G mX4_readsAll 128 8 [some (.ref 11), some (.int s.1), some (.int s.2.1)] [] S s.2.2.1 s.2.2.2 P 0 0 Q) (K0 : ∀ r, x = (.inr r) → Q (some (.int r.1)) S r.2.1 r.2.2 P) : ab_WP l G mX4_readsAll 128 123 [some (.ref 11), none, some (.int a2)] [.int s0] S I J P 0 0 Q := by
  unfold fX4_readsAll_123 at H
  refine ab_istore_n (z := 1) (by decide +kernel) rfl (by decide) rfl ?_
  refine ab_ls (ls' := [some (.ref 11), some (.int s0), some (.int a2)]) rfl ?_
  refine ab_iload_n (z := 1) (by decide +kernel) rfl rfl ?_
  refine ab_if_eq (off := 16) (tgt := 141) (by decide +kernel) rfl (fun hc => ?_) (fun hc => ?_)
  · replace H := ab_ifp H hc
    exact ab_wk (ab_le_some (ab_le_none (ab_le_some (ab_le_nil)))) (fX4_readsAll_141_ok hB H K1 K0)
  · replace H := ab_ifn H hc
    refine ab_aload_n (z := 0) (by decide +kernel) rfl rfl ?_
    refine ab_bipush (z := 59) (v := (59 : Int32)) (by decide +kernel) (by decide) ?_
    obtain ⟨u12, hu12, H⟩ := ab_bd_of H
    refine kvX4_takes (D := 3) (ix := 83) (by decide +kernel) tw_544 (hB.1 11 _ rfl) (by decide) (Nat.le_of_ble_eq_true rfl) (mX4_takes_ok hB hu12 ?_)
    change ab_WP l G mX4_readsAll 128 134 [some (.ref 11), some (.int s0), some (.int a2)] [.int u12.1] S u12.2.1 u12.2.2 P 0 0 Q
    refine ab_if_eq (off := 7) (tgt := 141) (by decide +kernel) rfl (fun hc => ?_) (fun hc => ?_)
    · replace H := ab_ifp H hc
      exact ab_wk (ab_le_some (ab_le_none (ab_le_some (ab_le_nil)))) (fX4_readsAll_141_ok hB H K1 K0)
    · replace H := ab_ifn H hc
      refine ab_iconst (z := 1) (v := (1 : Int32)) (by decide +kernel) (by decide) ?_
      refine ab_goto (off := 4) (tgt := 142) (by decide +kernel) rfl ?_
      exact ab_wk (ab_le_some (ab_le_none (ab_le_some (ab_le_nil)))) (fX4_readsAll_142_ok hB H K1 K0)
def fX4_readsAll_8 (a1 : Int32) (a2 : Int32) (I : ab_I) (J : ab_J) : Option ((Int32 × Int32 × ab_I × ab_J) ⊕ (Int32 × ab_I × ab_J)) :=
  if (1600 : Int32) ≤ a2 then
    (fX4_readsAll_149 a1 I J).map .inr
  else
    if a1 = 0 then
      (fX4_readsAll_149 a1 I J).map .inr
    else
      if (I 22 2) = 0 then
        (fX4_readsAll_149 a1 I J).map .inr
      else
        if (I 22 2) = (200 : Int32) then
          (fX4_readsPerson I J).bind fun u5 =>
          fX4_readsAll_123 a2 u5.1 u5.2.1 u5.2.2
        else
          if (I 22 2) = (201 : Int32) then
            (fX4_readsBell I J).bind fun u6 =>
            fX4_readsAll_123 a2 u6.1 u6.2.1 u6.2.2
          else
            if (I 22 2) = (202 : Int32) then
              (fX4_readsLoses I J).bind fun u7 =>
              fX4_readsAll_123 a2 u7.1 u7.2.1 u7.2.2
            else
              if (I 22 2) = (203 : Int32) then
                (fX4_readsWeighs I J).bind fun u8 =>
                fX4_readsAll_123 a2 u8.1 u8.2.1 u8.2.2
              else
                if (I 22 2) = (204 : Int32) then
                  (fX4_readsFaces I J).bind fun u9 =>
                  fX4_readsAll_123 a2 u9.1 u9.2.1 u9.2.2
                else
                  if (I 22 2) = (205 : Int32) then
                    (fX4_readsDraw I J).bind fun u10 =>
                    fX4_readsAll_123 a2 u10.1 u10.2.1 u10.2.2
                  else
                    (fX4_refuses (2 : Int32) I).bind fun u11 =>
                    fX4_readsAll_123 a2 u11.1 u11.2 J
set_option maxRecDepth 100000 in
theorem fX4_readsAll_8_ok {l : Launch} {G : ab_G} {S : ab_S} {I : ab_I} {J : ab_J} {P : ab_P} {Q : ab_Q} {a1 : Int32} {a2 : Int32} (hB : bz_B S P) {x : ((Int32 × Int32 × ab_I × ab_J) ⊕ (Int32 × ab_I × ab_J))} (H : fX4_readsAll_8 a1 a2 I J = some x) (K1 : ∀ s, x = (.inl s) → ab_WP l G mX4_readsAll 128 8 [some (.ref 11), some (.int s.1), some (.int s.2.1)] [] S s.2.2.1 s.2.2.2 P 0 0 Q) (K0 : ∀ r, x = (.inr r) → Q (some (.int r.1)) S r.2.1 r.2.2 P) : ab_WP l G mX4_readsAll 128 8 [some (.ref 11), some (.int a1), some (.int a2)] [] S I J P 0 0 Q := by
  unfold fX4_readsAll_8 at H
  refine ab_iload_n (z := 2) (by decide +kernel) rfl rfl ?_
  refine ab_sipush (z := 1600) (v := (1600 : Int32)) (by decide +kernel) (by decide) ?_
  refine ab_icmp_ge (off := 137) (tgt := 149) (by decide +kernel) rfl (fun hc => ?_) (fun hc => ?_)
  · replace H := ab_ifp H hc
    obtain ⟨y2, Hy, hx⟩ := ab_mp_of H
    subst hx
    replace H := Hy
    exact ab_wk (ab_le_some (ab_le_some (ab_le_none (ab_le_nil)))) (fX4_readsAll_149_ok hB H  (K0 _ rfl))
  · replace H := ab_ifn H hc
    refine ab_iload_n (z := 1) (by decide +kernel) rfl rfl ?_
    refine ab_if_eq (off := 133) (tgt := 149) (by decide +kernel) rfl (fun hc => ?_) (fun hc => ?_)
    · replace H := ab_ifp H hc
      obtain ⟨y3, Hy, hx⟩ := ab_mp_of H
      subst hx
      replace H := Hy
      exact ab_wk (ab_le_some (ab_le_some (ab_le_none (ab_le_nil)))) (fX4_readsAll_149_ok hB H  (K0 _ rfl))
    · replace H := ab_ifn H hc
      refine ab_aload_n (z := 0) (by decide +kernel) rfl rfl ?_
      refine gX4_0 (ix := 50) (by decide +kernel) tw_171 (hB.1 11 _ rfl) (hB.2.1 18 (11, 0, 22) rfl) ?_
      refine gX8_2 (ix := 57) (by decide +kernel) tw_150 (hB.1 22 _ rfl) ?_
      refine ab_if_eq (off := 123) (tgt := 149) (by decide +kernel) rfl (fun hc => ?_) (fun hc => ?_)
      · replace H := ab_ifp H hc
        obtain ⟨y4, Hy, hx⟩ := ab_mp_of H
        subst hx
        replace H := Hy
        exact ab_wk (ab_le_some (ab_le_some (ab_le_none (ab_le_nil)))) (fX4_readsAll_149_ok hB H  (K0 _ rfl))
      · replace H := ab_ifn H hc
        refine ab_aload_n (z := 0) (by decide +kernel) rfl rfl ?_
        refine gX4_0 (ix := 50) (by decide +kernel) tw_171 (hB.1 11 _ rfl) (hB.2.1 18 (11, 0, 22) rfl) ?_
        refine gX8_2 (ix := 57) (by decide +kernel) tw_150 (hB.1 22 _ rfl) ?_
        by_cases hk200 : (I 22 2) = (200 : Int32)
        · replace H := ab_ifp H hk200
          refine ab_tabk (key := (200 : Int32)) (off := 40) (tgt := 76) (dflt := 82) (lo := 200) (hi := 205) (offs := #[40, 47, 54, 61, 68, 75]) (len := 40) hk200 (by decide +kernel) (by decide) rfl ?_
          refine ab_aload_n (z := 0) (by decide +kernel) rfl rfl ?_
          obtain ⟨u5, hu5, H⟩ := ab_bd_of H
          refine kvX4_readsPerson (D := 4) (ix := 60) (by decide +kernel) tw_527 (hB.1 11 _ rfl) (by decide) (Nat.le_of_ble_eq_true rfl) (mX4_readsPerson_ok hB hu5 ?_)
          change ab_WP l G mX4_readsAll 128 80 [some (.ref 11), some (.int a1), some (.int a2)] [.int u5.1] S u5.2.1 u5.2.2 P 0 0 Q
          refine ab_goto (off := 43) (tgt := 123) (by decide +kernel) rfl ?_
          exact ab_wk (ab_le_some (ab_le_none (ab_le_some (ab_le_nil)))) (fX4_readsAll_123_ok hB H K1 K0)
        replace H := ab_ifn H hk200
        by_cases hk201 : (I 22 2) = (201 : Int32)
        · replace H := ab_ifp H hk201
          refine ab_tabk (key := (201 : Int32)) (off := 47) (tgt := 83) (dflt := 82) (lo := 200) (hi := 205) (offs := #[40, 47, 54, 61, 68, 75]) (len := 40) hk201 (by decide +kernel) (by decide) rfl ?_
          refine ab_aload_n (z := 0) (by decide +kernel) rfl rfl ?_
          obtain ⟨u6, hu6, H⟩ := ab_bd_of H
          refine kvX4_readsBell (D := 4) (ix := 64) (by decide +kernel) tw_555 (hB.1 11 _ rfl) (by decide) (Nat.le_of_ble_eq_true rfl) (mX4_readsBell_ok hB hu6 ?_)
          change ab_WP l G mX4_readsAll 128 87 [some (.ref 11), some (.int a1), some (.int a2)] [.int u6.1] S u6.2.1 u6.2.2 P 0 0 Q
          refine ab_goto (off := 36) (tgt := 123) (by decide +kernel) rfl ?_
          exact ab_wk (ab_le_some (ab_le_none (ab_le_some (ab_le_nil)))) (fX4_readsAll_123_ok hB H K1 K0)
        replace H := ab_ifn H hk201
        by_cases hk202 : (I 22 2) = (202 : Int32)
        · replace H := ab_ifp H hk202
          refine ab_tabk (key := (202 : Int32)) (off := 54) (tgt := 90) (dflt := 82) (lo := 200) (hi := 205) (offs := #[40, 47, 54, 61, 68, 75]) (len := 40) hk202 (by decide +kernel) (by decide) rfl ?_
          refine ab_aload_n (z := 0) (by decide +kernel) rfl rfl ?_
          obtain ⟨u7, hu7, H⟩ := ab_bd_of H
          refine kvX4_readsLoses (D := 4) (ix := 67) (by decide +kernel) tw_559 (hB.1 11 _ rfl) (by decide) (Nat.le_of_ble_eq_true rfl) (mX4_readsLoses_ok hB hu7 ?_)
          change ab_WP l G mX4_readsAll 128 94 [some (.ref 11), some (.int a1), some (.int a2)] [.int u7.1] S u7.2.1 u7.2.2 P 0 0 Q
          refine ab_goto (off := 29) (tgt := 123) (by decide +kernel) rfl ?_
          exact ab_wk (ab_le_some (ab_le_none (ab_le_some (ab_le_nil)))) (fX4_readsAll_123_ok hB H K1 K0)
        replace H := ab_ifn H hk202
        by_cases hk203 : (I 22 2) = (203 : Int32)
        · replace H := ab_ifp H hk203
          refine ab_tabk (key := (203 : Int32)) (off := 61) (tgt := 97) (dflt := 82) (lo := 200) (hi := 205) (offs := #[40, 47, 54, 61, 68, 75]) (len := 40) hk203 (by decide +kernel) (by decide) rfl ?_
          refine ab_aload_n (z := 0) (by decide +kernel) rfl rfl ?_
          obtain ⟨u8, hu8, H⟩ := ab_bd_of H
          refine kvX4_readsWeighs (D := 127) (ix := 70) (by decide +kernel) tw_570 (hB.1 11 _ rfl) (by decide) (Nat.le_of_ble_eq_true rfl) (mX4_readsWeighs_ok hB hu8 ?_)
          change ab_WP l G mX4_readsAll 128 101 [some (.ref 11), some (.int a1), some (.int a2)] [.int u8.1] S u8.2.1 u8.2.2 P 0 0 Q
          refine ab_goto (off := 22) (tgt := 123) (by decide +kernel) rfl ?_
          exact ab_wk (ab_le_some (ab_le_none (ab_le_some (ab_le_nil)))) (fX4_readsAll_123_ok hB H K1 K0)
        replace H := ab_ifn H hk203
        by_cases hk204 : (I 22 2) = (204 : Int32)
        · replace H := ab_ifp H hk204
          refine ab_tabk (key := (204 : Int32)) (off := 68) (tgt := 104) (dflt := 82) (lo := 200) (hi := 205) (offs := #[40, 47, 54, 61, 68, 75]) (len := 40) hk204 (by decide +kernel) (by decide) rfl ?_
          refine ab_aload_n (z := 0) (by decide +kernel) rfl rfl ?_
          obtain ⟨u9, hu9, H⟩ := ab_bd_of H
          refine kvX4_readsFaces (D := 4) (ix := 73) (by decide +kernel) tw_596 (hB.1 11 _ rfl) (by decide) (Nat.le_of_ble_eq_true rfl) (mX4_readsFaces_ok hB hu9 ?_)
          change ab_WP l G mX4_readsAll 128 108 [some (.ref 11), some (.int a1), some (.int a2)] [.int u9.1] S u9.2.1 u9.2.2 P 0 0 Q
          refine ab_goto (off := 15) (tgt := 123) (by decide +kernel) rfl ?_
          exact ab_wk (ab_le_some (ab_le_none (ab_le_some (ab_le_nil)))) (fX4_readsAll_123_ok hB H K1 K0)
        replace H := ab_ifn H hk204
        by_cases hk205 : (I 22 2) = (205 : Int32)
        · replace H := ab_ifp H hk205
          refine ab_tabk (key := (205 : Int32)) (off := 75) (tgt := 111) (dflt := 82) (lo := 200) (hi := 205) (offs := #[40, 47, 54, 61, 68, 75]) (len := 40) hk205 (by decide +kernel) (by decide) rfl ?_
          refine ab_aload_n (z := 0) (by decide +kernel) rfl rfl ?_
          obtain ⟨u10, hu10, H⟩ := ab_bd_of H
          refine kvX4_readsDraw (D := 4) (ix := 76) (by decide +kernel) tw_600 (hB.1 11 _ rfl) (by decide) (Nat.le_of_ble_eq_true rfl) (mX4_readsDraw_ok hB hu10 ?_)
          change ab_WP l G mX4_readsAll 128 115 [some (.ref 11), some (.int a1), some (.int a2)] [.int u10.1] S u10.2.1 u10.2.2 P 0 0 Q
          refine ab_goto (off := 8) (tgt := 123) (by decide +kernel) rfl ?_
          exact ab_wk (ab_le_some (ab_le_none (ab_le_some (ab_le_nil)))) (fX4_readsAll_123_ok hB H K1 K0)
        replace H := ab_ifn H hk205
        have KD : ab_WP l G mX4_readsAll 128 118 [some (.ref 11), some (.int a1), some (.int a2)] [] S I J P 0 0 Q := by
          refine ab_aload_n (z := 0) (by decide +kernel) rfl rfl ?_
          refine ab_iconst (z := 2) (v := (2 : Int32)) (by decide +kernel) (by decide) ?_
          obtain ⟨u11, hu11, H⟩ := ab_bd_of H
          refine kvX4_refuses (D := 0) (ix := 79) (by decide +kernel) tw_531 (hB.1 11 _ rfl) (by decide) (Nat.le_of_ble_eq_true rfl) (mX4_refuses_ok hB hu11 ?_)
          change ab_WP l G mX4_readsAll 128 123 [some (.ref 11), some (.int a1), some (.int a2)] [.int u11.1] S u11.2 J P 0 0 Q
          exact ab_wk (ab_le_some (ab_le_none (ab_le_some (ab_le_nil)))) (fX4_readsAll_123_ok hB H K1 K0)
        by_cases hlo : (I 22 2).toInt < 200
        · exact ab_tableOut (dflt := 82) (lo := 200) (hi := 205) (offs := #[40, 47, 54, 61, 68, 75]) (len := 40) (by decide +kernel) (Or.inl hlo) (tgt := 118) rfl KD
        by_cases hhi : 205 < (I 22 2).toInt
        · exact ab_tableOut (dflt := 82) (lo := 200) (hi := 205) (offs := #[40, 47, 54, 61, 68, 75]) (len := 40) (by decide +kernel) (Or.inr hhi) (tgt := 118) rfl KD
        by_cases hr : (I 22 2).toInt = 200
        · exact absurd (Int32.toInt_inj.mp (hr.trans (by decide))) hk200
        have hlo : ¬ (I 22 2).toInt < 201 := by omega
        by_cases hr : (I 22 2).toInt = 201
        · exact absurd (Int32.toInt_inj.mp (hr.trans (by decide))) hk201
        have hlo : ¬ (I 22 2).toInt < 202 := by omega
        by_cases hr : (I 22 2).toInt = 202
        · exact absurd (Int32.toInt_inj.mp (hr.trans (by decide))) hk202
        have hlo : ¬ (I 22 2).toInt < 203 := by omega
        by_cases hr : (I 22 2).toInt = 203
        · exact absurd (Int32.toInt_inj.mp (hr.trans (by decide))) hk203
        have hlo : ¬ (I 22 2).toInt < 204 := by omega
        by_cases hr : (I 22 2).toInt = 204
        · exact absurd (Int32.toInt_inj.mp (hr.trans (by decide))) hk204
        have hlo : ¬ (I 22 2).toInt < 205 := by omega
        by_cases hr : (I 22 2).toInt = 205
        · exact absurd (Int32.toInt_inj.mp (hr.trans (by decide))) hk205
        have hlo : ¬ (I 22 2).toInt < 206 := by omega
        exact absurd (by omega : 205 < (I 22 2).toInt) hhi
def fX4_readsAll (I : ab_I) (J : ab_J) : Option (Int32 × ab_I × ab_J) :=
  (fX4_clear I J).bind fun u1 =>
  ab_it (fun s => fX4_readsAll_8 s.1 s.2.1 s.2.2.1 s.2.2.2) 5000 ((1 : Int32), (0 : Int32), u1.1, u1.2)
set_option maxRecDepth 100000 in
theorem mX4_readsAll_ok {l : Launch} {G : ab_G} {S : ab_S} {I : ab_I} {J : ab_J} {P : ab_P} {Q : ab_Q} (hB : bz_B S P) {x : Int32 × ab_I × ab_J} (H : fX4_readsAll I J = some x) (K0 : Q (some (.int x.1)) S x.2.1 x.2.2 P) : ab_Call l G mX4_readsAll 128 [.ref 11] S I J P Q := by
  unfold fX4_readsAll at H
  refine ab_enter rfl (Nat.le_of_ble_eq_true rfl) (ab_wk (ls' := [some (.ref 11), none, none]) (ab_le_some (ab_le_non0 (ab_le_non0 ab_le_nil))) ?_)
  refine ab_aload_n (z := 0) (by decide +kernel) rfl rfl ?_
  obtain ⟨u1, hu1, H⟩ := ab_bd_of H
  refine kvX4_clear (D := 4) (ix := 54) (by decide +kernel) tw_474 (hB.1 11 _ rfl) (by decide) (Nat.le_of_ble_eq_true rfl) (mX4_clear_ok hB hu1 ?_)
  change ab_WP l G mX4_readsAll 128 4 [some (.ref 11), none, none] [] S u1.1 u1.2 P 0 0 Q
  refine ab_iconst (z := 1) (v := (1 : Int32)) (by decide +kernel) (by decide) ?_
  refine ab_istore_n (z := 1) (by decide +kernel) rfl (by decide) rfl ?_
  refine ab_ls (ls' := [some (.ref 11), some (.int (1 : Int32)), none]) rfl ?_
  refine ab_iconst (z := 0) (v := (0 : Int32)) (by decide +kernel) (by decide) ?_
  refine ab_istore_n (z := 2) (by decide +kernel) rfl (by decide) rfl ?_
  refine ab_ls (ls' := [some (.ref 11), some (.int (1 : Int32)), some (.int (0 : Int32))]) rfl ?_
  exact ab_wk (ab_le_some (ab_le_some (ab_le_some (ab_le_nil)))) (ab_iter (W := fun s => ab_WP l G mX4_readsAll 128 8 [some (.ref 11), some (.int s.1), some (.int s.2.1)] [] S s.2.2.1 s.2.2.2 P 0 0 Q) (fun s y hb h1 h2 => fX4_readsAll_8_ok hB hb h1 (fun r e => by have e2 := h2 _ e; subst e2; exact K0)) 5000 ((1 : Int32), (0 : Int32), u1.1, u1.2) H)
abbrev mX2_copyFrom : ab_M := (yX2_copyFrom, cX2_copyFrom, 2, none, 0, 0)
theorem kvX2_copyFrom {l : Launch} {G : ab_G} {M : ab_M} {d pc : Nat} {ls : List (Option Value)} {st : List Value} {S : ab_S} {I : ab_I} {J : ab_J} {P : ab_P} {Q : ab_Q} {v0 : Value} {ix D r ln : Nat} (hd : decode M.2.1 pc = .ok (.invokevirtual ix, 3)) (h1 : Cond.methodLink M.1.cls ix mX2_copyFrom.1 ∈ ab_good) (hs : S[r]? = some (7, ln)) (hdg : D + 1 ≤ d) (hsum : (st.map fun v => v.category).sum ≤ 8) (kk : ab_Call l G mX2_copyFrom D (.ref r :: [v0]) S I J P (fun v S' I' J' P' => ab_WP l G M d (pc + 3) ls (ab_psh v st) S' I' J' P' 0 0 Q)) : ab_WP l G M d pc ls (v0 :: .ref r :: st) S I J P 0 0 Q := bz_kv (g := mX2_copyFrom) (as := [v0]) (cc := 2) rfl hd h1 tw_612 tw_613 tw_4 tw_614 ⟨by decide +kernel, by decide +kernel, (by decide +kernel : (parseMethodDescriptor mX2_copyFrom.1.desc).map (fun d => d.parameters.length) = some 1)⟩ (by decide) rfl rfl rfl hdg hsum hs kk
def fX2_copyFrom (I : ab_I) : Option ab_I :=
  some (ab_u (ab_u (ab_r I 8 (va_cpy (I 19) (I 8) (0 : Int32).toNatClampNeg (0 : Int32).toNatClampNeg (300 : Int32).toNatClampNeg)) 7 3 (I 18 3)) 7 4 (I 18 4))
set_option maxRecDepth 100000 in
theorem mX2_copyFrom_ok {l : Launch} {G : ab_G} {S : ab_S} {I : ab_I} {J : ab_J} {P : ab_P} {Q : ab_Q} (hB : bz_B S P) {x : ab_I} (H : fX2_copyFrom I = some x) (K0 : Q none S x J P) : ab_Call l G mX2_copyFrom 1 [.ref 7, .ref 18] S I J P Q := by
  unfold fX2_copyFrom at H
  refine ab_enter rfl (Nat.le_of_ble_eq_true rfl) (ab_wk (ls' := [some (.ref 7), some (.ref 18)]) (ab_le_some (ab_le_some (ab_le_nil))) ?_)
  refine ab_aload_n (z := 1) (by decide +kernel) rfl rfl ?_
  refine gX2_0 (ix := 9) (by decide +kernel) tw_54 (hB.1 18 _ rfl) (hB.2.1 26 (18, 0, 19) rfl) ?_
  refine ab_iconst (z := 0) (v := (0 : Int32)) (by decide +kernel) (by decide) ?_
  refine ab_aload_n (z := 0) (by decide +kernel) rfl rfl ?_
  refine gX2_0 (ix := 9) (by decide +kernel) tw_54 (hB.1 7 _ rfl) (hB.2.1 15 (7, 0, 8) rfl) ?_
  refine ab_iconst (z := 0) (v := (0 : Int32)) (by decide +kernel) (by decide) ?_
  refine ab_aload_n (z := 0) (by decide +kernel) rfl rfl ?_
  refine gX2_0 (ix := 9) (by decide +kernel) tw_54 (hB.1 7 _ rfl) (hB.2.1 15 (7, 0, 8) rfl) ?_
  refine ab_alen (v := (300 : Int32)) (by decide +kernel) (hB.1 8 _ rfl) (by decide) (by decide) ?_
  refine ab_copy (ix := 28) (ln0 := 300) (ln1 := 300) (by decide +kernel) tw_615 tw_610 tw_609 tw_15 (hB.1 19 _ rfl) (hB.1 8 _ rfl) (by decide) (by decide) (by decide) (by decide) (by decide) (by decide) (Nat.le_of_ble_eq_true rfl) ?_
  refine ab_aload_n (z := 0) (by decide +kernel) rfl rfl ?_
  refine ab_aload_n (z := 1) (by decide +kernel) rfl rfl ?_
  refine gX2_3 (ix := 21) (by decide +kernel) tw_57 (hB.1 18 _ rfl) ?_
  refine ab_top (y := (I 18 3)) rfl ?_
  refine pX2_3 (ix := 21) (by decide +kernel) tw_57 (hB.1 7 _ rfl) ?_
  refine ab_aload_n (z := 0) (by decide +kernel) rfl rfl ?_
  refine ab_aload_n (z := 1) (by decide +kernel) rfl rfl ?_
  refine gX2_4 (ix := 25) (by decide +kernel) tw_58 (hB.1 18 _ rfl) ?_
  refine ab_top (y := (I 18 4)) rfl ?_
  refine pX2_4 (ix := 25) (by decide +kernel) tw_58 (hB.1 7 _ rfl) ?_
  obtain rfl := Option.some.inj H
  exact ab_vret (by decide +kernel) rfl (Nat.le_refl _) (Nat.le_refl _) K0
abbrev mX9_copyFrom : ab_M := (yX9_copyFrom, cX9_copyFrom, 2, none, 0, 0)
theorem kvX9_copyFrom {l : Launch} {G : ab_G} {M : ab_M} {d pc : Nat} {ls : List (Option Value)} {st : List Value} {S : ab_S} {I : ab_I} {J : ab_J} {P : ab_P} {Q : ab_Q} {v0 : Value} {ix D r ln : Nat} (hd : decode M.2.1 pc = .ok (.invokevirtual ix, 3)) (h1 : Cond.methodLink M.1.cls ix mX9_copyFrom.1 ∈ ab_good) (hs : S[r]? = some (14, ln)) (hdg : D + 1 ≤ d) (hsum : (st.map fun v => v.category).sum ≤ 8) (kk : ab_Call l G mX9_copyFrom D (.ref r :: [v0]) S I J P (fun v S' I' J' P' => ab_WP l G M d (pc + 3) ls (ab_psh v st) S' I' J' P' 0 0 Q)) : ab_WP l G M d pc ls (v0 :: .ref r :: st) S I J P 0 0 Q := bz_kv (g := mX9_copyFrom) (as := [v0]) (cc := 9) rfl hd h1 tw_605 tw_606 tw_3 tw_607 ⟨by decide +kernel, by decide +kernel, (by decide +kernel : (parseMethodDescriptor mX9_copyFrom.1.desc).map (fun d => d.parameters.length) = some 1)⟩ (by decide) rfl rfl rfl hdg hsum hs kk
def fX9_copyFrom (I : ab_I) : Option ab_I :=
  (fX2_copyFrom (ab_r (ab_r (ab_r I 4 (va_cpy (I 15) (I 4) (0 : Int32).toNatClampNeg (0 : Int32).toNatClampNeg (6 : Int32).toNatClampNeg)) 5 (va_cpy ((ab_r I 4 (va_cpy (I 15) (I 4) (0 : Int32).toNatClampNeg (0 : Int32).toNatClampNeg (6 : Int32).toNatClampNeg)) 16) ((ab_r I 4 (va_cpy (I 15) (I 4) (0 : Int32).toNatClampNeg (0 : Int32).toNatClampNeg (6 : Int32).toNatClampNeg)) 5) (0 : Int32).toNatClampNeg (0 : Int32).toNatClampNeg (5 : Int32).toNatClampNeg)) 6 (va_cpy ((ab_r (ab_r I 4 (va_cpy (I 15) (I 4) (0 : Int32).toNatClampNeg (0 : Int32).toNatClampNeg (6 : Int32).toNatClampNeg)) 5 (va_cpy ((ab_r I 4 (va_cpy (I 15) (I 4) (0 : Int32).toNatClampNeg (0 : Int32).toNatClampNeg (6 : Int32).toNatClampNeg)) 16) ((ab_r I 4 (va_cpy (I 15) (I 4) (0 : Int32).toNatClampNeg (0 : Int32).toNatClampNeg (6 : Int32).toNatClampNeg)) 5) (0 : Int32).toNatClampNeg (0 : Int32).toNatClampNeg (5 : Int32).toNatClampNeg)) 17) ((ab_r (ab_r I 4 (va_cpy (I 15) (I 4) (0 : Int32).toNatClampNeg (0 : Int32).toNatClampNeg (6 : Int32).toNatClampNeg)) 5 (va_cpy ((ab_r I 4 (va_cpy (I 15) (I 4) (0 : Int32).toNatClampNeg (0 : Int32).toNatClampNeg (6 : Int32).toNatClampNeg)) 16) ((ab_r I 4 (va_cpy (I 15) (I 4) (0 : Int32).toNatClampNeg (0 : Int32).toNatClampNeg (6 : Int32).toNatClampNeg)) 5) (0 : Int32).toNatClampNeg (0 : Int32).toNatClampNeg (5 : Int32).toNatClampNeg)) 6) (0 : Int32).toNatClampNeg (0 : Int32).toNatClampNeg (30 : Int32).toNatClampNeg))).bind fun u1 =>
  some (ab_u (ab_u (ab_u (ab_u (ab_u (ab_u u1 3 4 (u1 14 4)) 3 5 (u1 14 5)) 3 6 (u1 14 6)) 3 7 (u1 14 7)) 3 8 (u1 14 8)) 3 9 (u1 14 9))
set_option maxRecDepth 100000 in
theorem mX9_copyFrom_ok {l : Launch} {G : ab_G} {S : ab_S} {I : ab_I} {J : ab_J} {P : ab_P} {Q : ab_Q} (hB : bz_B S P) {x : ab_I} (H : fX9_copyFrom I = some x) (K0 : Q none S x J P) : ab_Call l G mX9_copyFrom 2 [.ref 3, .ref 14] S I J P Q := by
  unfold fX9_copyFrom at H
  refine ab_enter rfl (Nat.le_of_ble_eq_true rfl) (ab_wk (ls' := [some (.ref 3), some (.ref 14)]) (ab_le_some (ab_le_some (ab_le_nil))) ?_)
  refine ab_aload_n (z := 1) (by decide +kernel) rfl rfl ?_
  refine gX9_0 (ix := 9) (by decide +kernel) tw_73 (hB.1 14 _ rfl) (hB.2.1 22 (14, 0, 15) rfl) ?_
  refine ab_iconst (z := 0) (v := (0 : Int32)) (by decide +kernel) (by decide) ?_
  refine ab_aload_n (z := 0) (by decide +kernel) rfl rfl ?_
  refine gX9_0 (ix := 9) (by decide +kernel) tw_73 (hB.1 3 _ rfl) (hB.2.1 11 (3, 0, 4) rfl) ?_
  refine ab_iconst (z := 0) (v := (0 : Int32)) (by decide +kernel) (by decide) ?_
  refine ab_aload_n (z := 0) (by decide +kernel) rfl rfl ?_
  refine gX9_0 (ix := 9) (by decide +kernel) tw_73 (hB.1 3 _ rfl) (hB.2.1 11 (3, 0, 4) rfl) ?_
  refine ab_alen (v := (6 : Int32)) (by decide +kernel) (hB.1 4 _ rfl) (by decide) (by decide) ?_
  refine ab_copy (ix := 56) (ln0 := 6) (ln1 := 6) (by decide +kernel) tw_608 tw_610 tw_609 tw_15 (hB.1 15 _ rfl) (hB.1 4 _ rfl) (by decide) (by decide) (by decide) (by decide) (by decide) (by decide) (Nat.le_of_ble_eq_true rfl) ?_
  refine ab_aload_n (z := 1) (by decide +kernel) rfl rfl ?_
  refine gX9_1 (ix := 15) (by decide +kernel) tw_75 (hB.1 14 _ rfl) (hB.2.1 23 (14, 1, 16) rfl) ?_
  refine ab_iconst (z := 0) (v := (0 : Int32)) (by decide +kernel) (by decide) ?_
  refine ab_aload_n (z := 0) (by decide +kernel) rfl rfl ?_
  refine gX9_1 (ix := 15) (by decide +kernel) tw_75 (hB.1 3 _ rfl) (hB.2.1 12 (3, 1, 5) rfl) ?_
  refine ab_iconst (z := 0) (v := (0 : Int32)) (by decide +kernel) (by decide) ?_
  refine ab_aload_n (z := 0) (by decide +kernel) rfl rfl ?_
  refine gX9_1 (ix := 15) (by decide +kernel) tw_75 (hB.1 3 _ rfl) (hB.2.1 12 (3, 1, 5) rfl) ?_
  refine ab_alen (v := (5 : Int32)) (by decide +kernel) (hB.1 5 _ rfl) (by decide) (by decide) ?_
  refine ab_copy (ix := 56) (ln0 := 5) (ln1 := 5) (by decide +kernel) tw_608 tw_610 tw_609 tw_15 (hB.1 16 _ rfl) (hB.1 5 _ rfl) (by decide) (by decide) (by decide) (by decide) (by decide) (by decide) (Nat.le_of_ble_eq_true rfl) ?_
  refine ab_aload_n (z := 1) (by decide +kernel) rfl rfl ?_
  refine gX9_2 (ix := 18) (by decide +kernel) tw_79 (hB.1 14 _ rfl) (hB.2.1 24 (14, 2, 17) rfl) ?_
  refine ab_iconst (z := 0) (v := (0 : Int32)) (by decide +kernel) (by decide) ?_
  refine ab_aload_n (z := 0) (by decide +kernel) rfl rfl ?_
  refine gX9_2 (ix := 18) (by decide +kernel) tw_79 (hB.1 3 _ rfl) (hB.2.1 13 (3, 2, 6) rfl) ?_
  refine ab_iconst (z := 0) (v := (0 : Int32)) (by decide +kernel) (by decide) ?_
  refine ab_aload_n (z := 0) (by decide +kernel) rfl rfl ?_
  refine gX9_2 (ix := 18) (by decide +kernel) tw_79 (hB.1 3 _ rfl) (hB.2.1 13 (3, 2, 6) rfl) ?_
  refine ab_alen (v := (30 : Int32)) (by decide +kernel) (hB.1 6 _ rfl) (by decide) (by decide) ?_
  refine ab_copy (ix := 56) (ln0 := 30) (ln1 := 30) (by decide +kernel) tw_608 tw_610 tw_609 tw_15 (hB.1 17 _ rfl) (hB.1 6 _ rfl) (by decide) (by decide) (by decide) (by decide) (by decide) (by decide) (Nat.le_of_ble_eq_true rfl) ?_
  refine ab_aload_n (z := 0) (by decide +kernel) rfl rfl ?_
  refine gX9_3 (ix := 24) (by decide +kernel) tw_81 (hB.1 3 _ rfl) (hB.2.1 14 (3, 3, 7) rfl) ?_
  refine ab_aload_n (z := 1) (by decide +kernel) rfl rfl ?_
  refine gX9_3 (ix := 24) (by decide +kernel) tw_81 (hB.1 14 _ rfl) (hB.2.1 25 (14, 3, 18) rfl) ?_
  obtain ⟨u1, hu1, H⟩ := ab_bd_of H
  refine kvX2_copyFrom (D := 1) (ix := 62) (by decide +kernel) tw_611 (hB.1 7 _ rfl) (by decide) (Nat.le_of_ble_eq_true rfl) (mX2_copyFrom_ok hB hu1 ?_)
  change ab_WP l G mX9_copyFrom 2 65 [some (.ref 3), some (.ref 14)] [] S u1 J P 0 0 Q
  refine ab_aload_n (z := 0) (by decide +kernel) rfl rfl ?_
  refine ab_aload_n (z := 1) (by decide +kernel) rfl rfl ?_
  refine gX9_4 (ix := 28) (by decide +kernel) tw_85 (hB.1 14 _ rfl) ?_
  refine pX9_4 (ix := 28) (by decide +kernel) tw_85 (hB.1 3 _ rfl) ?_
  refine ab_aload_n (z := 0) (by decide +kernel) rfl rfl ?_
  refine ab_aload_n (z := 1) (by decide +kernel) rfl rfl ?_
  refine gX9_5 (ix := 32) (by decide +kernel) tw_92 (hB.1 14 _ rfl) ?_
  refine ab_top (y := (u1 14 5)) rfl ?_
  refine pX9_5 (ix := 32) (by decide +kernel) tw_92 (hB.1 3 _ rfl) ?_
  refine ab_aload_n (z := 0) (by decide +kernel) rfl rfl ?_
  refine ab_aload_n (z := 1) (by decide +kernel) rfl rfl ?_
  refine gX9_6 (ix := 35) (by decide +kernel) tw_99 (hB.1 14 _ rfl) ?_
  refine ab_top (y := (u1 14 6)) rfl ?_
  refine pX9_6 (ix := 35) (by decide +kernel) tw_99 (hB.1 3 _ rfl) ?_
  refine ab_aload_n (z := 0) (by decide +kernel) rfl rfl ?_
  refine ab_aload_n (z := 1) (by decide +kernel) rfl rfl ?_
  refine gX9_7 (ix := 38) (by decide +kernel) tw_103 (hB.1 14 _ rfl) ?_
  refine ab_top (y := (u1 14 7)) rfl ?_
  refine pX9_7 (ix := 38) (by decide +kernel) tw_103 (hB.1 3 _ rfl) ?_
  refine ab_aload_n (z := 0) (by decide +kernel) rfl rfl ?_
  refine ab_aload_n (z := 1) (by decide +kernel) rfl rfl ?_
  refine gX9_8 (ix := 41) (by decide +kernel) tw_106 (hB.1 14 _ rfl) ?_
  refine ab_top (y := (u1 14 8)) rfl ?_
  refine pX9_8 (ix := 41) (by decide +kernel) tw_106 (hB.1 3 _ rfl) ?_
  refine ab_aload_n (z := 0) (by decide +kernel) rfl rfl ?_
  refine ab_aload_n (z := 1) (by decide +kernel) rfl rfl ?_
  refine gX9_9 (ix := 44) (by decide +kernel) tw_110 (hB.1 14 _ rfl) ?_
  refine ab_top (y := (u1 14 9)) rfl ?_
  refine pX9_9 (ix := 44) (by decide +kernel) tw_110 (hB.1 3 _ rfl) ?_
  obtain rfl := Option.some.inj H
  exact ab_vret (by decide +kernel) rfl (Nat.le_refl _) (Nat.le_refl _) K0
abbrev mX9_begin : ab_M := (yX9_begin, cX9_begin, 2, none, 0, 0)
theorem kvX9_begin {l : Launch} {G : ab_G} {M : ab_M} {d pc : Nat} {ls : List (Option Value)} {st : List Value} {S : ab_S} {I : ab_I} {J : ab_J} {P : ab_P} {Q : ab_Q} {v0 : Value} {ix D r ln : Nat} (hd : decode M.2.1 pc = .ok (.invokevirtual ix, 3)) (h1 : Cond.methodLink M.1.cls ix mX9_begin.1 ∈ ab_good) (hs : S[r]? = some (14, ln)) (hdg : D + 1 ≤ d) (hsum : (st.map fun v => v.category).sum ≤ 8) (kk : ab_Call l G mX9_begin D (.ref r :: [v0]) S I J P (fun v S' I' J' P' => ab_WP l G M d (pc + 3) ls (ab_psh v st) S' I' J' P' 0 0 Q)) : ab_WP l G M d pc ls (v0 :: .ref r :: st) S I J P 0 0 Q := bz_kv (g := mX9_begin) (as := [v0]) (cc := 9) rfl hd h1 tw_617 tw_618 tw_3 tw_619 ⟨by decide +kernel, by decide +kernel, (by decide +kernel : (parseMethodDescriptor mX9_begin.1.desc).map (fun d => d.parameters.length) = some 1)⟩ (by decide) rfl rfl rfl hdg hsum hs kk
def fX9_begin (q1 : Nat) (I : ab_I) : Option ab_I :=
  (fJ7_fill_53178 (q1 + 2) 6 (0 : Int32) (ab_r (ab_r I (q1 + 1) (va_cpy (I 4) (I (q1 + 1)) (0 : Int32).toNatClampNeg (0 : Int32).toNatClampNeg (6 : Int32).toNatClampNeg)) (q1 + 3) (va_cpy ((ab_r I (q1 + 1) (va_cpy (I 4) (I (q1 + 1)) (0 : Int32).toNatClampNeg (0 : Int32).toNatClampNeg (6 : Int32).toNatClampNeg)) 6) ((ab_r I (q1 + 1) (va_cpy (I 4) (I (q1 + 1)) (0 : Int32).toNatClampNeg (0 : Int32).toNatClampNeg (6 : Int32).toNatClampNeg)) (q1 + 3)) (0 : Int32).toNatClampNeg (0 : Int32).toNatClampNeg (30 : Int32).toNatClampNeg))).bind fun u1 =>
  some (ab_u (ab_u (ab_u u1 q1 3 (((1 : Int32) <<< ((u1 3 4) &&& 31)) - (1 : Int32))) q1 4 (0 : Int32)) q1 5 ((ab_u (ab_u u1 q1 3 (((1 : Int32) <<< ((u1 3 4) &&& 31)) - (1 : Int32))) q1 4 (0 : Int32)) 3 9))
set_option maxRecDepth 100000 in
theorem mX9_begin_ok {l : Launch} {G : ab_G} {S : ab_S} {I : ab_I} {J : ab_J} {P : ab_P} {Q : ab_Q} {q1 : Nat} (hB : bz_B S P) (hq1 : bz_st S P q1) {x : ab_I} (H : fX9_begin q1 I = some x) (K0 : Q none S x J P) : ab_Call l G mX9_begin 1 [.ref 3, .ref q1] S I J P Q := by
  unfold fX9_begin at H
  refine ab_enter rfl (Nat.le_of_ble_eq_true rfl) (ab_wk (ls' := [some (.ref 3), some (.ref q1)]) (ab_le_some (ab_le_some (ab_le_nil))) ?_)
  refine ab_aload_n (z := 0) (by decide +kernel) rfl rfl ?_
  refine gX9_0 (ix := 9) (by decide +kernel) tw_73 (hB.1 3 _ rfl) (hB.2.1 11 (3, 0, 4) rfl) ?_
  refine ab_iconst (z := 0) (v := (0 : Int32)) (by decide +kernel) (by decide) ?_
  refine ab_aload_n (z := 1) (by decide +kernel) rfl rfl ?_
  refine gX6_0 (ix := 66) (by decide +kernel) tw_235 hq1.1 hq1.2.2.2.2.1 ?_
  refine ab_iconst (z := 0) (v := (0 : Int32)) (by decide +kernel) (by decide) ?_
  refine ab_aload_n (z := 0) (by decide +kernel) rfl rfl ?_
  refine gX9_0 (ix := 9) (by decide +kernel) tw_73 (hB.1 3 _ rfl) (hB.2.1 11 (3, 0, 4) rfl) ?_
  refine ab_alen (v := (6 : Int32)) (by decide +kernel) (hB.1 4 _ rfl) (by decide) (by decide) ?_
  refine ab_copy (ix := 56) (ln0 := 6) (ln1 := 6) (by decide +kernel) tw_608 tw_610 tw_609 tw_15 (hB.1 4 _ rfl) hq1.2.1 (by decide) (by decide) (by decide) (by decide) (by decide) (by decide) (Nat.le_of_ble_eq_true rfl) ?_
  refine ab_aload_n (z := 0) (by decide +kernel) rfl rfl ?_
  refine gX9_2 (ix := 18) (by decide +kernel) tw_79 (hB.1 3 _ rfl) (hB.2.1 13 (3, 2, 6) rfl) ?_
  refine ab_iconst (z := 0) (v := (0 : Int32)) (by decide +kernel) (by decide) ?_
  refine ab_aload_n (z := 1) (by decide +kernel) rfl rfl ?_
  refine gX6_2 (ix := 69) (by decide +kernel) tw_247 hq1.1 hq1.2.2.2.2.2.2 ?_
  refine ab_iconst (z := 0) (v := (0 : Int32)) (by decide +kernel) (by decide) ?_
  refine ab_aload_n (z := 0) (by decide +kernel) rfl rfl ?_
  refine gX9_2 (ix := 18) (by decide +kernel) tw_79 (hB.1 3 _ rfl) (hB.2.1 13 (3, 2, 6) rfl) ?_
  refine ab_alen (v := (30 : Int32)) (by decide +kernel) (hB.1 6 _ rfl) (by decide) (by decide) ?_
  refine ab_copy (ix := 56) (ln0 := 30) (ln1 := 30) (by decide +kernel) tw_608 tw_610 tw_609 tw_15 (hB.1 6 _ rfl) hq1.2.2.2.1 (by decide) (by decide) (by decide) (by decide) (by decide) (by decide) (Nat.le_of_ble_eq_true rfl) ?_
  refine ab_aload_n (z := 1) (by decide +kernel) rfl rfl ?_
  refine gX6_1 (ix := 70) (by decide +kernel) tw_241 hq1.1 hq1.2.2.2.2.2.1 ?_
  refine ab_iconst (z := 0) (v := (0 : Int32)) (by decide +kernel) (by decide) ?_
  obtain ⟨u1, hu1, H⟩ := ab_bd_of H
  refine ksJ7_fill_53178 (D := 0) (ix := 47) (by decide +kernel) tw_482 (by decide) (Nat.le_of_ble_eq_true rfl) (mJ7_fill_53178_ok hB hq1.2.2.1 hu1 ?_)
  change ab_WP l G mX9_begin 1 44 [some (.ref 3), some (.ref q1)] [] S u1 J P 0 0 Q
  refine ab_aload_n (z := 1) (by decide +kernel) rfl rfl ?_
  refine ab_iconst (z := 1) (v := (1 : Int32)) (by decide +kernel) (by decide) ?_
  refine ab_aload_n (z := 0) (by decide +kernel) rfl rfl ?_
  refine gX9_4 (ix := 28) (by decide +kernel) tw_85 (hB.1 3 _ rfl) ?_
  refine ab_ishl (by decide +kernel) ?_
  refine ab_iconst (z := 1) (v := (1 : Int32)) (by decide +kernel) (by decide) ?_
  refine ab_isub (by decide +kernel) ?_
  refine pX6_3 (ix := 73) (by decide +kernel) tw_255 hq1.1 ?_
  refine ab_aload_n (z := 1) (by decide +kernel) rfl rfl ?_
  refine ab_iconst (z := 0) (v := (0 : Int32)) (by decide +kernel) (by decide) ?_
  refine pX6_4 (ix := 76) (by decide +kernel) tw_261 hq1.1 ?_
  refine ab_aload_n (z := 1) (by decide +kernel) rfl rfl ?_
  refine ab_aload_n (z := 0) (by decide +kernel) rfl rfl ?_
  refine gX9_9 (ix := 44) (by decide +kernel) tw_110 (hB.1 3 _ rfl) ?_
  refine pX6_5 (ix := 79) (by decide +kernel) tw_266 hq1.1 ?_
  obtain rfl := Option.some.inj H
  exact ab_vret (by decide +kernel) rfl (Nat.le_refl _) (Nat.le_refl _) K0
abbrev mX0_forget : ab_M := (yX0_forget, cX0_forget, 1, none, 0, 0)
theorem kvX0_forget {l : Launch} {G : ab_G} {M : ab_M} {d pc : Nat} {ls : List (Option Value)} {st : List Value} {S : ab_S} {I : ab_I} {J : ab_J} {P : ab_P} {Q : ab_Q} {ix D r ln : Nat} (hd : decode M.2.1 pc = .ok (.invokevirtual ix, 3)) (h1 : Cond.methodLink M.1.cls ix mX0_forget.1 ∈ ab_good) (hs : S[r]? = some (5, ln)) (hdg : D + 1 ≤ d) (hsum : (st.map fun v => v.category).sum ≤ 8) (kk : ab_Call l G mX0_forget D (.ref r :: []) S I J P (fun v S' I' J' P' => ab_WP l G M d (pc + 3) ls (ab_psh v st) S' I' J' P' 0 0 Q)) : ab_WP l G M d pc ls (.ref r :: st) S I J P 0 0 Q := bz_kv (g := mX0_forget) (as := []) (cc := 0) rfl hd h1 tw_621 tw_622 tw_12 tw_623 ⟨by decide +kernel, by decide +kernel, (by decide +kernel : (parseMethodDescriptor mX0_forget.1.desc).map (fun d => d.parameters.length) = some 0)⟩ (by decide) rfl rfl rfl hdg hsum hs kk
def fX0_forget (I : ab_I) : Option ab_I :=
  some (ab_u (ab_u I 53 1 (0 : Int32)) 53 2 (0 : Int32))
set_option maxRecDepth 100000 in
theorem mX0_forget_ok {l : Launch} {G : ab_G} {S : ab_S} {I : ab_I} {J : ab_J} {P : ab_P} {Q : ab_Q} (hB : bz_B S P) {x : ab_I} (H : fX0_forget I = some x) (K0 : Q none S x J P) : ab_Call l G mX0_forget 0 [.ref 53] S I J P Q := by
  unfold fX0_forget at H
  refine ab_enter rfl (Nat.le_of_ble_eq_true rfl) (ab_wk (ls' := [some (.ref 53)]) (ab_le_some (ab_le_nil)) ?_)
  refine ab_aload_n (z := 0) (by decide +kernel) rfl rfl ?_
  refine ab_iconst (z := 0) (v := (0 : Int32)) (by decide +kernel) (by decide) ?_
  refine pX0_1 (ix := 17) (by decide +kernel) tw_395 (hB.1 53 _ rfl) ?_
  refine ab_aload_n (z := 0) (by decide +kernel) rfl rfl ?_
  refine ab_iconst (z := 0) (v := (0 : Int32)) (by decide +kernel) (by decide) ?_
  refine pX0_2 (ix := 21) (by decide +kernel) tw_397 (hB.1 53 _ rfl) ?_
  obtain rfl := Option.some.inj H
  exact ab_vret (by decide +kernel) rfl (Nat.le_refl _) (Nat.le_refl _) K0
abbrev mX10_forget : ab_M := (yX10_forget, cX10_forget, 1, none, 0, 0)
theorem kvX10_forget {l : Launch} {G : ab_G} {M : ab_M} {d pc : Nat} {ls : List (Option Value)} {st : List Value} {S : ab_S} {I : ab_I} {J : ab_J} {P : ab_P} {Q : ab_Q} {ix D r ln : Nat} (hd : decode M.2.1 pc = .ok (.invokevirtual ix, 3)) (h1 : Cond.methodLink M.1.cls ix mX10_forget.1 ∈ ab_good) (hs : S[r]? = some (15, ln)) (hdg : D + 1 ≤ d) (hsum : (st.map fun v => v.category).sum ≤ 8) (kk : ab_Call l G mX10_forget D (.ref r :: []) S I J P (fun v S' I' J' P' => ab_WP l G M d (pc + 3) ls (ab_psh v st) S' I' J' P' 0 0 Q)) : ab_WP l G M d pc ls (.ref r :: st) S I J P 0 0 Q := bz_kv (g := mX10_forget) (as := []) (cc := 10) rfl hd h1 tw_625 tw_626 tw_11 tw_627 ⟨by decide +kernel, by decide +kernel, (by decide +kernel : (parseMethodDescriptor mX10_forget.1.desc).map (fun d => d.parameters.length) = some 0)⟩ (by decide) rfl rfl rfl hdg hsum hs kk
def fX10_forget (I : ab_I) : Option ab_I :=
  some (ab_u I 41 10 (0 : Int32))
set_option maxRecDepth 100000 in
theorem mX10_forget_ok {l : Launch} {G : ab_G} {S : ab_S} {I : ab_I} {J : ab_J} {P : ab_P} {Q : ab_Q} (hB : bz_B S P) {x : ab_I} (H : fX10_forget I = some x) (K0 : Q none S x J P) : ab_Call l G mX10_forget 0 [.ref 41] S I J P Q := by
  unfold fX10_forget at H
  refine ab_enter rfl (Nat.le_of_ble_eq_true rfl) (ab_wk (ls' := [some (.ref 41)]) (ab_le_some (ab_le_nil)) ?_)
  refine ab_aload_n (z := 0) (by decide +kernel) rfl rfl ?_
  refine ab_iconst (z := 0) (v := (0 : Int32)) (by decide +kernel) (by decide) ?_
  refine pX10_10 (ix := 41) (by decide +kernel) tw_356 (hB.1 41 _ rfl) ?_
  obtain rfl := Option.some.inj H
  exact ab_vret (by decide +kernel) rfl (Nat.le_refl _) (Nat.le_refl _) K0
abbrev mX11_village : ab_M := (yX11_village, cX11_village, 2, some .int, 0, 0)
def fX11_village (I : ab_I) (J : ab_J) (P : ab_P) : Option (Int32 × ab_I × ab_J) :=
  (fX4_readsAll I J).bind fun u1 =>
  if u1.1 = 0 then
    some ((-1 : Int32), (ab_u (ab_u (ab_u u1.2.1 1 1 (0 : Int32)) 0 13 (u1.2.1 11 8)) 0 14 (u1.2.1 11 9)), u1.2.2)
  else
    (fX9_copyFrom (ab_u (ab_u (ab_u u1.2.1 1 1 (0 : Int32)) 0 13 (u1.2.1 11 8)) 0 14 (u1.2.1 11 9))).bind fun u2 =>
    (P 0 12).bind fun z3 =>
    (fX9_begin z3 u2).bind fun u4 =>
    (fX0_forget u4).bind fun u5 =>
    (fX10_forget u5).bind fun u6 =>
    some ((u6 3 4), (ab_u (ab_u u6 0 9 (0 : Int32)) 0 11 (0 : Int32)), u1.2.2)
set_option maxRecDepth 100000 in
theorem mX11_village_ok {l : Launch} {G : ab_G} {S : ab_S} {I : ab_I} {J : ab_J} {P : ab_P} {Q : ab_Q} (hB : bz_B S P) {x : Int32 × ab_I × ab_J} (H : fX11_village I J P = some x) (K0 : Q (some (.int x.1)) S x.2.1 x.2.2 P) : ab_Call l G mX11_village 129 [.ref 0] S I J P Q := by
  unfold fX11_village at H
  refine ab_enter rfl (Nat.le_of_ble_eq_true rfl) (ab_wk (ls' := [some (.ref 0), none]) (ab_le_some (ab_le_non0 ab_le_nil)) ?_)
  refine ab_aload_n (z := 0) (by decide +kernel) rfl rfl ?_
  refine gX11_2 (ix := 28) (by decide +kernel) tw_410 (hB.1 0 _ rfl) (hB.2.1 2 (0, 2, 11) rfl) ?_
  obtain ⟨u1, hu1, H⟩ := ab_bd_of H
  refine kvX4_readsAll (D := 128) (ix := 106) (by decide +kernel) tw_470 (hB.1 11 _ rfl) (by decide) (Nat.le_of_ble_eq_true rfl) (mX4_readsAll_ok hB hu1 ?_)
  change ab_WP l G mX11_village 129 7 [some (.ref 0), none] [.int u1.1] S u1.2.1 u1.2.2 P 0 0 Q
  refine ab_istore_n (z := 1) (by decide +kernel) rfl (by decide) rfl ?_
  refine ab_ls (ls' := [some (.ref 0), some (.int u1.1)]) rfl ?_
  refine ab_aload_n (z := 0) (by decide +kernel) rfl rfl ?_
  refine gX11_0 (ix := 12) (by decide +kernel) tw_408 (hB.1 0 _ rfl) (hB.2.1 0 (0, 0, 1) rfl) ?_
  refine ab_iconst (z := 0) (v := (0 : Int32)) (by decide +kernel) (by decide) ?_
  refine pX7_1 (ix := 99) (by decide +kernel) tw_34 (hB.1 1 _ rfl) ?_
  refine ab_aload_n (z := 0) (by decide +kernel) rfl rfl ?_
  refine ab_aload_n (z := 0) (by decide +kernel) rfl rfl ?_
  refine gX11_2 (ix := 28) (by decide +kernel) tw_410 (hB.1 0 _ rfl) (hB.2.1 2 (0, 2, 11) rfl) ?_
  refine gX4_8 (ix := 110) (by decide +kernel) tw_181 (hB.1 11 _ rfl) ?_
  refine ab_top (y := (u1.2.1 11 8)) rfl ?_
  refine pX11_13 (ix := 93) (by decide +kernel) tw_421 (hB.1 0 _ rfl) ?_
  refine ab_aload_n (z := 0) (by decide +kernel) rfl rfl ?_
  refine ab_aload_n (z := 0) (by decide +kernel) rfl rfl ?_
  refine gX11_2 (ix := 28) (by decide +kernel) tw_410 (hB.1 0 _ rfl) (hB.2.1 2 (0, 2, 11) rfl) ?_
  refine gX4_9 (ix := 111) (by decide +kernel) tw_183 (hB.1 11 _ rfl) ?_
  refine ab_top (y := (u1.2.1 11 9)) rfl ?_
  refine pX11_14 (ix := 96) (by decide +kernel) tw_422 (hB.1 0 _ rfl) ?_
  refine ab_iload_n (z := 1) (by decide +kernel) rfl rfl ?_
  refine ab_if_ne (off := 5) (tgt := 44) (by decide +kernel) rfl (fun hc => ?_) (fun hc => ?_)
  · replace H := ab_ifn H hc
    refine ab_aload_n (z := 0) (by decide +kernel) rfl rfl ?_
    refine gX11_1 (ix := 19) (by decide +kernel) tw_409 (hB.1 0 _ rfl) (hB.2.1 1 (0, 1, 3) rfl) ?_
    refine ab_aload_n (z := 0) (by decide +kernel) rfl rfl ?_
    refine gX11_2 (ix := 28) (by decide +kernel) tw_410 (hB.1 0 _ rfl) (hB.2.1 2 (0, 2, 11) rfl) ?_
    refine gX4_7 (ix := 112) (by decide +kernel) tw_179 (hB.1 11 _ rfl) (hB.2.1 21 (11, 7, 14) rfl) ?_
    obtain ⟨u2, hu2, H⟩ := ab_bd_of H
    refine kvX9_copyFrom (D := 2) (ix := 115) (by decide +kernel) tw_604 (hB.1 3 _ rfl) (by decide) (Nat.le_of_ble_eq_true rfl) (mX9_copyFrom_ok hB hu2 ?_)
    change ab_WP l G mX11_village 129 58 [some (.ref 0), some (.int u1.1)] [] S u2 u1.2.2 P 0 0 Q
    refine ab_aload_n (z := 0) (by decide +kernel) rfl rfl ?_
    refine gX11_1 (ix := 19) (by decide +kernel) tw_409 (hB.1 0 _ rfl) (hB.2.1 1 (0, 1, 3) rfl) ?_
    refine ab_aload_n (z := 0) (by decide +kernel) rfl rfl ?_
    obtain ⟨z3, hz3, H⟩ := ab_bd_of H
    refine gX11_12 (ix := 89) (by decide +kernel) tw_420 (hB.1 0 _ rfl) hz3 ?_
    have sz3 := hB.2.2.1 _ hz3
    obtain ⟨u4, hu4, H⟩ := ab_bd_of H
    refine kvX9_begin (D := 1) (ix := 118) (by decide +kernel) tw_616 (hB.1 3 _ rfl) (by decide) (Nat.le_of_ble_eq_true rfl) (mX9_begin_ok hB sz3 hu4 ?_)
    change ab_WP l G mX11_village 129 69 [some (.ref 0), some (.int u1.1)] [] S u4 u1.2.2 P 0 0 Q
    refine ab_aload_n (z := 0) (by decide +kernel) rfl rfl ?_
    refine gX11_7 (ix := 67) (by decide +kernel) tw_415 (hB.1 0 _ rfl) (hB.2.1 7 (0, 7, 53) rfl) ?_
    obtain ⟨u5, hu5, H⟩ := ab_bd_of H
    refine kvX0_forget (D := 0) (ix := 122) (by decide +kernel) tw_620 (hB.1 53 _ rfl) (by decide) (Nat.le_of_ble_eq_true rfl) (mX0_forget_ok hB hu5 ?_)
    change ab_WP l G mX11_village 129 76 [some (.ref 0), some (.int u1.1)] [] S u5 u1.2.2 P 0 0 Q
    refine ab_aload_n (z := 0) (by decide +kernel) rfl rfl ?_
    refine gX11_6 (ix := 60) (by decide +kernel) tw_414 (hB.1 0 _ rfl) (hB.2.1 6 (0, 6, 41) rfl) ?_
    obtain ⟨u6, hu6, H⟩ := ab_bd_of H
    refine kvX10_forget (D := 0) (ix := 125) (by decide +kernel) tw_624 (hB.1 41 _ rfl) (by decide) (Nat.le_of_ble_eq_true rfl) (mX10_forget_ok hB hu6 ?_)
    change ab_WP l G mX11_village 129 83 [some (.ref 0), some (.int u1.1)] [] S u6 u1.2.2 P 0 0 Q
    refine ab_aload_n (z := 0) (by decide +kernel) rfl rfl ?_
    refine ab_iconst (z := 0) (v := (0 : Int32)) (by decide +kernel) (by decide) ?_
    refine pX11_9 (ix := 75) (by decide +kernel) tw_417 (hB.1 0 _ rfl) ?_
    refine ab_aload_n (z := 0) (by decide +kernel) rfl rfl ?_
    refine ab_iconst (z := 0) (v := (0 : Int32)) (by decide +kernel) (by decide) ?_
    refine pX11_11 (ix := 85) (by decide +kernel) tw_419 (hB.1 0 _ rfl) ?_
    refine ab_aload_n (z := 0) (by decide +kernel) rfl rfl ?_
    refine gX11_1 (ix := 19) (by decide +kernel) tw_409 (hB.1 0 _ rfl) (hB.2.1 1 (0, 1, 3) rfl) ?_
    refine gX9_4 (ix := 126) (by decide +kernel) tw_88 (hB.1 3 _ rfl) ?_
    refine ab_top (y := (u6 3 4)) rfl ?_
    obtain rfl := Option.some.inj H
    exact ab_iret (by decide +kernel) rfl (Nat.le_refl _) (Nat.le_refl _) K0
  · replace H := ab_ifp H hc
    refine ab_iconst (z := -1) (v := (-1 : Int32)) (by decide +kernel) (by decide) ?_
    obtain rfl := Option.some.inj H
    exact ab_iret (by decide +kernel) rfl (Nat.le_refl _) (Nat.le_refl _) K0
