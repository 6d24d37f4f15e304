abbrev mX12_sign : ab_M := (yX12_sign, cX12_sign, 1, some .int, 0, 0)
theorem kvX12_sign {l : Launch} {G : ab_G} {M : ab_M} {d pc : Nat} {ls : List (Option Value)} {st : List Value} {S : ab_S} {I : ab_I} {J : ab_J} {P : ab_P} {Q : ab_Q} {ix D r ln : Nat} (hd : decode M.2.1 pc = .ok (.invokevirtual ix, 3)) (h1 : Cond.methodLink M.1.cls ix mX12_sign.1 ∈ ab_good) (hs : S[r]? = some (17, ln)) (hdg : D + 1 ≤ d) (hsum : (st.map fun v => v.category).sum ≤ 8) (kk : ab_Call l G mX12_sign D (.ref r :: []) S I J P (fun v S' I' J' P' => ab_WP l G M d (pc + 3) ls (ab_psh v st) S' I' J' P' 0 0 Q)) : ab_WP l G M d pc ls (.ref r :: st) S I J P 0 0 Q := bz_kv (g := mX12_sign) (as := []) (cc := 12) rfl hd h1 tw_1440 tw_p56 tw_13 tw_1441 ⟨by decide +kernel, by decide +kernel, (by decide +kernel : (parseMethodDescriptor mX12_sign.1.desc).map (fun d => d.parameters.length) = some 0)⟩ (by decide) rfl rfl rfl hdg hsum hs kk
def fX12_sign_106 (I : ab_I) (J : ab_J) (s0 : Int32) : Option Int32 :=
  some s0
set_option maxRecDepth 100000 in
theorem fX12_sign_106_ok {l : Launch} {G : ab_G} {S : ab_S} {I : ab_I} {J : ab_J} {P : ab_P} {Q : ab_Q} {s0 : Int32} (hB : bz_B S P) {x : Int32} (H : fX12_sign_106 I J s0 = some x) (K0 : Q (some (.int x)) S I J P) : ab_WP l G mX12_sign 1 106 [some (.ref 73)] [.int s0] S I J P 0 0 Q := by
  unfold fX12_sign_106 at H
  obtain rfl := Option.some.inj H
  exact ab_iret (by decide +kernel) rfl (Nat.le_refl _) (Nat.le_refl _) K0
def fX12_sign_98 (I : ab_I) (J : ab_J) : Option Int32 :=
  fX12_sign_106 I J (I 73 6)
set_option maxRecDepth 100000 in
theorem fX12_sign_98_ok {l : Launch} {G : ab_G} {S : ab_S} {I : ab_I} {J : ab_J} {P : ab_P} {Q : ab_Q} (hB : bz_B S P) {x : Int32} (H : fX12_sign_98 I J = some x) (K0 : Q (some (.int x)) S I J P) : ab_WP l G mX12_sign 1 98 [some (.ref 73)] [] S I J P 0 0 Q := by
  unfold fX12_sign_98 at H
  refine ab_aload_n (z := 0) (by decide +kernel) rfl rfl ?_
  refine gX12_6 (ix := 148) (by decide +kernel) tw_1087 (hB.1 73 _ rfl) ?_
  refine ab_goto (off := 4) (tgt := 106) (by decide +kernel) rfl ?_
  exact ab_wk (ab_le_some (ab_le_nil)) (fX12_sign_106_ok hB H  K0)
def fX12_sign (I : ab_I) (J : ab_J) : Option Int32 :=
  (fX12_isWord (6385252 : Int64) I J).bind fun u1 =>
  if u1 = 0 then
    (fX12_isWord (28530 : Int64) I J).bind fun u2 =>
    if u2 = 0 then
      if (I 73 6) = (60 : Int32) then
        fX12_sign_98 I J
      else
        if (I 73 6) = (62 : Int32) then
          fX12_sign_98 I J
        else
          if (I 73 6) = (61 : Int32) then
            fX12_sign_98 I J
          else
            if (I 73 6) = (43 : Int32) then
              fX12_sign_98 I J
            else
              if (I 73 6) = (45 : Int32) then
                fX12_sign_98 I J
              else
                if (I 73 6) = (42 : Int32) then
                  fX12_sign_98 I J
                else
                  if (I 73 6) = (47 : Int32) then
                    fX12_sign_98 I J
                  else
                    if (I 73 6) = (37 : Int32) then
                      fX12_sign_98 I J
                    else
                      fX12_sign_106 I J (0 : Int32)
    else
      some (124 : Int32)
  else
    some (38 : Int32)
set_option maxRecDepth 100000 in
theorem mX12_sign_ok {l : Launch} {G : ab_G} {S : ab_S} {I : ab_I} {J : ab_J} {P : ab_P} {Q : ab_Q} (hB : bz_B S P) {x : Int32} (H : fX12_sign I J = some x) (K0 : Q (some (.int x)) S I J P) : ab_Call l G mX12_sign 1 [.ref 73] S I J P Q := by
  unfold fX12_sign at H
  refine ab_enter rfl (Nat.le_of_ble_eq_true rfl) (ab_wk (ls' := [some (.ref 73)]) (ab_le_some (ab_le_nil)) ?_)
  refine ab_aload_n (z := 0) (by decide +kernel) rfl rfl ?_
  refine ab_ldc2 (ix := 188) (v := (6385252 : Int64)) (by decide +kernel) tw_1368 ?_
  obtain ⟨u1, hu1, H⟩ := ab_bd_of H
  refine kvX12_isWord (D := 0) (ix := 198) (by decide +kernel) tw_1337 (hB.1 73 _ rfl) (by decide) (Nat.le_of_ble_eq_true rfl) (mX12_isWord_ok hB hu1 ?_)
  change ab_WP l G mX12_sign 1 7 [some (.ref 73)] [.int u1] S I J P 0 0 Q
  refine ab_if_eq (off := 6) (tgt := 13) (by decide +kernel) rfl (fun hc => ?_) (fun hc => ?_)
  · replace H := ab_ifp H hc
    refine ab_aload_n (z := 0) (by decide +kernel) rfl rfl ?_
    refine ab_ldc2 (ix := 190) (v := (28530 : Int64)) (by decide +kernel) tw_1369 ?_
    obtain ⟨u2, hu2, H⟩ := ab_bd_of H
    refine kvX12_isWord (D := 0) (ix := 198) (by decide +kernel) tw_1337 (hB.1 73 _ rfl) (by decide) (Nat.le_of_ble_eq_true rfl) (mX12_isWord_ok hB hu2 ?_)
    change ab_WP l G mX12_sign 1 20 [some (.ref 73)] [.int u2] S I J P 0 0 Q
    refine ab_if_eq (off := 6) (tgt := 26) (by decide +kernel) rfl (fun hc => ?_) (fun hc => ?_)
    · replace H := ab_ifp H hc
      refine ab_aload_n (z := 0) (by decide +kernel) rfl rfl ?_
      refine gX12_6 (ix := 148) (by decide +kernel) tw_1087 (hB.1 73 _ rfl) ?_
      refine ab_bipush (z := 60) (v := (60 : Int32)) (by decide +kernel) (by decide) ?_
      refine ab_icmp_eq (off := 66) (tgt := 98) (by decide +kernel) rfl (fun hc => ?_) (fun hc => ?_)
      · replace H := ab_ifp H hc
        exact ab_wk (ab_le_some (ab_le_nil)) (fX12_sign_98_ok hB H  K0)
      · replace H := ab_ifn H hc
        refine ab_aload_n (z := 0) (by decide +kernel) rfl rfl ?_
        refine gX12_6 (ix := 148) (by decide +kernel) tw_1087 (hB.1 73 _ rfl) ?_
        refine ab_bipush (z := 62) (v := (62 : Int32)) (by decide +kernel) (by decide) ?_
        refine ab_icmp_eq (off := 57) (tgt := 98) (by decide +kernel) rfl (fun hc => ?_) (fun hc => ?_)
        · replace H := ab_ifp H hc
          exact ab_wk (ab_le_some (ab_le_nil)) (fX12_sign_98_ok hB H  K0)
        · replace H := ab_ifn H hc
          refine ab_aload_n (z := 0) (by decide +kernel) rfl rfl ?_
          refine gX12_6 (ix := 148) (by decide +kernel) tw_1087 (hB.1 73 _ rfl) ?_
          refine ab_bipush (z := 61) (v := (61 : Int32)) (by decide +kernel) (by decide) ?_
          refine ab_icmp_eq (off := 48) (tgt := 98) (by decide +kernel) rfl (fun hc => ?_) (fun hc => ?_)
          · replace H := ab_ifp H hc
            exact ab_wk (ab_le_some (ab_le_nil)) (fX12_sign_98_ok hB H  K0)
          · replace H := ab_ifn H hc
            refine ab_aload_n (z := 0) (by decide +kernel) rfl rfl ?_
            refine gX12_6 (ix := 148) (by decide +kernel) tw_1087 (hB.1 73 _ rfl) ?_
            refine ab_bipush (z := 43) (v := (43 : Int32)) (by decide +kernel) (by decide) ?_
            refine ab_icmp_eq (off := 39) (tgt := 98) (by decide +kernel) rfl (fun hc => ?_) (fun hc => ?_)
            · replace H := ab_ifp H hc
              exact ab_wk (ab_le_some (ab_le_nil)) (fX12_sign_98_ok hB H  K0)
            · replace H := ab_ifn H hc
              refine ab_aload_n (z := 0) (by decide +kernel) rfl rfl ?_
              refine gX12_6 (ix := 148) (by decide +kernel) tw_1087 (hB.1 73 _ rfl) ?_
              refine ab_bipush (z := 45) (v := (45 : Int32)) (by decide +kernel) (by decide) ?_
              refine ab_icmp_eq (off := 30) (tgt := 98) (by decide +kernel) rfl (fun hc => ?_) (fun hc => ?_)
              · replace H := ab_ifp H hc
                exact ab_wk (ab_le_some (ab_le_nil)) (fX12_sign_98_ok hB H  K0)
              · replace H := ab_ifn H hc
                refine ab_aload_n (z := 0) (by decide +kernel) rfl rfl ?_
                refine gX12_6 (ix := 148) (by decide +kernel) tw_1087 (hB.1 73 _ rfl) ?_
                refine ab_bipush (z := 42) (v := (42 : Int32)) (by decide +kernel) (by decide) ?_
                refine ab_icmp_eq (off := 21) (tgt := 98) (by decide +kernel) rfl (fun hc => ?_) (fun hc => ?_)
                · replace H := ab_ifp H hc
                  exact ab_wk (ab_le_some (ab_le_nil)) (fX12_sign_98_ok hB H  K0)
                · replace H := ab_ifn H hc
                  refine ab_aload_n (z := 0) (by decide +kernel) rfl rfl ?_
                  refine gX12_6 (ix := 148) (by decide +kernel) tw_1087 (hB.1 73 _ rfl) ?_
                  refine ab_bipush (z := 47) (v := (47 : Int32)) (by decide +kernel) (by decide) ?_
                  refine ab_icmp_eq (off := 12) (tgt := 98) (by decide +kernel) rfl (fun hc => ?_) (fun hc => ?_)
                  · replace H := ab_ifp H hc
                    exact ab_wk (ab_le_some (ab_le_nil)) (fX12_sign_98_ok hB H  K0)
                  · replace H := ab_ifn H hc
                    refine ab_aload_n (z := 0) (by decide +kernel) rfl rfl ?_
                    refine gX12_6 (ix := 148) (by decide +kernel) tw_1087 (hB.1 73 _ rfl) ?_
                    refine ab_bipush (z := 37) (v := (37 : Int32)) (by decide +kernel) (by decide) ?_
                    refine ab_icmp_ne (off := 10) (tgt := 105) (by decide +kernel) rfl (fun hc => ?_) (fun hc => ?_)
                    · replace H := ab_ifn H hc
                      refine ab_iconst (z := 0) (v := (0 : Int32)) (by decide +kernel) (by decide) ?_
                      exact ab_wk (ab_le_some (ab_le_nil)) (fX12_sign_106_ok hB H  K0)
                    · replace H := ab_ifp H hc
                      exact ab_wk (ab_le_some (ab_le_nil)) (fX12_sign_98_ok hB H  K0)
    · replace H := ab_ifn H hc
      refine ab_bipush (z := 124) (v := (124 : Int32)) (by decide +kernel) (by decide) ?_
      obtain rfl := Option.some.inj H
      exact ab_iret (by decide +kernel) rfl (Nat.le_refl _) (Nat.le_refl _) K0
  · replace H := ab_ifn H hc
    refine ab_bipush (z := 38) (v := (38 : Int32)) (by decide +kernel) (by decide) ?_
    obtain rfl := Option.some.inj H
    exact ab_iret (by decide +kernel) rfl (Nat.le_refl _) (Nat.le_refl _) K0
abbrev mX12_hasBracket : ab_M := (yX12_hasBracket, cX12_hasBracket, 3, some .boolean, 0, 0)
theorem kvX12_hasBracket {l : Launch} {G : ab_G} {M : ab_M} {d pc : Nat} {ls : List (Option Value)} {st : List Value} {S : ab_S} {I : ab_I} {J : ab_J} {P : ab_P} {Q : ab_Q} {ix D r ln : Nat} (hd : decode M.2.1 pc = .ok (.invokevirtual ix, 3)) (h1 : Cond.methodLink M.1.cls ix mX12_hasBracket.1 ∈ ab_good) (hs : S[r]? = some (17, ln)) (hdg : D + 1 ≤ d) (hsum : (st.map fun v => v.category).sum ≤ 8) (kk : ab_Call l G mX12_hasBracket D (.ref r :: []) S I J P (fun v S' I' J' P' => ab_WP l G M d (pc + 3) ls (ab_psh v st) S' I' J' P' 0 0 Q)) : ab_WP l G M d pc ls (.ref r :: st) S I J P 0 0 Q := bz_kv (g := mX12_hasBracket) (as := []) (cc := 12) rfl hd h1 tw_1444 tw_p57 tw_13 tw_1445 ⟨by decide +kernel, by decide +kernel, (by decide +kernel : (parseMethodDescriptor mX12_hasBracket.1.desc).map (fun d => d.parameters.length) = some 0)⟩ (by decide) rfl rfl rfl hdg hsum hs kk
def fX12_hasBracket_39 (I : ab_I) (a1 : Int32) : Option Int32 :=
  ab_gd (a1 = 0 ∨ a1 = 1) (some a1)
set_option maxRecDepth 100000 in
theorem fX12_hasBracket_39_ok {l : Launch} {G : ab_G} {S : ab_S} {I : ab_I} {J : ab_J} {P : ab_P} {Q : ab_Q} {a1 : Int32} (hB : bz_B S P) {x : Int32} (H : fX12_hasBracket_39 I a1 = some x) (K0 : Q (some (.int x)) S I J P) : ab_WP l G mX12_hasBracket 0 39 [some (.ref 73), some (.int a1), none] [] S I J P 0 0 Q := by
  unfold fX12_hasBracket_39 at H
  refine ab_iload_n (z := 1) (by decide +kernel) rfl rfl ?_
  obtain ⟨hg, H⟩ := ab_gd_of H
  obtain rfl := Option.some.inj H
  exact ab_zret (by decide +kernel) rfl (Nat.le_refl _) (Nat.le_refl _) hg K0
def fX12_hasBracket_32 (I : ab_I) (a2 : Int32) (s0 : Int32) : Option ((Int32 × Int32) ⊕ Int32) :=
  some (.inl (s0, (a2 + (1 : Int32))))
set_option maxRecDepth 100000 in
theorem fX12_hasBracket_32_ok {l : Launch} {G : ab_G} {S : ab_S} {I : ab_I} {J : ab_J} {P : ab_P} {Q : ab_Q} {a2 : Int32} {s0 : Int32} (hB : bz_B S P) {x : ((Int32 × Int32) ⊕ Int32)} (H : fX12_hasBracket_32 I a2 s0 = some x) (K1 : ∀ s, x = (.inl s) → ab_WP l G mX12_hasBracket 0 4 [some (.ref 73), some (.int s.1), some (.int s.2)] [] S I J P 0 0 Q) (K0 : ∀ r, x = (.inr r) → Q (some (.int r)) S I J P) : ab_WP l G mX12_hasBracket 0 32 [some (.ref 73), none, some (.int a2)] [.int s0] S I J P 0 0 Q := by
  unfold fX12_hasBracket_32 at H
  refine ab_istore_n (z := 1) (by decide +kernel) rfl (by decide) rfl ?_
  refine ab_ls (ls' := [some (.ref 73), some (.int s0), some (.int a2)]) rfl ?_
  refine ab_iinc (i := 2) (z := 1) (v := (a2 + (1 : Int32))) (by decide +kernel) rfl rfl (by decide) rfl ?_
  refine ab_ls (ls' := [some (.ref 73), some (.int s0), some (.int (a2 + (1 : Int32)))]) rfl ?_
  refine ab_goto (off := -32) (tgt := 4) (by decide +kernel) rfl ?_
  exact ab_wk (ab_le_some (ab_le_some (ab_le_some (ab_le_nil)))) (K1 (s0, (a2 + (1 : Int32))) (Option.some.inj H).symm)
def fX12_hasBracket_27 (I : ab_I) (a2 : Int32) : Option ((Int32 × Int32) ⊕ Int32) :=
  fX12_hasBracket_32 I a2 (1 : Int32)
set_option maxRecDepth 100000 in
theorem fX12_hasBracket_27_ok {l : Launch} {G : ab_G} {S : ab_S} {I : ab_I} {J : ab_J} {P : ab_P} {Q : ab_Q} {a2 : Int32} (hB : bz_B S P) {x : ((Int32 × Int32) ⊕ Int32)} (H : fX12_hasBracket_27 I a2 = some x) (K1 : ∀ s, x = (.inl s) → ab_WP l G mX12_hasBracket 0 4 [some (.ref 73), some (.int s.1), some (.int s.2)] [] S I J P 0 0 Q) (K0 : ∀ r, x = (.inr r) → Q (some (.int r)) S I J P) : ab_WP l G mX12_hasBracket 0 27 [some (.ref 73), none, some (.int a2)] [] S I J P 0 0 Q := by
  unfold fX12_hasBracket_27 at H
  refine ab_iconst (z := 1) (v := (1 : Int32)) (by decide +kernel) (by decide) ?_
  refine ab_goto (off := 4) (tgt := 32) (by decide +kernel) rfl ?_
  exact ab_wk (ab_le_some (ab_le_none (ab_le_some (ab_le_nil)))) (fX12_hasBracket_32_ok hB H K1 K0)
def fX12_hasBracket_4 (I : ab_I) (a1 : Int32) (a2 : Int32) : Option ((Int32 × Int32) ⊕ Int32) :=
  if (I 73 19) ≤ a2 then
    (fX12_hasBracket_39 I a1).map .inr
  else
    if a1 = 0 then
      ab_gd (ab_ix a2 160 = true) (
        if (I 80 a2.toNatClampNeg) = (20 : Int32) then
          fX12_hasBracket_27 I a2
        else
          fX12_hasBracket_32 I a2 (0 : Int32)
      )
    else
      fX12_hasBracket_27 I a2
set_option maxRecDepth 100000 in
theorem fX12_hasBracket_4_ok {l : Launch} {G : ab_G} {S : ab_S} {I : ab_I} {J : ab_J} {P : ab_P} {Q : ab_Q} {a1 : Int32} {a2 : Int32} (hB : bz_B S P) {x : ((Int32 × Int32) ⊕ Int32)} (H : fX12_hasBracket_4 I a1 a2 = some x) (K1 : ∀ s, x = (.inl s) → ab_WP l G mX12_hasBracket 0 4 [some (.ref 73), some (.int s.1), some (.int s.2)] [] S I J P 0 0 Q) (K0 : ∀ r, x = (.inr r) → Q (some (.int r)) S I J P) : ab_WP l G mX12_hasBracket 0 4 [some (.ref 73), some (.int a1), some (.int a2)] [] S I J P 0 0 Q := by
  unfold fX12_hasBracket_4 at H
  refine ab_iload_n (z := 2) (by decide +kernel) rfl rfl ?_
  refine ab_aload_n (z := 0) (by decide +kernel) rfl rfl ?_
  refine gX12_19 (ix := 225) (by decide +kernel) tw_1100 (hB.1 73 _ rfl) ?_
  refine ab_icmp_ge (off := 30) (tgt := 39) (by decide +kernel) rfl (fun hc => ?_) (fun hc => ?_)
  · replace H := ab_ifp H hc
    obtain ⟨y1, Hy, hx⟩ := ab_mp_of H
    subst hx
    replace H := Hy
    exact ab_wk (ab_le_some (ab_le_some (ab_le_none (ab_le_nil)))) (fX12_hasBracket_39_ok hB H  (K0 _ rfl))
  · replace H := ab_ifn H hc
    refine ab_iload_n (z := 1) (by decide +kernel) rfl rfl ?_
    refine ab_if_ne (off := 14) (tgt := 27) (by decide +kernel) rfl (fun hc => ?_) (fun hc => ?_)
    · replace H := ab_ifn H hc
      exact ab_wk (ab_le_some (ab_le_none (ab_le_some (ab_le_nil)))) (fX12_hasBracket_27_ok hB H K1 K0)
    · replace H := ab_ifp H hc
      refine ab_aload_n (z := 0) (by decide +kernel) rfl rfl ?_
      refine gX12_15 (ix := 33) (by decide +kernel) tw_1096 (hB.1 73 _ rfl) (hB.2.1 85 (73, 15, 80) rfl) ?_
      refine ab_iload_n (z := 2) (by decide +kernel) rfl rfl ?_
      obtain ⟨hg, H⟩ := ab_gd_of H
      refine ab_iald (ln := 160) (by decide +kernel) (hB.1 80 _ rfl) (ab_ix_in hg) ?_
      refine ab_bipush (z := 20) (v := (20 : Int32)) (by decide +kernel) (by decide) ?_
      refine ab_icmp_ne (off := 7) (tgt := 31) (by decide +kernel) rfl (fun hc => ?_) (fun hc => ?_)
      · replace H := ab_ifn H hc
        refine ab_iconst (z := 0) (v := (0 : Int32)) (by decide +kernel) (by decide) ?_
        exact ab_wk (ab_le_some (ab_le_none (ab_le_some (ab_le_nil)))) (fX12_hasBracket_32_ok hB H K1 K0)
      · replace H := ab_ifp H hc
        exact ab_wk (ab_le_some (ab_le_none (ab_le_some (ab_le_nil)))) (fX12_hasBracket_27_ok hB H K1 K0)
def fX12_hasBracket (I : ab_I) : Option Int32 :=
  ab_it (fun s => fX12_hasBracket_4 I s.1 s.2) 5000 ((0 : Int32), (0 : Int32))
set_option maxRecDepth 100000 in
theorem mX12_hasBracket_ok {l : Launch} {G : ab_G} {S : ab_S} {I : ab_I} {J : ab_J} {P : ab_P} {Q : ab_Q} (hB : bz_B S P) {x : Int32} (H : fX12_hasBracket I = some x) (K0 : Q (some (.int x)) S I J P) : ab_Call l G mX12_hasBracket 0 [.ref 73] S I J P Q := by
  unfold fX12_hasBracket at H
  refine ab_enter rfl (Nat.le_of_ble_eq_true rfl) (ab_wk (ls' := [some (.ref 73), none, none]) (ab_le_some (ab_le_non0 (ab_le_non0 ab_le_nil))) ?_)
  refine ab_iconst (z := 0) (v := (0 : Int32)) (by decide +kernel) (by decide) ?_
  refine ab_istore_n (z := 1) (by decide +kernel) rfl (by decide) rfl ?_
  refine ab_ls (ls' := [some (.ref 73), some (.int (0 : Int32)), none]) rfl ?_
  refine ab_iconst (z := 0) (v := (0 : Int32)) (by decide +kernel) (by decide) ?_
  refine ab_istore_n (z := 2) (by decide +kernel) rfl (by decide) rfl ?_
  refine ab_ls (ls' := [some (.ref 73), some (.int (0 : Int32)), some (.int (0 : Int32))]) rfl ?_
  exact ab_wk (ab_le_some (ab_le_some (ab_le_some (ab_le_nil)))) (ab_iter (body := (fun s => fX12_hasBracket_4 I s.1 s.2)) (W := fun s => ab_WP l G mX12_hasBracket 0 4 [some (.ref 73), some (.int s.1), some (.int s.2)] [] S I J P 0 0 Q) (fun s y hb h1 h2 => fX12_hasBracket_4_ok hB hb h1 (fun r e => by have e2 := h2 _ e; subst e2; exact K0)) 5000 ((0 : Int32), (0 : Int32)) H)
abbrev mX12_formula : ab_M := (yX12_formula, cX12_formula, 3, none, 0, 0)
theorem kvX12_formula {l : Launch} {G : ab_G} {M : ab_M} {d pc : Nat} {ls : List (Option Value)} {st : List Value} {S : ab_S} {I : ab_I} {J : ab_J} {P : ab_P} {Q : ab_Q} {ix D r ln : Nat} (hd : decode M.2.1 pc = .ok (.invokevirtual ix, 3)) (h1 : Cond.methodLink M.1.cls ix mX12_formula.1 ∈ ab_good) (hs : S[r]? = some (17, ln)) (hdg : D + 1 ≤ d) (hsum : (st.map fun v => v.category).sum ≤ 8) (kk : ab_Call l G mX12_formula D (.ref r :: []) S I J P (fun v S' I' J' P' => ab_WP l G M d (pc + 3) ls (ab_psh v st) S' I' J' P' 0 0 Q)) : ab_WP l G M d pc ls (.ref r :: st) S I J P 0 0 Q := bz_kv (g := mX12_formula) (as := []) (cc := 12) rfl hd h1 tw_1405 tw_p48 tw_13 tw_1406 ⟨by decide +kernel, by decide +kernel, (by decide +kernel : (parseMethodDescriptor mX12_formula.1.desc).map (fun d => d.parameters.length) = some 0)⟩ (by decide) rfl rfl rfl hdg hsum hs kk
def fX12_formula_193 (I : ab_I) (J : ab_J) : Option (ab_I × ab_J) :=
  some (I, J)
set_option maxRecDepth 100000 in
theorem fX12_formula_193_ok {l : Launch} {G : ab_G} {S : ab_S} {I : ab_I} {J : ab_J} {P : ab_P} {Q : ab_Q} (hB : bz_B S P) {x : ab_I × ab_J} (H : fX12_formula_193 I J = some x) (K0 : Q none S x.1 x.2 P) : ab_WP l G mX12_formula 4 193 [some (.ref 73), none, none] [] S I J P 0 0 Q := by
  unfold fX12_formula_193 at H
  obtain rfl := Option.some.inj H
  exact ab_vret (by decide +kernel) rfl (Nat.le_refl _) (Nat.le_refl _) K0
def fX12_formula_159 (a1 : Int32) (I : ab_I) (J : ab_J) : Option ((Int32 × ab_I × ab_J) ⊕ (ab_I × ab_J)) :=
  some (.inl (a1, I, J))
set_option maxRecDepth 100000 in
theorem fX12_formula_159_ok {l : Launch} {G : ab_G} {S : ab_S} {I : ab_I} {J : ab_J} {P : ab_P} {Q : ab_Q} {a1 : Int32} (hB : bz_B S P) {x : ((Int32 × ab_I × ab_J) ⊕ (ab_I × ab_J))} (H : fX12_formula_159 a1 I J = some x) (K1 : ∀ s, x = (.inl s) → ab_WP l G mX12_formula 4 35 [some (.ref 73), some (.int s.1), none] [] S s.2.1 s.2.2 P 0 0 Q) (K0 : ∀ r, x = (.inr r) → Q none S r.1 r.2 P) : ab_WP l G mX12_formula 4 159 [some (.ref 73), some (.int a1), none] [] S I J P 0 0 Q := by
  unfold fX12_formula_159 at H
  refine ab_goto (off := -124) (tgt := 35) (by decide +kernel) rfl ?_
  exact ab_wk (ab_le_some (ab_le_some (ab_le_none (ab_le_nil)))) (K1 (a1, I, J) (Option.some.inj H).symm)
def fX12_formula_181 (I : ab_I) (J : ab_J) : Option (ab_I × ab_J) :=
  if (I 73 2) = 0 then
    (fX12_close (0 : Int32) I).bind fun u13 =>
    fX12_formula_193 u13 J
  else
    fX12_formula_193 I J
set_option maxRecDepth 100000 in
theorem fX12_formula_181_ok {l : Launch} {G : ab_G} {S : ab_S} {I : ab_I} {J : ab_J} {P : ab_P} {Q : ab_Q} (hB : bz_B S P) {x : ab_I × ab_J} (H : fX12_formula_181 I J = some x) (K0 : Q none S x.1 x.2 P) : ab_WP l G mX12_formula 4 181 [some (.ref 73), none, none] [] S I J P 0 0 Q := by
  unfold fX12_formula_181 at H
  refine ab_aload_n (z := 0) (by decide +kernel) rfl rfl ?_
  refine gX12_2 (ix := 161) (by decide +kernel) tw_1083 (hB.1 73 _ rfl) ?_
  refine ab_if_ne (off := 8) (tgt := 193) (by decide +kernel) rfl (fun hc => ?_) (fun hc => ?_)
  · replace H := ab_ifn H hc
    exact ab_wk (ab_le_some (ab_le_none (ab_le_none (ab_le_nil)))) (fX12_formula_193_ok hB H  K0)
  · replace H := ab_ifp H hc
    refine ab_aload_n (z := 0) (by decide +kernel) rfl rfl ?_
    refine ab_iconst (z := 0) (v := (0 : Int32)) (by decide +kernel) (by decide) ?_
    obtain ⟨u13, hu13, H⟩ := ab_bd_of H
    refine kvX12_close (D := 1) (ix := 273) (by decide +kernel) tw_1446 (hB.1 73 _ rfl) (by decide) (Nat.le_of_ble_eq_true rfl) (mX12_close_ok hB hu13 ?_)
    change ab_WP l G mX12_formula 4 193 [some (.ref 73), none, none] [] S u13 J P 0 0 Q
    exact ab_wk (ab_le_some (ab_le_none (ab_le_none (ab_le_nil)))) (fX12_formula_193_ok hB H  K0)
def fX12_formula_157 (I : ab_I) (J : ab_J) : Option ((Int32 × ab_I × ab_J) ⊕ (ab_I × ab_J)) :=
  fX12_formula_159 (0 : Int32) I J
set_option maxRecDepth 100000 in
theorem fX12_formula_157_ok {l : Launch} {G : ab_G} {S : ab_S} {I : ab_I} {J : ab_J} {P : ab_P} {Q : ab_Q} (hB : bz_B S P) {x : ((Int32 × ab_I × ab_J) ⊕ (ab_I × ab_J))} (H : fX12_formula_157 I J = some x) (K1 : ∀ s, x = (.inl s) → ab_WP l G mX12_formula 4 35 [some (.ref 73), some (.int s.1), none] [] S s.2.1 s.2.2 P 0 0 Q) (K0 : ∀ r, x = (.inr r) → Q none S r.1 r.2 P) : ab_WP l G mX12_formula 4 157 [some (.ref 73), none, none] [] S I J P 0 0 Q := by
  unfold fX12_formula_157 at H
  refine ab_iconst (z := 0) (v := (0 : Int32)) (by decide +kernel) (by decide) ?_
  refine ab_istore_n (z := 1) (by decide +kernel) rfl (by decide) rfl ?_
  refine ab_ls (ls' := [some (.ref 73), some (.int (0 : Int32)), none]) rfl ?_
  exact ab_wk (ab_le_some (ab_le_some (ab_le_none (ab_le_nil)))) (fX12_formula_159_ok hB H K1 K0)
def fX12_formula_118 (a1 : Int32) (a2 : Int32) (I : ab_I) (J : ab_J) : Option ((Int32 × ab_I × ab_J) ⊕ (ab_I × ab_J)) :=
  (fX12_tight a2).bind fun u14 =>
  (fX12_close u14 I).bind fun u15 =>
  ab_gd (ab_ix (u15 73 19) 160 = true) (
    (fX12_token (ab_u (ab_u u15 80 ((u15 73 19).toNatClampNeg) a2) 73 19 ((u15 73 19) + (1 : Int32))) J).bind fun u16 =>
    (fX12_unit u16.1 u16.2).bind fun u17 =>
    fX12_formula_159 a1 u17.1 u17.2
  )
set_option maxRecDepth 100000 in
theorem fX12_formula_118_ok {l : Launch} {G : ab_G} {S : ab_S} {I : ab_I} {J : ab_J} {P : ab_P} {Q : ab_Q} {a1 : Int32} {a2 : Int32} (hB : bz_B S P) {x : ((Int32 × ab_I × ab_J) ⊕ (ab_I × ab_J))} (H : fX12_formula_118 a1 a2 I J = some x) (K1 : ∀ s, x = (.inl s) → ab_WP l G mX12_formula 4 35 [some (.ref 73), some (.int s.1), none] [] S s.2.1 s.2.2 P 0 0 Q) (K0 : ∀ r, x = (.inr r) → Q none S r.1 r.2 P) : ab_WP l G mX12_formula 4 118 [some (.ref 73), some (.int a1), some (.int a2)] [] S I J P 0 0 Q := by
  unfold fX12_formula_118 at H
  refine ab_aload_n (z := 0) (by decide +kernel) rfl rfl ?_
  refine ab_iload_n (z := 2) (by decide +kernel) rfl rfl ?_
  obtain ⟨u14, hu14, H⟩ := ab_bd_of H
  refine ksX12_tight (D := 0) (ix := 228) (by decide +kernel) tw_1415 (by decide) (Nat.le_of_ble_eq_true rfl) (mX12_tight_ok hB hu14 ?_)
  change ab_WP l G mX12_formula 4 123 [some (.ref 73), some (.int a1), some (.int a2)] [.int u14, .ref 73] S I J P 0 0 Q
  obtain ⟨u15, hu15, H⟩ := ab_bd_of H
  refine kvX12_close (D := 1) (ix := 273) (by decide +kernel) tw_1446 (hB.1 73 _ rfl) (by decide) (Nat.le_of_ble_eq_true rfl) (mX12_close_ok hB hu15 ?_)
  change ab_WP l G mX12_formula 4 126 [some (.ref 73), some (.int a1), some (.int a2)] [] S u15 J P 0 0 Q
  refine ab_aload_n (z := 0) (by decide +kernel) rfl rfl ?_
  refine gX12_15 (ix := 33) (by decide +kernel) tw_1096 (hB.1 73 _ rfl) (hB.2.1 85 (73, 15, 80) rfl) ?_
  refine ab_aload_n (z := 0) (by decide +kernel) rfl rfl ?_
  refine gX12_19 (ix := 225) (by decide +kernel) tw_1100 (hB.1 73 _ rfl) ?_
  refine ab_iload_n (z := 2) (by decide +kernel) rfl rfl ?_
  obtain ⟨hg, H⟩ := ab_gd_of H
  refine ab_iast (ln := 160) (by decide +kernel) (hB.1 80 _ rfl) (ab_ix_in hg) ?_
  refine ab_aload_n (z := 0) (by decide +kernel) rfl rfl ?_
  refine ab_dup (by decide +kernel) rfl ?_
  refine gX12_19 (ix := 225) (by decide +kernel) tw_1100 (hB.1 73 _ rfl) ?_
  refine ab_top (y := (u15 73 19)) rfl ?_
  refine ab_iconst (z := 1) (v := (1 : Int32)) (by decide +kernel) (by decide) ?_
  refine ab_iadd (by decide +kernel) ?_
  refine pX12_19 (ix := 225) (by decide +kernel) tw_1100 (hB.1 73 _ rfl) ?_
  refine ab_aload_n (z := 0) (by decide +kernel) rfl rfl ?_
  obtain ⟨u16, hu16, H⟩ := ab_bd_of H
  refine kvX12_token (D := 1) (ix := 205) (by decide +kernel) tw_1315 (hB.1 73 _ rfl) (by decide) (Nat.le_of_ble_eq_true rfl) (mX12_token_ok hB hu16 ?_)
  change ab_WP l G mX12_formula 4 150 [some (.ref 73), some (.int a1), some (.int a2)] [] S u16.1 u16.2 P 0 0 Q
  refine ab_aload_n (z := 0) (by decide +kernel) rfl rfl ?_
  obtain ⟨u17, hu17, H⟩ := ab_bd_of H
  refine kvX12_unit (D := 3) (ix := 264) (by decide +kernel) tw_1407 (hB.1 73 _ rfl) (by decide) (Nat.le_of_ble_eq_true rfl) (mX12_unit_ok hB hu17 ?_)
  change ab_WP l G mX12_formula 4 154 [some (.ref 73), some (.int a1), some (.int a2)] [] S u17.1 u17.2 P 0 0 Q
  refine ab_goto (off := 5) (tgt := 159) (by decide +kernel) rfl ?_
  exact ab_wk (ab_le_some (ab_le_some (ab_le_none (ab_le_nil)))) (fX12_formula_159_ok hB H K1 K0)
def fX12_formula_162 (I : ab_I) (J : ab_J) : Option (ab_I × ab_J) :=
  if (I 73 2) = 0 then
    (fX12_hasBracket I).bind fun u9 =>
    if u9 = 0 then
      fX12_formula_181 I J
    else
      (fX12_wrong (2 : Int32) I).bind fun u10 =>
      fX12_formula_181 u10 J
  else
    fX12_formula_181 I J
set_option maxRecDepth 100000 in
theorem fX12_formula_162_ok {l : Launch} {G : ab_G} {S : ab_S} {I : ab_I} {J : ab_J} {P : ab_P} {Q : ab_Q} (hB : bz_B S P) {x : ab_I × ab_J} (H : fX12_formula_162 I J = some x) (K0 : Q none S x.1 x.2 P) : ab_WP l G mX12_formula 4 162 [some (.ref 73), none, none] [] S I J P 0 0 Q := by
  unfold fX12_formula_162 at H
  refine ab_aload_n (z := 0) (by decide +kernel) rfl rfl ?_
  refine gX12_2 (ix := 161) (by decide +kernel) tw_1083 (hB.1 73 _ rfl) ?_
  refine ab_if_ne (off := 15) (tgt := 181) (by decide +kernel) rfl (fun hc => ?_) (fun hc => ?_)
  · replace H := ab_ifn H hc
    exact ab_wk (ab_le_some (ab_le_none (ab_le_none (ab_le_nil)))) (fX12_formula_181_ok hB H  K0)
  · replace H := ab_ifp H hc
    refine ab_aload_n (z := 0) (by decide +kernel) rfl rfl ?_
    obtain ⟨u9, hu9, H⟩ := ab_bd_of H
    refine kvX12_hasBracket (D := 0) (ix := 270) (by decide +kernel) tw_1442 (hB.1 73 _ rfl) (by decide) (Nat.le_of_ble_eq_true rfl) (mX12_hasBracket_ok hB hu9 ?_)
    change ab_WP l G mX12_formula 4 173 [some (.ref 73), none, none] [.int u9] S I J P 0 0 Q
    refine ab_if_eq (off := 8) (tgt := 181) (by decide +kernel) rfl (fun hc => ?_) (fun hc => ?_)
    · replace H := ab_ifp H hc
      exact ab_wk (ab_le_some (ab_le_none (ab_le_none (ab_le_nil)))) (fX12_formula_181_ok hB H  K0)
    · replace H := ab_ifn H hc
      refine ab_aload_n (z := 0) (by decide +kernel) rfl rfl ?_
      refine ab_iconst (z := 2) (v := (2 : Int32)) (by decide +kernel) (by decide) ?_
      obtain ⟨u10, hu10, H⟩ := ab_bd_of H
      refine kvX12_wrong (D := 0) (ix := 202) (by decide +kernel) tw_1371 (hB.1 73 _ rfl) (by decide) (Nat.le_of_ble_eq_true rfl) (mX12_wrong_ok hB hu10 ?_)
      change ab_WP l G mX12_formula 4 181 [some (.ref 73), none, none] [] S u10 J P 0 0 Q
      exact ab_wk (ab_le_some (ab_le_none (ab_le_none (ab_le_nil)))) (fX12_formula_181_ok hB H  K0)
def fX12_formula_99 (a1 : Int32) (a2 : Int32) (I : ab_I) (J : ab_J) : Option ((Int32 × ab_I × ab_J) ⊕ (ab_I × ab_J)) :=
  if a2 = 0 then
    fX12_formula_157 I J
  else
    (fX12_tight a2).bind fun u11 =>
    if u11 = (4 : Int32) then
      (fX12_hasRelation I).bind fun u12 =>
      if u12 = 0 then
        fX12_formula_118 a1 a2 I J
      else
        fX12_formula_157 I J
    else
      fX12_formula_118 a1 a2 I J
set_option maxRecDepth 100000 in
theorem fX12_formula_99_ok {l : Launch} {G : ab_G} {S : ab_S} {I : ab_I} {J : ab_J} {P : ab_P} {Q : ab_Q} {a1 : Int32} {a2 : Int32} (hB : bz_B S P) {x : ((Int32 × ab_I × ab_J) ⊕ (ab_I × ab_J))} (H : fX12_formula_99 a1 a2 I J = some x) (K1 : ∀ s, x = (.inl s) → ab_WP l G mX12_formula 4 35 [some (.ref 73), some (.int s.1), none] [] S s.2.1 s.2.2 P 0 0 Q) (K0 : ∀ r, x = (.inr r) → Q none S r.1 r.2 P) : ab_WP l G mX12_formula 4 99 [some (.ref 73), some (.int a1), some (.int a2)] [] S I J P 0 0 Q := by
  unfold fX12_formula_99 at H
  refine ab_iload_n (z := 2) (by decide +kernel) rfl rfl ?_
  refine ab_if_eq (off := 57) (tgt := 157) (by decide +kernel) rfl (fun hc => ?_) (fun hc => ?_)
  · replace H := ab_ifp H hc
    exact ab_wk (ab_le_some (ab_le_none (ab_le_none (ab_le_nil)))) (fX12_formula_157_ok hB H K1 K0)
  · replace H := ab_ifn H hc
    refine ab_iload_n (z := 2) (by decide +kernel) rfl rfl ?_
    obtain ⟨u11, hu11, H⟩ := ab_bd_of H
    refine ksX12_tight (D := 0) (ix := 228) (by decide +kernel) tw_1415 (by decide) (Nat.le_of_ble_eq_true rfl) (mX12_tight_ok hB hu11 ?_)
    change ab_WP l G mX12_formula 4 107 [some (.ref 73), some (.int a1), some (.int a2)] [.int u11] S I J P 0 0 Q
    refine ab_iconst (z := 4) (v := (4 : Int32)) (by decide +kernel) (by decide) ?_
    refine ab_icmp_ne (off := 10) (tgt := 118) (by decide +kernel) rfl (fun hc => ?_) (fun hc => ?_)
    · replace H := ab_ifn H hc
      exact ab_wk (ab_le_some (ab_le_some (ab_le_some (ab_le_nil)))) (fX12_formula_118_ok hB H K1 K0)
    · replace H := ab_ifp H hc
      refine ab_aload_n (z := 0) (by decide +kernel) rfl rfl ?_
      obtain ⟨u12, hu12, H⟩ := ab_bd_of H
      refine kvX12_hasRelation (D := 1) (ix := 276) (by decide +kernel) tw_1450 (hB.1 73 _ rfl) (by decide) (Nat.le_of_ble_eq_true rfl) (mX12_hasRelation_ok hB hu12 ?_)
      change ab_WP l G mX12_formula 4 115 [some (.ref 73), some (.int a1), some (.int a2)] [.int u12] S I J P 0 0 Q
      refine ab_if_ne (off := 42) (tgt := 157) (by decide +kernel) rfl (fun hc => ?_) (fun hc => ?_)
      · replace H := ab_ifn H hc
        exact ab_wk (ab_le_some (ab_le_none (ab_le_none (ab_le_nil)))) (fX12_formula_157_ok hB H K1 K0)
      · replace H := ab_ifp H hc
        exact ab_wk (ab_le_some (ab_le_some (ab_le_some (ab_le_nil)))) (fX12_formula_118_ok hB H K1 K0)
def fX12_formula_35 (a1 : Int32) (I : ab_I) (J : ab_J) : Option ((Int32 × ab_I × ab_J) ⊕ (ab_I × ab_J)) :=
  if a1 = 0 then
    (fX12_formula_162 I J).map .inr
  else
    if (I 73 2) = 0 then
      (fX12_sign I J).bind fun u5 =>
      if (I 73 6) = (41 : Int32) then
        (fX12_hasBracket I).bind fun u6 =>
        if u6 = 0 then
          fX12_formula_99 a1 u5 I J
        else
          (fX12_close (0 : Int32) I).bind fun u7 =>
          (fX12_token (ab_u (ab_u u7 73 19 ((u7 73 19) - (1 : Int32))) 73 23 ((u7 73 23) - (1 : Int32))) J).bind fun u8 =>
          fX12_formula_159 a1 u8.1 u8.2
      else
        fX12_formula_99 a1 u5 I J
    else
      (fX12_formula_162 I J).map .inr
set_option maxRecDepth 100000 in
theorem fX12_formula_35_ok {l : Launch} {G : ab_G} {S : ab_S} {I : ab_I} {J : ab_J} {P : ab_P} {Q : ab_Q} {a1 : Int32} (hB : bz_B S P) {x : ((Int32 × ab_I × ab_J) ⊕ (ab_I × ab_J))} (H : fX12_formula_35 a1 I J = some x) (K1 : ∀ s, x = (.inl s) → ab_WP l G mX12_formula 4 35 [some (.ref 73), some (.int s.1), none] [] S s.2.1 s.2.2 P 0 0 Q) (K0 : ∀ r, x = (.inr r) → Q none S r.1 r.2 P) : ab_WP l G mX12_formula 4 35 [some (.ref 73), some (.int a1), none] [] S I J P 0 0 Q := by
  unfold fX12_formula_35 at H
  refine ab_iload_n (z := 1) (by decide +kernel) rfl rfl ?_
  refine ab_if_eq (off := 126) (tgt := 162) (by decide +kernel) rfl (fun hc => ?_) (fun hc => ?_)
  · replace H := ab_ifp H hc
    obtain ⟨y3, Hy, hx⟩ := ab_mp_of H
    subst hx
    replace H := Hy
    exact ab_wk (ab_le_some (ab_le_none (ab_le_none (ab_le_nil)))) (fX12_formula_162_ok hB H  (K0 _ rfl))
  · replace H := ab_ifn H hc
    refine ab_aload_n (z := 0) (by decide +kernel) rfl rfl ?_
    refine gX12_2 (ix := 161) (by decide +kernel) tw_1083 (hB.1 73 _ rfl) ?_
    refine ab_if_ne (off := 119) (tgt := 162) (by decide +kernel) rfl (fun hc => ?_) (fun hc => ?_)
    · replace H := ab_ifn H hc
      obtain ⟨y4, Hy, hx⟩ := ab_mp_of H
      subst hx
      replace H := Hy
      exact ab_wk (ab_le_some (ab_le_none (ab_le_none (ab_le_nil)))) (fX12_formula_162_ok hB H  (K0 _ rfl))
    · replace H := ab_ifp H hc
      refine ab_aload_n (z := 0) (by decide +kernel) rfl rfl ?_
      obtain ⟨u5, hu5, H⟩ := ab_bd_of H
      refine kvX12_sign (D := 1) (ix := 267) (by decide +kernel) tw_1438 (hB.1 73 _ rfl) (by decide) (Nat.le_of_ble_eq_true rfl) (mX12_sign_ok hB hu5 ?_)
      change ab_WP l G mX12_formula 4 50 [some (.ref 73), some (.int a1), none] [.int u5] S I J P 0 0 Q
      refine ab_istore_n (z := 2) (by decide +kernel) rfl (by decide) rfl ?_
      refine ab_ls (ls' := [some (.ref 73), some (.int a1), some (.int u5)]) rfl ?_
      refine ab_aload_n (z := 0) (by decide +kernel) rfl rfl ?_
      refine gX12_6 (ix := 148) (by decide +kernel) tw_1087 (hB.1 73 _ rfl) ?_
      refine ab_bipush (z := 41) (v := (41 : Int32)) (by decide +kernel) (by decide) ?_
      refine ab_icmp_ne (off := 42) (tgt := 99) (by decide +kernel) rfl (fun hc => ?_) (fun hc => ?_)
      · replace H := ab_ifn H hc
        exact ab_wk (ab_le_some (ab_le_some (ab_le_some (ab_le_nil)))) (fX12_formula_99_ok hB H K1 K0)
      · replace H := ab_ifp H hc
        refine ab_aload_n (z := 0) (by decide +kernel) rfl rfl ?_
        obtain ⟨u6, hu6, H⟩ := ab_bd_of H
        refine kvX12_hasBracket (D := 0) (ix := 270) (by decide +kernel) tw_1442 (hB.1 73 _ rfl) (by decide) (Nat.le_of_ble_eq_true rfl) (mX12_hasBracket_ok hB hu6 ?_)
        change ab_WP l G mX12_formula 4 64 [some (.ref 73), some (.int a1), some (.int u5)] [.int u6] S I J P 0 0 Q
        refine ab_if_eq (off := 35) (tgt := 99) (by decide +kernel) rfl (fun hc => ?_) (fun hc => ?_)
        · replace H := ab_ifp H hc
          exact ab_wk (ab_le_some (ab_le_some (ab_le_some (ab_le_nil)))) (fX12_formula_99_ok hB H K1 K0)
        · replace H := ab_ifn H hc
          refine ab_aload_n (z := 0) (by decide +kernel) rfl rfl ?_
          refine ab_iconst (z := 0) (v := (0 : Int32)) (by decide +kernel) (by decide) ?_
          obtain ⟨u7, hu7, H⟩ := ab_bd_of H
          refine kvX12_close (D := 1) (ix := 273) (by decide +kernel) tw_1446 (hB.1 73 _ rfl) (by decide) (Nat.le_of_ble_eq_true rfl) (mX12_close_ok hB hu7 ?_)
          change ab_WP l G mX12_formula 4 72 [some (.ref 73), some (.int a1), some (.int u5)] [] S u7 J P 0 0 Q
          refine ab_aload_n (z := 0) (by decide +kernel) rfl rfl ?_
          refine ab_dup (by decide +kernel) rfl ?_
          refine gX12_19 (ix := 225) (by decide +kernel) tw_1100 (hB.1 73 _ rfl) ?_
          refine ab_iconst (z := 1) (v := (1 : Int32)) (by decide +kernel) (by decide) ?_
          refine ab_isub (by decide +kernel) ?_
          refine pX12_19 (ix := 225) (by decide +kernel) tw_1100 (hB.1 73 _ rfl) ?_
          refine ab_aload_n (z := 0) (by decide +kernel) rfl rfl ?_
          refine ab_dup (by decide +kernel) rfl ?_
          refine gX12_23 (ix := 235) (by decide +kernel) tw_1104 (hB.1 73 _ rfl) ?_
          refine ab_top (y := (u7 73 23)) rfl ?_
          refine ab_iconst (z := 1) (v := (1 : Int32)) (by decide +kernel) (by decide) ?_
          refine ab_isub (by decide +kernel) ?_
          refine pX12_23 (ix := 235) (by decide +kernel) tw_1104 (hB.1 73 _ rfl) ?_
          refine ab_aload_n (z := 0) (by decide +kernel) rfl rfl ?_
          obtain ⟨u8, hu8, H⟩ := ab_bd_of H
          refine kvX12_token (D := 1) (ix := 205) (by decide +kernel) tw_1315 (hB.1 73 _ rfl) (by decide) (Nat.le_of_ble_eq_true rfl) (mX12_token_ok hB hu8 ?_)
          change ab_WP l G mX12_formula 4 96 [some (.ref 73), some (.int a1), some (.int u5)] [] S u8.1 u8.2 P 0 0 Q
          refine ab_goto (off := 63) (tgt := 159) (by decide +kernel) rfl ?_
          exact ab_wk (ab_le_some (ab_le_some (ab_le_none (ab_le_nil)))) (fX12_formula_159_ok hB H K1 K0)
def fX12_formula (I : ab_I) (J : ab_J) : Option (ab_I × ab_J) :=
  (fX12_token I J).bind fun u1 =>
  (fX12_unit (ab_u (ab_u (ab_u (ab_u (ab_u u1.1 73 24 (1 : Int32)) 73 17 (0 : Int32)) 73 19 (0 : Int32)) 73 23 (0 : Int32)) 73 22 (0 : Int32)) u1.2).bind fun u2 =>
  ab_it (fun s => fX12_formula_35 s.1 s.2.1 s.2.2) 5000 ((1 : Int32), u2.1, u2.2)
set_option maxRecDepth 100000 in
theorem mX12_formula_ok {l : Launch} {G : ab_G} {S : ab_S} {I : ab_I} {J : ab_J} {P : ab_P} {Q : ab_Q} (hB : bz_B S P) {x : ab_I × ab_J} (H : fX12_formula I J = some x) (K0 : Q none S x.1 x.2 P) : ab_Call l G mX12_formula 4 [.ref 73] S I J P Q := by
  unfold fX12_formula at H
  refine ab_enter rfl (Nat.le_of_ble_eq_true rfl) (ab_wk (ls' := [some (.ref 73), none, none]) (ab_le_some (ab_le_non0 (ab_le_non0 ab_le_nil))) ?_)
  refine ab_aload_n (z := 0) (by decide +kernel) rfl rfl ?_
  obtain ⟨u1, hu1, H⟩ := ab_bd_of H
  refine kvX12_token (D := 1) (ix := 205) (by decide +kernel) tw_1315 (hB.1 73 _ rfl) (by decide) (Nat.le_of_ble_eq_true rfl) (mX12_token_ok hB hu1 ?_)
  change ab_WP l G mX12_formula 4 4 [some (.ref 73), none, none] [] S u1.1 u1.2 P 0 0 Q
  refine ab_aload_n (z := 0) (by decide +kernel) rfl rfl ?_
  refine ab_iconst (z := 1) (v := (1 : Int32)) (by decide +kernel) (by decide) ?_
  refine pX12_24 (ix := 260) (by decide +kernel) tw_1105 (hB.1 73 _ rfl) (by decide) ?_
  refine ab_aload_n (z := 0) (by decide +kernel) rfl rfl ?_
  refine ab_iconst (z := 0) (v := (0 : Int32)) (by decide +kernel) (by decide) ?_
  refine pX12_17 (ix := 222) (by decide +kernel) tw_1098 (hB.1 73 _ rfl) ?_
  refine ab_aload_n (z := 0) (by decide +kernel) rfl rfl ?_
  refine ab_iconst (z := 0) (v := (0 : Int32)) (by decide +kernel) (by decide) ?_
  refine pX12_19 (ix := 225) (by decide +kernel) tw_1100 (hB.1 73 _ rfl) ?_
  refine ab_aload_n (z := 0) (by decide +kernel) rfl rfl ?_
  refine ab_iconst (z := 0) (v := (0 : Int32)) (by decide +kernel) (by decide) ?_
  refine pX12_23 (ix := 235) (by decide +kernel) tw_1104 (hB.1 73 _ rfl) ?_
  refine ab_aload_n (z := 0) (by decide +kernel) rfl rfl ?_
  refine ab_iconst (z := 0) (v := (0 : Int32)) (by decide +kernel) (by decide) ?_
  refine pX12_22 (ix := 241) (by decide +kernel) tw_1103 (hB.1 73 _ rfl) ?_
  refine ab_aload_n (z := 0) (by decide +kernel) rfl rfl ?_
  obtain ⟨u2, hu2, H⟩ := ab_bd_of H
  refine kvX12_unit (D := 3) (ix := 264) (by decide +kernel) tw_1407 (hB.1 73 _ rfl) (by decide) (Nat.le_of_ble_eq_true rfl) (mX12_unit_ok hB hu2 ?_)
  change ab_WP l G mX12_formula 4 33 [some (.ref 73), none, none] [] S u2.1 u2.2 P 0 0 Q
  refine ab_iconst (z := 1) (v := (1 : Int32)) (by decide +kernel) (by decide) ?_
  refine ab_istore_n (z := 1) (by decide +kernel) rfl (by decide) rfl ?_
  refine ab_ls (ls' := [some (.ref 73), some (.int (1 : Int32)), none]) rfl ?_
  exact ab_wk (ab_le_some (ab_le_some (ab_le_none (ab_le_nil)))) (ab_iter (body := (fun s => fX12_formula_35 s.1 s.2.1 s.2.2)) (W := fun s => ab_WP l G mX12_formula 4 35 [some (.ref 73), some (.int s.1), none] [] S s.2.1 s.2.2 P 0 0 Q) (fun s y hb h1 h2 => fX12_formula_35_ok hB hb h1 (fun r e => by have e2 := h2 _ e; subst e2; exact K0)) 5000 ((1 : Int32), u2.1, u2.2) H)
abbrev mX12_truth : ab_M := (yX12_truth, cX12_truth, 1, some .int, 0, 0)
theorem ksX12_truth {l : Launch} {G : ab_G} {M : ab_M} {d pc : Nat} {ls : List (Option Value)} {st : List Value} {S : ab_S} {I : ab_I} {J : ab_J} {P : ab_P} {Q : ab_Q} {v0 : Value} {ix D : Nat} (hd : decode M.2.1 pc = .ok (.invokestatic ix, 3)) (h1 : Cond.methodLink M.1.cls ix mX12_truth.1 ∈ ab_good) (hdg : D + 1 ≤ d) (hsum : (st.map fun v => v.category).sum ≤ 8) (kk : ab_Call l G mX12_truth D [v0] S I J P (fun v S' I' J' P' => ab_WP l G M d (pc + 3) ls (ab_psh v st) S' I' J' P' 0 0 Q)) : ab_WP l G M d pc ls (v0 :: st) S I J P 0 0 Q := bz_ks (g := mX12_truth) (as := [v0]) rfl hd h1 tw_1486 tw_13 tw_1487 ⟨by decide +kernel, by decide +kernel, (by decide +kernel : (parseMethodDescriptor mX12_truth.1.desc).map (fun d => d.parameters.length) = some 1)⟩ (by decide) rfl hdg hsum kk
def fX12_truth_9 (a0 : Int32) (s0 : Int32) : Option Int32 :=
  some s0
set_option maxRecDepth 100000 in
theorem fX12_truth_9_ok {l : Launch} {G : ab_G} {S : ab_S} {I : ab_I} {J : ab_J} {P : ab_P} {Q : ab_Q} {a0 : Int32} {s0 : Int32} (hB : bz_B S P) {x : Int32} (H : fX12_truth_9 a0 s0 = some x) (K0 : Q (some (.int x)) S I J P) : ab_WP l G mX12_truth 0 9 [some (.int a0)] [.int s0] S I J P 0 0 Q := by
  unfold fX12_truth_9 at H
  obtain rfl := Option.some.inj H
  exact ab_iret (by decide +kernel) rfl (Nat.le_refl _) (Nat.le_refl _) K0
def fX12_truth (a0 : Int32) : Option Int32 :=
  if a0 = 0 then
    fX12_truth_9 a0 (0 : Int32)
  else
    fX12_truth_9 a0 (1 : Int32)
set_option maxRecDepth 100000 in
theorem mX12_truth_ok {l : Launch} {G : ab_G} {S : ab_S} {I : ab_I} {J : ab_J} {P : ab_P} {Q : ab_Q} {a0 : Int32} (hB : bz_B S P) {x : Int32} (H : fX12_truth a0 = some x) (K0 : Q (some (.int x)) S I J P) : ab_Call l G mX12_truth 0 [.int a0] S I J P Q := by
  unfold fX12_truth at H
  refine ab_enter rfl (Nat.le_of_ble_eq_true rfl) (ab_wk (ls' := [some (.int a0)]) (ab_le_some (ab_le_nil)) ?_)
  refine ab_iload_n (z := 0) (by decide +kernel) rfl rfl ?_
  refine ab_if_eq (off := 7) (tgt := 8) (by decide +kernel) rfl (fun hc => ?_) (fun hc => ?_)
  · replace H := ab_ifp H hc
    refine ab_iconst (z := 0) (v := (0 : Int32)) (by decide +kernel) (by decide) ?_
    exact ab_wk (ab_le_some (ab_le_nil)) (fX12_truth_9_ok hB H  K0)
  · replace H := ab_ifn H hc
    refine ab_iconst (z := 1) (v := (1 : Int32)) (by decide +kernel) (by decide) ?_
    refine ab_goto (off := 4) (tgt := 9) (by decide +kernel) rfl ?_
    exact ab_wk (ab_le_some (ab_le_nil)) (fX12_truth_9_ok hB H  K0)
abbrev mX12_done : ab_M := (yX12_done, cX12_done, 3, some .int, 0, 0)
theorem ksX12_done {l : Launch} {G : ab_G} {M : ab_M} {d pc : Nat} {ls : List (Option Value)} {st : List Value} {S : ab_S} {I : ab_I} {J : ab_J} {P : ab_P} {Q : ab_Q} {v0 v1 v2 : Value} {ix D : Nat} (hd : decode M.2.1 pc = .ok (.invokestatic ix, 3)) (h1 : Cond.methodLink M.1.cls ix mX12_done.1 ∈ ab_good) (hdg : D + 1 ≤ d) (hsum : (st.map fun v => v.category).sum ≤ 8) (kk : ab_Call l G mX12_done D [v0, v1, v2] S I J P (fun v S' I' J' P' => ab_WP l G M d (pc + 3) ls (ab_psh v st) S' I' J' P' 0 0 Q)) : ab_WP l G M d pc ls (v2 :: v1 :: v0 :: st) S I J P 0 0 Q := bz_ks (g := mX12_done) (as := [v0, v1, v2]) rfl hd h1 tw_1516 tw_13 tw_1517 ⟨by decide +kernel, by decide +kernel, (by decide +kernel : (parseMethodDescriptor mX12_done.1.desc).map (fun d => d.parameters.length) = some 3)⟩ (by decide) rfl hdg hsum kk
def fX12_done_228 (a0 : Int32) (a1 : Int32) (a2 : Int32) (s0 : Int32) : Option Int32 :=
  (fX12_truth s0).bind fun u5 =>
  some u5
set_option maxRecDepth 100000 in
theorem fX12_done_228_ok {l : Launch} {G : ab_G} {S : ab_S} {I : ab_I} {J : ab_J} {P : ab_P} {Q : ab_Q} {a0 : Int32} {a1 : Int32} {a2 : Int32} {s0 : Int32} (hB : bz_B S P) {x : Int32} (H : fX12_done_228 a0 a1 a2 s0 = some x) (K0 : Q (some (.int x)) S I J P) : ab_WP l G mX12_done 1 228 [some (.int a0), some (.int a1), some (.int a2)] [.int s0] S I J P 0 0 Q := by
  unfold fX12_done_228 at H
  obtain ⟨u5, hu5, H⟩ := ab_bd_of H
  refine ksX12_truth (D := 0) (ix := 279) (by decide +kernel) tw_1485 (by decide) (Nat.le_of_ble_eq_true rfl) (mX12_truth_ok hB hu5 ?_)
  change ab_WP l G mX12_done 1 231 [some (.int a0), some (.int a1), some (.int a2)] [.int u5] S I J P 0 0 Q
  obtain rfl := Option.some.inj H
  exact ab_iret (by decide +kernel) rfl (Nat.le_refl _) (Nat.le_refl _) K0
def fX12_done_211 (a0 : Int32) (a1 : Int32) (a2 : Int32) (s0 : Int32) : Option Int32 :=
  (fX12_truth s0).bind fun u1 =>
  some u1
set_option maxRecDepth 100000 in
theorem fX12_done_211_ok {l : Launch} {G : ab_G} {S : ab_S} {I : ab_I} {J : ab_J} {P : ab_P} {Q : ab_Q} {a0 : Int32} {a1 : Int32} {a2 : Int32} {s0 : Int32} (hB : bz_B S P) {x : Int32} (H : fX12_done_211 a0 a1 a2 s0 = some x) (K0 : Q (some (.int x)) S I J P) : ab_WP l G mX12_done 1 211 [some (.int a0), some (.int a1), some (.int a2)] [.int s0] S I J P 0 0 Q := by
  unfold fX12_done_211 at H
  obtain ⟨u1, hu1, H⟩ := ab_bd_of H
  refine ksX12_truth (D := 0) (ix := 279) (by decide +kernel) tw_1485 (by decide) (Nat.le_of_ble_eq_true rfl) (mX12_truth_ok hB hu1 ?_)
  change ab_WP l G mX12_done 1 214 [some (.int a0), some (.int a1), some (.int a2)] [.int u1] S I J P 0 0 Q
  obtain rfl := Option.some.inj H
  exact ab_iret (by decide +kernel) rfl (Nat.le_refl _) (Nat.le_refl _) K0
def fX12_done_194 (a0 : Int32) (a1 : Int32) (a2 : Int32) (s0 : Int32) : Option Int32 :=
  (fX12_truth s0).bind fun u3 =>
  some u3
set_option maxRecDepth 100000 in
theorem fX12_done_194_ok {l : Launch} {G : ab_G} {S : ab_S} {I : ab_I} {J : ab_J} {P : ab_P} {Q : ab_Q} {a0 : Int32} {a1 : Int32} {a2 : Int32} {s0 : Int32} (hB : bz_B S P) {x : Int32} (H : fX12_done_194 a0 a1 a2 s0 = some x) (K0 : Q (some (.int x)) S I J P) : ab_WP l G mX12_done 1 194 [some (.int a0), some (.int a1), some (.int a2)] [.int s0] S I J P 0 0 Q := by
  unfold fX12_done_194 at H
  obtain ⟨u3, hu3, H⟩ := ab_bd_of H
  refine ksX12_truth (D := 0) (ix := 279) (by decide +kernel) tw_1485 (by decide) (Nat.le_of_ble_eq_true rfl) (mX12_truth_ok hB hu3 ?_)
  change ab_WP l G mX12_done 1 197 [some (.int a0), some (.int a1), some (.int a2)] [.int u3] S I J P 0 0 Q
  obtain rfl := Option.some.inj H
  exact ab_iret (by decide +kernel) rfl (Nat.le_refl _) (Nat.le_refl _) K0
def fX12_done_180 (a0 : Int32) (a1 : Int32) (a2 : Int32) (s0 : Int32) : Option Int32 :=
  (fX12_truth s0).bind fun u4 =>
  some u4
set_option maxRecDepth 100000 in
theorem fX12_done_180_ok {l : Launch} {G : ab_G} {S : ab_S} {I : ab_I} {J : ab_J} {P : ab_P} {Q : ab_Q} {a0 : Int32} {a1 : Int32} {a2 : Int32} {s0 : Int32} (hB : bz_B S P) {x : Int32} (H : fX12_done_180 a0 a1 a2 s0 = some x) (K0 : Q (some (.int x)) S I J P) : ab_WP l G mX12_done 1 180 [some (.int a0), some (.int a1), some (.int a2)] [.int s0] S I J P 0 0 Q := by
  unfold fX12_done_180 at H
  obtain ⟨u4, hu4, H⟩ := ab_bd_of H
  refine ksX12_truth (D := 0) (ix := 279) (by decide +kernel) tw_1485 (by decide) (Nat.le_of_ble_eq_true rfl) (mX12_truth_ok hB hu4 ?_)
  change ab_WP l G mX12_done 1 183 [some (.int a0), some (.int a1), some (.int a2)] [.int u4] S I J P 0 0 Q
  obtain rfl := Option.some.inj H
  exact ab_iret (by decide +kernel) rfl (Nat.le_refl _) (Nat.le_refl _) K0
def fX12_done_166 (a0 : Int32) (a1 : Int32) (a2 : Int32) (s0 : Int32) : Option Int32 :=
  (fX12_truth s0).bind fun u2 =>
  some u2
set_option maxRecDepth 100000 in
theorem fX12_done_166_ok {l : Launch} {G : ab_G} {S : ab_S} {I : ab_I} {J : ab_J} {P : ab_P} {Q : ab_Q} {a0 : Int32} {a1 : Int32} {a2 : Int32} {s0 : Int32} (hB : bz_B S P) {x : Int32} (H : fX12_done_166 a0 a1 a2 s0 = some x) (K0 : Q (some (.int x)) S I J P) : ab_WP l G mX12_done 1 166 [some (.int a0), some (.int a1), some (.int a2)] [.int s0] S I J P 0 0 Q := by
  unfold fX12_done_166 at H
  obtain ⟨u2, hu2, H⟩ := ab_bd_of H
  refine ksX12_truth (D := 0) (ix := 279) (by decide +kernel) tw_1485 (by decide) (Nat.le_of_ble_eq_true rfl) (mX12_truth_ok hB hu2 ?_)
  change ab_WP l G mX12_done 1 169 [some (.int a0), some (.int a1), some (.int a2)] [.int u2] S I J P 0 0 Q
  obtain rfl := Option.some.inj H
  exact ab_iret (by decide +kernel) rfl (Nat.le_refl _) (Nat.le_refl _) K0
def fX12_done_155 (a0 : Int32) (a1 : Int32) (a2 : Int32) (s0 : Int32) : Option Int32 :=
  some s0
set_option maxRecDepth 100000 in
theorem fX12_done_155_ok {l : Launch} {G : ab_G} {S : ab_S} {I : ab_I} {J : ab_J} {P : ab_P} {Q : ab_Q} {a0 : Int32} {a1 : Int32} {a2 : Int32} {s0 : Int32} (hB : bz_B S P) {x : Int32} (H : fX12_done_155 a0 a1 a2 s0 = some x) (K0 : Q (some (.int x)) S I J P) : ab_WP l G mX12_done 1 155 [some (.int a0), some (.int a1), some (.int a2)] [.int s0] S I J P 0 0 Q := by
  unfold fX12_done_155 at H
  obtain rfl := Option.some.inj H
  exact ab_iret (by decide +kernel) rfl (Nat.le_refl _) (Nat.le_refl _) K0
def fX12_done_143 (a0 : Int32) (a1 : Int32) (a2 : Int32) (s0 : Int32) : Option Int32 :=
  some s0
set_option maxRecDepth 100000 in
theorem fX12_done_143_ok {l : Launch} {G : ab_G} {S : ab_S} {I : ab_I} {J : ab_J} {P : ab_P} {Q : ab_Q} {a0 : Int32} {a1 : Int32} {a2 : Int32} {s0 : Int32} (hB : bz_B S P) {x : Int32} (H : fX12_done_143 a0 a1 a2 s0 = some x) (K0 : Q (some (.int x)) S I J P) : ab_WP l G mX12_done 1 143 [some (.int a0), some (.int a1), some (.int a2)] [.int s0] S I J P 0 0 Q := by
  unfold fX12_done_143 at H
  obtain rfl := Option.some.inj H
  exact ab_iret (by decide +kernel) rfl (Nat.le_refl _) (Nat.le_refl _) K0
def fX12_done_223 (a0 : Int32) (a1 : Int32) (a2 : Int32) : Option Int32 :=
  fX12_done_228 a0 a1 a2 (1 : Int32)
set_option maxRecDepth 100000 in
theorem fX12_done_223_ok {l : Launch} {G : ab_G} {S : ab_S} {I : ab_I} {J : ab_J} {P : ab_P} {Q : ab_Q} {a0 : Int32} {a1 : Int32} {a2 : Int32} (hB : bz_B S P) {x : Int32} (H : fX12_done_223 a0 a1 a2 = some x) (K0 : Q (some (.int x)) S I J P) : ab_WP l G mX12_done 1 223 [some (.int a0), some (.int a1), some (.int a2)] [] S I J P 0 0 Q := by
  unfold fX12_done_223 at H
  refine ab_iconst (z := 1) (v := (1 : Int32)) (by decide +kernel) (by decide) ?_
  refine ab_goto (off := 4) (tgt := 228) (by decide +kernel) rfl ?_
  exact ab_wk (ab_le_some (ab_le_some (ab_le_some (ab_le_nil)))) (fX12_done_228_ok hB H  K0)
def fX12_done_210 (a0 : Int32) (a1 : Int32) (a2 : Int32) : Option Int32 :=
  fX12_done_211 a0 a1 a2 (0 : Int32)
set_option maxRecDepth 100000 in
theorem fX12_done_210_ok {l : Launch} {G : ab_G} {S : ab_S} {I : ab_I} {J : ab_J} {P : ab_P} {Q : ab_Q} {a0 : Int32} {a1 : Int32} {a2 : Int32} (hB : bz_B S P) {x : Int32} (H : fX12_done_210 a0 a1 a2 = some x) (K0 : Q (some (.int x)) S I J P) : ab_WP l G mX12_done 1 210 [some (.int a0), some (.int a1), some (.int a2)] [] S I J P 0 0 Q := by
  unfold fX12_done_210 at H
  refine ab_iconst (z := 0) (v := (0 : Int32)) (by decide +kernel) (by decide) ?_
  exact ab_wk (ab_le_some (ab_le_some (ab_le_some (ab_le_nil)))) (fX12_done_211_ok hB H  K0)
def fX12_done (a0 : Int32) (a1 : Int32) (a2 : Int32) : Option Int32 :=
  if a0 = (37 : Int32) then
    if a2 = 0 then
      fX12_done_155 a0 a1 a2 (0 : Int32)
    else
      ab_gd (¬ a2 = 0) (
        fX12_done_155 a0 a1 a2 (a1 - a1 / a2 * a2)
      )
  else
    if a0 = (38 : Int32) then
      if a1 = 0 then
        fX12_done_210 a0 a1 a2
      else
        if a2 = 0 then
          fX12_done_210 a0 a1 a2
        else
          fX12_done_211 a0 a1 a2 (1 : Int32)
    else
      if a0 = (42 : Int32) then
        some (a1 * a2)
      else
        if a0 = (43 : Int32) then
          some (a1 + a2)
        else
          if a0 = (45 : Int32) then
            some (a1 - a2)
          else
            if a0 = (47 : Int32) then
              if a2 = 0 then
                fX12_done_143 a0 a1 a2 (0 : Int32)
              else
                ab_gd (¬ a2 = 0) (
                  fX12_done_143 a0 a1 a2 (a1 / a2)
                )
            else
              if a0 = (60 : Int32) then
                if a2 ≤ a1 then
                  fX12_done_166 a0 a1 a2 (0 : Int32)
                else
                  fX12_done_166 a0 a1 a2 (1 : Int32)
              else
                if a0 = (61 : Int32) then
                  if a1 = a2 then
                    fX12_done_194 a0 a1 a2 (1 : Int32)
                  else
                    fX12_done_194 a0 a1 a2 (0 : Int32)
                else
                  if a0 = (62 : Int32) then
                    if a1 ≤ a2 then
                      fX12_done_180 a0 a1 a2 (0 : Int32)
                    else
                      fX12_done_180 a0 a1 a2 (1 : Int32)
                  else
                    if a1 = 0 then
                      if a2 = 0 then
                        fX12_done_228 a0 a1 a2 (0 : Int32)
                      else
                        fX12_done_223 a0 a1 a2
                    else
                      fX12_done_223 a0 a1 a2
set_option maxRecDepth 100000 in
theorem mX12_done_ok {l : Launch} {G : ab_G} {S : ab_S} {I : ab_I} {J : ab_J} {P : ab_P} {Q : ab_Q} {a0 : Int32} {a1 : Int32} {a2 : Int32} (hB : bz_B S P) {x : Int32} (H : fX12_done a0 a1 a2 = some x) (K0 : Q (some (.int x)) S I J P) : ab_Call l G mX12_done 1 [.int a0, .int a1, .int a2] S I J P Q := by
  unfold fX12_done at H
  refine ab_enter rfl (Nat.le_of_ble_eq_true rfl) (ab_wk (ls' := [some (.int a0), some (.int a1), some (.int a2)]) (ab_le_some (ab_le_some (ab_le_some (ab_le_nil)))) ?_)
  refine ab_iload_n (z := 0) (by decide +kernel) rfl rfl ?_
  by_cases hk37 : a0 = (37 : Int32)
  · replace H := ab_ifp H hk37
    refine ab_tabk (key := (37 : Int32)) (off := 143) (tgt := 144) (dflt := 214) (lo := 37) (hi := 62) (offs := #[143, 197, 214, 214, 214, 127, 119, 214, 123, 214, 131, 214, 214, 214, 214, 214, 214, 214, 214, 214, 214, 214, 214, 155, 183, 169]) (len := 119) hk37 (by decide +kernel) (by decide) rfl ?_
    refine ab_iload_n (z := 2) (by decide +kernel) rfl rfl ?_
    refine ab_if_ne (off := 7) (tgt := 152) (by decide +kernel) rfl (fun hc => ?_) (fun hc => ?_)
    · replace H := ab_ifn H hc
      refine ab_iload_n (z := 1) (by decide +kernel) rfl rfl ?_
      refine ab_iload_n (z := 2) (by decide +kernel) rfl rfl ?_
      obtain ⟨hg, H⟩ := ab_gd_of H
      refine ab_irem (by decide +kernel) hg ?_
      exact ab_wk (ab_le_some (ab_le_some (ab_le_some (ab_le_nil)))) (fX12_done_155_ok hB H  K0)
    · replace H := ab_ifp H hc
      refine ab_iconst (z := 0) (v := (0 : Int32)) (by decide +kernel) (by decide) ?_
      refine ab_goto (off := 6) (tgt := 155) (by decide +kernel) rfl ?_
      exact ab_wk (ab_le_some (ab_le_some (ab_le_some (ab_le_nil)))) (fX12_done_155_ok hB H  K0)
  replace H := ab_ifn H hk37
  by_cases hk38 : a0 = (38 : Int32)
  · replace H := ab_ifp H hk38
    refine ab_tabk (key := (38 : Int32)) (off := 197) (tgt := 198) (dflt := 214) (lo := 37) (hi := 62) (offs := #[143, 197, 214, 214, 214, 127, 119, 214, 123, 214, 131, 214, 214, 214, 214, 214, 214, 214, 214, 214, 214, 214, 214, 155, 183, 169]) (len := 119) hk38 (by decide +kernel) (by decide) rfl ?_
    refine ab_iload_n (z := 1) (by decide +kernel) rfl rfl ?_
    refine ab_if_eq (off := 11) (tgt := 210) (by decide +kernel) rfl (fun hc => ?_) (fun hc => ?_)
    · replace H := ab_ifp H hc
      exact ab_wk (ab_le_some (ab_le_some (ab_le_some (ab_le_nil)))) (fX12_done_210_ok hB H  K0)
    · replace H := ab_ifn H hc
      refine ab_iload_n (z := 2) (by decide +kernel) rfl rfl ?_
      refine ab_if_eq (off := 7) (tgt := 210) (by decide +kernel) rfl (fun hc => ?_) (fun hc => ?_)
      · replace H := ab_ifp H hc
        exact ab_wk (ab_le_some (ab_le_some (ab_le_some (ab_le_nil)))) (fX12_done_210_ok hB H  K0)
      · replace H := ab_ifn H hc
        refine ab_iconst (z := 1) (v := (1 : Int32)) (by decide +kernel) (by decide) ?_
        refine ab_goto (off := 4) (tgt := 211) (by decide +kernel) rfl ?_
        exact ab_wk (ab_le_some (ab_le_some (ab_le_some (ab_le_nil)))) (fX12_done_211_ok hB H  K0)
  replace H := ab_ifn H hk38
  by_cases hk42 : a0 = (42 : Int32)
  · replace H := ab_ifp H hk42
    refine ab_tabk (key := (42 : Int32)) (off := 127) (tgt := 128) (dflt := 214) (lo := 37) (hi := 62) (offs := #[143, 197, 214, 214, 214, 127, 119, 214, 123, 214, 131, 214, 214, 214, 214, 214, 214, 214, 214, 214, 214, 214, 214, 155, 183, 169]) (len := 119) hk42 (by decide +kernel) (by decide) rfl ?_
    refine ab_iload_n (z := 1) (by decide +kernel) rfl rfl ?_
    refine ab_iload_n (z := 2) (by decide +kernel) rfl rfl ?_
    refine ab_imul (by decide +kernel) ?_
    obtain rfl := Option.some.inj H
    exact ab_iret (by decide +kernel) rfl (Nat.le_refl _) (Nat.le_refl _) K0
  replace H := ab_ifn H hk42
  by_cases hk43 : a0 = (43 : Int32)
  · replace H := ab_ifp H hk43
    refine ab_tabk (key := (43 : Int32)) (off := 119) (tgt := 120) (dflt := 214) (lo := 37) (hi := 62) (offs := #[143, 197, 214, 214, 214, 127, 119, 214, 123, 214, 131, 214, 214, 214, 214, 214, 214, 214, 214, 214, 214, 214, 214, 155, 183, 169]) (len := 119) hk43 (by decide +kernel) (by decide) rfl ?_
    refine ab_iload_n (z := 1) (by decide +kernel) rfl rfl ?_
    refine ab_iload_n (z := 2) (by decide +kernel) rfl rfl ?_
    refine ab_iadd (by decide +kernel) ?_
    obtain rfl := Option.some.inj H
    exact ab_iret (by decide +kernel) rfl (Nat.le_refl _) (Nat.le_refl _) K0
  replace H := ab_ifn H hk43
  by_cases hk45 : a0 = (45 : Int32)
  · replace H := ab_ifp H hk45
    refine ab_tabk (key := (45 : Int32)) (off := 123) (tgt := 124) (dflt := 214) (lo := 37) (hi := 62) (offs := #[143, 197, 214, 214, 214, 127, 119, 214, 123, 214, 131, 214, 214, 214, 214, 214, 214, 214, 214, 214, 214, 214, 214, 155, 183, 169]) (len := 119) hk45 (by decide +kernel) (by decide) rfl ?_
    refine ab_iload_n (z := 1) (by decide +kernel) rfl rfl ?_
    refine ab_iload_n (z := 2) (by decide +kernel) rfl rfl ?_
    refine ab_isub (by decide +kernel) ?_
    obtain rfl := Option.some.inj H
    exact ab_iret (by decide +kernel) rfl (Nat.le_refl _) (Nat.le_refl _) K0
  replace H := ab_ifn H hk45
  by_cases hk47 : a0 = (47 : Int32)
  · replace H := ab_ifp H hk47
    refine ab_tabk (key := (47 : Int32)) (off := 131) (tgt := 132) (dflt := 214) (lo := 37) (hi := 62) (offs := #[143, 197, 214, 214, 214, 127, 119, 214, 123, 214, 131, 214, 214, 214, 214, 214, 214, 214, 214, 214, 214, 214, 214, 155, 183, 169]) (len := 119) hk47 (by decide +kernel) (by decide) rfl ?_
    refine ab_iload_n (z := 2) (by decide +kernel) rfl rfl ?_
    refine ab_if_ne (off := 7) (tgt := 140) (by decide +kernel) rfl (fun hc => ?_) (fun hc => ?_)
    · replace H := ab_ifn H hc
      refine ab_iload_n (z := 1) (by decide +kernel) rfl rfl ?_
      refine ab_iload_n (z := 2) (by decide +kernel) rfl rfl ?_
      obtain ⟨hg, H⟩ := ab_gd_of H
      refine ab_idiv (by decide +kernel) hg ?_
      exact ab_wk (ab_le_some (ab_le_some (ab_le_some (ab_le_nil)))) (fX12_done_143_ok hB H  K0)
    · replace H := ab_ifp H hc
      refine ab_iconst (z := 0) (v := (0 : Int32)) (by decide +kernel) (by decide) ?_
      refine ab_goto (off := 6) (tgt := 143) (by decide +kernel) rfl ?_
      exact ab_wk (ab_le_some (ab_le_some (ab_le_some (ab_le_nil)))) (fX12_done_143_ok hB H  K0)
  replace H := ab_ifn H hk47
  by_cases hk60 : a0 = (60 : Int32)
  · replace H := ab_ifp H hk60
    refine ab_tabk (key := (60 : Int32)) (off := 155) (tgt := 156) (dflt := 214) (lo := 37) (hi := 62) (offs := #[143, 197, 214, 214, 214, 127, 119, 214, 123, 214, 131, 214, 214, 214, 214, 214, 214, 214, 214, 214, 214, 214, 214, 155, 183, 169]) (len := 119) hk60 (by decide +kernel) (by decide) rfl ?_
    refine ab_iload_n (z := 1) (by decide +kernel) rfl rfl ?_
    refine ab_iload_n (z := 2) (by decide +kernel) rfl rfl ?_
    refine ab_icmp_ge (off := 7) (tgt := 165) (by decide +kernel) rfl (fun hc => ?_) (fun hc => ?_)
    · replace H := ab_ifp H hc
      refine ab_iconst (z := 0) (v := (0 : Int32)) (by decide +kernel) (by decide) ?_
      exact ab_wk (ab_le_some (ab_le_some (ab_le_some (ab_le_nil)))) (fX12_done_166_ok hB H  K0)
    · replace H := ab_ifn H hc
      refine ab_iconst (z := 1) (v := (1 : Int32)) (by decide +kernel) (by decide) ?_
      refine ab_goto (off := 4) (tgt := 166) (by decide +kernel) rfl ?_
      exact ab_wk (ab_le_some (ab_le_some (ab_le_some (ab_le_nil)))) (fX12_done_166_ok hB H  K0)
  replace H := ab_ifn H hk60
  by_cases hk61 : a0 = (61 : Int32)
  · replace H := ab_ifp H hk61
    refine ab_tabk (key := (61 : Int32)) (off := 183) (tgt := 184) (dflt := 214) (lo := 37) (hi := 62) (offs := #[143, 197, 214, 214, 214, 127, 119, 214, 123, 214, 131, 214, 214, 214, 214, 214, 214, 214, 214, 214, 214, 214, 214, 155, 183, 169]) (len := 119) hk61 (by decide +kernel) (by decide) rfl ?_
    refine ab_iload_n (z := 1) (by decide +kernel) rfl rfl ?_
    refine ab_iload_n (z := 2) (by decide +kernel) rfl rfl ?_
    refine ab_icmp_ne (off := 7) (tgt := 193) (by decide +kernel) rfl (fun hc => ?_) (fun hc => ?_)
    · replace H := ab_ifn H hc
      refine ab_iconst (z := 0) (v := (0 : Int32)) (by decide +kernel) (by decide) ?_
      exact ab_wk (ab_le_some (ab_le_some (ab_le_some (ab_le_nil)))) (fX12_done_194_ok hB H  K0)
    · replace H := ab_ifp H hc
      refine ab_iconst (z := 1) (v := (1 : Int32)) (by decide +kernel) (by decide) ?_
      refine ab_goto (off := 4) (tgt := 194) (by decide +kernel) rfl ?_
      exact ab_wk (ab_le_some (ab_le_some (ab_le_some (ab_le_nil)))) (fX12_done_194_ok hB H  K0)
  replace H := ab_ifn H hk61
  by_cases hk62 : a0 = (62 : Int32)
  · replace H := ab_ifp H hk62
    refine ab_tabk (key := (62 : Int32)) (off := 169) (tgt := 170) (dflt := 214) (lo := 37) (hi := 62) (offs := #[143, 197, 214, 214, 214, 127, 119, 214, 123, 214, 131, 214, 214, 214, 214, 214, 214, 214, 214, 214, 214, 214, 214, 155, 183, 169]) (len := 119) hk62 (by decide +kernel) (by decide) rfl ?_
    refine ab_iload_n (z := 1) (by decide +kernel) rfl rfl ?_
    refine ab_iload_n (z := 2) (by decide +kernel) rfl rfl ?_
    refine ab_icmp_le (off := 7) (tgt := 179) (by decide +kernel) rfl (fun hc => ?_) (fun hc => ?_)
    · replace H := ab_ifp H hc
      refine ab_iconst (z := 0) (v := (0 : Int32)) (by decide +kernel) (by decide) ?_
      exact ab_wk (ab_le_some (ab_le_some (ab_le_some (ab_le_nil)))) (fX12_done_180_ok hB H  K0)
    · replace H := ab_ifn H hc
      refine ab_iconst (z := 1) (v := (1 : Int32)) (by decide +kernel) (by decide) ?_
      refine ab_goto (off := 4) (tgt := 180) (by decide +kernel) rfl ?_
      exact ab_wk (ab_le_some (ab_le_some (ab_le_some (ab_le_nil)))) (fX12_done_180_ok hB H  K0)
  replace H := ab_ifn H hk62
  have KD : ab_WP l G mX12_done 1 215 [some (.int a0), some (.int a1), some (.int a2)] [] S I J P 0 0 Q := by
    refine ab_iload_n (z := 1) (by decide +kernel) rfl rfl ?_
    refine ab_if_ne (off := 7) (tgt := 223) (by decide +kernel) rfl (fun hc => ?_) (fun hc => ?_)
    · replace H := ab_ifn H hc
      exact ab_wk (ab_le_some (ab_le_some (ab_le_some (ab_le_nil)))) (fX12_done_223_ok hB H  K0)
    · replace H := ab_ifp H hc
      refine ab_iload_n (z := 2) (by decide +kernel) rfl rfl ?_
      refine ab_if_eq (off := 7) (tgt := 227) (by decide +kernel) rfl (fun hc => ?_) (fun hc => ?_)
      · replace H := ab_ifp H hc
        refine ab_iconst (z := 0) (v := (0 : Int32)) (by decide +kernel) (by decide) ?_
        exact ab_wk (ab_le_some (ab_le_some (ab_le_some (ab_le_nil)))) (fX12_done_228_ok hB H  K0)
      · replace H := ab_ifn H hc
        exact ab_wk (ab_le_some (ab_le_some (ab_le_some (ab_le_nil)))) (fX12_done_223_ok hB H  K0)
  by_cases hlo : a0.toInt < 37
  · exact ab_tableOut (dflt := 214) (lo := 37) (hi := 62) (offs := #[143, 197, 214, 214, 214, 127, 119, 214, 123, 214, 131, 214, 214, 214, 214, 214, 214, 214, 214, 214, 214, 214, 214, 155, 183, 169]) (len := 119) (by decide +kernel) (Or.inl hlo) (tgt := 215) rfl KD
  by_cases hhi : 62 < a0.toInt
  · exact ab_tableOut (dflt := 214) (lo := 37) (hi := 62) (offs := #[143, 197, 214, 214, 214, 127, 119, 214, 123, 214, 131, 214, 214, 214, 214, 214, 214, 214, 214, 214, 214, 214, 214, 155, 183, 169]) (len := 119) (by decide +kernel) (Or.inr hhi) (tgt := 215) rfl KD
  by_cases hr : a0.toInt = 37
  · exact absurd (Int32.toInt_inj.mp (hr.trans (by decide))) hk37
  have hlo : ¬ a0.toInt < 38 := by omega
  by_cases hr : a0.toInt = 38
  · exact absurd (Int32.toInt_inj.mp (hr.trans (by decide))) hk38
  have hlo : ¬ a0.toInt < 39 := by omega
  by_cases hr : a0.toInt = 39
  · exact ab_tabk (key := (39 : Int32)) (off := 214) (tgt := 215) (dflt := 214) (lo := 37) (hi := 62) (offs := #[143, 197, 214, 214, 214, 127, 119, 214, 123, 214, 131, 214, 214, 214, 214, 214, 214, 214, 214, 214, 214, 214, 214, 155, 183, 169]) (len := 119) (Int32.toInt_inj.mp (hr.trans (by decide))) (by decide +kernel) (by decide) rfl KD
  have hlo : ¬ a0.toInt < 40 := by omega
  by_cases hr : a0.toInt = 40
  · exact ab_tabk (key := (40 : Int32)) (off := 214) (tgt := 215) (dflt := 214) (lo := 37) (hi := 62) (offs := #[143, 197, 214, 214, 214, 127, 119, 214, 123, 214, 131, 214, 214, 214, 214, 214, 214, 214, 214, 214, 214, 214, 214, 155, 183, 169]) (len := 119) (Int32.toInt_inj.mp (hr.trans (by decide))) (by decide +kernel) (by decide) rfl KD
  have hlo : ¬ a0.toInt < 41 := by omega
  by_cases hr : a0.toInt = 41
  · exact ab_tabk (key := (41 : Int32)) (off := 214) (tgt := 215) (dflt := 214) (lo := 37) (hi := 62) (offs := #[143, 197, 214, 214, 214, 127, 119, 214, 123, 214, 131, 214, 214, 214, 214, 214, 214, 214, 214, 214, 214, 214, 214, 155, 183, 169]) (len := 119) (Int32.toInt_inj.mp (hr.trans (by decide))) (by decide +kernel) (by decide) rfl KD
  have hlo : ¬ a0.toInt < 42 := by omega
  by_cases hr : a0.toInt = 42
  · exact absurd (Int32.toInt_inj.mp (hr.trans (by decide))) hk42
  have hlo : ¬ a0.toInt < 43 := by omega
  by_cases hr : a0.toInt = 43
  · exact absurd (Int32.toInt_inj.mp (hr.trans (by decide))) hk43
  have hlo : ¬ a0.toInt < 44 := by omega
  by_cases hr : a0.toInt = 44
  · exact ab_tabk (key := (44 : Int32)) (off := 214) (tgt := 215) (dflt := 214) (lo := 37) (hi := 62) (offs := #[143, 197, 214, 214, 214, 127, 119, 214, 123, 214, 131, 214, 214, 214, 214, 214, 214, 214, 214, 214, 214, 214, 214, 155, 183, 169]) (len := 119) (Int32.toInt_inj.mp (hr.trans (by decide))) (by decide +kernel) (by decide) rfl KD
  have hlo : ¬ a0.toInt < 45 := by omega
  by_cases hr : a0.toInt = 45
  · exact absurd (Int32.toInt_inj.mp (hr.trans (by decide))) hk45
  have hlo : ¬ a0.toInt < 46 := by omega
  by_cases hr : a0.toInt = 46
  · exact ab_tabk (key := (46 : Int32)) (off := 214) (tgt := 215) (dflt := 214) (lo := 37) (hi := 62) (offs := #[143, 197, 214, 214, 214, 127, 119, 214, 123, 214, 131, 214, 214, 214, 214, 214, 214, 214, 214, 214, 214, 214, 214, 155, 183, 169]) (len := 119) (Int32.toInt_inj.mp (hr.trans (by decide))) (by decide +kernel) (by decide) rfl KD
  have hlo : ¬ a0.toInt < 47 := by omega
  by_cases hr : a0.toInt = 47
  · exact absurd (Int32.toInt_inj.mp (hr.trans (by decide))) hk47
  have hlo : ¬ a0.toInt < 48 := by omega
  by_cases hr : a0.toInt = 48
  · exact ab_tabk (key := (48 : Int32)) (off := 214) (tgt := 215) (dflt := 214) (lo := 37) (hi := 62) (offs := #[143, 197, 214, 214, 214, 127, 119, 214, 123, 214, 131, 214, 214, 214, 214, 214, 214, 214, 214, 214, 214, 214, 214, 155, 183, 169]) (len := 119) (Int32.toInt_inj.mp (hr.trans (by decide))) (by decide +kernel) (by decide) rfl KD
  have hlo : ¬ a0.toInt < 49 := by omega
  by_cases hr : a0.toInt = 49
  · exact ab_tabk (key := (49 : Int32)) (off := 214) (tgt := 215) (dflt := 214) (lo := 37) (hi := 62) (offs := #[143, 197, 214, 214, 214, 127, 119, 214, 123, 214, 131, 214, 214, 214, 214, 214, 214, 214, 214, 214, 214, 214, 214, 155, 183, 169]) (len := 119) (Int32.toInt_inj.mp (hr.trans (by decide))) (by decide +kernel) (by decide) rfl KD
  have hlo : ¬ a0.toInt < 50 := by omega
  by_cases hr : a0.toInt = 50
  · exact ab_tabk (key := (50 : Int32)) (off := 214) (tgt := 215) (dflt := 214) (lo := 37) (hi := 62) (offs := #[143, 197, 214, 214, 214, 127, 119, 214, 123, 214, 131, 214, 214, 214, 214, 214, 214, 214, 214, 214, 214, 214, 214, 155, 183, 169]) (len := 119) (Int32.toInt_inj.mp (hr.trans (by decide))) (by decide +kernel) (by decide) rfl KD
  have hlo : ¬ a0.toInt < 51 := by omega
  by_cases hr : a0.toInt = 51
  · exact ab_tabk (key := (51 : Int32)) (off := 214) (tgt := 215) (dflt := 214) (lo := 37) (hi := 62) (offs := #[143, 197, 214, 214, 214, 127, 119, 214, 123, 214, 131, 214, 214, 214, 214, 214, 214, 214, 214, 214, 214, 214, 214, 155, 183, 169]) (len := 119) (Int32.toInt_inj.mp (hr.trans (by decide))) (by decide +kernel) (by decide) rfl KD
  have hlo : ¬ a0.toInt < 52 := by omega
  by_cases hr : a0.toInt = 52
  · exact ab_tabk (key := (52 : Int32)) (off := 214) (tgt := 215) (dflt := 214) (lo := 37) (hi := 62) (offs := #[143, 197, 214, 214, 214, 127, 119, 214, 123, 214, 131, 214, 214, 214, 214, 214, 214, 214, 214, 214, 214, 214, 214, 155, 183, 169]) (len := 119) (Int32.toInt_inj.mp (hr.trans (by decide))) (by decide +kernel) (by decide) rfl KD
  have hlo : ¬ a0.toInt < 53 := by omega
  by_cases hr : a0.toInt = 53
  · exact ab_tabk (key := (53 : Int32)) (off := 214) (tgt := 215) (dflt := 214) (lo := 37) (hi := 62) (offs := #[143, 197, 214, 214, 214, 127, 119, 214, 123, 214, 131, 214, 214, 214, 214, 214, 214, 214, 214, 214, 214, 214, 214, 155, 183, 169]) (len := 119) (Int32.toInt_inj.mp (hr.trans (by decide))) (by decide +kernel) (by decide) rfl KD
  have hlo : ¬ a0.toInt < 54 := by omega
  by_cases hr : a0.toInt = 54
  · exact ab_tabk (key := (54 : Int32)) (off := 214) (tgt := 215) (dflt := 214) (lo := 37) (hi := 62) (offs := #[143, 197, 214, 214, 214, 127, 119, 214, 123, 214, 131, 214, 214, 214, 214, 214, 214, 214, 214, 214, 214, 214, 214, 155, 183, 169]) (len := 119) (Int32.toInt_inj.mp (hr.trans (by decide))) (by decide +kernel) (by decide) rfl KD
  have hlo : ¬ a0.toInt < 55 := by omega
  by_cases hr : a0.toInt = 55
  · exact ab_tabk (key := (55 : Int32)) (off := 214) (tgt := 215) (dflt := 214) (lo := 37) (hi := 62) (offs := #[143, 197, 214, 214, 214, 127, 119, 214, 123, 214, 131, 214, 214, 214, 214, 214, 214, 214, 214, 214, 214, 214, 214, 155, 183, 169]) (len := 119) (Int32.toInt_inj.mp (hr.trans (by decide))) (by decide +kernel) (by decide) rfl KD
  have hlo : ¬ a0.toInt < 56 := by omega
  by_cases hr : a0.toInt = 56
  · exact ab_tabk (key := (56 : Int32)) (off := 214) (tgt := 215) (dflt := 214) (lo := 37) (hi := 62) (offs := #[143, 197, 214, 214, 214, 127, 119, 214, 123, 214, 131, 214, 214, 214, 214, 214, 214, 214, 214, 214, 214, 214, 214, 155, 183, 169]) (len := 119) (Int32.toInt_inj.mp (hr.trans (by decide))) (by decide +kernel) (by decide) rfl KD
  have hlo : ¬ a0.toInt < 57 := by omega
  by_cases hr : a0.toInt = 57
  · exact ab_tabk (key := (57 : Int32)) (off := 214) (tgt := 215) (dflt := 214) (lo := 37) (hi := 62) (offs := #[143, 197, 214, 214, 214, 127, 119, 214, 123, 214, 131, 214, 214, 214, 214, 214, 214, 214, 214, 214, 214, 214, 214, 155, 183, 169]) (len := 119) (Int32.toInt_inj.mp (hr.trans (by decide))) (by decide +kernel) (by decide) rfl KD
  have hlo : ¬ a0.toInt < 58 := by omega
  by_cases hr : a0.toInt = 58
  · exact ab_tabk (key := (58 : Int32)) (off := 214) (tgt := 215) (dflt := 214) (lo := 37) (hi := 62) (offs := #[143, 197, 214, 214, 214, 127, 119, 214, 123, 214, 131, 214, 214, 214, 214, 214, 214, 214, 214, 214, 214, 214, 214, 155, 183, 169]) (len := 119) (Int32.toInt_inj.mp (hr.trans (by decide))) (by decide +kernel) (by decide) rfl KD
  have hlo : ¬ a0.toInt < 59 := by omega
  by_cases hr : a0.toInt = 59
  · exact ab_tabk (key := (59 : Int32)) (off := 214) (tgt := 215) (dflt := 214) (lo := 37) (hi := 62) (offs := #[143, 197, 214, 214, 214, 127, 119, 214, 123, 214, 131, 214, 214, 214, 214, 214, 214, 214, 214, 214, 214, 214, 214, 155, 183, 169]) (len := 119) (Int32.toInt_inj.mp (hr.trans (by decide))) (by decide +kernel) (by decide) rfl KD
  have hlo : ¬ a0.toInt < 60 := by omega
  by_cases hr : a0.toInt = 60
  · exact absurd (Int32.toInt_inj.mp (hr.trans (by decide))) hk60
  have hlo : ¬ a0.toInt < 61 := by omega
  by_cases hr : a0.toInt = 61
  · exact absurd (Int32.toInt_inj.mp (hr.trans (by decide))) hk61
  have hlo : ¬ a0.toInt < 62 := by omega
  by_cases hr : a0.toInt = 62
  · exact absurd (Int32.toInt_inj.mp (hr.trans (by decide))) hk62
  have hlo : ¬ a0.toInt < 63 := by omega
  exact absurd (by omega : 62 < a0.toInt) hhi
