abbrev mX12_isOwn : ab_M := (yX12_isOwn, cX12_isOwn, 1, some .boolean, 0, 0)
theorem kvX12_isOwn {l : Launch} {G : ab_G} {M : ab_M} {d pc : Nat} {ls : List (Option Value)} {st : List Value} {S : ab_S} {I : ab_I} {J : ab_J} {P : ab_P} {Q : ab_Q} {ix D r ln : Nat} (hd : decode M.2.1 pc = .ok (.invokevirtual ix, 3)) (h1 : Cond.methodLink M.1.cls ix mX12_isOwn.1 ∈ ab_good) (hs : S[r]? = some (17, ln)) (hdg : D + 1 ≤ d) (hsum : (st.map fun v => v.category).sum ≤ 8) (kk : ab_Call l G mX12_isOwn D (.ref r :: []) S I J P (fun v S' I' J' P' => ab_WP l G M d (pc + 3) ls (ab_psh v st) S' I' J' P' 0 0 Q)) : ab_WP l G M d pc ls (.ref r :: st) S I J P 0 0 Q := bz_kv (g := mX12_isOwn) (as := []) (cc := 12) rfl hd h1 tw_1355 tw_p39 tw_13 tw_1356 ⟨by decide +kernel, by decide +kernel, (by decide +kernel : (parseMethodDescriptor mX12_isOwn.1.desc).map (fun d => d.parameters.length) = some 0)⟩ (by decide) rfl rfl rfl hdg hsum hs kk
def fX12_isOwn_170 (J : ab_J) (s0 : Int32) : Option Int32 :=
  ab_gd (s0 = 0 ∨ s0 = 1) (some s0)
set_option maxRecDepth 100000 in
theorem fX12_isOwn_170_ok {l : Launch} {G : ab_G} {S : ab_S} {I : ab_I} {J : ab_J} {P : ab_P} {Q : ab_Q} {s0 : Int32} (hB : bz_B S P) {x : Int32} (H : fX12_isOwn_170 J s0 = some x) (K0 : Q (some (.int x)) S I J P) : ab_WP l G mX12_isOwn 0 170 [some (.ref 73)] [.int s0] S I J P 0 0 Q := by
  unfold fX12_isOwn_170 at H
  obtain ⟨hg, H⟩ := ab_gd_of H
  obtain rfl := Option.some.inj H
  exact ab_zret (by decide +kernel) rfl (Nat.le_refl _) (Nat.le_refl _) hg K0
def fX12_isOwn_165 (J : ab_J) : Option Int32 :=
  fX12_isOwn_170 J (1 : Int32)
set_option maxRecDepth 100000 in
theorem fX12_isOwn_165_ok {l : Launch} {G : ab_G} {S : ab_S} {I : ab_I} {J : ab_J} {P : ab_P} {Q : ab_Q} (hB : bz_B S P) {x : Int32} (H : fX12_isOwn_165 J = some x) (K0 : Q (some (.int x)) S I J P) : ab_WP l G mX12_isOwn 0 165 [some (.ref 73)] [] S I J P 0 0 Q := by
  unfold fX12_isOwn_165 at H
  refine ab_iconst (z := 1) (v := (1 : Int32)) (by decide +kernel) (by decide) ?_
  refine ab_goto (off := 4) (tgt := 170) (by decide +kernel) rfl ?_
  exact ab_wk (ab_le_some (ab_le_nil)) (fX12_isOwn_170_ok hB H  K0)
def fX12_isOwn (J : ab_J) : Option Int32 :=
  if (lg_cmp (J 73 9) (123581014175598 : Int64)) = 0 then
    fX12_isOwn_165 J
  else
    if (lg_cmp (J 73 9) (6840691 : Int64)) = 0 then
      fX12_isOwn_165 J
    else
      if (lg_cmp (J 73 9) (1650814060 : Int64)) = 0 then
        fX12_isOwn_165 J
      else
        if (lg_cmp (J 73 9) (1752135026 : Int64)) = 0 then
          fX12_isOwn_165 J
        else
          if (lg_cmp (J 73 9) (465726301555 : Int64)) = 0 then
            fX12_isOwn_165 J
          else
            if (lg_cmp (J 73 9) (131277443786867 : Int64)) = 0 then
              fX12_isOwn_165 J
            else
              if (lg_cmp (J 73 9) (439720568179 : Int64)) = 0 then
                fX12_isOwn_165 J
              else
                if (lg_cmp (J 73 9) (1685217655 : Int64)) = 0 then
                  fX12_isOwn_165 J
                else
                  if (lg_cmp (J 73 9) (1819243379 : Int64)) = 0 then
                    fX12_isOwn_165 J
                  else
                    if (lg_cmp (J 73 9) (1920298599 : Int64)) = 0 then
                      fX12_isOwn_165 J
                    else
                      if (lg_cmp (J 73 9) (1751478885 : Int64)) = 0 then
                        fX12_isOwn_165 J
                      else
                        if (lg_cmp (J 73 9) (6578553 : Int64)) = 0 then
                          fX12_isOwn_165 J
                        else
                          if (lg_cmp (J 73 9) (6385252 : Int64)) = 0 then
                            fX12_isOwn_165 J
                          else
                            if (lg_cmp (J 73 9) (28530 : Int64)) = 0 then
                              fX12_isOwn_165 J
                            else
                              if (lg_cmp (J 73 9) (7237492 : Int64)) = 0 then
                                fX12_isOwn_165 J
                              else
                                fX12_isOwn_170 J (0 : Int32)
set_option maxRecDepth 100000 in
theorem mX12_isOwn_ok {l : Launch} {G : ab_G} {S : ab_S} {I : ab_I} {J : ab_J} {P : ab_P} {Q : ab_Q} (hB : bz_B S P) {x : Int32} (H : fX12_isOwn J = some x) (K0 : Q (some (.int x)) S I J P) : ab_Call l G mX12_isOwn 0 [.ref 73] S I J P Q := by
  unfold fX12_isOwn at H
  refine ab_enter rfl (Nat.le_of_ble_eq_true rfl) (ab_wk (ls' := [some (.ref 73)]) (ab_le_some (ab_le_nil)) ?_)
  refine ab_aload_n (z := 0) (by decide +kernel) rfl rfl ?_
  refine gX12_9 (ix := 141) (by decide +kernel) tw_1090 (hB.1 73 _ rfl) ?_
  refine ab_ldc2 (ix := 164) (v := (123581014175598 : Int64)) (by decide +kernel) tw_1336 ?_
  refine ab_lcmp (by decide +kernel) ?_
  refine ab_if_eq (off := 157) (tgt := 165) (by decide +kernel) rfl (fun hc => ?_) (fun hc => ?_)
  · replace H := ab_ifp H hc
    exact ab_wk (ab_le_some (ab_le_nil)) (fX12_isOwn_165_ok hB H  K0)
  · replace H := ab_ifn H hc
    refine ab_aload_n (z := 0) (by decide +kernel) rfl rfl ?_
    refine gX12_9 (ix := 141) (by decide +kernel) tw_1090 (hB.1 73 _ rfl) ?_
    refine ab_ldc2 (ix := 166) (v := (6840691 : Int64)) (by decide +kernel) tw_1357 ?_
    refine ab_lcmp (by decide +kernel) ?_
    refine ab_if_eq (off := 146) (tgt := 165) (by decide +kernel) rfl (fun hc => ?_) (fun hc => ?_)
    · replace H := ab_ifp H hc
      exact ab_wk (ab_le_some (ab_le_nil)) (fX12_isOwn_165_ok hB H  K0)
    · replace H := ab_ifn H hc
      refine ab_aload_n (z := 0) (by decide +kernel) rfl rfl ?_
      refine gX12_9 (ix := 141) (by decide +kernel) tw_1090 (hB.1 73 _ rfl) ?_
      refine ab_ldc2 (ix := 168) (v := (1650814060 : Int64)) (by decide +kernel) tw_1358 ?_
      refine ab_lcmp (by decide +kernel) ?_
      refine ab_if_eq (off := 135) (tgt := 165) (by decide +kernel) rfl (fun hc => ?_) (fun hc => ?_)
      · replace H := ab_ifp H hc
        exact ab_wk (ab_le_some (ab_le_nil)) (fX12_isOwn_165_ok hB H  K0)
      · replace H := ab_ifn H hc
        refine ab_aload_n (z := 0) (by decide +kernel) rfl rfl ?_
        refine gX12_9 (ix := 141) (by decide +kernel) tw_1090 (hB.1 73 _ rfl) ?_
        refine ab_ldc2 (ix := 170) (v := (1752135026 : Int64)) (by decide +kernel) tw_1359 ?_
        refine ab_lcmp (by decide +kernel) ?_
        refine ab_if_eq (off := 124) (tgt := 165) (by decide +kernel) rfl (fun hc => ?_) (fun hc => ?_)
        · replace H := ab_ifp H hc
          exact ab_wk (ab_le_some (ab_le_nil)) (fX12_isOwn_165_ok hB H  K0)
        · replace H := ab_ifn H hc
          refine ab_aload_n (z := 0) (by decide +kernel) rfl rfl ?_
          refine gX12_9 (ix := 141) (by decide +kernel) tw_1090 (hB.1 73 _ rfl) ?_
          refine ab_ldc2 (ix := 172) (v := (465726301555 : Int64)) (by decide +kernel) tw_1360 ?_
          refine ab_lcmp (by decide +kernel) ?_
          refine ab_if_eq (off := 113) (tgt := 165) (by decide +kernel) rfl (fun hc => ?_) (fun hc => ?_)
          · replace H := ab_ifp H hc
            exact ab_wk (ab_le_some (ab_le_nil)) (fX12_isOwn_165_ok hB H  K0)
          · replace H := ab_ifn H hc
            refine ab_aload_n (z := 0) (by decide +kernel) rfl rfl ?_
            refine gX12_9 (ix := 141) (by decide +kernel) tw_1090 (hB.1 73 _ rfl) ?_
            refine ab_ldc2 (ix := 174) (v := (131277443786867 : Int64)) (by decide +kernel) tw_1361 ?_
            refine ab_lcmp (by decide +kernel) ?_
            refine ab_if_eq (off := 102) (tgt := 165) (by decide +kernel) rfl (fun hc => ?_) (fun hc => ?_)
            · replace H := ab_ifp H hc
              exact ab_wk (ab_le_some (ab_le_nil)) (fX12_isOwn_165_ok hB H  K0)
            · replace H := ab_ifn H hc
              refine ab_aload_n (z := 0) (by decide +kernel) rfl rfl ?_
              refine gX12_9 (ix := 141) (by decide +kernel) tw_1090 (hB.1 73 _ rfl) ?_
              refine ab_ldc2 (ix := 176) (v := (439720568179 : Int64)) (by decide +kernel) tw_1362 ?_
              refine ab_lcmp (by decide +kernel) ?_
              refine ab_if_eq (off := 91) (tgt := 165) (by decide +kernel) rfl (fun hc => ?_) (fun hc => ?_)
              · replace H := ab_ifp H hc
                exact ab_wk (ab_le_some (ab_le_nil)) (fX12_isOwn_165_ok hB H  K0)
              · replace H := ab_ifn H hc
                refine ab_aload_n (z := 0) (by decide +kernel) rfl rfl ?_
                refine gX12_9 (ix := 141) (by decide +kernel) tw_1090 (hB.1 73 _ rfl) ?_
                refine ab_ldc2 (ix := 178) (v := (1685217655 : Int64)) (by decide +kernel) tw_1363 ?_
                refine ab_lcmp (by decide +kernel) ?_
                refine ab_if_eq (off := 80) (tgt := 165) (by decide +kernel) rfl (fun hc => ?_) (fun hc => ?_)
                · replace H := ab_ifp H hc
                  exact ab_wk (ab_le_some (ab_le_nil)) (fX12_isOwn_165_ok hB H  K0)
                · replace H := ab_ifn H hc
                  refine ab_aload_n (z := 0) (by decide +kernel) rfl rfl ?_
                  refine gX12_9 (ix := 141) (by decide +kernel) tw_1090 (hB.1 73 _ rfl) ?_
                  refine ab_ldc2 (ix := 180) (v := (1819243379 : Int64)) (by decide +kernel) tw_1364 ?_
                  refine ab_lcmp (by decide +kernel) ?_
                  refine ab_if_eq (off := 69) (tgt := 165) (by decide +kernel) rfl (fun hc => ?_) (fun hc => ?_)
                  · replace H := ab_ifp H hc
                    exact ab_wk (ab_le_some (ab_le_nil)) (fX12_isOwn_165_ok hB H  K0)
                  · replace H := ab_ifn H hc
                    refine ab_aload_n (z := 0) (by decide +kernel) rfl rfl ?_
                    refine gX12_9 (ix := 141) (by decide +kernel) tw_1090 (hB.1 73 _ rfl) ?_
                    refine ab_ldc2 (ix := 182) (v := (1920298599 : Int64)) (by decide +kernel) tw_1365 ?_
                    refine ab_lcmp (by decide +kernel) ?_
                    refine ab_if_eq (off := 58) (tgt := 165) (by decide +kernel) rfl (fun hc => ?_) (fun hc => ?_)
                    · replace H := ab_ifp H hc
                      exact ab_wk (ab_le_some (ab_le_nil)) (fX12_isOwn_165_ok hB H  K0)
                    · replace H := ab_ifn H hc
                      refine ab_aload_n (z := 0) (by decide +kernel) rfl rfl ?_
                      refine gX12_9 (ix := 141) (by decide +kernel) tw_1090 (hB.1 73 _ rfl) ?_
                      refine ab_ldc2 (ix := 184) (v := (1751478885 : Int64)) (by decide +kernel) tw_1366 ?_
                      refine ab_lcmp (by decide +kernel) ?_
                      refine ab_if_eq (off := 47) (tgt := 165) (by decide +kernel) rfl (fun hc => ?_) (fun hc => ?_)
                      · replace H := ab_ifp H hc
                        exact ab_wk (ab_le_some (ab_le_nil)) (fX12_isOwn_165_ok hB H  K0)
                      · replace H := ab_ifn H hc
                        refine ab_aload_n (z := 0) (by decide +kernel) rfl rfl ?_
                        refine gX12_9 (ix := 141) (by decide +kernel) tw_1090 (hB.1 73 _ rfl) ?_
                        refine ab_ldc2 (ix := 186) (v := (6578553 : Int64)) (by decide +kernel) tw_1367 ?_
                        refine ab_lcmp (by decide +kernel) ?_
                        refine ab_if_eq (off := 36) (tgt := 165) (by decide +kernel) rfl (fun hc => ?_) (fun hc => ?_)
                        · replace H := ab_ifp H hc
                          exact ab_wk (ab_le_some (ab_le_nil)) (fX12_isOwn_165_ok hB H  K0)
                        · replace H := ab_ifn H hc
                          refine ab_aload_n (z := 0) (by decide +kernel) rfl rfl ?_
                          refine gX12_9 (ix := 141) (by decide +kernel) tw_1090 (hB.1 73 _ rfl) ?_
                          refine ab_ldc2 (ix := 188) (v := (6385252 : Int64)) (by decide +kernel) tw_1368 ?_
                          refine ab_lcmp (by decide +kernel) ?_
                          refine ab_if_eq (off := 25) (tgt := 165) (by decide +kernel) rfl (fun hc => ?_) (fun hc => ?_)
                          · replace H := ab_ifp H hc
                            exact ab_wk (ab_le_some (ab_le_nil)) (fX12_isOwn_165_ok hB H  K0)
                          · replace H := ab_ifn H hc
                            refine ab_aload_n (z := 0) (by decide +kernel) rfl rfl ?_
                            refine gX12_9 (ix := 141) (by decide +kernel) tw_1090 (hB.1 73 _ rfl) ?_
                            refine ab_ldc2 (ix := 190) (v := (28530 : Int64)) (by decide +kernel) tw_1369 ?_
                            refine ab_lcmp (by decide +kernel) ?_
                            refine ab_if_eq (off := 14) (tgt := 165) (by decide +kernel) rfl (fun hc => ?_) (fun hc => ?_)
                            · replace H := ab_ifp H hc
                              exact ab_wk (ab_le_some (ab_le_nil)) (fX12_isOwn_165_ok hB H  K0)
                            · replace H := ab_ifn H hc
                              refine ab_aload_n (z := 0) (by decide +kernel) rfl rfl ?_
                              refine gX12_9 (ix := 141) (by decide +kernel) tw_1090 (hB.1 73 _ rfl) ?_
                              refine ab_ldc2 (ix := 192) (v := (7237492 : Int64)) (by decide +kernel) tw_1370 ?_
                              refine ab_lcmp (by decide +kernel) ?_
                              refine ab_if_ne (off := 7) (tgt := 169) (by decide +kernel) rfl (fun hc => ?_) (fun hc => ?_)
                              · replace H := ab_ifn H hc
                                refine ab_iconst (z := 0) (v := (0 : Int32)) (by decide +kernel) (by decide) ?_
                                exact ab_wk (ab_le_some (ab_le_nil)) (fX12_isOwn_170_ok hB H  K0)
                              · replace H := ab_ifp H hc
                                exact ab_wk (ab_le_some (ab_le_nil)) (fX12_isOwn_165_ok hB H  K0)
abbrev mX12_isName : ab_M := (yX12_isName, cX12_isName, 1, some .boolean, 0, 0)
theorem kvX12_isName {l : Launch} {G : ab_G} {M : ab_M} {d pc : Nat} {ls : List (Option Value)} {st : List Value} {S : ab_S} {I : ab_I} {J : ab_J} {P : ab_P} {Q : ab_Q} {ix D r ln : Nat} (hd : decode M.2.1 pc = .ok (.invokevirtual ix, 3)) (h1 : Cond.methodLink M.1.cls ix mX12_isName.1 ∈ ab_good) (hs : S[r]? = some (17, ln)) (hdg : D + 1 ≤ d) (hsum : (st.map fun v => v.category).sum ≤ 8) (kk : ab_Call l G mX12_isName D (.ref r :: []) S I J P (fun v S' I' J' P' => ab_WP l G M d (pc + 3) ls (ab_psh v st) S' I' J' P' 0 0 Q)) : ab_WP l G M d pc ls (.ref r :: st) S I J P 0 0 Q := bz_kv (g := mX12_isName) (as := []) (cc := 12) rfl hd h1 tw_1351 tw_p38 tw_13 tw_1352 ⟨by decide +kernel, by decide +kernel, (by decide +kernel : (parseMethodDescriptor mX12_isName.1.desc).map (fun d => d.parameters.length) = some 0)⟩ (by decide) rfl rfl rfl hdg hsum hs kk
def fX12_isName_20 (I : ab_I) (J : ab_J) (s0 : Int32) : Option Int32 :=
  ab_gd (s0 = 0 ∨ s0 = 1) (some s0)
set_option maxRecDepth 100000 in
theorem fX12_isName_20_ok {l : Launch} {G : ab_G} {S : ab_S} {I : ab_I} {J : ab_J} {P : ab_P} {Q : ab_Q} {s0 : Int32} (hB : bz_B S P) {x : Int32} (H : fX12_isName_20 I J s0 = some x) (K0 : Q (some (.int x)) S I J P) : ab_WP l G mX12_isName 1 20 [some (.ref 73)] [.int s0] S I J P 0 0 Q := by
  unfold fX12_isName_20 at H
  obtain ⟨hg, H⟩ := ab_gd_of H
  obtain rfl := Option.some.inj H
  exact ab_zret (by decide +kernel) rfl (Nat.le_refl _) (Nat.le_refl _) hg K0
def fX12_isName_19 (I : ab_I) (J : ab_J) : Option Int32 :=
  fX12_isName_20 I J (0 : Int32)
set_option maxRecDepth 100000 in
theorem fX12_isName_19_ok {l : Launch} {G : ab_G} {S : ab_S} {I : ab_I} {J : ab_J} {P : ab_P} {Q : ab_Q} (hB : bz_B S P) {x : Int32} (H : fX12_isName_19 I J = some x) (K0 : Q (some (.int x)) S I J P) : ab_WP l G mX12_isName 1 19 [some (.ref 73)] [] S I J P 0 0 Q := by
  unfold fX12_isName_19 at H
  refine ab_iconst (z := 0) (v := (0 : Int32)) (by decide +kernel) (by decide) ?_
  exact ab_wk (ab_le_some (ab_le_nil)) (fX12_isName_20_ok hB H  K0)
def fX12_isName (I : ab_I) (J : ab_J) : Option Int32 :=
  if (I 73 6) = (1 : Int32) then
    (fX12_isOwn J).bind fun u1 =>
    if u1 = 0 then
      fX12_isName_20 I J (1 : Int32)
    else
      fX12_isName_19 I J
  else
    fX12_isName_19 I J
set_option maxRecDepth 100000 in
theorem mX12_isName_ok {l : Launch} {G : ab_G} {S : ab_S} {I : ab_I} {J : ab_J} {P : ab_P} {Q : ab_Q} (hB : bz_B S P) {x : Int32} (H : fX12_isName I J = some x) (K0 : Q (some (.int x)) S I J P) : ab_Call l G mX12_isName 1 [.ref 73] S I J P Q := by
  unfold fX12_isName at H
  refine ab_enter rfl (Nat.le_of_ble_eq_true rfl) (ab_wk (ls' := [some (.ref 73)]) (ab_le_some (ab_le_nil)) ?_)
  refine ab_aload_n (z := 0) (by decide +kernel) rfl rfl ?_
  refine gX12_6 (ix := 148) (by decide +kernel) tw_1087 (hB.1 73 _ rfl) ?_
  refine ab_iconst (z := 1) (v := (1 : Int32)) (by decide +kernel) (by decide) ?_
  refine ab_icmp_ne (off := 14) (tgt := 19) (by decide +kernel) rfl (fun hc => ?_) (fun hc => ?_)
  · replace H := ab_ifn H hc
    exact ab_wk (ab_le_some (ab_le_nil)) (fX12_isName_19_ok hB H  K0)
  · replace H := ab_ifp H hc
    refine ab_aload_n (z := 0) (by decide +kernel) rfl rfl ?_
    obtain ⟨u1, hu1, H⟩ := ab_bd_of H
    refine kvX12_isOwn (D := 0) (ix := 194) (by decide +kernel) tw_1353 (hB.1 73 _ rfl) (by decide) (Nat.le_of_ble_eq_true rfl) (mX12_isOwn_ok hB hu1 ?_)
    change ab_WP l G mX12_isName 1 12 [some (.ref 73)] [.int u1] S I J P 0 0 Q
    refine ab_if_ne (off := 7) (tgt := 19) (by decide +kernel) rfl (fun hc => ?_) (fun hc => ?_)
    · replace H := ab_ifn H hc
      exact ab_wk (ab_le_some (ab_le_nil)) (fX12_isName_19_ok hB H  K0)
    · replace H := ab_ifp H hc
      refine ab_iconst (z := 1) (v := (1 : Int32)) (by decide +kernel) (by decide) ?_
      refine ab_goto (off := 4) (tgt := 20) (by decide +kernel) rfl ?_
      exact ab_wk (ab_le_some (ab_le_nil)) (fX12_isName_20_ok hB H  K0)
abbrev mX12_want0 : ab_M := (yX12_want0, cX12_want0, 3, none, 0, 0)
theorem kvX12_want0 {l : Launch} {G : ab_G} {M : ab_M} {d pc : Nat} {ls : List (Option Value)} {st : List Value} {S : ab_S} {I : ab_I} {J : ab_J} {P : ab_P} {Q : ab_Q} {v0 : Value} {ix D r ln : Nat} (hd : decode M.2.1 pc = .ok (.invokevirtual ix, 3)) (h1 : Cond.methodLink M.1.cls ix mX12_want0.1 ∈ ab_good) (hs : S[r]? = some (17, ln)) (hdg : D + 1 ≤ d) (hsum : (st.map fun v => v.category).sum ≤ 8) (kk : ab_Call l G mX12_want0 D (.ref r :: [v0]) S I J P (fun v S' I' J' P' => ab_WP l G M d (pc + 3) ls (ab_psh v st) S' I' J' P' 0 0 Q)) : ab_WP l G M d pc ls (v0 :: .ref r :: st) S I J P 0 0 Q := bz_kv (g := mX12_want0) (as := [v0]) (cc := 12) rfl hd h1 tw_1385 tw_p43 tw_13 tw_1386 ⟨by decide +kernel, by decide +kernel, (by decide +kernel : (parseMethodDescriptor mX12_want0.1.desc).map (fun d => d.parameters.length) = some 1)⟩ (by decide) rfl rfl rfl hdg hsum hs kk
def fX12_want0_28 (a1 : Int64) (I : ab_I) (J : ab_J) : Option (ab_I × ab_J) :=
  some (I, J)
set_option maxRecDepth 100000 in
theorem fX12_want0_28_ok {l : Launch} {G : ab_G} {S : ab_S} {I : ab_I} {J : ab_J} {P : ab_P} {Q : ab_Q} {a1 : Int64} (hB : bz_B S P) {x : ab_I × ab_J} (H : fX12_want0_28 a1 I J = some x) (K0 : Q none S x.1 x.2 P) : ab_WP l G mX12_want0 2 28 [some (.ref 73), some (.long a1), none] [] S I J P 0 0 Q := by
  unfold fX12_want0_28 at H
  obtain rfl := Option.some.inj H
  exact ab_vret (by decide +kernel) rfl (Nat.le_refl _) (Nat.le_refl _) K0
def fX12_want0 (a1 : Int64) (I : ab_I) (J : ab_J) : Option (ab_I × ab_J) :=
  if (I 73 2) ≤ 0 then
    (fX12_isWord a1 I J).bind fun u1 =>
    if u1 = 0 then
      (fX12_wrong (2 : Int32) I).bind fun u3 =>
      fX12_want0_28 a1 u3 J
    else
      (fX12_token I J).bind fun u2 =>
      fX12_want0_28 a1 u2.1 u2.2
  else
    some (I, J)
set_option maxRecDepth 100000 in
theorem mX12_want0_ok {l : Launch} {G : ab_G} {S : ab_S} {I : ab_I} {J : ab_J} {P : ab_P} {Q : ab_Q} {a1 : Int64} (hB : bz_B S P) {x : ab_I × ab_J} (H : fX12_want0 a1 I J = some x) (K0 : Q none S x.1 x.2 P) : ab_Call l G mX12_want0 2 [.ref 73, .long a1] S I J P Q := by
  unfold fX12_want0 at H
  refine ab_enter rfl (Nat.le_of_ble_eq_true rfl) (ab_wk (ls' := [some (.ref 73), some (.long a1), none]) (ab_le_some (ab_le_some (ab_le_none (ab_le_nil)))) ?_)
  refine ab_aload_n (z := 0) (by decide +kernel) rfl rfl ?_
  refine gX12_2 (ix := 161) (by decide +kernel) tw_1083 (hB.1 73 _ rfl) ?_
  refine ab_if_le (off := 4) (tgt := 8) (by decide +kernel) rfl (fun hc => ?_) (fun hc => ?_)
  · replace H := ab_ifp H hc
    refine ab_aload_n (z := 0) (by decide +kernel) rfl rfl ?_
    refine ab_lload_n (z := 1) (by decide +kernel) rfl rfl ?_
    obtain ⟨u1, hu1, H⟩ := ab_bd_of H
    refine kvX12_isWord (D := 0) (ix := 198) (by decide +kernel) tw_1337 (hB.1 73 _ rfl) (by decide) (Nat.le_of_ble_eq_true rfl) (mX12_isWord_ok hB hu1 ?_)
    change ab_WP l G mX12_want0 2 13 [some (.ref 73), some (.long a1), none] [.int u1] S I J P 0 0 Q
    refine ab_if_ne (off := 11) (tgt := 24) (by decide +kernel) rfl (fun hc => ?_) (fun hc => ?_)
    · replace H := ab_ifn H hc
      refine ab_aload_n (z := 0) (by decide +kernel) rfl rfl ?_
      obtain ⟨u2, hu2, H⟩ := ab_bd_of H
      refine kvX12_token (D := 1) (ix := 205) (by decide +kernel) tw_1315 (hB.1 73 _ rfl) (by decide) (Nat.le_of_ble_eq_true rfl) (mX12_token_ok hB hu2 ?_)
      change ab_WP l G mX12_want0 2 28 [some (.ref 73), some (.long a1), none] [] S u2.1 u2.2 P 0 0 Q
      exact ab_wk (ab_le_some (ab_le_some (ab_le_none (ab_le_nil)))) (fX12_want0_28_ok hB H  K0)
    · replace H := ab_ifp H hc
      refine ab_aload_n (z := 0) (by decide +kernel) rfl rfl ?_
      refine ab_iconst (z := 2) (v := (2 : Int32)) (by decide +kernel) (by decide) ?_
      obtain ⟨u3, hu3, H⟩ := ab_bd_of H
      refine kvX12_wrong (D := 0) (ix := 202) (by decide +kernel) tw_1371 (hB.1 73 _ rfl) (by decide) (Nat.le_of_ble_eq_true rfl) (mX12_wrong_ok hB hu3 ?_)
      change ab_WP l G mX12_want0 2 21 [some (.ref 73), some (.long a1), none] [] S u3 J P 0 0 Q
      refine ab_goto (off := 7) (tgt := 28) (by decide +kernel) rfl ?_
      exact ab_wk (ab_le_some (ab_le_some (ab_le_none (ab_le_nil)))) (fX12_want0_28_ok hB H  K0)
  · replace H := ab_ifn H hc
    obtain rfl := Option.some.inj H
    exact ab_vret (by decide +kernel) rfl (Nat.le_refl _) (Nat.le_refl _) K0
abbrev mX12_toldNumber : ab_M := (yX12_toldNumber, cX12_toldNumber, 4, some .int, 0, 0)
theorem kvX12_toldNumber {l : Launch} {G : ab_G} {M : ab_M} {d pc : Nat} {ls : List (Option Value)} {st : List Value} {S : ab_S} {I : ab_I} {J : ab_J} {P : ab_P} {Q : ab_Q} {v0 v1 : Value} {ix D r ln : Nat} (hd : decode M.2.1 pc = .ok (.invokevirtual ix, 3)) (h1 : Cond.methodLink M.1.cls ix mX12_toldNumber.1 ∈ ab_good) (hs : S[r]? = some (17, ln)) (hdg : D + 1 ≤ d) (hsum : (st.map fun v => v.category).sum ≤ 8) (kk : ab_Call l G mX12_toldNumber D (.ref r :: [v0, v1]) S I J P (fun v S' I' J' P' => ab_WP l G M d (pc + 3) ls (ab_psh v st) S' I' J' P' 0 0 Q)) : ab_WP l G M d pc ls (v1 :: v0 :: .ref r :: st) S I J P 0 0 Q := bz_kv (g := mX12_toldNumber) (as := [v0, v1]) (cc := 12) rfl hd h1 tw_1389 tw_p44 tw_13 tw_1390 ⟨by decide +kernel, by decide +kernel, (by decide +kernel : (parseMethodDescriptor mX12_toldNumber.1.desc).map (fun d => d.parameters.length) = some 2)⟩ (by decide) rfl rfl rfl hdg hsum hs kk
def fX12_toldNumber_62 (a1 : Int32) (a2 : Int32) (a3 : Int32) (I : ab_I) (J : ab_J) : Option (Int32 × ab_I × ab_J) :=
  some (a3, I, J)
set_option maxRecDepth 100000 in
theorem fX12_toldNumber_62_ok {l : Launch} {G : ab_G} {S : ab_S} {I : ab_I} {J : ab_J} {P : ab_P} {Q : ab_Q} {a1 : Int32} {a2 : Int32} {a3 : Int32} (hB : bz_B S P) {x : Int32 × ab_I × ab_J} (H : fX12_toldNumber_62 a1 a2 a3 I J = some x) (K0 : Q (some (.int x.1)) S x.2.1 x.2.2 P) : ab_WP l G mX12_toldNumber 2 62 [some (.ref 73), some (.int a1), some (.int a2), some (.int a3)] [] S I J P 0 0 Q := by
  unfold fX12_toldNumber_62 at H
  refine ab_iload_n (z := 3) (by decide +kernel) rfl rfl ?_
  obtain rfl := Option.some.inj H
  exact ab_iret (by decide +kernel) rfl (Nat.le_refl _) (Nat.le_refl _) K0
def fX12_toldNumber_46 (a1 : Int32) (a2 : Int32) (I : ab_I) (J : ab_J) : Option (Int32 × ab_I × ab_J) :=
  if (I 73 2) = 0 then
    (fX12_token I J).bind fun u3 =>
    fX12_toldNumber_62 a1 a2 (I 73 8) u3.1 u3.2
  else
    fX12_toldNumber_62 a1 a2 (I 73 8) I J
set_option maxRecDepth 100000 in
theorem fX12_toldNumber_46_ok {l : Launch} {G : ab_G} {S : ab_S} {I : ab_I} {J : ab_J} {P : ab_P} {Q : ab_Q} {a1 : Int32} {a2 : Int32} (hB : bz_B S P) {x : Int32 × ab_I × ab_J} (H : fX12_toldNumber_46 a1 a2 I J = some x) (K0 : Q (some (.int x.1)) S x.2.1 x.2.2 P) : ab_WP l G mX12_toldNumber 2 46 [some (.ref 73), some (.int a1), some (.int a2), none] [] S I J P 0 0 Q := by
  unfold fX12_toldNumber_46 at H
  refine ab_aload_n (z := 0) (by decide +kernel) rfl rfl ?_
  refine gX12_8 (ix := 145) (by decide +kernel) tw_1089 (hB.1 73 _ rfl) ?_
  refine ab_istore_n (z := 3) (by decide +kernel) rfl (by decide) rfl ?_
  refine ab_ls (ls' := [some (.ref 73), some (.int a1), some (.int a2), some (.int (I 73 8))]) rfl ?_
  refine ab_aload_n (z := 0) (by decide +kernel) rfl rfl ?_
  refine gX12_2 (ix := 161) (by decide +kernel) tw_1083 (hB.1 73 _ rfl) ?_
  refine ab_if_ne (off := 7) (tgt := 62) (by decide +kernel) rfl (fun hc => ?_) (fun hc => ?_)
  · replace H := ab_ifn H hc
    exact ab_wk (ab_le_some (ab_le_some (ab_le_some (ab_le_some (ab_le_nil))))) (fX12_toldNumber_62_ok hB H  K0)
  · replace H := ab_ifp H hc
    refine ab_aload_n (z := 0) (by decide +kernel) rfl rfl ?_
    obtain ⟨u3, hu3, H⟩ := ab_bd_of H
    refine kvX12_token (D := 1) (ix := 205) (by decide +kernel) tw_1315 (hB.1 73 _ rfl) (by decide) (Nat.le_of_ble_eq_true rfl) (mX12_token_ok hB hu3 ?_)
    change ab_WP l G mX12_toldNumber 2 62 [some (.ref 73), some (.int a1), some (.int a2), some (.int (I 73 8))] [] S u3.1 u3.2 P 0 0 Q
    exact ab_wk (ab_le_some (ab_le_some (ab_le_some (ab_le_some (ab_le_nil))))) (fX12_toldNumber_62_ok hB H  K0)
def fX12_toldNumber_41 (a1 : Int32) (a2 : Int32) (I : ab_I) (J : ab_J) : Option (Int32 × ab_I × ab_J) :=
  (fX12_wrong (4 : Int32) I).bind fun u2 =>
  fX12_toldNumber_46 a1 a2 u2 J
set_option maxRecDepth 100000 in
theorem fX12_toldNumber_41_ok {l : Launch} {G : ab_G} {S : ab_S} {I : ab_I} {J : ab_J} {P : ab_P} {Q : ab_Q} {a1 : Int32} {a2 : Int32} (hB : bz_B S P) {x : Int32 × ab_I × ab_J} (H : fX12_toldNumber_41 a1 a2 I J = some x) (K0 : Q (some (.int x.1)) S x.2.1 x.2.2 P) : ab_WP l G mX12_toldNumber 2 41 [some (.ref 73), some (.int a1), some (.int a2), none] [] S I J P 0 0 Q := by
  unfold fX12_toldNumber_41 at H
  refine ab_aload_n (z := 0) (by decide +kernel) rfl rfl ?_
  refine ab_iconst (z := 4) (v := (4 : Int32)) (by decide +kernel) (by decide) ?_
  obtain ⟨u2, hu2, H⟩ := ab_bd_of H
  refine kvX12_wrong (D := 0) (ix := 202) (by decide +kernel) tw_1371 (hB.1 73 _ rfl) (by decide) (Nat.le_of_ble_eq_true rfl) (mX12_wrong_ok hB hu2 ?_)
  change ab_WP l G mX12_toldNumber 2 46 [some (.ref 73), some (.int a1), some (.int a2), none] [] S u2 J P 0 0 Q
  exact ab_wk (ab_le_some (ab_le_some (ab_le_some (ab_le_none (ab_le_nil))))) (fX12_toldNumber_46_ok hB H  K0)
def fX12_toldNumber (a1 : Int32) (a2 : Int32) (I : ab_I) (J : ab_J) : Option (Int32 × ab_I × ab_J) :=
  if (I 73 2) ≤ 0 then
    if (I 73 6) = (2 : Int32) then
      if (I 73 8) < a1 then
        fX12_toldNumber_41 a1 a2 I J
      else
        if (I 73 8) ≤ a2 then
          fX12_toldNumber_46 a1 a2 I J
        else
          fX12_toldNumber_41 a1 a2 I J
    else
      (fX12_wrong (2 : Int32) I).bind fun u1 =>
      fX12_toldNumber_46 a1 a2 u1 J
  else
    some ((0 : Int32), I, J)
set_option maxRecDepth 100000 in
theorem mX12_toldNumber_ok {l : Launch} {G : ab_G} {S : ab_S} {I : ab_I} {J : ab_J} {P : ab_P} {Q : ab_Q} {a1 : Int32} {a2 : Int32} (hB : bz_B S P) {x : Int32 × ab_I × ab_J} (H : fX12_toldNumber a1 a2 I J = some x) (K0 : Q (some (.int x.1)) S x.2.1 x.2.2 P) : ab_Call l G mX12_toldNumber 2 [.ref 73, .int a1, .int a2] S I J P Q := by
  unfold fX12_toldNumber at H
  refine ab_enter rfl (Nat.le_of_ble_eq_true rfl) (ab_wk (ls' := [some (.ref 73), some (.int a1), some (.int a2), none]) (ab_le_some (ab_le_some (ab_le_some (ab_le_non0 ab_le_nil)))) ?_)
  refine ab_aload_n (z := 0) (by decide +kernel) rfl rfl ?_
  refine gX12_2 (ix := 161) (by decide +kernel) tw_1083 (hB.1 73 _ rfl) ?_
  refine ab_if_le (off := 5) (tgt := 9) (by decide +kernel) rfl (fun hc => ?_) (fun hc => ?_)
  · replace H := ab_ifp H hc
    refine ab_aload_n (z := 0) (by decide +kernel) rfl rfl ?_
    refine gX12_6 (ix := 148) (by decide +kernel) tw_1087 (hB.1 73 _ rfl) ?_
    refine ab_iconst (z := 2) (v := (2 : Int32)) (by decide +kernel) (by decide) ?_
    refine ab_icmp_eq (off := 11) (tgt := 25) (by decide +kernel) rfl (fun hc => ?_) (fun hc => ?_)
    · replace H := ab_ifp H hc
      refine ab_aload_n (z := 0) (by decide +kernel) rfl rfl ?_
      refine gX12_8 (ix := 145) (by decide +kernel) tw_1089 (hB.1 73 _ rfl) ?_
      refine ab_iload_n (z := 1) (by decide +kernel) rfl rfl ?_
      refine ab_icmp_lt (off := 11) (tgt := 41) (by decide +kernel) rfl (fun hc => ?_) (fun hc => ?_)
      · replace H := ab_ifp H hc
        exact ab_wk (ab_le_some (ab_le_some (ab_le_some (ab_le_none (ab_le_nil))))) (fX12_toldNumber_41_ok hB H  K0)
      · replace H := ab_ifn H hc
        refine ab_aload_n (z := 0) (by decide +kernel) rfl rfl ?_
        refine gX12_8 (ix := 145) (by decide +kernel) tw_1089 (hB.1 73 _ rfl) ?_
        refine ab_iload_n (z := 2) (by decide +kernel) rfl rfl ?_
        refine ab_icmp_le (off := 8) (tgt := 46) (by decide +kernel) rfl (fun hc => ?_) (fun hc => ?_)
        · replace H := ab_ifp H hc
          exact ab_wk (ab_le_some (ab_le_some (ab_le_some (ab_le_none (ab_le_nil))))) (fX12_toldNumber_46_ok hB H  K0)
        · replace H := ab_ifn H hc
          exact ab_wk (ab_le_some (ab_le_some (ab_le_some (ab_le_none (ab_le_nil))))) (fX12_toldNumber_41_ok hB H  K0)
    · replace H := ab_ifn H hc
      refine ab_aload_n (z := 0) (by decide +kernel) rfl rfl ?_
      refine ab_iconst (z := 2) (v := (2 : Int32)) (by decide +kernel) (by decide) ?_
      obtain ⟨u1, hu1, H⟩ := ab_bd_of H
      refine kvX12_wrong (D := 0) (ix := 202) (by decide +kernel) tw_1371 (hB.1 73 _ rfl) (by decide) (Nat.le_of_ble_eq_true rfl) (mX12_wrong_ok hB hu1 ?_)
      change ab_WP l G mX12_toldNumber 2 22 [some (.ref 73), some (.int a1), some (.int a2), none] [] S u1 J P 0 0 Q
      refine ab_goto (off := 24) (tgt := 46) (by decide +kernel) rfl ?_
      exact ab_wk (ab_le_some (ab_le_some (ab_le_some (ab_le_none (ab_le_nil))))) (fX12_toldNumber_46_ok hB H  K0)
  · replace H := ab_ifn H hc
    refine ab_iconst (z := 0) (v := (0 : Int32)) (by decide +kernel) (by decide) ?_
    obtain rfl := Option.some.inj H
    exact ab_iret (by decide +kernel) rfl (Nat.le_refl _) (Nat.le_refl _) K0
abbrev mX12_told : ab_M := (yX12_told, cX12_told, 5, some .int, 0, 0)
theorem kvX12_told {l : Launch} {G : ab_G} {M : ab_M} {d pc : Nat} {ls : List (Option Value)} {st : List Value} {S : ab_S} {I : ab_I} {J : ab_J} {P : ab_P} {Q : ab_Q} {v0 v1 v2 : Value} {ix D r ln : Nat} (hd : decode M.2.1 pc = .ok (.invokevirtual ix, 3)) (h1 : Cond.methodLink M.1.cls ix mX12_told.1 ∈ ab_good) (hs : S[r]? = some (17, ln)) (hdg : D + 1 ≤ d) (hsum : (st.map fun v => v.category).sum ≤ 8) (kk : ab_Call l G mX12_told D (.ref r :: [v0, v1, v2]) S I J P (fun v S' I' J' P' => ab_WP l G M d (pc + 3) ls (ab_psh v st) S' I' J' P' 0 0 Q)) : ab_WP l G M d pc ls (v2 :: v1 :: v0 :: .ref r :: st) S I J P 0 0 Q := bz_kv (g := mX12_told) (as := [v0, v1, v2]) (cc := 12) rfl hd h1 tw_1381 tw_p42 tw_13 tw_1382 ⟨by decide +kernel, by decide +kernel, (by decide +kernel : (parseMethodDescriptor mX12_told.1.desc).map (fun d => d.parameters.length) = some 3)⟩ (by decide) rfl rfl rfl hdg hsum hs kk
def fX12_told (a1 : Int64) (a3 : Int32) (a4 : Int32) (I : ab_I) (J : ab_J) : Option (Int32 × ab_I × ab_J) :=
  (fX12_want0 a1 I J).bind fun u1 =>
  (fX12_toldNumber a3 a4 u1.1 u1.2).bind fun u2 =>
  some (u2.1, u2.2.1, u2.2.2)
set_option maxRecDepth 100000 in
theorem mX12_told_ok {l : Launch} {G : ab_G} {S : ab_S} {I : ab_I} {J : ab_J} {P : ab_P} {Q : ab_Q} {a1 : Int64} {a3 : Int32} {a4 : Int32} (hB : bz_B S P) {x : Int32 × ab_I × ab_J} (H : fX12_told a1 a3 a4 I J = some x) (K0 : Q (some (.int x.1)) S x.2.1 x.2.2 P) : ab_Call l G mX12_told 3 [.ref 73, .long a1, .int a3, .int a4] S I J P Q := by
  unfold fX12_told at H
  refine ab_enter rfl (Nat.le_of_ble_eq_true rfl) (ab_wk (ls' := [some (.ref 73), some (.long a1), none, some (.int a3), some (.int a4)]) (ab_le_some (ab_le_some (ab_le_none (ab_le_some (ab_le_some (ab_le_nil)))))) ?_)
  refine ab_aload_n (z := 0) (by decide +kernel) rfl rfl ?_
  refine ab_lload_n (z := 1) (by decide +kernel) rfl rfl ?_
  obtain ⟨u1, hu1, H⟩ := ab_bd_of H
  refine kvX12_want0 (D := 2) (ix := 208) (by decide +kernel) tw_1383 (hB.1 73 _ rfl) (by decide) (Nat.le_of_ble_eq_true rfl) (mX12_want0_ok hB hu1 ?_)
  change ab_WP l G mX12_told 3 5 [some (.ref 73), some (.long a1), none, some (.int a3), some (.int a4)] [] S u1.1 u1.2 P 0 0 Q
  refine ab_aload_n (z := 0) (by decide +kernel) rfl rfl ?_
  refine ab_iload_n (z := 3) (by decide +kernel) rfl rfl ?_
  refine ab_iload (i := 4) (by decide +kernel) rfl ?_
  obtain ⟨u2, hu2, H⟩ := ab_bd_of H
  refine kvX12_toldNumber (D := 2) (ix := 212) (by decide +kernel) tw_1387 (hB.1 73 _ rfl) (by decide) (Nat.le_of_ble_eq_true rfl) (mX12_toldNumber_ok hB hu2 ?_)
  change ab_WP l G mX12_told 3 12 [some (.ref 73), some (.long a1), none, some (.int a3), some (.int a4)] [.int u2.1] S u2.2.1 u2.2.2 P 0 0 Q
  obtain rfl := Option.some.inj H
  exact ab_iret (by decide +kernel) rfl (Nat.le_refl _) (Nat.le_refl _) K0
abbrev mX12_find : ab_M := (yX12_find, cX12_find, 5, some .int, 0, 0)
theorem kvX12_find {l : Launch} {G : ab_G} {M : ab_M} {d pc : Nat} {ls : List (Option Value)} {st : List Value} {S : ab_S} {I : ab_I} {J : ab_J} {P : ab_P} {Q : ab_Q} {v0 v1 : Value} {ix D r ln : Nat} (hd : decode M.2.1 pc = .ok (.invokevirtual ix, 3)) (h1 : Cond.methodLink M.1.cls ix mX12_find.1 ∈ ab_good) (hs : S[r]? = some (17, ln)) (hdg : D + 1 ≤ d) (hsum : (st.map fun v => v.category).sum ≤ 8) (kk : ab_Call l G mX12_find D (.ref r :: [v0, v1]) S I J P (fun v S' I' J' P' => ab_WP l G M d (pc + 3) ls (ab_psh v st) S' I' J' P' 0 0 Q)) : ab_WP l G M d pc ls (v1 :: v0 :: .ref r :: st) S I J P 0 0 Q := bz_kv (g := mX12_find) (as := [v0, v1]) (cc := 12) rfl hd h1 tw_1377 tw_p41 tw_13 tw_1378 ⟨by decide +kernel, by decide +kernel, (by decide +kernel : (parseMethodDescriptor mX12_find.1.desc).map (fun d => d.parameters.length) = some 2)⟩ (by decide) rfl rfl rfl hdg hsum hs kk
def fX12_find_41 (a1 : Int32) (a2 : Int32) (J : ab_J) (a3 : Int32) : Option Int32 :=
  some a3
set_option maxRecDepth 100000 in
theorem fX12_find_41_ok {l : Launch} {G : ab_G} {S : ab_S} {I : ab_I} {J : ab_J} {P : ab_P} {Q : ab_Q} {a1 : Int32} {a2 : Int32} {a3 : Int32} (hB : bz_B S P) {x : Int32} (H : fX12_find_41 a1 a2 J a3 = some x) (K0 : Q (some (.int x)) S I J P) : ab_WP l G mX12_find 0 41 [some (.ref 73), some (.int a1), some (.int a2), some (.int a3), none] [] S I J P 0 0 Q := by
  unfold fX12_find_41 at H
  refine ab_iload_n (z := 3) (by decide +kernel) rfl rfl ?_
  obtain rfl := Option.some.inj H
  exact ab_iret (by decide +kernel) rfl (Nat.le_refl _) (Nat.le_refl _) K0
def fX12_find_34 (a1 : Int32) (a2 : Int32) (J : ab_J) (a4 : Int32) (s0 : Int32) : Option ((Int32 × Int32) ⊕ Int32) :=
  some (.inl (s0, (a4 + (1 : Int32))))
set_option maxRecDepth 100000 in
theorem fX12_find_34_ok {l : Launch} {G : ab_G} {S : ab_S} {I : ab_I} {J : ab_J} {P : ab_P} {Q : ab_Q} {a1 : Int32} {a2 : Int32} {a4 : Int32} {s0 : Int32} (hB : bz_B S P) {x : ((Int32 × Int32) ⊕ Int32)} (H : fX12_find_34 a1 a2 J a4 s0 = some x) (K1 : ∀ s, x = (.inl s) → ab_WP l G mX12_find 0 5 [some (.ref 73), some (.int a1), some (.int a2), some (.int s.1), some (.int s.2)] [] S I J P 0 0 Q) (K0 : ∀ r, x = (.inr r) → Q (some (.int r)) S I J P) : ab_WP l G mX12_find 0 34 [some (.ref 73), some (.int a1), some (.int a2), none, some (.int a4)] [.int s0] S I J P 0 0 Q := by
  unfold fX12_find_34 at H
  refine ab_istore_n (z := 3) (by decide +kernel) rfl (by decide) rfl ?_
  refine ab_ls (ls' := [some (.ref 73), some (.int a1), some (.int a2), some (.int s0), some (.int a4)]) rfl ?_
  refine ab_iinc (i := 4) (z := 1) (v := (a4 + (1 : Int32))) (by decide +kernel) rfl rfl (by decide) rfl ?_
  refine ab_ls (ls' := [some (.ref 73), some (.int a1), some (.int a2), some (.int s0), some (.int (a4 + (1 : Int32)))]) rfl ?_
  refine ab_goto (off := -33) (tgt := 5) (by decide +kernel) rfl ?_
  exact ab_wk (ab_le_some (ab_le_some (ab_le_some (ab_le_some (ab_le_some (ab_le_nil)))))) (K1 (s0, (a4 + (1 : Int32))) (Option.some.inj H).symm)
def fX12_find_5 (a1 : Int32) (a2 : Int32) (J : ab_J) (a3 : Int32) (a4 : Int32) : Option ((Int32 × Int32) ⊕ Int32) :=
  if a2 ≤ a4 then
    (fX12_find_41 a1 a2 J a3).map .inr
  else
    ab_gd (ab_ix (a1 + a4) 11 = true) (
      if (lg_cmp (J 75 ((a1 + a4).toNatClampNeg)) (J 73 9)) = 0 then
        fX12_find_34 a1 a2 J a4 a4
      else
        fX12_find_34 a1 a2 J a4 a3
    )
set_option maxRecDepth 100000 in
theorem fX12_find_5_ok {l : Launch} {G : ab_G} {S : ab_S} {I : ab_I} {J : ab_J} {P : ab_P} {Q : ab_Q} {a1 : Int32} {a2 : Int32} {a3 : Int32} {a4 : Int32} (hB : bz_B S P) {x : ((Int32 × Int32) ⊕ Int32)} (H : fX12_find_5 a1 a2 J a3 a4 = some x) (K1 : ∀ s, x = (.inl s) → ab_WP l G mX12_find 0 5 [some (.ref 73), some (.int a1), some (.int a2), some (.int s.1), some (.int s.2)] [] S I J P 0 0 Q) (K0 : ∀ r, x = (.inr r) → Q (some (.int r)) S I J P) : ab_WP l G mX12_find 0 5 [some (.ref 73), some (.int a1), some (.int a2), some (.int a3), some (.int a4)] [] S I J P 0 0 Q := by
  unfold fX12_find_5 at H
  refine ab_iload (i := 4) (by decide +kernel) rfl ?_
  refine ab_iload_n (z := 2) (by decide +kernel) rfl rfl ?_
  refine ab_icmp_ge (off := 33) (tgt := 41) (by decide +kernel) rfl (fun hc => ?_) (fun hc => ?_)
  · replace H := ab_ifp H hc
    obtain ⟨y1, Hy, hx⟩ := ab_mp_of H
    subst hx
    replace H := Hy
    exact ab_wk (ab_le_some (ab_le_some (ab_le_some (ab_le_some (ab_le_none (ab_le_nil)))))) (fX12_find_41_ok hB H  (K0 _ rfl))
  · replace H := ab_ifn H hc
    refine ab_aload_n (z := 0) (by decide +kernel) rfl rfl ?_
    refine gX12_10 (ix := 17) (by decide +kernel) tw_1091 (hB.1 73 _ rfl) (hB.2.1 80 (73, 10, 75) rfl) ?_
    refine ab_iload_n (z := 1) (by decide +kernel) rfl rfl ?_
    refine ab_iload (i := 4) (by decide +kernel) rfl ?_
    refine ab_iadd (by decide +kernel) ?_
    obtain ⟨hg, H⟩ := ab_gd_of H
    refine ab_lald (ln := 11) (by decide +kernel) (hB.1 75 _ rfl) (ab_ix_in hg) ?_
    refine ab_aload_n (z := 0) (by decide +kernel) rfl rfl ?_
    refine gX12_9 (ix := 141) (by decide +kernel) tw_1090 (hB.1 73 _ rfl) ?_
    refine ab_lcmp (by decide +kernel) ?_
    refine ab_if_ne (off := 8) (tgt := 33) (by decide +kernel) rfl (fun hc => ?_) (fun hc => ?_)
    · replace H := ab_ifn H hc
      refine ab_iload_n (z := 3) (by decide +kernel) rfl rfl ?_
      exact ab_wk (ab_le_some (ab_le_some (ab_le_some (ab_le_none (ab_le_some (ab_le_nil)))))) (fX12_find_34_ok hB H K1 K0)
    · replace H := ab_ifp H hc
      refine ab_iload (i := 4) (by decide +kernel) rfl ?_
      refine ab_goto (off := 4) (tgt := 34) (by decide +kernel) rfl ?_
      exact ab_wk (ab_le_some (ab_le_some (ab_le_some (ab_le_none (ab_le_some (ab_le_nil)))))) (fX12_find_34_ok hB H K1 K0)
def fX12_find (a1 : Int32) (a2 : Int32) (J : ab_J) : Option Int32 :=
  ab_it (fun s => fX12_find_5 a1 a2 J s.1 s.2) 5000 ((-1 : Int32), (0 : Int32))
set_option maxRecDepth 100000 in
theorem mX12_find_ok {l : Launch} {G : ab_G} {S : ab_S} {I : ab_I} {J : ab_J} {P : ab_P} {Q : ab_Q} {a1 : Int32} {a2 : Int32} (hB : bz_B S P) {x : Int32} (H : fX12_find a1 a2 J = some x) (K0 : Q (some (.int x)) S I J P) : ab_Call l G mX12_find 0 [.ref 73, .int a1, .int a2] S I J P Q := by
  unfold fX12_find at H
  refine ab_enter rfl (Nat.le_of_ble_eq_true rfl) (ab_wk (ls' := [some (.ref 73), some (.int a1), some (.int a2), none, none]) (ab_le_some (ab_le_some (ab_le_some (ab_le_non0 (ab_le_non0 ab_le_nil))))) ?_)
  refine ab_iconst (z := -1) (v := (-1 : Int32)) (by decide +kernel) (by decide) ?_
  refine ab_istore_n (z := 3) (by decide +kernel) rfl (by decide) rfl ?_
  refine ab_ls (ls' := [some (.ref 73), some (.int a1), some (.int a2), some (.int (-1 : Int32)), none]) rfl ?_
  refine ab_iconst (z := 0) (v := (0 : Int32)) (by decide +kernel) (by decide) ?_
  refine ab_istore (i := 4) (by decide +kernel) (by decide) rfl ?_
  refine ab_ls (ls' := [some (.ref 73), some (.int a1), some (.int a2), some (.int (-1 : Int32)), some (.int (0 : Int32))]) rfl ?_
  exact ab_wk (ab_le_some (ab_le_some (ab_le_some (ab_le_some (ab_le_some (ab_le_nil)))))) (ab_iter (body := (fun s => fX12_find_5 a1 a2 J s.1 s.2)) (W := fun s => ab_WP l G mX12_find 0 5 [some (.ref 73), some (.int a1), some (.int a2), some (.int s.1), some (.int s.2)] [] S I J P 0 0 Q) (fun s y hb h1 h2 => fX12_find_5_ok hB hb h1 (fun r e => by have e2 := h2 _ e; subst e2; exact K0)) 5000 ((-1 : Int32), (0 : Int32)) H)
abbrev mX12_newName : ab_M := (yX12_newName, cX12_newName, 3, none, 0, 0)
theorem kvX12_newName {l : Launch} {G : ab_G} {M : ab_M} {d pc : Nat} {ls : List (Option Value)} {st : List Value} {S : ab_S} {I : ab_I} {J : ab_J} {P : ab_P} {Q : ab_Q} {v0 v1 : Value} {ix D r ln : Nat} (hd : decode M.2.1 pc = .ok (.invokevirtual ix, 3)) (h1 : Cond.methodLink M.1.cls ix mX12_newName.1 ∈ ab_good) (hs : S[r]? = some (17, ln)) (hdg : D + 1 ≤ d) (hsum : (st.map fun v => v.category).sum ≤ 8) (kk : ab_Call l G mX12_newName D (.ref r :: [v0, v1]) S I J P (fun v S' I' J' P' => ab_WP l G M d (pc + 3) ls (ab_psh v st) S' I' J' P' 0 0 Q)) : ab_WP l G M d pc ls (v1 :: v0 :: .ref r :: st) S I J P 0 0 Q := bz_kv (g := mX12_newName) (as := [v0, v1]) (cc := 12) rfl hd h1 tw_1347 tw_p37 tw_13 tw_1348 ⟨by decide +kernel, by decide +kernel, (by decide +kernel : (parseMethodDescriptor mX12_newName.1.desc).map (fun d => d.parameters.length) = some 2)⟩ (by decide) rfl rfl rfl hdg hsum hs kk
def fX12_newName_33 (a1 : Int32) (a2 : Int32) (I : ab_I) (J : ab_J) : Option (ab_I × ab_J) :=
  if (I 73 2) ≤ 0 then
    ab_gd (ab_ix (a1 + a2) 11 = true) (
      (fX12_token I (ab_u J 75 ((a1 + a2).toNatClampNeg) (J 73 9))).bind fun u6 =>
      some (u6.1, u6.2)
    )
  else
    some (I, J)
set_option maxRecDepth 100000 in
theorem fX12_newName_33_ok {l : Launch} {G : ab_G} {S : ab_S} {I : ab_I} {J : ab_J} {P : ab_P} {Q : ab_Q} {a1 : Int32} {a2 : Int32} (hB : bz_B S P) {x : ab_I × ab_J} (H : fX12_newName_33 a1 a2 I J = some x) (K0 : Q none S x.1 x.2 P) : ab_WP l G mX12_newName 2 33 [some (.ref 73), some (.int a1), some (.int a2)] [] S I J P 0 0 Q := by
  unfold fX12_newName_33 at H
  refine ab_aload_n (z := 0) (by decide +kernel) rfl rfl ?_
  refine gX12_2 (ix := 161) (by decide +kernel) tw_1083 (hB.1 73 _ rfl) ?_
  refine ab_if_le (off := 4) (tgt := 41) (by decide +kernel) rfl (fun hc => ?_) (fun hc => ?_)
  · replace H := ab_ifp H hc
    refine ab_aload_n (z := 0) (by decide +kernel) rfl rfl ?_
    refine gX12_10 (ix := 17) (by decide +kernel) tw_1091 (hB.1 73 _ rfl) (hB.2.1 80 (73, 10, 75) rfl) ?_
    refine ab_iload_n (z := 1) (by decide +kernel) rfl rfl ?_
    refine ab_iload_n (z := 2) (by decide +kernel) rfl rfl ?_
    refine ab_iadd (by decide +kernel) ?_
    refine ab_aload_n (z := 0) (by decide +kernel) rfl rfl ?_
    refine gX12_9 (ix := 141) (by decide +kernel) tw_1090 (hB.1 73 _ rfl) ?_
    obtain ⟨hg, H⟩ := ab_gd_of H
    refine ab_last (ln := 11) (by decide +kernel) (hB.1 75 _ rfl) (ab_ix_in hg) ?_
    refine ab_aload_n (z := 0) (by decide +kernel) rfl rfl ?_
    obtain ⟨u6, hu6, H⟩ := ab_bd_of H
    refine kvX12_token (D := 1) (ix := 205) (by decide +kernel) tw_1315 (hB.1 73 _ rfl) (by decide) (Nat.le_of_ble_eq_true rfl) (mX12_token_ok hB hu6 ?_)
    change ab_WP l G mX12_newName 2 57 [some (.ref 73), some (.int a1), some (.int a2)] [] S u6.1 u6.2 P 0 0 Q
    obtain rfl := Option.some.inj H
    exact ab_vret (by decide +kernel) rfl (Nat.le_refl _) (Nat.le_refl _) K0
  · replace H := ab_ifn H hc
    obtain rfl := Option.some.inj H
    exact ab_vret (by decide +kernel) rfl (Nat.le_refl _) (Nat.le_refl _) K0
def fX12_newName (a1 : Int32) (a2 : Int32) (I : ab_I) (J : ab_J) : Option (ab_I × ab_J) :=
  (fX12_token I J).bind fun u1 =>
  (fX12_isName u1.1 u1.2).bind fun u2 =>
  if u2 = 0 then
    (fX12_wrong (2 : Int32) u1.1).bind fun u5 =>
    fX12_newName_33 a1 a2 u5 u1.2
  else
    (fX12_find a1 a2 u1.2).bind fun u3 =>
    if u3 < 0 then
      fX12_newName_33 a1 a2 u1.1 u1.2
    else
      (fX12_wrong (3 : Int32) u1.1).bind fun u4 =>
      fX12_newName_33 a1 a2 u4 u1.2
set_option maxRecDepth 100000 in
theorem mX12_newName_ok {l : Launch} {G : ab_G} {S : ab_S} {I : ab_I} {J : ab_J} {P : ab_P} {Q : ab_Q} {a1 : Int32} {a2 : Int32} (hB : bz_B S P) {x : ab_I × ab_J} (H : fX12_newName a1 a2 I J = some x) (K0 : Q none S x.1 x.2 P) : ab_Call l G mX12_newName 2 [.ref 73, .int a1, .int a2] S I J P Q := by
  unfold fX12_newName at H
  refine ab_enter rfl (Nat.le_of_ble_eq_true rfl) (ab_wk (ls' := [some (.ref 73), some (.int a1), some (.int a2)]) (ab_le_some (ab_le_some (ab_le_some (ab_le_nil)))) ?_)
  refine ab_aload_n (z := 0) (by decide +kernel) rfl rfl ?_
  obtain ⟨u1, hu1, H⟩ := ab_bd_of H
  refine kvX12_token (D := 1) (ix := 205) (by decide +kernel) tw_1315 (hB.1 73 _ rfl) (by decide) (Nat.le_of_ble_eq_true rfl) (mX12_token_ok hB hu1 ?_)
  change ab_WP l G mX12_newName 2 4 [some (.ref 73), some (.int a1), some (.int a2)] [] S u1.1 u1.2 P 0 0 Q
  refine ab_aload_n (z := 0) (by decide +kernel) rfl rfl ?_
  obtain ⟨u2, hu2, H⟩ := ab_bd_of H
  refine kvX12_isName (D := 1) (ix := 216) (by decide +kernel) tw_1349 (hB.1 73 _ rfl) (by decide) (Nat.le_of_ble_eq_true rfl) (mX12_isName_ok hB hu2 ?_)
  change ab_WP l G mX12_newName 2 8 [some (.ref 73), some (.int a1), some (.int a2)] [.int u2] S u1.1 u1.2 P 0 0 Q
  refine ab_if_ne (off := 11) (tgt := 19) (by decide +kernel) rfl (fun hc => ?_) (fun hc => ?_)
  · replace H := ab_ifn H hc
    refine ab_aload_n (z := 0) (by decide +kernel) rfl rfl ?_
    refine ab_iload_n (z := 1) (by decide +kernel) rfl rfl ?_
    refine ab_iload_n (z := 2) (by decide +kernel) rfl rfl ?_
    obtain ⟨u3, hu3, H⟩ := ab_bd_of H
    refine kvX12_find (D := 0) (ix := 219) (by decide +kernel) tw_1375 (hB.1 73 _ rfl) (by decide) (Nat.le_of_ble_eq_true rfl) (mX12_find_ok hB hu3 ?_)
    change ab_WP l G mX12_newName 2 25 [some (.ref 73), some (.int a1), some (.int a2)] [.int u3] S u1.1 u1.2 P 0 0 Q
    refine ab_if_lt (off := 8) (tgt := 33) (by decide +kernel) rfl (fun hc => ?_) (fun hc => ?_)
    · replace H := ab_ifp H hc
      exact ab_wk (ab_le_some (ab_le_some (ab_le_some (ab_le_nil)))) (fX12_newName_33_ok hB H  K0)
    · replace H := ab_ifn H hc
      refine ab_aload_n (z := 0) (by decide +kernel) rfl rfl ?_
      refine ab_iconst (z := 3) (v := (3 : Int32)) (by decide +kernel) (by decide) ?_
      obtain ⟨u4, hu4, H⟩ := ab_bd_of H
      refine kvX12_wrong (D := 0) (ix := 202) (by decide +kernel) tw_1371 (hB.1 73 _ rfl) (by decide) (Nat.le_of_ble_eq_true rfl) (mX12_wrong_ok hB hu4 ?_)
      change ab_WP l G mX12_newName 2 33 [some (.ref 73), some (.int a1), some (.int a2)] [] S u4 u1.2 P 0 0 Q
      exact ab_wk (ab_le_some (ab_le_some (ab_le_some (ab_le_nil)))) (fX12_newName_33_ok hB H  K0)
  · replace H := ab_ifp H hc
    refine ab_aload_n (z := 0) (by decide +kernel) rfl rfl ?_
    refine ab_iconst (z := 2) (v := (2 : Int32)) (by decide +kernel) (by decide) ?_
    obtain ⟨u5, hu5, H⟩ := ab_bd_of H
    refine kvX12_wrong (D := 0) (ix := 202) (by decide +kernel) tw_1371 (hB.1 73 _ rfl) (by decide) (Nat.le_of_ble_eq_true rfl) (mX12_wrong_ok hB hu5 ?_)
    change ab_WP l G mX12_newName 2 16 [some (.ref 73), some (.int a1), some (.int a2)] [] S u5 u1.2 P 0 0 Q
    refine ab_goto (off := 17) (tgt := 33) (by decide +kernel) rfl ?_
    exact ab_wk (ab_le_some (ab_le_some (ab_le_some (ab_le_nil)))) (fX12_newName_33_ok hB H  K0)
abbrev mX12_oldName : ab_M := (yX12_oldName, cX12_oldName, 3, some .int, 0, 0)
theorem kvX12_oldName {l : Launch} {G : ab_G} {M : ab_M} {d pc : Nat} {ls : List (Option Value)} {st : List Value} {S : ab_S} {I : ab_I} {J : ab_J} {P : ab_P} {Q : ab_Q} {v0 v1 : Value} {ix D r ln : Nat} (hd : decode M.2.1 pc = .ok (.invokevirtual ix, 3)) (h1 : Cond.methodLink M.1.cls ix mX12_oldName.1 ∈ ab_good) (hs : S[r]? = some (17, ln)) (hdg : D + 1 ≤ d) (hsum : (st.map fun v => v.category).sum ≤ 8) (kk : ab_Call l G mX12_oldName D (.ref r :: [v0, v1]) S I J P (fun v S' I' J' P' => ab_WP l G M d (pc + 3) ls (ab_psh v st) S' I' J' P' 0 0 Q)) : ab_WP l G M d pc ls (v1 :: v0 :: .ref r :: st) S I J P 0 0 Q := bz_kv (g := mX12_oldName) (as := [v0, v1]) (cc := 12) rfl hd h1 tw_1401 tw_p47 tw_13 tw_1402 ⟨by decide +kernel, by decide +kernel, (by decide +kernel : (parseMethodDescriptor mX12_oldName.1.desc).map (fun d => d.parameters.length) = some 2)⟩ (by decide) rfl rfl rfl hdg hsum hs kk
def fX12_oldName_55 (a1 : Int32) (a2 : Int32) (J : ab_J) (s0 : Int32) (I : ab_I) : Option (Int32 × ab_I) :=
  some (s0, I)
set_option maxRecDepth 100000 in
theorem fX12_oldName_55_ok {l : Launch} {G : ab_G} {S : ab_S} {I : ab_I} {J : ab_J} {P : ab_P} {Q : ab_Q} {a1 : Int32} {a2 : Int32} {s0 : Int32} (hB : bz_B S P) {x : Int32 × ab_I} (H : fX12_oldName_55 a1 a2 J s0 I = some x) (K0 : Q (some (.int x.1)) S x.2 J P) : ab_WP l G mX12_oldName 2 55 [some (.ref 73), some (.int a1), some (.int a2)] [.int s0] S I J P 0 0 Q := by
  unfold fX12_oldName_55 at H
  obtain rfl := Option.some.inj H
  exact ab_iret (by decide +kernel) rfl (Nat.le_refl _) (Nat.le_refl _) K0
def fX12_oldName_38 (a1 : Int32) (a2 : Int32) (J : ab_J) (I : ab_I) : Option (Int32 × ab_I) :=
  if (I 73 2) ≤ 0 then
    (fX12_find a1 a2 J).bind fun u5 =>
    fX12_oldName_55 a1 a2 J u5 I
  else
    fX12_oldName_55 a1 a2 J (0 : Int32) I
set_option maxRecDepth 100000 in
theorem fX12_oldName_38_ok {l : Launch} {G : ab_G} {S : ab_S} {I : ab_I} {J : ab_J} {P : ab_P} {Q : ab_Q} {a1 : Int32} {a2 : Int32} (hB : bz_B S P) {x : Int32 × ab_I} (H : fX12_oldName_38 a1 a2 J I = some x) (K0 : Q (some (.int x.1)) S x.2 J P) : ab_WP l G mX12_oldName 2 38 [some (.ref 73), some (.int a1), some (.int a2)] [] S I J P 0 0 Q := by
  unfold fX12_oldName_38 at H
  refine ab_aload_n (z := 0) (by decide +kernel) rfl rfl ?_
  refine gX12_2 (ix := 161) (by decide +kernel) tw_1083 (hB.1 73 _ rfl) ?_
  refine ab_if_le (off := 7) (tgt := 49) (by decide +kernel) rfl (fun hc => ?_) (fun hc => ?_)
  · replace H := ab_ifp H hc
    refine ab_aload_n (z := 0) (by decide +kernel) rfl rfl ?_
    refine ab_iload_n (z := 1) (by decide +kernel) rfl rfl ?_
    refine ab_iload_n (z := 2) (by decide +kernel) rfl rfl ?_
    obtain ⟨u5, hu5, H⟩ := ab_bd_of H
    refine kvX12_find (D := 0) (ix := 219) (by decide +kernel) tw_1375 (hB.1 73 _ rfl) (by decide) (Nat.le_of_ble_eq_true rfl) (mX12_find_ok hB hu5 ?_)
    change ab_WP l G mX12_oldName 2 55 [some (.ref 73), some (.int a1), some (.int a2)] [.int u5] S I J P 0 0 Q
    exact ab_wk (ab_le_some (ab_le_some (ab_le_some (ab_le_nil)))) (fX12_oldName_55_ok hB H  K0)
  · replace H := ab_ifn H hc
    refine ab_iconst (z := 0) (v := (0 : Int32)) (by decide +kernel) (by decide) ?_
    refine ab_goto (off := 9) (tgt := 55) (by decide +kernel) rfl ?_
    exact ab_wk (ab_le_some (ab_le_some (ab_le_some (ab_le_nil)))) (fX12_oldName_55_ok hB H  K0)
def fX12_oldName (a1 : Int32) (a2 : Int32) (I : ab_I) (J : ab_J) : Option (Int32 × ab_I) :=
  if (I 73 2) ≤ 0 then
    (fX12_isName I J).bind fun u1 =>
    if u1 = 0 then
      (fX12_wrong (2 : Int32) I).bind fun u4 =>
      fX12_oldName_38 a1 a2 J u4
    else
      (fX12_find a1 a2 J).bind fun u2 =>
      if 0 ≤ u2 then
        fX12_oldName_38 a1 a2 J I
      else
        (fX12_wrong (5 : Int32) I).bind fun u3 =>
        fX12_oldName_38 a1 a2 J u3
  else
    some ((0 : Int32), I)
set_option maxRecDepth 100000 in
theorem mX12_oldName_ok {l : Launch} {G : ab_G} {S : ab_S} {I : ab_I} {J : ab_J} {P : ab_P} {Q : ab_Q} {a1 : Int32} {a2 : Int32} (hB : bz_B S P) {x : Int32 × ab_I} (H : fX12_oldName a1 a2 I J = some x) (K0 : Q (some (.int x.1)) S x.2 J P) : ab_Call l G mX12_oldName 2 [.ref 73, .int a1, .int a2] S I J P Q := by
  unfold fX12_oldName at H
  refine ab_enter rfl (Nat.le_of_ble_eq_true rfl) (ab_wk (ls' := [some (.ref 73), some (.int a1), some (.int a2)]) (ab_le_some (ab_le_some (ab_le_some (ab_le_nil)))) ?_)
  refine ab_aload_n (z := 0) (by decide +kernel) rfl rfl ?_
  refine gX12_2 (ix := 161) (by decide +kernel) tw_1083 (hB.1 73 _ rfl) ?_
  refine ab_if_le (off := 5) (tgt := 9) (by decide +kernel) rfl (fun hc => ?_) (fun hc => ?_)
  · replace H := ab_ifp H hc
    refine ab_aload_n (z := 0) (by decide +kernel) rfl rfl ?_
    obtain ⟨u1, hu1, H⟩ := ab_bd_of H
    refine kvX12_isName (D := 1) (ix := 216) (by decide +kernel) tw_1349 (hB.1 73 _ rfl) (by decide) (Nat.le_of_ble_eq_true rfl) (mX12_isName_ok hB hu1 ?_)
    change ab_WP l G mX12_oldName 2 13 [some (.ref 73), some (.int a1), some (.int a2)] [.int u1] S I J P 0 0 Q
    refine ab_if_ne (off := 11) (tgt := 24) (by decide +kernel) rfl (fun hc => ?_) (fun hc => ?_)
    · replace H := ab_ifn H hc
      refine ab_aload_n (z := 0) (by decide +kernel) rfl rfl ?_
      refine ab_iload_n (z := 1) (by decide +kernel) rfl rfl ?_
      refine ab_iload_n (z := 2) (by decide +kernel) rfl rfl ?_
      obtain ⟨u2, hu2, H⟩ := ab_bd_of H
      refine kvX12_find (D := 0) (ix := 219) (by decide +kernel) tw_1375 (hB.1 73 _ rfl) (by decide) (Nat.le_of_ble_eq_true rfl) (mX12_find_ok hB hu2 ?_)
      change ab_WP l G mX12_oldName 2 30 [some (.ref 73), some (.int a1), some (.int a2)] [.int u2] S I J P 0 0 Q
      refine ab_if_ge (off := 8) (tgt := 38) (by decide +kernel) rfl (fun hc => ?_) (fun hc => ?_)
      · replace H := ab_ifp H hc
        exact ab_wk (ab_le_some (ab_le_some (ab_le_some (ab_le_nil)))) (fX12_oldName_38_ok hB H  K0)
      · replace H := ab_ifn H hc
        refine ab_aload_n (z := 0) (by decide +kernel) rfl rfl ?_
        refine ab_iconst (z := 5) (v := (5 : Int32)) (by decide +kernel) (by decide) ?_
        obtain ⟨u3, hu3, H⟩ := ab_bd_of H
        refine kvX12_wrong (D := 0) (ix := 202) (by decide +kernel) tw_1371 (hB.1 73 _ rfl) (by decide) (Nat.le_of_ble_eq_true rfl) (mX12_wrong_ok hB hu3 ?_)
        change ab_WP l G mX12_oldName 2 38 [some (.ref 73), some (.int a1), some (.int a2)] [] S u3 J P 0 0 Q
        exact ab_wk (ab_le_some (ab_le_some (ab_le_some (ab_le_nil)))) (fX12_oldName_38_ok hB H  K0)
    · replace H := ab_ifp H hc
      refine ab_aload_n (z := 0) (by decide +kernel) rfl rfl ?_
      refine ab_iconst (z := 2) (v := (2 : Int32)) (by decide +kernel) (by decide) ?_
      obtain ⟨u4, hu4, H⟩ := ab_bd_of H
      refine kvX12_wrong (D := 0) (ix := 202) (by decide +kernel) tw_1371 (hB.1 73 _ rfl) (by decide) (Nat.le_of_ble_eq_true rfl) (mX12_wrong_ok hB hu4 ?_)
      change ab_WP l G mX12_oldName 2 21 [some (.ref 73), some (.int a1), some (.int a2)] [] S u4 J P 0 0 Q
      refine ab_goto (off := 17) (tgt := 38) (by decide +kernel) rfl ?_
      exact ab_wk (ab_le_some (ab_le_some (ab_le_some (ab_le_nil)))) (fX12_oldName_38_ok hB H  K0)
  · replace H := ab_ifn H hc
    refine ab_iconst (z := 0) (v := (0 : Int32)) (by decide +kernel) (by decide) ?_
    obtain rfl := Option.some.inj H
    exact ab_iret (by decide +kernel) rfl (Nat.le_refl _) (Nat.le_refl _) K0
abbrev mX12_add : ab_M := (yX12_add, cX12_add, 3, none, 0, 0)
theorem kvX12_add {l : Launch} {G : ab_G} {M : ab_M} {d pc : Nat} {ls : List (Option Value)} {st : List Value} {S : ab_S} {I : ab_I} {J : ab_J} {P : ab_P} {Q : ab_Q} {v0 v1 : Value} {ix D r ln : Nat} (hd : decode M.2.1 pc = .ok (.invokevirtual ix, 3)) (h1 : Cond.methodLink M.1.cls ix mX12_add.1 ∈ ab_good) (hs : S[r]? = some (17, ln)) (hdg : D + 1 ≤ d) (hsum : (st.map fun v => v.category).sum ≤ 8) (kk : ab_Call l G mX12_add D (.ref r :: [v0, v1]) S I J P (fun v S' I' J' P' => ab_WP l G M d (pc + 3) ls (ab_psh v st) S' I' J' P' 0 0 Q)) : ab_WP l G M d pc ls (v1 :: v0 :: .ref r :: st) S I J P 0 0 Q := bz_kv (g := mX12_add) (as := [v0, v1]) (cc := 12) rfl hd h1 tw_1436 tw_p55 tw_13 tw_1437 ⟨by decide +kernel, by decide +kernel, (by decide +kernel : (parseMethodDescriptor mX12_add.1.desc).map (fun d => d.parameters.length) = some 2)⟩ (by decide) rfl rfl rfl hdg hsum hs kk
def fX12_add (a1 : Int32) (a2 : Int32) (I : ab_I) : Option ab_I :=
  ab_gd (ab_ix (I 73 17) 320 = true) (
    ab_gd (ab_ix (I 73 17) 320 = true) (
      some (ab_u (ab_u (ab_u I 76 ((I 73 17).toNatClampNeg) a1) 77 ((I 73 17).toNatClampNeg) a2) 73 17 ((I 73 17) + (1 : Int32)))
    )
  )
set_option maxRecDepth 100000 in
theorem mX12_add_ok {l : Launch} {G : ab_G} {S : ab_S} {I : ab_I} {J : ab_J} {P : ab_P} {Q : ab_Q} {a1 : Int32} {a2 : Int32} (hB : bz_B S P) {x : ab_I} (H : fX12_add a1 a2 I = some x) (K0 : Q none S x J P) : ab_Call l G mX12_add 0 [.ref 73, .int a1, .int a2] S I J P Q := by
  unfold fX12_add at H
  refine ab_enter rfl (Nat.le_of_ble_eq_true rfl) (ab_wk (ls' := [some (.ref 73), some (.int a1), some (.int a2)]) (ab_le_some (ab_le_some (ab_le_some (ab_le_nil)))) ?_)
  refine ab_aload_n (z := 0) (by decide +kernel) rfl rfl ?_
  refine gX12_11 (ix := 21) (by decide +kernel) tw_1092 (hB.1 73 _ rfl) (hB.2.1 81 (73, 11, 76) rfl) ?_
  refine ab_aload_n (z := 0) (by decide +kernel) rfl rfl ?_
  refine gX12_17 (ix := 222) (by decide +kernel) tw_1098 (hB.1 73 _ rfl) ?_
  refine ab_iload_n (z := 1) (by decide +kernel) rfl rfl ?_
  obtain ⟨hg, H⟩ := ab_gd_of H
  refine ab_iast (ln := 320) (by decide +kernel) (hB.1 76 _ rfl) (ab_ix_in hg) ?_
  refine ab_aload_n (z := 0) (by decide +kernel) rfl rfl ?_
  refine gX12_12 (ix := 24) (by decide +kernel) tw_1093 (hB.1 73 _ rfl) (hB.2.1 82 (73, 12, 77) rfl) ?_
  refine ab_aload_n (z := 0) (by decide +kernel) rfl rfl ?_
  refine gX12_17 (ix := 222) (by decide +kernel) tw_1098 (hB.1 73 _ rfl) ?_
  refine ab_top (y := (I 73 17)) rfl ?_
  refine ab_iload_n (z := 2) (by decide +kernel) rfl rfl ?_
  obtain ⟨hg, H⟩ := ab_gd_of H
  refine ab_iast (ln := 320) (by decide +kernel) (hB.1 77 _ rfl) (ab_ix_in hg) ?_
  refine ab_aload_n (z := 0) (by decide +kernel) rfl rfl ?_
  refine ab_dup (by decide +kernel) rfl ?_
  refine gX12_17 (ix := 222) (by decide +kernel) tw_1098 (hB.1 73 _ rfl) ?_
  refine ab_top (y := (I 73 17)) rfl ?_
  refine ab_iconst (z := 1) (v := (1 : Int32)) (by decide +kernel) (by decide) ?_
  refine ab_iadd (by decide +kernel) ?_
  refine pX12_17 (ix := 222) (by decide +kernel) tw_1098 (hB.1 73 _ rfl) ?_
  obtain rfl := Option.some.inj H
  exact ab_vret (by decide +kernel) rfl (Nat.le_refl _) (Nat.le_refl _) K0
abbrev mX12_tight : ab_M := (yX12_tight, cX12_tight, 1, some .int, 0, 0)
theorem ksX12_tight {l : Launch} {G : ab_G} {M : ab_M} {d pc : Nat} {ls : List (Option Value)} {st : List Value} {S : ab_S} {I : ab_I} {J : ab_J} {P : ab_P} {Q : ab_Q} {v0 : Value} {ix D : Nat} (hd : decode M.2.1 pc = .ok (.invokestatic ix, 3)) (h1 : Cond.methodLink M.1.cls ix mX12_tight.1 ∈ ab_good) (hdg : D + 1 ≤ d) (hsum : (st.map fun v => v.category).sum ≤ 8) (kk : ab_Call l G mX12_tight D [v0] S I J P (fun v S' I' J' P' => ab_WP l G M d (pc + 3) ls (ab_psh v st) S' I' J' P' 0 0 Q)) : ab_WP l G M d pc ls (v0 :: st) S I J P 0 0 Q := bz_ks (g := mX12_tight) (as := [v0]) rfl hd h1 tw_1416 tw_13 tw_1417 ⟨by decide +kernel, by decide +kernel, (by decide +kernel : (parseMethodDescriptor mX12_tight.1.desc).map (fun d => d.parameters.length) = some 1)⟩ (by decide) rfl hdg hsum kk
def fX12_tight (a0 : Int32) : Option Int32 :=
  if a0 = (21 : Int32) then
    some (3 : Int32)
  else
    if a0 = (38 : Int32) then
      some (2 : Int32)
    else
      if a0 = (43 : Int32) then
        some (5 : Int32)
      else
        if a0 = (45 : Int32) then
          some (5 : Int32)
        else
          if a0 = (60 : Int32) then
            some (4 : Int32)
          else
            if a0 = (61 : Int32) then
              some (4 : Int32)
            else
              if a0 = (62 : Int32) then
                some (4 : Int32)
              else
                if a0 = (124 : Int32) then
                  some (1 : Int32)
                else
                  some (6 : Int32)
set_option maxRecDepth 100000 in
theorem mX12_tight_ok {l : Launch} {G : ab_G} {S : ab_S} {I : ab_I} {J : ab_J} {P : ab_P} {Q : ab_Q} {a0 : Int32} (hB : bz_B S P) {x : Int32} (H : fX12_tight a0 = some x) (K0 : Q (some (.int x)) S I J P) : ab_Call l G mX12_tight 0 [.int a0] S I J P Q := by
  unfold fX12_tight at H
  refine ab_enter rfl (Nat.le_of_ble_eq_true rfl) (ab_wk (ls' := [some (.int a0)]) (ab_le_some (ab_le_nil)) ?_)
  refine ab_iload_n (z := 0) (by decide +kernel) rfl rfl ?_
  by_cases hk21 : a0 = (21 : Int32)
  · replace H := ab_ifp H hk21
    refine ab_lookk (key := (21 : Int32)) (off := 79) (tgt := 80) (dflt := 85) (ps := #[(21, 79), (38, 77), (43, 83), (45, 83), (60, 81), (61, 81), (62, 81), (124, 75)]) (len := 75) hk21 (by decide +kernel) (by decide) (by decide) rfl ?_
    refine ab_iconst (z := 3) (v := (3 : Int32)) (by decide +kernel) (by decide) ?_
    obtain rfl := Option.some.inj H
    exact ab_iret (by decide +kernel) rfl (Nat.le_refl _) (Nat.le_refl _) K0
  replace H := ab_ifn H hk21
  by_cases hk38 : a0 = (38 : Int32)
  · replace H := ab_ifp H hk38
    refine ab_lookk (key := (38 : Int32)) (off := 77) (tgt := 78) (dflt := 85) (ps := #[(21, 79), (38, 77), (43, 83), (45, 83), (60, 81), (61, 81), (62, 81), (124, 75)]) (len := 75) hk38 (by decide +kernel) (by decide) (by decide) rfl ?_
    refine ab_iconst (z := 2) (v := (2 : Int32)) (by decide +kernel) (by decide) ?_
    obtain rfl := Option.some.inj H
    exact ab_iret (by decide +kernel) rfl (Nat.le_refl _) (Nat.le_refl _) K0
  replace H := ab_ifn H hk38
  by_cases hk43 : a0 = (43 : Int32)
  · replace H := ab_ifp H hk43
    refine ab_lookk (key := (43 : Int32)) (off := 83) (tgt := 84) (dflt := 85) (ps := #[(21, 79), (38, 77), (43, 83), (45, 83), (60, 81), (61, 81), (62, 81), (124, 75)]) (len := 75) hk43 (by decide +kernel) (by decide) (by decide) rfl ?_
    refine ab_iconst (z := 5) (v := (5 : Int32)) (by decide +kernel) (by decide) ?_
    obtain rfl := Option.some.inj H
    exact ab_iret (by decide +kernel) rfl (Nat.le_refl _) (Nat.le_refl _) K0
  replace H := ab_ifn H hk43
  by_cases hk45 : a0 = (45 : Int32)
  · replace H := ab_ifp H hk45
    refine ab_lookk (key := (45 : Int32)) (off := 83) (tgt := 84) (dflt := 85) (ps := #[(21, 79), (38, 77), (43, 83), (45, 83), (60, 81), (61, 81), (62, 81), (124, 75)]) (len := 75) hk45 (by decide +kernel) (by decide) (by decide) rfl ?_
    refine ab_iconst (z := 5) (v := (5 : Int32)) (by decide +kernel) (by decide) ?_
    obtain rfl := Option.some.inj H
    exact ab_iret (by decide +kernel) rfl (Nat.le_refl _) (Nat.le_refl _) K0
  replace H := ab_ifn H hk45
  by_cases hk60 : a0 = (60 : Int32)
  · replace H := ab_ifp H hk60
    refine ab_lookk (key := (60 : Int32)) (off := 81) (tgt := 82) (dflt := 85) (ps := #[(21, 79), (38, 77), (43, 83), (45, 83), (60, 81), (61, 81), (62, 81), (124, 75)]) (len := 75) hk60 (by decide +kernel) (by decide) (by decide) rfl ?_
    refine ab_iconst (z := 4) (v := (4 : Int32)) (by decide +kernel) (by decide) ?_
    obtain rfl := Option.some.inj H
    exact ab_iret (by decide +kernel) rfl (Nat.le_refl _) (Nat.le_refl _) K0
  replace H := ab_ifn H hk60
  by_cases hk61 : a0 = (61 : Int32)
  · replace H := ab_ifp H hk61
    refine ab_lookk (key := (61 : Int32)) (off := 81) (tgt := 82) (dflt := 85) (ps := #[(21, 79), (38, 77), (43, 83), (45, 83), (60, 81), (61, 81), (62, 81), (124, 75)]) (len := 75) hk61 (by decide +kernel) (by decide) (by decide) rfl ?_
    refine ab_iconst (z := 4) (v := (4 : Int32)) (by decide +kernel) (by decide) ?_
    obtain rfl := Option.some.inj H
    exact ab_iret (by decide +kernel) rfl (Nat.le_refl _) (Nat.le_refl _) K0
  replace H := ab_ifn H hk61
  by_cases hk62 : a0 = (62 : Int32)
  · replace H := ab_ifp H hk62
    refine ab_lookk (key := (62 : Int32)) (off := 81) (tgt := 82) (dflt := 85) (ps := #[(21, 79), (38, 77), (43, 83), (45, 83), (60, 81), (61, 81), (62, 81), (124, 75)]) (len := 75) hk62 (by decide +kernel) (by decide) (by decide) rfl ?_
    refine ab_iconst (z := 4) (v := (4 : Int32)) (by decide +kernel) (by decide) ?_
    obtain rfl := Option.some.inj H
    exact ab_iret (by decide +kernel) rfl (Nat.le_refl _) (Nat.le_refl _) K0
  replace H := ab_ifn H hk62
  by_cases hk124 : a0 = (124 : Int32)
  · replace H := ab_ifp H hk124
    refine ab_lookk (key := (124 : Int32)) (off := 75) (tgt := 76) (dflt := 85) (ps := #[(21, 79), (38, 77), (43, 83), (45, 83), (60, 81), (61, 81), (62, 81), (124, 75)]) (len := 75) hk124 (by decide +kernel) (by decide) (by decide) rfl ?_
    refine ab_iconst (z := 1) (v := (1 : Int32)) (by decide +kernel) (by decide) ?_
    obtain rfl := Option.some.inj H
    exact ab_iret (by decide +kernel) rfl (Nat.le_refl _) (Nat.le_refl _) K0
  replace H := ab_ifn H hk124
  have KD : ab_WP l G mX12_tight 0 86 [some (.int a0)] [] S I J P 0 0 Q := by
    refine ab_bipush (z := 6) (v := (6 : Int32)) (by decide +kernel) (by decide) ?_
    obtain rfl := Option.some.inj H
    exact ab_iret (by decide +kernel) rfl (Nat.le_refl _) (Nat.le_refl _) K0
  refine ab_lookup (dflt := 85) (ps := #[(21, 79), (38, 77), (43, 83), (45, 83), (60, 81), (61, 81), (62, 81), (124, 75)]) (len := 75) (by decide +kernel) (by decide) (off := 85) (tgt := 86) ?_ rfl KD
  show Op.lookupswitch.offset [(21, 79), (38, 77), (43, 83), (45, 83), (60, 81), (61, 81), (62, 81), (124, 75)] _ _ = _
  rw [bz_lk (key := (21 : Int32)) (by decide) hk21, bz_lk (key := (38 : Int32)) (by decide) hk38, bz_lk (key := (43 : Int32)) (by decide) hk43, bz_lk (key := (45 : Int32)) (by decide) hk45, bz_lk (key := (60 : Int32)) (by decide) hk60, bz_lk (key := (61 : Int32)) (by decide) hk61, bz_lk (key := (62 : Int32)) (by decide) hk62, bz_lk (key := (124 : Int32)) (by decide) hk124, Op.lookupswitch.offset_nil]
