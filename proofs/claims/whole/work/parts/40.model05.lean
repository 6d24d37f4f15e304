abbrev mX12_readLine : ab_M := (yX12_readLine, cX12_readLine, 1, none, 0, 0)
theorem kvX12_readLine {l : Launch} {G : ab_G} {M : ab_M} {d pc : Nat} {ls : List (Option Value)} {st : List Value} {S : ab_S} {I : ab_I} {J : ab_J} {P : ab_P} {Q : ab_Q} {ix D r ln : Nat} (hd : decode M.2.1 pc = .ok (.invokevirtual ix, 3)) (h1 : Cond.methodLink M.1.cls ix mX12_readLine.1 ∈ ab_good) (hs : S[r]? = some (17, ln)) (hdg : D + 1 ≤ d) (hsum : (st.map fun v => v.category).sum ≤ 8) (kk : ab_Call l G mX12_readLine D (.ref r :: []) S I J P (fun v S' I' J' P' => ab_WP l G M d (pc + 3) ls (ab_psh v st) S' I' J' P' 0 0 Q)) : ab_WP l G M d pc ls (.ref r :: st) S I J P 0 0 Q := bz_kv (g := mX12_readLine) (as := []) (cc := 12) rfl hd h1 tw_1334 tw_p34 tw_13 tw_1335 ⟨by decide +kernel, by decide +kernel, (by decide +kernel : (parseMethodDescriptor mX12_readLine.1.desc).map (fun d => d.parameters.length) = some 0)⟩ (by decide) rfl rfl rfl hdg hsum hs kk
def fX12_readLine_217 (I : ab_I) (J : ab_J) : Option (ab_I × ab_J) :=
  some (I, J)
set_option maxRecDepth 100000 in
theorem fX12_readLine_217_ok {l : Launch} {G : ab_G} {S : ab_S} {I : ab_I} {J : ab_J} {P : ab_P} {Q : ab_Q} (hB : bz_B S P) {x : ab_I × ab_J} (H : fX12_readLine_217 I J = some x) (K0 : Q none S x.1 x.2 P) : ab_WP l G mX12_readLine 5 217 [some (.ref 73)] [] S I J P 0 0 Q := by
  unfold fX12_readLine_217 at H
  obtain rfl := Option.some.inj H
  exact ab_vret (by decide +kernel) rfl (Nat.le_refl _) (Nat.le_refl _) K0
def fX12_readLine_206 (I : ab_I) (J : ab_J) : Option (ab_I × ab_J) :=
  if (I 73 2) = 0 then
    (fX12_token I J).bind fun u8 =>
    fX12_readLine_217 u8.1 u8.2
  else
    fX12_readLine_217 I J
set_option maxRecDepth 100000 in
theorem fX12_readLine_206_ok {l : Launch} {G : ab_G} {S : ab_S} {I : ab_I} {J : ab_J} {P : ab_P} {Q : ab_Q} (hB : bz_B S P) {x : ab_I × ab_J} (H : fX12_readLine_206 I J = some x) (K0 : Q none S x.1 x.2 P) : ab_WP l G mX12_readLine 5 206 [some (.ref 73)] [] S I J P 0 0 Q := by
  unfold fX12_readLine_206 at H
  refine ab_aload_n (z := 0) (by decide +kernel) rfl rfl ?_
  refine gX12_2 (ix := 161) (by decide +kernel) tw_1083 (hB.1 73 _ rfl) ?_
  refine ab_if_ne (off := 7) (tgt := 217) (by decide +kernel) rfl (fun hc => ?_) (fun hc => ?_)
  · replace H := ab_ifn H hc
    exact ab_wk (ab_le_some (ab_le_nil)) (fX12_readLine_217_ok hB H  K0)
  · replace H := ab_ifp H hc
    refine ab_aload_n (z := 0) (by decide +kernel) rfl rfl ?_
    obtain ⟨u8, hu8, H⟩ := ab_bd_of H
    refine kvX12_token (D := 1) (ix := 205) (by decide +kernel) tw_1315 (hB.1 73 _ rfl) (by decide) (Nat.le_of_ble_eq_true rfl) (mX12_token_ok hB hu8 ?_)
    change ab_WP l G mX12_readLine 5 217 [some (.ref 73)] [] S u8.1 u8.2 P 0 0 Q
    exact ab_wk (ab_le_some (ab_le_nil)) (fX12_readLine_217_ok hB H  K0)
def fX12_readLine_185 (I : ab_I) (J : ab_J) : Option (ab_I × ab_J) :=
  if (I 73 2) = 0 then
    if (I 73 6) = (59 : Int32) then
      fX12_readLine_206 I J
    else
      (fX12_wrong (2 : Int32) I).bind fun u5 =>
      fX12_readLine_206 u5 J
  else
    fX12_readLine_206 I J
set_option maxRecDepth 100000 in
theorem fX12_readLine_185_ok {l : Launch} {G : ab_G} {S : ab_S} {I : ab_I} {J : ab_J} {P : ab_P} {Q : ab_Q} (hB : bz_B S P) {x : ab_I × ab_J} (H : fX12_readLine_185 I J = some x) (K0 : Q none S x.1 x.2 P) : ab_WP l G mX12_readLine 5 185 [some (.ref 73)] [] S I J P 0 0 Q := by
  unfold fX12_readLine_185 at H
  refine ab_aload_n (z := 0) (by decide +kernel) rfl rfl ?_
  refine gX12_2 (ix := 161) (by decide +kernel) tw_1083 (hB.1 73 _ rfl) ?_
  refine ab_if_ne (off := 17) (tgt := 206) (by decide +kernel) rfl (fun hc => ?_) (fun hc => ?_)
  · replace H := ab_ifn H hc
    exact ab_wk (ab_le_some (ab_le_nil)) (fX12_readLine_206_ok hB H  K0)
  · replace H := ab_ifp H hc
    refine ab_aload_n (z := 0) (by decide +kernel) rfl rfl ?_
    refine gX12_6 (ix := 148) (by decide +kernel) tw_1087 (hB.1 73 _ rfl) ?_
    refine ab_bipush (z := 59) (v := (59 : Int32)) (by decide +kernel) (by decide) ?_
    refine ab_icmp_eq (off := 8) (tgt := 206) (by decide +kernel) rfl (fun hc => ?_) (fun hc => ?_)
    · replace H := ab_ifp H hc
      exact ab_wk (ab_le_some (ab_le_nil)) (fX12_readLine_206_ok hB H  K0)
    · replace H := ab_ifn H hc
      refine ab_aload_n (z := 0) (by decide +kernel) rfl rfl ?_
      refine ab_iconst (z := 2) (v := (2 : Int32)) (by decide +kernel) (by decide) ?_
      obtain ⟨u5, hu5, H⟩ := ab_bd_of H
      refine kvX12_wrong (D := 0) (ix := 202) (by decide +kernel) tw_1371 (hB.1 73 _ rfl) (by decide) (Nat.le_of_ble_eq_true rfl) (mX12_wrong_ok hB hu5 ?_)
      change ab_WP l G mX12_readLine 5 206 [some (.ref 73)] [] S u5 J P 0 0 Q
      exact ab_wk (ab_le_some (ab_le_nil)) (fX12_readLine_206_ok hB H  K0)
def fX12_readLine_180 (I : ab_I) (J : ab_J) : Option (ab_I × ab_J) :=
  (fX12_wrong (2 : Int32) I).bind fun u15 =>
  fX12_readLine_185 u15 J
set_option maxRecDepth 100000 in
theorem fX12_readLine_180_ok {l : Launch} {G : ab_G} {S : ab_S} {I : ab_I} {J : ab_J} {P : ab_P} {Q : ab_Q} (hB : bz_B S P) {x : ab_I × ab_J} (H : fX12_readLine_180 I J = some x) (K0 : Q none S x.1 x.2 P) : ab_WP l G mX12_readLine 5 180 [some (.ref 73)] [] S I J P 0 0 Q := by
  unfold fX12_readLine_180 at H
  refine ab_aload_n (z := 0) (by decide +kernel) rfl rfl ?_
  refine ab_iconst (z := 2) (v := (2 : Int32)) (by decide +kernel) (by decide) ?_
  obtain ⟨u15, hu15, H⟩ := ab_bd_of H
  refine kvX12_wrong (D := 0) (ix := 202) (by decide +kernel) tw_1371 (hB.1 73 _ rfl) (by decide) (Nat.le_of_ble_eq_true rfl) (mX12_wrong_ok hB hu15 ?_)
  change ab_WP l G mX12_readLine 5 185 [some (.ref 73)] [] S u15 J P 0 0 Q
  exact ab_wk (ab_le_some (ab_le_nil)) (fX12_readLine_185_ok hB H  K0)
def fX12_readLine_140 (I : ab_I) (J : ab_J) : Option (ab_I × ab_J) :=
  (fX12_isWord (1685217655 : Int64) I J).bind fun u13 =>
  if u13 = 0 then
    fX12_readLine_180 I J
  else
    if (I 73 45) = 0 then
      (fX12_told (1685217655 : Int64) (0 : Int32) (999 : Int32) (ab_u I 73 45 (1 : Int32)) J).bind fun u14 =>
      fX12_readLine_185 (ab_u u14.2.1 73 38 u14.1) u14.2.2
    else
      fX12_readLine_180 I J
set_option maxRecDepth 100000 in
theorem fX12_readLine_140_ok {l : Launch} {G : ab_G} {S : ab_S} {I : ab_I} {J : ab_J} {P : ab_P} {Q : ab_Q} (hB : bz_B S P) {x : ab_I × ab_J} (H : fX12_readLine_140 I J = some x) (K0 : Q none S x.1 x.2 P) : ab_WP l G mX12_readLine 5 140 [some (.ref 73)] [] S I J P 0 0 Q := by
  unfold fX12_readLine_140 at H
  refine ab_aload_n (z := 0) (by decide +kernel) rfl rfl ?_
  refine ab_ldc2 (ix := 178) (v := (1685217655 : Int64)) (by decide +kernel) tw_1363 ?_
  obtain ⟨u13, hu13, H⟩ := ab_bd_of H
  refine kvX12_isWord (D := 0) (ix := 198) (by decide +kernel) tw_1337 (hB.1 73 _ rfl) (by decide) (Nat.le_of_ble_eq_true rfl) (mX12_isWord_ok hB hu13 ?_)
  change ab_WP l G mX12_readLine 5 147 [some (.ref 73)] [.int u13] S I J P 0 0 Q
  refine ab_if_eq (off := 33) (tgt := 180) (by decide +kernel) rfl (fun hc => ?_) (fun hc => ?_)
  · replace H := ab_ifp H hc
    exact ab_wk (ab_le_some (ab_le_nil)) (fX12_readLine_180_ok hB H  K0)
  · replace H := ab_ifn H hc
    refine ab_aload_n (z := 0) (by decide +kernel) rfl rfl ?_
    refine gX12_45 (ix := 336) (by decide +kernel) tw_1126 (hB.1 73 _ rfl) ?_
    refine ab_if_ne (off := 26) (tgt := 180) (by decide +kernel) rfl (fun hc => ?_) (fun hc => ?_)
    · replace H := ab_ifn H hc
      exact ab_wk (ab_le_some (ab_le_nil)) (fX12_readLine_180_ok hB H  K0)
    · replace H := ab_ifp H hc
      refine ab_aload_n (z := 0) (by decide +kernel) rfl rfl ?_
      refine ab_iconst (z := 1) (v := (1 : Int32)) (by decide +kernel) (by decide) ?_
      refine pX12_45 (ix := 336) (by decide +kernel) tw_1126 (hB.1 73 _ rfl) (by decide) ?_
      refine ab_aload_n (z := 0) (by decide +kernel) rfl rfl ?_
      refine ab_aload_n (z := 0) (by decide +kernel) rfl rfl ?_
      refine ab_ldc2 (ix := 178) (v := (1685217655 : Int64)) (by decide +kernel) tw_1363 ?_
      refine ab_iconst (z := 0) (v := (0 : Int32)) (by decide +kernel) (by decide) ?_
      refine ab_sipush (z := 999) (v := (999 : Int32)) (by decide +kernel) (by decide) ?_
      obtain ⟨u14, hu14, H⟩ := ab_bd_of H
      refine kvX12_told (D := 3) (ix := 302) (by decide +kernel) tw_1379 (hB.1 73 _ rfl) (by decide) (Nat.le_of_ble_eq_true rfl) (mX12_told_ok hB hu14 ?_)
      change ab_WP l G mX12_readLine 5 174 [some (.ref 73)] [.int u14.1, .ref 73] S u14.2.1 u14.2.2 P 0 0 Q
      refine pX12_38 (ix := 339) (by decide +kernel) tw_1119 (hB.1 73 _ rfl) ?_
      refine ab_goto (off := 8) (tgt := 185) (by decide +kernel) rfl ?_
      exact ab_wk (ab_le_some (ab_le_nil)) (fX12_readLine_185_ok hB H  K0)
def fX12_readLine_101 (I : ab_I) (J : ab_J) : Option (ab_I × ab_J) :=
  (fX12_isWord (439720568179 : Int64) I J).bind fun u11 =>
  if u11 = 0 then
    fX12_readLine_140 I J
  else
    if (I 73 44) = 0 then
      (fX12_told (439720568179 : Int64) (0 : Int32) (100 : Int32) (ab_u I 73 44 (1 : Int32)) J).bind fun u12 =>
      fX12_readLine_185 (ab_u u12.2.1 73 37 u12.1) u12.2.2
    else
      fX12_readLine_140 I J
set_option maxRecDepth 100000 in
theorem fX12_readLine_101_ok {l : Launch} {G : ab_G} {S : ab_S} {I : ab_I} {J : ab_J} {P : ab_P} {Q : ab_Q} (hB : bz_B S P) {x : ab_I × ab_J} (H : fX12_readLine_101 I J = some x) (K0 : Q none S x.1 x.2 P) : ab_WP l G mX12_readLine 5 101 [some (.ref 73)] [] S I J P 0 0 Q := by
  unfold fX12_readLine_101 at H
  refine ab_aload_n (z := 0) (by decide +kernel) rfl rfl ?_
  refine ab_ldc2 (ix := 176) (v := (439720568179 : Int64)) (by decide +kernel) tw_1362 ?_
  obtain ⟨u11, hu11, H⟩ := ab_bd_of H
  refine kvX12_isWord (D := 0) (ix := 198) (by decide +kernel) tw_1337 (hB.1 73 _ rfl) (by decide) (Nat.le_of_ble_eq_true rfl) (mX12_isWord_ok hB hu11 ?_)
  change ab_WP l G mX12_readLine 5 108 [some (.ref 73)] [.int u11] S I J P 0 0 Q
  refine ab_if_eq (off := 32) (tgt := 140) (by decide +kernel) rfl (fun hc => ?_) (fun hc => ?_)
  · replace H := ab_ifp H hc
    exact ab_wk (ab_le_some (ab_le_nil)) (fX12_readLine_140_ok hB H  K0)
  · replace H := ab_ifn H hc
    refine ab_aload_n (z := 0) (by decide +kernel) rfl rfl ?_
    refine gX12_44 (ix := 330) (by decide +kernel) tw_1125 (hB.1 73 _ rfl) ?_
    refine ab_if_ne (off := 25) (tgt := 140) (by decide +kernel) rfl (fun hc => ?_) (fun hc => ?_)
    · replace H := ab_ifn H hc
      exact ab_wk (ab_le_some (ab_le_nil)) (fX12_readLine_140_ok hB H  K0)
    · replace H := ab_ifp H hc
      refine ab_aload_n (z := 0) (by decide +kernel) rfl rfl ?_
      refine ab_iconst (z := 1) (v := (1 : Int32)) (by decide +kernel) (by decide) ?_
      refine pX12_44 (ix := 330) (by decide +kernel) tw_1125 (hB.1 73 _ rfl) (by decide) ?_
      refine ab_aload_n (z := 0) (by decide +kernel) rfl rfl ?_
      refine ab_aload_n (z := 0) (by decide +kernel) rfl rfl ?_
      refine ab_ldc2 (ix := 176) (v := (439720568179 : Int64)) (by decide +kernel) tw_1362 ?_
      refine ab_iconst (z := 0) (v := (0 : Int32)) (by decide +kernel) (by decide) ?_
      refine ab_bipush (z := 100) (v := (100 : Int32)) (by decide +kernel) (by decide) ?_
      obtain ⟨u12, hu12, H⟩ := ab_bd_of H
      refine kvX12_told (D := 3) (ix := 302) (by decide +kernel) tw_1379 (hB.1 73 _ rfl) (by decide) (Nat.le_of_ble_eq_true rfl) (mX12_told_ok hB hu12 ?_)
      change ab_WP l G mX12_readLine 5 134 [some (.ref 73)] [.int u12.1, .ref 73] S u12.2.1 u12.2.2 P 0 0 Q
      refine pX12_37 (ix := 333) (by decide +kernel) tw_1118 (hB.1 73 _ rfl) ?_
      refine ab_goto (off := 48) (tgt := 185) (by decide +kernel) rfl ?_
      exact ab_wk (ab_le_some (ab_le_nil)) (fX12_readLine_185_ok hB H  K0)
def fX12_readLine_77 (I : ab_I) (J : ab_J) : Option (ab_I × ab_J) :=
  (fX12_isWord (131277443786867 : Int64) I J).bind fun u9 =>
  if u9 = 0 then
    fX12_readLine_101 I J
  else
    if (I 73 24) = 0 then
      (fX12_formula I J).bind fun u10 =>
      fX12_readLine_185 u10.1 u10.2
    else
      fX12_readLine_101 I J
set_option maxRecDepth 100000 in
theorem fX12_readLine_77_ok {l : Launch} {G : ab_G} {S : ab_S} {I : ab_I} {J : ab_J} {P : ab_P} {Q : ab_Q} (hB : bz_B S P) {x : ab_I × ab_J} (H : fX12_readLine_77 I J = some x) (K0 : Q none S x.1 x.2 P) : ab_WP l G mX12_readLine 5 77 [some (.ref 73)] [] S I J P 0 0 Q := by
  unfold fX12_readLine_77 at H
  refine ab_aload_n (z := 0) (by decide +kernel) rfl rfl ?_
  refine ab_ldc2 (ix := 174) (v := (131277443786867 : Int64)) (by decide +kernel) tw_1361 ?_
  obtain ⟨u9, hu9, H⟩ := ab_bd_of H
  refine kvX12_isWord (D := 0) (ix := 198) (by decide +kernel) tw_1337 (hB.1 73 _ rfl) (by decide) (Nat.le_of_ble_eq_true rfl) (mX12_isWord_ok hB hu9 ?_)
  change ab_WP l G mX12_readLine 5 84 [some (.ref 73)] [.int u9] S I J P 0 0 Q
  refine ab_if_eq (off := 17) (tgt := 101) (by decide +kernel) rfl (fun hc => ?_) (fun hc => ?_)
  · replace H := ab_ifp H hc
    exact ab_wk (ab_le_some (ab_le_nil)) (fX12_readLine_101_ok hB H  K0)
  · replace H := ab_ifn H hc
    refine ab_aload_n (z := 0) (by decide +kernel) rfl rfl ?_
    refine gX12_24 (ix := 260) (by decide +kernel) tw_1105 (hB.1 73 _ rfl) ?_
    refine ab_if_ne (off := 10) (tgt := 101) (by decide +kernel) rfl (fun hc => ?_) (fun hc => ?_)
    · replace H := ab_ifn H hc
      exact ab_wk (ab_le_some (ab_le_nil)) (fX12_readLine_101_ok hB H  K0)
    · replace H := ab_ifp H hc
      refine ab_aload_n (z := 0) (by decide +kernel) rfl rfl ?_
      obtain ⟨u10, hu10, H⟩ := ab_bd_of H
      refine kvX12_formula (D := 4) (ix := 327) (by decide +kernel) tw_1403 (hB.1 73 _ rfl) (by decide) (Nat.le_of_ble_eq_true rfl) (mX12_formula_ok hB hu10 ?_)
      change ab_WP l G mX12_readLine 5 98 [some (.ref 73)] [] S u10.1 u10.2 P 0 0 Q
      refine ab_goto (off := 87) (tgt := 185) (by decide +kernel) rfl ?_
      exact ab_wk (ab_le_some (ab_le_nil)) (fX12_readLine_185_ok hB H  K0)
def fX12_readLine_51 (I : ab_I) (J : ab_J) : Option (ab_I × ab_J) :=
  (fX12_isWord (465726301555 : Int64) I J).bind fun u6 =>
  if u6 = 0 then
    fX12_readLine_77 I J
  else
    if (20 : Int32) ≤ (I 73 35) then
      fX12_readLine_77 I J
    else
      (fX12_readLoses I J).bind fun u7 =>
      fX12_readLine_185 u7.1 u7.2
set_option maxRecDepth 100000 in
theorem fX12_readLine_51_ok {l : Launch} {G : ab_G} {S : ab_S} {I : ab_I} {J : ab_J} {P : ab_P} {Q : ab_Q} (hB : bz_B S P) {x : ab_I × ab_J} (H : fX12_readLine_51 I J = some x) (K0 : Q none S x.1 x.2 P) : ab_WP l G mX12_readLine 5 51 [some (.ref 73)] [] S I J P 0 0 Q := by
  unfold fX12_readLine_51 at H
  refine ab_aload_n (z := 0) (by decide +kernel) rfl rfl ?_
  refine ab_ldc2 (ix := 172) (v := (465726301555 : Int64)) (by decide +kernel) tw_1360 ?_
  obtain ⟨u6, hu6, H⟩ := ab_bd_of H
  refine kvX12_isWord (D := 0) (ix := 198) (by decide +kernel) tw_1337 (hB.1 73 _ rfl) (by decide) (Nat.le_of_ble_eq_true rfl) (mX12_isWord_ok hB hu6 ?_)
  change ab_WP l G mX12_readLine 5 58 [some (.ref 73)] [.int u6] S I J P 0 0 Q
  refine ab_if_eq (off := 19) (tgt := 77) (by decide +kernel) rfl (fun hc => ?_) (fun hc => ?_)
  · replace H := ab_ifp H hc
    exact ab_wk (ab_le_some (ab_le_nil)) (fX12_readLine_77_ok hB H  K0)
  · replace H := ab_ifn H hc
    refine ab_aload_n (z := 0) (by decide +kernel) rfl rfl ?_
    refine gX12_35 (ix := 315) (by decide +kernel) tw_1116 (hB.1 73 _ rfl) ?_
    refine ab_bipush (z := 20) (v := (20 : Int32)) (by decide +kernel) (by decide) ?_
    refine ab_icmp_ge (off := 10) (tgt := 77) (by decide +kernel) rfl (fun hc => ?_) (fun hc => ?_)
    · replace H := ab_ifp H hc
      exact ab_wk (ab_le_some (ab_le_nil)) (fX12_readLine_77_ok hB H  K0)
    · replace H := ab_ifn H hc
      refine ab_aload_n (z := 0) (by decide +kernel) rfl rfl ?_
      obtain ⟨u7, hu7, H⟩ := ab_bd_of H
      refine kvX12_readLoses (D := 3) (ix := 324) (by decide +kernel) tw_1395 (hB.1 73 _ rfl) (by decide) (Nat.le_of_ble_eq_true rfl) (mX12_readLoses_ok hB hu7 ?_)
      change ab_WP l G mX12_readLine 5 74 [some (.ref 73)] [] S u7.1 u7.2 P 0 0 Q
      refine ab_goto (off := 111) (tgt := 185) (by decide +kernel) rfl ?_
      exact ab_wk (ab_le_some (ab_le_nil)) (fX12_readLine_185_ok hB H  K0)
def fX12_readLine_26 (I : ab_I) (J : ab_J) : Option (ab_I × ab_J) :=
  (fX12_isWord (1650814060 : Int64) I J).bind fun u3 =>
  if u3 = 0 then
    fX12_readLine_51 I J
  else
    if (5 : Int32) ≤ (I 73 34) then
      fX12_readLine_51 I J
    else
      (fX12_readBell I J).bind fun u4 =>
      fX12_readLine_185 u4.1 u4.2
set_option maxRecDepth 100000 in
theorem fX12_readLine_26_ok {l : Launch} {G : ab_G} {S : ab_S} {I : ab_I} {J : ab_J} {P : ab_P} {Q : ab_Q} (hB : bz_B S P) {x : ab_I × ab_J} (H : fX12_readLine_26 I J = some x) (K0 : Q none S x.1 x.2 P) : ab_WP l G mX12_readLine 5 26 [some (.ref 73)] [] S I J P 0 0 Q := by
  unfold fX12_readLine_26 at H
  refine ab_aload_n (z := 0) (by decide +kernel) rfl rfl ?_
  refine ab_ldc2 (ix := 168) (v := (1650814060 : Int64)) (by decide +kernel) tw_1358 ?_
  obtain ⟨u3, hu3, H⟩ := ab_bd_of H
  refine kvX12_isWord (D := 0) (ix := 198) (by decide +kernel) tw_1337 (hB.1 73 _ rfl) (by decide) (Nat.le_of_ble_eq_true rfl) (mX12_isWord_ok hB hu3 ?_)
  change ab_WP l G mX12_readLine 5 33 [some (.ref 73)] [.int u3] S I J P 0 0 Q
  refine ab_if_eq (off := 18) (tgt := 51) (by decide +kernel) rfl (fun hc => ?_) (fun hc => ?_)
  · replace H := ab_ifp H hc
    exact ab_wk (ab_le_some (ab_le_nil)) (fX12_readLine_51_ok hB H  K0)
  · replace H := ab_ifn H hc
    refine ab_aload_n (z := 0) (by decide +kernel) rfl rfl ?_
    refine gX12_34 (ix := 306) (by decide +kernel) tw_1115 (hB.1 73 _ rfl) ?_
    refine ab_iconst (z := 5) (v := (5 : Int32)) (by decide +kernel) (by decide) ?_
    refine ab_icmp_ge (off := 10) (tgt := 51) (by decide +kernel) rfl (fun hc => ?_) (fun hc => ?_)
    · replace H := ab_ifp H hc
      exact ab_wk (ab_le_some (ab_le_nil)) (fX12_readLine_51_ok hB H  K0)
    · replace H := ab_ifn H hc
      refine ab_aload_n (z := 0) (by decide +kernel) rfl rfl ?_
      obtain ⟨u4, hu4, H⟩ := ab_bd_of H
      refine kvX12_readBell (D := 4) (ix := 321) (by decide +kernel) tw_1391 (hB.1 73 _ rfl) (by decide) (Nat.le_of_ble_eq_true rfl) (mX12_readBell_ok hB hu4 ?_)
      change ab_WP l G mX12_readLine 5 48 [some (.ref 73)] [] S u4.1 u4.2 P 0 0 Q
      refine ab_goto (off := 137) (tgt := 185) (by decide +kernel) rfl ?_
      exact ab_wk (ab_le_some (ab_le_nil)) (fX12_readLine_185_ok hB H  K0)
def fX12_readLine (I : ab_I) (J : ab_J) : Option (ab_I × ab_J) :=
  (fX12_isWord (123581014175598 : Int64) I J).bind fun u1 =>
  if u1 = 0 then
    fX12_readLine_26 I J
  else
    if (6 : Int32) ≤ (I 73 33) then
      fX12_readLine_26 I J
    else
      (fX12_readPerson I J).bind fun u2 =>
      fX12_readLine_185 u2.1 u2.2
set_option maxRecDepth 100000 in
theorem mX12_readLine_ok {l : Launch} {G : ab_G} {S : ab_S} {I : ab_I} {J : ab_J} {P : ab_P} {Q : ab_Q} (hB : bz_B S P) {x : ab_I × ab_J} (H : fX12_readLine I J = some x) (K0 : Q none S x.1 x.2 P) : ab_Call l G mX12_readLine 5 [.ref 73] S I J P Q := by
  unfold fX12_readLine at H
  refine ab_enter rfl (Nat.le_of_ble_eq_true rfl) (ab_wk (ls' := [some (.ref 73)]) (ab_le_some (ab_le_nil)) ?_)
  refine ab_aload_n (z := 0) (by decide +kernel) rfl rfl ?_
  refine ab_ldc2 (ix := 164) (v := (123581014175598 : Int64)) (by decide +kernel) tw_1336 ?_
  obtain ⟨u1, hu1, H⟩ := ab_bd_of H
  refine kvX12_isWord (D := 0) (ix := 198) (by decide +kernel) tw_1337 (hB.1 73 _ rfl) (by decide) (Nat.le_of_ble_eq_true rfl) (mX12_isWord_ok hB hu1 ?_)
  change ab_WP l G mX12_readLine 5 7 [some (.ref 73)] [.int u1] S I J P 0 0 Q
  refine ab_if_eq (off := 19) (tgt := 26) (by decide +kernel) rfl (fun hc => ?_) (fun hc => ?_)
  · replace H := ab_ifp H hc
    exact ab_wk (ab_le_some (ab_le_nil)) (fX12_readLine_26_ok hB H  K0)
  · replace H := ab_ifn H hc
    refine ab_aload_n (z := 0) (by decide +kernel) rfl rfl ?_
    refine gX12_33 (ix := 296) (by decide +kernel) tw_1114 (hB.1 73 _ rfl) ?_
    refine ab_bipush (z := 6) (v := (6 : Int32)) (by decide +kernel) (by decide) ?_
    refine ab_icmp_ge (off := 10) (tgt := 26) (by decide +kernel) rfl (fun hc => ?_) (fun hc => ?_)
    · replace H := ab_ifp H hc
      exact ab_wk (ab_le_some (ab_le_nil)) (fX12_readLine_26_ok hB H  K0)
    · replace H := ab_ifn H hc
      refine ab_aload_n (z := 0) (by decide +kernel) rfl rfl ?_
      obtain ⟨u2, hu2, H⟩ := ab_bd_of H
      refine kvX12_readPerson (D := 4) (ix := 318) (by decide +kernel) tw_1341 (hB.1 73 _ rfl) (by decide) (Nat.le_of_ble_eq_true rfl) (mX12_readPerson_ok hB hu2 ?_)
      change ab_WP l G mX12_readLine 5 23 [some (.ref 73)] [] S u2.1 u2.2 P 0 0 Q
      refine ab_goto (off := 162) (tgt := 185) (by decide +kernel) rfl ?_
      exact ab_wk (ab_le_some (ab_le_nil)) (fX12_readLine_185_ok hB H  K0)
abbrev mX12_readAll : ab_M := (yX12_readAll, cX12_readAll, 2, none, 0, 0)
theorem kvX12_readAll {l : Launch} {G : ab_G} {M : ab_M} {d pc : Nat} {ls : List (Option Value)} {st : List Value} {S : ab_S} {I : ab_I} {J : ab_J} {P : ab_P} {Q : ab_Q} {ix D r ln : Nat} (hd : decode M.2.1 pc = .ok (.invokevirtual ix, 3)) (h1 : Cond.methodLink M.1.cls ix mX12_readAll.1 ∈ ab_good) (hs : S[r]? = some (17, ln)) (hdg : D + 1 ≤ d) (hsum : (st.map fun v => v.category).sum ≤ 8) (kk : ab_Call l G mX12_readAll D (.ref r :: []) S I J P (fun v S' I' J' P' => ab_WP l G M d (pc + 3) ls (ab_psh v st) S' I' J' P' 0 0 Q)) : ab_WP l G M d pc ls (.ref r :: st) S I J P 0 0 Q := bz_kv (g := mX12_readAll) (as := []) (cc := 12) rfl hd h1 tw_1313 tw_p31 tw_13 tw_1314 ⟨by decide +kernel, by decide +kernel, (by decide +kernel : (parseMethodDescriptor mX12_readAll.1.desc).map (fun d => d.parameters.length) = some 0)⟩ (by decide) rfl rfl rfl hdg hsum hs kk
def fX12_readAll_124 (I : ab_I) (J : ab_J) : Option (ab_I × ab_J) :=
  some (I, J)
set_option maxRecDepth 100000 in
theorem fX12_readAll_124_ok {l : Launch} {G : ab_G} {S : ab_S} {I : ab_I} {J : ab_J} {P : ab_P} {Q : ab_Q} (hB : bz_B S P) {x : ab_I × ab_J} (H : fX12_readAll_124 I J = some x) (K0 : Q none S x.1 x.2 P) : ab_WP l G mX12_readAll 6 124 [some (.ref 73), none] [] S I J P 0 0 Q := by
  unfold fX12_readAll_124 at H
  obtain rfl := Option.some.inj H
  exact ab_vret (by decide +kernel) rfl (Nat.le_refl _) (Nat.le_refl _) K0
def fX12_readAll_103 (I : ab_I) (J : ab_J) : Option ((ab_I × ab_J) ⊕ (ab_I × ab_J)) :=
  if (I 73 2) = 0 then
    if (I 73 6) = 0 then
      (fX12_readAll_124 I J).map .inr
    else
      (fX12_readLine I J).bind fun u5 =>
      some (.inl (u5.1, u5.2))
  else
    (fX12_readAll_124 I J).map .inr
set_option maxRecDepth 100000 in
theorem fX12_readAll_103_ok {l : Launch} {G : ab_G} {S : ab_S} {I : ab_I} {J : ab_J} {P : ab_P} {Q : ab_Q} (hB : bz_B S P) {x : ((ab_I × ab_J) ⊕ (ab_I × ab_J))} (H : fX12_readAll_103 I J = some x) (K1 : ∀ s, x = (.inl s) → ab_WP l G mX12_readAll 6 103 [some (.ref 73), none] [] S s.1 s.2 P 0 0 Q) (K0 : ∀ r, x = (.inr r) → Q none S r.1 r.2 P) : ab_WP l G mX12_readAll 6 103 [some (.ref 73), none] [] S I J P 0 0 Q := by
  unfold fX12_readAll_103 at H
  refine ab_aload_n (z := 0) (by decide +kernel) rfl rfl ?_
  refine gX12_2 (ix := 161) (by decide +kernel) tw_1083 (hB.1 73 _ rfl) ?_
  refine ab_if_ne (off := 17) (tgt := 124) (by decide +kernel) rfl (fun hc => ?_) (fun hc => ?_)
  · replace H := ab_ifn H hc
    obtain ⟨y3, Hy, hx⟩ := ab_mp_of H
    subst hx
    replace H := Hy
    exact ab_wk (ab_le_some (ab_le_none (ab_le_nil))) (fX12_readAll_124_ok hB H  (K0 _ rfl))
  · replace H := ab_ifp H hc
    refine ab_aload_n (z := 0) (by decide +kernel) rfl rfl ?_
    refine gX12_6 (ix := 148) (by decide +kernel) tw_1087 (hB.1 73 _ rfl) ?_
    refine ab_if_eq (off := 10) (tgt := 124) (by decide +kernel) rfl (fun hc => ?_) (fun hc => ?_)
    · replace H := ab_ifp H hc
      obtain ⟨y4, Hy, hx⟩ := ab_mp_of H
      subst hx
      replace H := Hy
      exact ab_wk (ab_le_some (ab_le_none (ab_le_nil))) (fX12_readAll_124_ok hB H  (K0 _ rfl))
    · replace H := ab_ifn H hc
      refine ab_aload_n (z := 0) (by decide +kernel) rfl rfl ?_
      obtain ⟨u5, hu5, H⟩ := ab_bd_of H
      refine kvX12_readLine (D := 5) (ix := 342) (by decide +kernel) tw_1332 (hB.1 73 _ rfl) (by decide) (Nat.le_of_ble_eq_true rfl) (mX12_readLine_ok hB hu5 ?_)
      change ab_WP l G mX12_readAll 6 121 [some (.ref 73), none] [] S u5.1 u5.2 P 0 0 Q
      refine ab_goto (off := -18) (tgt := 103) (by decide +kernel) rfl ?_
      exact ab_wk (ab_le_some (ab_le_none (ab_le_nil))) (K1 (u5.1, u5.2) (Option.some.inj H).symm)
def fX12_readAll_99 (I : ab_I) (J : ab_J) : Option (ab_I × ab_J) :=
  (fX12_token I J).bind fun u2 =>
  ab_it (fun s => fX12_readAll_103 s.1 s.2) 5000 (u2.1, u2.2)
set_option maxRecDepth 100000 in
theorem fX12_readAll_99_ok {l : Launch} {G : ab_G} {S : ab_S} {I : ab_I} {J : ab_J} {P : ab_P} {Q : ab_Q} (hB : bz_B S P) {x : ab_I × ab_J} (H : fX12_readAll_99 I J = some x) (K0 : Q none S x.1 x.2 P) : ab_WP l G mX12_readAll 6 99 [some (.ref 73), none] [] S I J P 0 0 Q := by
  unfold fX12_readAll_99 at H
  refine ab_aload_n (z := 0) (by decide +kernel) rfl rfl ?_
  obtain ⟨u2, hu2, H⟩ := ab_bd_of H
  refine kvX12_token (D := 1) (ix := 205) (by decide +kernel) tw_1315 (hB.1 73 _ rfl) (by decide) (Nat.le_of_ble_eq_true rfl) (mX12_token_ok hB hu2 ?_)
  change ab_WP l G mX12_readAll 6 103 [some (.ref 73), none] [] S u2.1 u2.2 P 0 0 Q
  exact ab_wk (ab_le_some (ab_le_none (ab_le_nil))) (ab_iter (body := (fun s => fX12_readAll_103 s.1 s.2)) (W := fun s => ab_WP l G mX12_readAll 6 103 [some (.ref 73), none] [] S s.1 s.2 P 0 0 Q) (fun s y hb h1 h2 => fX12_readAll_103_ok hB hb h1 (fun r e => by have e2 := h2 _ e; subst e2; exact K0)) 5000 (u2.1, u2.2) H)
def fX12_readAll_80 (a1 : Int32) (I : ab_I) (J : ab_J) : Option ((Int32 × ab_I × ab_J) ⊕ (ab_I × ab_J)) :=
  if (30 : Int32) ≤ a1 then
    (fX12_readAll_99 I J).map .inr
  else
    ab_gd (ab_ix a1 30 = true) (
      some (.inl ((a1 + (1 : Int32)), (ab_u I 85 a1.toNatClampNeg (0 : Int32)), J))
    )
set_option maxRecDepth 100000 in
theorem fX12_readAll_80_ok {l : Launch} {G : ab_G} {S : ab_S} {I : ab_I} {J : ab_J} {P : ab_P} {Q : ab_Q} {a1 : Int32} (hB : bz_B S P) {x : ((Int32 × ab_I × ab_J) ⊕ (ab_I × ab_J))} (H : fX12_readAll_80 a1 I J = some x) (K1 : ∀ s, x = (.inl s) → ab_WP l G mX12_readAll 6 80 [some (.ref 73), some (.int s.1)] [] S s.2.1 s.2.2 P 0 0 Q) (K0 : ∀ r, x = (.inr r) → Q none S r.1 r.2 P) : ab_WP l G mX12_readAll 6 80 [some (.ref 73), some (.int a1)] [] S I J P 0 0 Q := by
  unfold fX12_readAll_80 at H
  refine ab_iload_n (z := 1) (by decide +kernel) rfl rfl ?_
  refine ab_bipush (z := 30) (v := (30 : Int32)) (by decide +kernel) (by decide) ?_
  refine ab_icmp_ge (off := 16) (tgt := 99) (by decide +kernel) rfl (fun hc => ?_) (fun hc => ?_)
  · replace H := ab_ifp H hc
    obtain ⟨y1, Hy, hx⟩ := ab_mp_of H
    subst hx
    replace H := Hy
    exact ab_wk (ab_le_some (ab_le_none (ab_le_nil))) (fX12_readAll_99_ok hB H  (K0 _ rfl))
  · replace H := ab_ifn H hc
    refine ab_aload_n (z := 0) (by decide +kernel) rfl rfl ?_
    refine gX12_29 (ix := 48) (by decide +kernel) tw_1110 (hB.1 73 _ rfl) (hB.2.1 90 (73, 29, 85) rfl) ?_
    refine ab_iload_n (z := 1) (by decide +kernel) rfl rfl ?_
    refine ab_iconst (z := 0) (v := (0 : Int32)) (by decide +kernel) (by decide) ?_
    obtain ⟨hg, H⟩ := ab_gd_of H
    refine ab_iast (ln := 30) (by decide +kernel) (hB.1 85 _ rfl) (ab_ix_in hg) ?_
    refine ab_iinc (i := 1) (z := 1) (v := (a1 + (1 : Int32))) (by decide +kernel) rfl rfl (by decide) rfl ?_
    refine ab_ls (ls' := [some (.ref 73), some (.int (a1 + (1 : Int32)))]) rfl ?_
    refine ab_goto (off := -16) (tgt := 80) (by decide +kernel) rfl ?_
    exact ab_wk (ab_le_some (ab_le_some (ab_le_nil))) (K1 ((a1 + (1 : Int32)), (ab_u I 85 a1.toNatClampNeg (0 : Int32)), J) (Option.some.inj H).symm)
def fX12_readAll (I : ab_I) (J : ab_J) : Option (ab_I × ab_J) :=
  ab_it (fun s => fX12_readAll_80 s.1 s.2.1 s.2.2) 5000 ((0 : Int32), (ab_u (ab_u (ab_u (ab_u (ab_u (ab_u (ab_u (ab_u (ab_u (ab_u (ab_u (ab_u (ab_u (ab_u (ab_u I 73 5 (I 73 1)) 73 1 (0 : Int32)) 73 4 (0 : Int32)) 73 2 (0 : Int32)) 73 3 (-1 : Int32)) 73 33 (0 : Int32)) 73 34 (0 : Int32)) 73 35 (0 : Int32)) 73 36 (0 : Int32)) 73 37 (0 : Int32)) 73 38 (0 : Int32)) 73 44 (0 : Int32)) 73 45 (0 : Int32)) 73 24 (0 : Int32)) 73 20 (0 : Int32)), J)
set_option maxRecDepth 100000 in
theorem mX12_readAll_ok {l : Launch} {G : ab_G} {S : ab_S} {I : ab_I} {J : ab_J} {P : ab_P} {Q : ab_Q} (hB : bz_B S P) {x : ab_I × ab_J} (H : fX12_readAll I J = some x) (K0 : Q none S x.1 x.2 P) : ab_Call l G mX12_readAll 6 [.ref 73] S I J P Q := by
  unfold fX12_readAll at H
  refine ab_enter rfl (Nat.le_of_ble_eq_true rfl) (ab_wk (ls' := [some (.ref 73), none]) (ab_le_some (ab_le_non0 ab_le_nil)) ?_)
  refine ab_aload_n (z := 0) (by decide +kernel) rfl rfl ?_
  refine ab_aload_n (z := 0) (by decide +kernel) rfl rfl ?_
  refine gX12_1 (ix := 121) (by decide +kernel) tw_1082 (hB.1 73 _ rfl) ?_
  refine pX12_5 (ix := 131) (by decide +kernel) tw_1086 (hB.1 73 _ rfl) ?_
  refine ab_aload_n (z := 0) (by decide +kernel) rfl rfl ?_
  refine ab_iconst (z := 0) (v := (0 : Int32)) (by decide +kernel) (by decide) ?_
  refine pX12_1 (ix := 121) (by decide +kernel) tw_1082 (hB.1 73 _ rfl) ?_
  refine ab_aload_n (z := 0) (by decide +kernel) rfl rfl ?_
  refine ab_iconst (z := 0) (v := (0 : Int32)) (by decide +kernel) (by decide) ?_
  refine pX12_4 (ix := 128) (by decide +kernel) tw_1085 (hB.1 73 _ rfl) ?_
  refine ab_aload_n (z := 0) (by decide +kernel) rfl rfl ?_
  refine ab_iconst (z := 0) (v := (0 : Int32)) (by decide +kernel) (by decide) ?_
  refine pX12_2 (ix := 161) (by decide +kernel) tw_1083 (hB.1 73 _ rfl) ?_
  refine ab_aload_n (z := 0) (by decide +kernel) rfl rfl ?_
  refine ab_iconst (z := -1) (v := (-1 : Int32)) (by decide +kernel) (by decide) ?_
  refine pX12_3 (ix := 13) (by decide +kernel) tw_1084 (hB.1 73 _ rfl) ?_
  refine ab_aload_n (z := 0) (by decide +kernel) rfl rfl ?_
  refine ab_iconst (z := 0) (v := (0 : Int32)) (by decide +kernel) (by decide) ?_
  refine pX12_33 (ix := 296) (by decide +kernel) tw_1114 (hB.1 73 _ rfl) ?_
  refine ab_aload_n (z := 0) (by decide +kernel) rfl rfl ?_
  refine ab_iconst (z := 0) (v := (0 : Int32)) (by decide +kernel) (by decide) ?_
  refine pX12_34 (ix := 306) (by decide +kernel) tw_1115 (hB.1 73 _ rfl) ?_
  refine ab_aload_n (z := 0) (by decide +kernel) rfl rfl ?_
  refine ab_iconst (z := 0) (v := (0 : Int32)) (by decide +kernel) (by decide) ?_
  refine pX12_35 (ix := 315) (by decide +kernel) tw_1116 (hB.1 73 _ rfl) ?_
  refine ab_aload_n (z := 0) (by decide +kernel) rfl rfl ?_
  refine ab_iconst (z := 0) (v := (0 : Int32)) (by decide +kernel) (by decide) ?_
  refine pX12_36 (ix := 312) (by decide +kernel) tw_1117 (hB.1 73 _ rfl) ?_
  refine ab_aload_n (z := 0) (by decide +kernel) rfl rfl ?_
  refine ab_iconst (z := 0) (v := (0 : Int32)) (by decide +kernel) (by decide) ?_
  refine pX12_37 (ix := 333) (by decide +kernel) tw_1118 (hB.1 73 _ rfl) ?_
  refine ab_aload_n (z := 0) (by decide +kernel) rfl rfl ?_
  refine ab_iconst (z := 0) (v := (0 : Int32)) (by decide +kernel) (by decide) ?_
  refine pX12_38 (ix := 339) (by decide +kernel) tw_1119 (hB.1 73 _ rfl) ?_
  refine ab_aload_n (z := 0) (by decide +kernel) rfl rfl ?_
  refine ab_iconst (z := 0) (v := (0 : Int32)) (by decide +kernel) (by decide) ?_
  refine pX12_44 (ix := 330) (by decide +kernel) tw_1125 (hB.1 73 _ rfl) (by decide) ?_
  refine ab_aload_n (z := 0) (by decide +kernel) rfl rfl ?_
  refine ab_iconst (z := 0) (v := (0 : Int32)) (by decide +kernel) (by decide) ?_
  refine pX12_45 (ix := 336) (by decide +kernel) tw_1126 (hB.1 73 _ rfl) (by decide) ?_
  refine ab_aload_n (z := 0) (by decide +kernel) rfl rfl ?_
  refine ab_iconst (z := 0) (v := (0 : Int32)) (by decide +kernel) (by decide) ?_
  refine pX12_24 (ix := 260) (by decide +kernel) tw_1105 (hB.1 73 _ rfl) (by decide) ?_
  refine ab_aload_n (z := 0) (by decide +kernel) rfl rfl ?_
  refine ab_iconst (z := 0) (v := (0 : Int32)) (by decide +kernel) (by decide) ?_
  refine pX12_20 (ix := 238) (by decide +kernel) tw_1101 (hB.1 73 _ rfl) ?_
  refine ab_iconst (z := 0) (v := (0 : Int32)) (by decide +kernel) (by decide) ?_
  refine ab_istore_n (z := 1) (by decide +kernel) rfl (by decide) rfl ?_
  refine ab_ls (ls' := [some (.ref 73), some (.int (0 : Int32))]) rfl ?_
  exact ab_wk (ab_le_some (ab_le_some (ab_le_nil))) (ab_iter (body := (fun s => fX12_readAll_80 s.1 s.2.1 s.2.2)) (W := fun s => ab_WP l G mX12_readAll 6 80 [some (.ref 73), some (.int s.1)] [] S s.2.1 s.2.2 P 0 0 Q) (fun s y hb h1 h2 => fX12_readAll_80_ok hB hb h1 (fun r e => by have e2 := h2 _ e; subst e2; exact K0)) 5000 ((0 : Int32), (ab_u (ab_u (ab_u (ab_u (ab_u (ab_u (ab_u (ab_u (ab_u (ab_u (ab_u (ab_u (ab_u (ab_u (ab_u I 73 5 (I 73 1)) 73 1 (0 : Int32)) 73 4 (0 : Int32)) 73 2 (0 : Int32)) 73 3 (-1 : Int32)) 73 33 (0 : Int32)) 73 34 (0 : Int32)) 73 35 (0 : Int32)) 73 36 (0 : Int32)) 73 37 (0 : Int32)) 73 38 (0 : Int32)) 73 44 (0 : Int32)) 73 45 (0 : Int32)) 73 24 (0 : Int32)) 73 20 (0 : Int32)), J) H)
abbrev mX12_begin : ab_M := (yX12_begin, cX12_begin, 2, none, 0, 0)
theorem kvX12_begin {l : Launch} {G : ab_G} {M : ab_M} {d pc : Nat} {ls : List (Option Value)} {st : List Value} {S : ab_S} {I : ab_I} {J : ab_J} {P : ab_P} {Q : ab_Q} {ix D r ln : Nat} (hd : decode M.2.1 pc = .ok (.invokevirtual ix, 3)) (h1 : Cond.methodLink M.1.cls ix mX12_begin.1 ∈ ab_good) (hs : S[r]? = some (17, ln)) (hdg : D + 1 ≤ d) (hsum : (st.map fun v => v.category).sum ≤ 8) (kk : ab_Call l G mX12_begin D (.ref r :: []) S I J P (fun v S' I' J' P' => ab_WP l G M d (pc + 3) ls (ab_psh v st) S' I' J' P' 0 0 Q)) : ab_WP l G M d pc ls (.ref r :: st) S I J P 0 0 Q := bz_kv (g := mX12_begin) (as := []) (cc := 12) rfl hd h1 tw_1456 tw_p60 tw_13 tw_1457 ⟨by decide +kernel, by decide +kernel, (by decide +kernel : (parseMethodDescriptor mX12_begin.1.desc).map (fun d => d.parameters.length) = some 0)⟩ (by decide) rfl rfl rfl hdg hsum hs kk
def fX12_begin_93 (I : ab_I) : Option ab_I :=
  some I
set_option maxRecDepth 100000 in
theorem fX12_begin_93_ok {l : Launch} {G : ab_G} {S : ab_S} {I : ab_I} {J : ab_J} {P : ab_P} {Q : ab_Q} (hB : bz_B S P) {x : ab_I} (H : fX12_begin_93 I = some x) (K0 : Q none S x J P) : ab_WP l G mX12_begin 0 93 [some (.ref 73), none] [] S I J P 0 0 Q := by
  unfold fX12_begin_93 at H
  obtain rfl := Option.some.inj H
  exact ab_vret (by decide +kernel) rfl (Nat.le_refl _) (Nat.le_refl _) K0
def fX12_begin_66 (a1 : Int32) (I : ab_I) : Option ((Int32 × ab_I) ⊕ ab_I) :=
  if (30 : Int32) ≤ a1 then
    (fX12_begin_93 I).map .inr
  else
    ab_gd (ab_ix a1 30 = true) (
      ab_gd (ab_ix ((13 : Int32) + a1) 45 = true) (
        some (.inl ((a1 + (1 : Int32)), (ab_u I 90 (((13 : Int32) + a1).toNatClampNeg) (I 88 a1.toNatClampNeg))))
      )
    )
set_option maxRecDepth 100000 in
theorem fX12_begin_66_ok {l : Launch} {G : ab_G} {S : ab_S} {I : ab_I} {J : ab_J} {P : ab_P} {Q : ab_Q} {a1 : Int32} (hB : bz_B S P) {x : ((Int32 × ab_I) ⊕ ab_I)} (H : fX12_begin_66 a1 I = some x) (K1 : ∀ s, x = (.inl s) → ab_WP l G mX12_begin 0 66 [some (.ref 73), some (.int s.1)] [] S s.2 J P 0 0 Q) (K0 : ∀ r, x = (.inr r) → Q none S r J P) : ab_WP l G mX12_begin 0 66 [some (.ref 73), some (.int a1)] [] S I J P 0 0 Q := by
  unfold fX12_begin_66 at H
  refine ab_iload_n (z := 1) (by decide +kernel) rfl rfl ?_
  refine ab_bipush (z := 30) (v := (30 : Int32)) (by decide +kernel) (by decide) ?_
  refine ab_icmp_ge (off := 24) (tgt := 93) (by decide +kernel) rfl (fun hc => ?_) (fun hc => ?_)
  · replace H := ab_ifp H hc
    obtain ⟨y3, Hy, hx⟩ := ab_mp_of H
    subst hx
    replace H := Hy
    exact ab_wk (ab_le_some (ab_le_none (ab_le_nil))) (fX12_begin_93_ok hB H  (K0 _ rfl))
  · replace H := ab_ifn H hc
    refine ab_aload_n (z := 0) (by decide +kernel) rfl rfl ?_
    refine gX12_47 (ix := 63) (by decide +kernel) tw_1128 (hB.1 73 _ rfl) (hB.2.1 95 (73, 47, 90) rfl) ?_
    refine ab_bipush (z := 13) (v := (13 : Int32)) (by decide +kernel) (by decide) ?_
    refine ab_iload_n (z := 1) (by decide +kernel) rfl rfl ?_
    refine ab_iadd (by decide +kernel) ?_
    refine ab_aload_n (z := 0) (by decide +kernel) rfl rfl ?_
    refine gX12_32 (ix := 57) (by decide +kernel) tw_1113 (hB.1 73 _ rfl) (hB.2.1 93 (73, 32, 88) rfl) ?_
    refine ab_iload_n (z := 1) (by decide +kernel) rfl rfl ?_
    obtain ⟨hg, H⟩ := ab_gd_of H
    refine ab_iald (ln := 30) (by decide +kernel) (hB.1 88 _ rfl) (ab_ix_in hg) ?_
    obtain ⟨hg, H⟩ := ab_gd_of H
    refine ab_iast (ln := 45) (by decide +kernel) (hB.1 90 _ rfl) (ab_ix_in hg) ?_
    refine ab_iinc (i := 1) (z := 1) (v := (a1 + (1 : Int32))) (by decide +kernel) rfl rfl (by decide) rfl ?_
    refine ab_ls (ls' := [some (.ref 73), some (.int (a1 + (1 : Int32)))]) rfl ?_
    refine ab_goto (off := -24) (tgt := 66) (by decide +kernel) rfl ?_
    exact ab_wk (ab_le_some (ab_le_some (ab_le_nil))) (K1 ((a1 + (1 : Int32)), (ab_u I 90 (((13 : Int32) + a1).toNatClampNeg) (I 88 a1.toNatClampNeg))) (Option.some.inj H).symm)
def fX12_begin_49 (I : ab_I) : Option ab_I :=
  ab_gd (ab_ix (12 : Int32) 45 = true) (
    ab_it (fun s => fX12_begin_66 s.1 s.2) 5000 ((0 : Int32), (ab_u I 90 ((12 : Int32).toNatClampNeg) (((1 : Int32) <<< ((I 73 39) &&& 31)) - (1 : Int32))))
  )
set_option maxRecDepth 100000 in
theorem fX12_begin_49_ok {l : Launch} {G : ab_G} {S : ab_S} {I : ab_I} {J : ab_J} {P : ab_P} {Q : ab_Q} (hB : bz_B S P) {x : ab_I} (H : fX12_begin_49 I = some x) (K0 : Q none S x J P) : ab_WP l G mX12_begin 0 49 [some (.ref 73), none] [] S I J P 0 0 Q := by
  unfold fX12_begin_49 at H
  refine ab_aload_n (z := 0) (by decide +kernel) rfl rfl ?_
  refine gX12_47 (ix := 63) (by decide +kernel) tw_1128 (hB.1 73 _ rfl) (hB.2.1 95 (73, 47, 90) rfl) ?_
  refine ab_bipush (z := 12) (v := (12 : Int32)) (by decide +kernel) (by decide) ?_
  refine ab_iconst (z := 1) (v := (1 : Int32)) (by decide +kernel) (by decide) ?_
  refine ab_aload_n (z := 0) (by decide +kernel) rfl rfl ?_
  refine gX12_39 (ix := 348) (by decide +kernel) tw_1120 (hB.1 73 _ rfl) ?_
  refine ab_ishl (by decide +kernel) ?_
  refine ab_iconst (z := 1) (v := (1 : Int32)) (by decide +kernel) (by decide) ?_
  refine ab_isub (by decide +kernel) ?_
  obtain ⟨hg, H⟩ := ab_gd_of H
  refine ab_iast (ln := 45) (by decide +kernel) (hB.1 90 _ rfl) (ab_ix_in hg) ?_
  refine ab_iconst (z := 0) (v := (0 : Int32)) (by decide +kernel) (by decide) ?_
  refine ab_istore_n (z := 1) (by decide +kernel) rfl (by decide) rfl ?_
  refine ab_ls (ls' := [some (.ref 73), some (.int (0 : Int32))]) rfl ?_
  exact ab_wk (ab_le_some (ab_le_some (ab_le_nil))) (ab_iter (body := (fun s => fX12_begin_66 s.1 s.2)) (W := fun s => ab_WP l G mX12_begin 0 66 [some (.ref 73), some (.int s.1)] [] S s.2 J P 0 0 Q) (fun s y hb h1 h2 => fX12_begin_66_ok hB hb h1 (fun r e => by have e2 := h2 _ e; subst e2; exact K0)) 5000 ((0 : Int32), (ab_u I 90 ((12 : Int32).toNatClampNeg) (((1 : Int32) <<< ((I 73 39) &&& 31)) - (1 : Int32)))) H)
def fX12_begin_23 (a1 : Int32) (I : ab_I) : Option ((Int32 × ab_I) ⊕ ab_I) :=
  if (I 73 39) ≤ a1 then
    (fX12_begin_49 I).map .inr
  else
    ab_gd (ab_ix a1 6 = true) (
      ab_gd (ab_ix a1 45 = true) (
        some (.inl ((a1 + (1 : Int32)), (ab_u I 90 a1.toNatClampNeg (I 86 a1.toNatClampNeg))))
      )
    )
set_option maxRecDepth 100000 in
theorem fX12_begin_23_ok {l : Launch} {G : ab_G} {S : ab_S} {I : ab_I} {J : ab_J} {P : ab_P} {Q : ab_Q} {a1 : Int32} (hB : bz_B S P) {x : ((Int32 × ab_I) ⊕ ab_I)} (H : fX12_begin_23 a1 I = some x) (K1 : ∀ s, x = (.inl s) → ab_WP l G mX12_begin 0 23 [some (.ref 73), some (.int s.1)] [] S s.2 J P 0 0 Q) (K0 : ∀ r, x = (.inr r) → Q none S r J P) : ab_WP l G mX12_begin 0 23 [some (.ref 73), some (.int a1)] [] S I J P 0 0 Q := by
  unfold fX12_begin_23 at H
  refine ab_iload_n (z := 1) (by decide +kernel) rfl rfl ?_
  refine ab_aload_n (z := 0) (by decide +kernel) rfl rfl ?_
  refine gX12_39 (ix := 348) (by decide +kernel) tw_1120 (hB.1 73 _ rfl) ?_
  refine ab_icmp_ge (off := 21) (tgt := 49) (by decide +kernel) rfl (fun hc => ?_) (fun hc => ?_)
  · replace H := ab_ifp H hc
    obtain ⟨y2, Hy, hx⟩ := ab_mp_of H
    subst hx
    replace H := Hy
    exact ab_wk (ab_le_some (ab_le_none (ab_le_nil))) (fX12_begin_49_ok hB H  (K0 _ rfl))
  · replace H := ab_ifn H hc
    refine ab_aload_n (z := 0) (by decide +kernel) rfl rfl ?_
    refine gX12_47 (ix := 63) (by decide +kernel) tw_1128 (hB.1 73 _ rfl) (hB.2.1 95 (73, 47, 90) rfl) ?_
    refine ab_iload_n (z := 1) (by decide +kernel) rfl rfl ?_
    refine ab_aload_n (z := 0) (by decide +kernel) rfl rfl ?_
    refine gX12_30 (ix := 51) (by decide +kernel) tw_1111 (hB.1 73 _ rfl) (hB.2.1 91 (73, 30, 86) rfl) ?_
    refine ab_iload_n (z := 1) (by decide +kernel) rfl rfl ?_
    obtain ⟨hg, H⟩ := ab_gd_of H
    refine ab_iald (ln := 6) (by decide +kernel) (hB.1 86 _ rfl) (ab_ix_in hg) ?_
    obtain ⟨hg, H⟩ := ab_gd_of H
    refine ab_iast (ln := 45) (by decide +kernel) (hB.1 90 _ rfl) (ab_ix_in hg) ?_
    refine ab_iinc (i := 1) (z := 1) (v := (a1 + (1 : Int32))) (by decide +kernel) rfl rfl (by decide) rfl ?_
    refine ab_ls (ls' := [some (.ref 73), some (.int (a1 + (1 : Int32)))]) rfl ?_
    refine ab_goto (off := -23) (tgt := 23) (by decide +kernel) rfl ?_
    exact ab_wk (ab_le_some (ab_le_some (ab_le_nil))) (K1 ((a1 + (1 : Int32)), (ab_u I 90 a1.toNatClampNeg (I 86 a1.toNatClampNeg))) (Option.some.inj H).symm)
def fX12_begin_21 (I : ab_I) : Option ab_I :=
  ab_it (fun s => fX12_begin_23 s.1 s.2) 5000 ((0 : Int32), I)
set_option maxRecDepth 100000 in
theorem fX12_begin_21_ok {l : Launch} {G : ab_G} {S : ab_S} {I : ab_I} {J : ab_J} {P : ab_P} {Q : ab_Q} (hB : bz_B S P) {x : ab_I} (H : fX12_begin_21 I = some x) (K0 : Q none S x J P) : ab_WP l G mX12_begin 0 21 [some (.ref 73), none] [] S I J P 0 0 Q := by
  unfold fX12_begin_21 at H
  refine ab_iconst (z := 0) (v := (0 : Int32)) (by decide +kernel) (by decide) ?_
  refine ab_istore_n (z := 1) (by decide +kernel) rfl (by decide) rfl ?_
  refine ab_ls (ls' := [some (.ref 73), some (.int (0 : Int32))]) rfl ?_
  exact ab_wk (ab_le_some (ab_le_some (ab_le_nil))) (ab_iter (body := (fun s => fX12_begin_23 s.1 s.2)) (W := fun s => ab_WP l G mX12_begin 0 23 [some (.ref 73), some (.int s.1)] [] S s.2 J P 0 0 Q) (fun s y hb h1 h2 => fX12_begin_23_ok hB hb h1 (fun r e => by have e2 := h2 _ e; subst e2; exact K0)) 5000 ((0 : Int32), I) H)
def fX12_begin_2 (a1 : Int32) (I : ab_I) : Option ((Int32 × ab_I) ⊕ ab_I) :=
  if (45 : Int32) ≤ a1 then
    (fX12_begin_21 I).map .inr
  else
    ab_gd (ab_ix a1 45 = true) (
      some (.inl ((a1 + (1 : Int32)), (ab_u I 90 a1.toNatClampNeg (0 : Int32))))
    )
set_option maxRecDepth 100000 in
theorem fX12_begin_2_ok {l : Launch} {G : ab_G} {S : ab_S} {I : ab_I} {J : ab_J} {P : ab_P} {Q : ab_Q} {a1 : Int32} (hB : bz_B S P) {x : ((Int32 × ab_I) ⊕ ab_I)} (H : fX12_begin_2 a1 I = some x) (K1 : ∀ s, x = (.inl s) → ab_WP l G mX12_begin 0 2 [some (.ref 73), some (.int s.1)] [] S s.2 J P 0 0 Q) (K0 : ∀ r, x = (.inr r) → Q none S r J P) : ab_WP l G mX12_begin 0 2 [some (.ref 73), some (.int a1)] [] S I J P 0 0 Q := by
  unfold fX12_begin_2 at H
  refine ab_iload_n (z := 1) (by decide +kernel) rfl rfl ?_
  refine ab_bipush (z := 45) (v := (45 : Int32)) (by decide +kernel) (by decide) ?_
  refine ab_icmp_ge (off := 16) (tgt := 21) (by decide +kernel) rfl (fun hc => ?_) (fun hc => ?_)
  · replace H := ab_ifp H hc
    obtain ⟨y1, Hy, hx⟩ := ab_mp_of H
    subst hx
    replace H := Hy
    exact ab_wk (ab_le_some (ab_le_none (ab_le_nil))) (fX12_begin_21_ok hB H  (K0 _ rfl))
  · replace H := ab_ifn H hc
    refine ab_aload_n (z := 0) (by decide +kernel) rfl rfl ?_
    refine gX12_47 (ix := 63) (by decide +kernel) tw_1128 (hB.1 73 _ rfl) (hB.2.1 95 (73, 47, 90) rfl) ?_
    refine ab_iload_n (z := 1) (by decide +kernel) rfl rfl ?_
    refine ab_iconst (z := 0) (v := (0 : Int32)) (by decide +kernel) (by decide) ?_
    obtain ⟨hg, H⟩ := ab_gd_of H
    refine ab_iast (ln := 45) (by decide +kernel) (hB.1 90 _ rfl) (ab_ix_in hg) ?_
    refine ab_iinc (i := 1) (z := 1) (v := (a1 + (1 : Int32))) (by decide +kernel) rfl rfl (by decide) rfl ?_
    refine ab_ls (ls' := [some (.ref 73), some (.int (a1 + (1 : Int32)))]) rfl ?_
    refine ab_goto (off := -16) (tgt := 2) (by decide +kernel) rfl ?_
    exact ab_wk (ab_le_some (ab_le_some (ab_le_nil))) (K1 ((a1 + (1 : Int32)), (ab_u I 90 a1.toNatClampNeg (0 : Int32))) (Option.some.inj H).symm)
def fX12_begin (I : ab_I) : Option ab_I :=
  ab_it (fun s => fX12_begin_2 s.1 s.2) 5000 ((0 : Int32), I)
set_option maxRecDepth 100000 in
theorem mX12_begin_ok {l : Launch} {G : ab_G} {S : ab_S} {I : ab_I} {J : ab_J} {P : ab_P} {Q : ab_Q} (hB : bz_B S P) {x : ab_I} (H : fX12_begin I = some x) (K0 : Q none S x J P) : ab_Call l G mX12_begin 0 [.ref 73] S I J P Q := by
  unfold fX12_begin at H
  refine ab_enter rfl (Nat.le_of_ble_eq_true rfl) (ab_wk (ls' := [some (.ref 73), none]) (ab_le_some (ab_le_non0 ab_le_nil)) ?_)
  refine ab_iconst (z := 0) (v := (0 : Int32)) (by decide +kernel) (by decide) ?_
  refine ab_istore_n (z := 1) (by decide +kernel) rfl (by decide) rfl ?_
  refine ab_ls (ls' := [some (.ref 73), some (.int (0 : Int32))]) rfl ?_
  exact ab_wk (ab_le_some (ab_le_some (ab_le_nil))) (ab_iter (body := (fun s => fX12_begin_2 s.1 s.2)) (W := fun s => ab_WP l G mX12_begin 0 2 [some (.ref 73), some (.int s.1)] [] S s.2 J P 0 0 Q) (fun s y hb h1 h2 => fX12_begin_2_ok hB hb h1 (fun r e => by have e2 := h2 _ e; subst e2; exact K0)) 5000 ((0 : Int32), I) H)
abbrev mX12_keepAir : ab_M := (yX12_keepAir, cX12_keepAir, 2, none, 0, 0)
theorem kvX12_keepAir {l : Launch} {G : ab_G} {M : ab_M} {d pc : Nat} {ls : List (Option Value)} {st : List Value} {S : ab_S} {I : ab_I} {J : ab_J} {P : ab_P} {Q : ab_Q} {ix D r ln : Nat} (hd : decode M.2.1 pc = .ok (.invokevirtual ix, 3)) (h1 : Cond.methodLink M.1.cls ix mX12_keepAir.1 ∈ ab_good) (hs : S[r]? = some (17, ln)) (hdg : D + 1 ≤ d) (hsum : (st.map fun v => v.category).sum ≤ 8) (kk : ab_Call l G mX12_keepAir D (.ref r :: []) S I J P (fun v S' I' J' P' => ab_WP l G M d (pc + 3) ls (ab_psh v st) S' I' J' P' 0 0 Q)) : ab_WP l G M d pc ls (.ref r :: st) S I J P 0 0 Q := bz_kv (g := mX12_keepAir) (as := []) (cc := 12) rfl hd h1 tw_1460 tw_p61 tw_13 tw_1461 ⟨by decide +kernel, by decide +kernel, (by decide +kernel : (parseMethodDescriptor mX12_keepAir.1.desc).map (fun d => d.parameters.length) = some 0)⟩ (by decide) rfl rfl rfl hdg hsum hs kk
def fX12_keepAir_26 (I : ab_I) : Option ab_I :=
  some I
set_option maxRecDepth 100000 in
theorem fX12_keepAir_26_ok {l : Launch} {G : ab_G} {S : ab_S} {I : ab_I} {J : ab_J} {P : ab_P} {Q : ab_Q} (hB : bz_B S P) {x : ab_I} (H : fX12_keepAir_26 I = some x) (K0 : Q none S x J P) : ab_WP l G mX12_keepAir 0 26 [some (.ref 73), none] [] S I J P 0 0 Q := by
  unfold fX12_keepAir_26 at H
  obtain rfl := Option.some.inj H
  exact ab_vret (by decide +kernel) rfl (Nat.le_refl _) (Nat.le_refl _) K0
def fX12_keepAir_2 (a1 : Int32) (I : ab_I) : Option ((Int32 × ab_I) ⊕ ab_I) :=
  if (45 : Int32) ≤ a1 then
    (fX12_keepAir_26 I).map .inr
  else
    ab_gd (ab_ix a1 45 = true) (
      ab_gd (ab_ix a1 45 = true) (
        some (.inl ((a1 + (1 : Int32)), (ab_u I 89 a1.toNatClampNeg (I 90 a1.toNatClampNeg))))
      )
    )
set_option maxRecDepth 100000 in
theorem fX12_keepAir_2_ok {l : Launch} {G : ab_G} {S : ab_S} {I : ab_I} {J : ab_J} {P : ab_P} {Q : ab_Q} {a1 : Int32} (hB : bz_B S P) {x : ((Int32 × ab_I) ⊕ ab_I)} (H : fX12_keepAir_2 a1 I = some x) (K1 : ∀ s, x = (.inl s) → ab_WP l G mX12_keepAir 0 2 [some (.ref 73), some (.int s.1)] [] S s.2 J P 0 0 Q) (K0 : ∀ r, x = (.inr r) → Q none S r J P) : ab_WP l G mX12_keepAir 0 2 [some (.ref 73), some (.int a1)] [] S I J P 0 0 Q := by
  unfold fX12_keepAir_2 at H
  refine ab_iload_n (z := 1) (by decide +kernel) rfl rfl ?_
  refine ab_bipush (z := 45) (v := (45 : Int32)) (by decide +kernel) (by decide) ?_
  refine ab_icmp_ge (off := 21) (tgt := 26) (by decide +kernel) rfl (fun hc => ?_) (fun hc => ?_)
  · replace H := ab_ifp H hc
    obtain ⟨y1, Hy, hx⟩ := ab_mp_of H
    subst hx
    replace H := Hy
    exact ab_wk (ab_le_some (ab_le_none (ab_le_nil))) (fX12_keepAir_26_ok hB H  (K0 _ rfl))
  · replace H := ab_ifn H hc
    refine ab_aload_n (z := 0) (by decide +kernel) rfl rfl ?_
    refine gX12_46 (ix := 60) (by decide +kernel) tw_1127 (hB.1 73 _ rfl) (hB.2.1 94 (73, 46, 89) rfl) ?_
    refine ab_iload_n (z := 1) (by decide +kernel) rfl rfl ?_
    refine ab_aload_n (z := 0) (by decide +kernel) rfl rfl ?_
    refine gX12_47 (ix := 63) (by decide +kernel) tw_1128 (hB.1 73 _ rfl) (hB.2.1 95 (73, 47, 90) rfl) ?_
    refine ab_iload_n (z := 1) (by decide +kernel) rfl rfl ?_
    obtain ⟨hg, H⟩ := ab_gd_of H
    refine ab_iald (ln := 45) (by decide +kernel) (hB.1 90 _ rfl) (ab_ix_in hg) ?_
    obtain ⟨hg, H⟩ := ab_gd_of H
    refine ab_iast (ln := 45) (by decide +kernel) (hB.1 89 _ rfl) (ab_ix_in hg) ?_
    refine ab_iinc (i := 1) (z := 1) (v := (a1 + (1 : Int32))) (by decide +kernel) rfl rfl (by decide) rfl ?_
    refine ab_ls (ls' := [some (.ref 73), some (.int (a1 + (1 : Int32)))]) rfl ?_
    refine ab_goto (off := -21) (tgt := 2) (by decide +kernel) rfl ?_
    exact ab_wk (ab_le_some (ab_le_some (ab_le_nil))) (K1 ((a1 + (1 : Int32)), (ab_u I 89 a1.toNatClampNeg (I 90 a1.toNatClampNeg))) (Option.some.inj H).symm)
def fX12_keepAir (I : ab_I) : Option ab_I :=
  ab_it (fun s => fX12_keepAir_2 s.1 s.2) 5000 ((0 : Int32), I)
set_option maxRecDepth 100000 in
theorem mX12_keepAir_ok {l : Launch} {G : ab_G} {S : ab_S} {I : ab_I} {J : ab_J} {P : ab_P} {Q : ab_Q} (hB : bz_B S P) {x : ab_I} (H : fX12_keepAir I = some x) (K0 : Q none S x J P) : ab_Call l G mX12_keepAir 0 [.ref 73] S I J P Q := by
  unfold fX12_keepAir at H
  refine ab_enter rfl (Nat.le_of_ble_eq_true rfl) (ab_wk (ls' := [some (.ref 73), none]) (ab_le_some (ab_le_non0 ab_le_nil)) ?_)
  refine ab_iconst (z := 0) (v := (0 : Int32)) (by decide +kernel) (by decide) ?_
  refine ab_istore_n (z := 1) (by decide +kernel) rfl (by decide) rfl ?_
  refine ab_ls (ls' := [some (.ref 73), some (.int (0 : Int32))]) rfl ?_
  exact ab_wk (ab_le_some (ab_le_some (ab_le_nil))) (ab_iter (body := (fun s => fX12_keepAir_2 s.1 s.2)) (W := fun s => ab_WP l G mX12_keepAir 0 2 [some (.ref 73), some (.int s.1)] [] S s.2 J P 0 0 Q) (fun s y hb h1 h2 => fX12_keepAir_2_ok hB hb h1 (fun r e => by have e2 := h2 _ e; subst e2; exact K0)) 5000 ((0 : Int32), I) H)
