/-! ===== the law's cases ===== -/
/-- one call of the class and the same call of the reference answer alike, and R holds again -/
def lz_pr (l : Launch) (G : ab_G) (R : ab_S → ab_I → ab_J → ab_P → Prop) (gX : ab_M) (dX : Nat) (gM : ab_M) (dM : Nat) (as : List Value) (S : ab_S) (I : ab_I) (J : ab_J) (P : ab_P) : Prop :=
  ∃ (v : Int32) (S1 : ab_S) (I1 : ab_I) (J1 : ab_J) (P1 : ab_P) (S2 : ab_S) (I2 : ab_I) (J2 : ab_J) (P2 : ab_P), (∀ Q : ab_Q, Q (some (.int v)) S1 I1 J1 P1 → ab_Call l G gX dX (.ref 0 :: as) S I J P Q) ∧ (∀ Q : ab_Q, Q (some (.int v)) S2 I2 J2 P2 → ab_Call l G gM dM (.ref 73 :: as) S1 I1 J1 P1 Q) ∧ S1[73]? = some (17, 0) ∧ R S2 I2 J2 P2
section LCA
variable {l : Launch} {G : ab_G} {p : Program} {e : Env} {s : State} {m : MethodId} {below : List Frame} {meth : Method} {c : Code} {b L : Nat} {xs : Nat → Int32} {S : ab_S} {I : ab_I} {J : ab_J} {P : ab_P} {k n : Nat} {R : ab_S → ab_I → ab_J → ab_P → Prop}
set_option maxRecDepth 100000 in
theorem lw_case0 (C : lz_C G p s m meth c b L xs) {i : Int32} (H1 : vp_in (i + 1) L) (H2 : vp_in (i + 2) L) (H3 : vp_in (i + 3) L) (H4 : vp_in (i + 4) L) (H5 : vp_in (i + 5) L) (h0 : S[0]? = some (16, 0)) (hk : k + 4 ≤ 600000) (hn : n + 48 ≤ 7302250) (h : lz_pr l G R mX11_feed 1 mX12_feed 1 [.int (xs (i + 1).toNatClampNeg), .int (xs (i + 2).toNatClampNeg), .int (xs (i + 3).toNatClampNeg), .int (xs (i + 4).toNatClampNeg), .int (xs (i + 5).toNatClampNeg)] S I J P) (K : ∀ S I J P, R S I J P → lz_WP l G p e s m below meth c b 1470 [none, some (.ref 0), some (.ref 73), some (.int i)] [] S I J P (k + 4) (n + 48)) : lz_WP l G p e s m below meth c b 240 [none, some (.ref 0), some (.ref 73), some (.int i)] [] S I J P k n := by
  obtain ⟨v, S1, I1, J1, P1, S2, I2, J2, P2, hX, hM, h73, hR⟩ := h
  refine lz_aload C (z := 1) (by decide +kernel) rfl rfl ?_
  refine lz_sc C (z := 1) (v := (1 : Int32)) rfl (by decide +kernel) (by decide +kernel) (by decide +kernel) (by decide) (by decide +kernel) (by decide +kernel) H1 ?_
  refine lz_sc C (z := 2) (v := (2 : Int32)) rfl (by decide +kernel) (by decide +kernel) (by decide +kernel) (by decide) (by decide +kernel) (by decide +kernel) H2 ?_
  refine lz_sc C (z := 3) (v := (3 : Int32)) rfl (by decide +kernel) (by decide +kernel) (by decide +kernel) (by decide) (by decide +kernel) (by decide +kernel) H3 ?_
  refine lz_sc C (z := 4) (v := (4 : Int32)) rfl (by decide +kernel) (by decide +kernel) (by decide +kernel) (by decide) (by decide +kernel) (by decide +kernel) H4 ?_
  refine lz_sc C (z := 5) (v := (5 : Int32)) rfl (by decide +kernel) (by decide +kernel) (by decide +kernel) (by decide) (by decide +kernel) (by decide +kernel) H5 ?_
  refine lz_call C (g := mX11_feed) (ix := 13) (dg := 1) (r := 0) (cc := 11) (as := [.int (xs (i + 1).toNatClampNeg), .int (xs (i + 2).toNatClampNeg), .int (xs (i + 3).toNatClampNeg), .int (xs (i + 4).toNatClampNeg), .int (xs (i + 5).toNatClampNeg)]) (st := []) (by decide +kernel) tw_454 tw_455 tw_456 tw_1 tw_457 ⟨by decide +kernel, by decide +kernel, (by decide +kernel : (parseMethodDescriptor mX11_feed.1.desc).map (fun d => d.parameters.length) = some 5)⟩ (by decide) rfl rfl rfl (by decide) (by show k + 0 ≤ _; omega) (by show n + 0 ≤ _; omega) (Nat.le_of_ble_eq_true rfl) h0 (hX _ ?_)
  change lz_WP l G p e s m below meth c b 269 [none, some (.ref 0), some (.ref 73), some (.int i)] [.int v] S1 I1 J1 P1 (k + mX11_feed.2.2.2.2.1) (n + mX11_feed.2.2.2.2.2)
  refine lz_aload C (z := 2) (by decide +kernel) rfl rfl ?_
  refine lz_sc C (z := 1) (v := (1 : Int32)) rfl (by decide +kernel) (by decide +kernel) (by decide +kernel) (by decide) (by decide +kernel) (by decide +kernel) H1 ?_
  refine lz_sc C (z := 2) (v := (2 : Int32)) rfl (by decide +kernel) (by decide +kernel) (by decide +kernel) (by decide) (by decide +kernel) (by decide +kernel) H2 ?_
  refine lz_sc C (z := 3) (v := (3 : Int32)) rfl (by decide +kernel) (by decide +kernel) (by decide +kernel) (by decide) (by decide +kernel) (by decide +kernel) H3 ?_
  refine lz_sc C (z := 4) (v := (4 : Int32)) rfl (by decide +kernel) (by decide +kernel) (by decide +kernel) (by decide) (by decide +kernel) (by decide +kernel) H4 ?_
  refine lz_sc C (z := 5) (v := (5 : Int32)) rfl (by decide +kernel) (by decide +kernel) (by decide +kernel) (by decide) (by decide +kernel) (by decide +kernel) H5 ?_
  refine lz_call C (g := mX12_feed) (ix := 17) (dg := 1) (r := 73) (cc := 12) (as := [.int (xs (i + 1).toNatClampNeg), .int (xs (i + 2).toNatClampNeg), .int (xs (i + 3).toNatClampNeg), .int (xs (i + 4).toNatClampNeg), .int (xs (i + 5).toNatClampNeg)]) (st := [.int v]) (by decide +kernel) tw_1295 tw_1296 tw_1297 tw_13 tw_1298 ⟨by decide +kernel, by decide +kernel, (by decide +kernel : (parseMethodDescriptor mX12_feed.1.desc).map (fun d => d.parameters.length) = some 5)⟩ (by decide) rfl rfl rfl (by decide) (by show k + 0 + 0 ≤ _; omega) (by show n + 0 + 0 ≤ _; omega) (Nat.le_of_ble_eq_true rfl) h73 (hM _ ?_)
  change lz_WP l G p e s m below meth c b 298 [none, some (.ref 0), some (.ref 73), some (.int i)] [.int v, .int v] S2 I2 J2 P2 (k + 0) (n + 0)
  refine lz_icmp_eq C (off := 1172) (tgt := 1470) (by decide +kernel) rfl rfl ?_
  exact lz_widen (by omega) (by omega) (K S2 I2 J2 P2 hR)
set_option maxRecDepth 100000 in
theorem lw_case1 (C : lz_C G p s m meth c b L xs) {i : Int32} (H1 : vp_in (i + 1) L) (H2 : vp_in (i + 2) L) (H3 : vp_in (i + 3) L) (H4 : vp_in (i + 4) L) (H5 : vp_in (i + 5) L) (h0 : S[0]? = some (16, 0)) (hk : k + 4 ≤ 600000) (hn : n + 48 ≤ 7302250) (h : lz_pr l G R mX11_end 0 mX12_end 0 [.int (xs (i + 1).toNatClampNeg)] S I J P) (K : ∀ S I J P, R S I J P → lz_WP l G p e s m below meth c b 1470 [none, some (.ref 0), some (.ref 73), some (.int i)] [] S I J P (k + 4) (n + 48)) : lz_WP l G p e s m below meth c b 303 [none, some (.ref 0), some (.ref 73), some (.int i)] [] S I J P k n := by
  obtain ⟨v, S1, I1, J1, P1, S2, I2, J2, P2, hX, hM, h73, hR⟩ := h
  refine lz_aload C (z := 1) (by decide +kernel) rfl rfl ?_
  refine lz_sc C (z := 1) (v := (1 : Int32)) rfl (by decide +kernel) (by decide +kernel) (by decide +kernel) (by decide) (by decide +kernel) (by decide +kernel) H1 ?_
  refine lz_call C (g := mX11_end) (ix := 18) (dg := 0) (r := 0) (cc := 11) (as := [.int (xs (i + 1).toNatClampNeg)]) (st := []) (by decide +kernel) tw_462 tw_463 tw_464 tw_1 tw_465 ⟨by decide +kernel, by decide +kernel, (by decide +kernel : (parseMethodDescriptor mX11_end.1.desc).map (fun d => d.parameters.length) = some 1)⟩ (by decide) rfl rfl rfl (by decide) (by show k + 0 ≤ _; omega) (by show n + 0 ≤ _; omega) (Nat.le_of_ble_eq_true rfl) h0 (hX _ ?_)
  change lz_WP l G p e s m below meth c b 312 [none, some (.ref 0), some (.ref 73), some (.int i)] [.int v] S1 I1 J1 P1 (k + mX11_end.2.2.2.2.1) (n + mX11_end.2.2.2.2.2)
  refine lz_aload C (z := 2) (by decide +kernel) rfl rfl ?_
  refine lz_sc C (z := 1) (v := (1 : Int32)) rfl (by decide +kernel) (by decide +kernel) (by decide +kernel) (by decide) (by decide +kernel) (by decide +kernel) H1 ?_
  refine lz_call C (g := mX12_end) (ix := 22) (dg := 0) (r := 73) (cc := 12) (as := [.int (xs (i + 1).toNatClampNeg)]) (st := [.int v]) (by decide +kernel) tw_1303 tw_1304 tw_1305 tw_13 tw_1306 ⟨by decide +kernel, by decide +kernel, (by decide +kernel : (parseMethodDescriptor mX12_end.1.desc).map (fun d => d.parameters.length) = some 1)⟩ (by decide) rfl rfl rfl (by decide) (by show k + 0 + 0 ≤ _; omega) (by show n + 0 + 0 ≤ _; omega) (Nat.le_of_ble_eq_true rfl) h73 (hM _ ?_)
  change lz_WP l G p e s m below meth c b 321 [none, some (.ref 0), some (.ref 73), some (.int i)] [.int v, .int v] S2 I2 J2 P2 (k + 0) (n + 0)
  refine lz_icmp_eq C (off := 1149) (tgt := 1470) (by decide +kernel) rfl rfl ?_
  exact lz_widen (by omega) (by omega) (K S2 I2 J2 P2 hR)
set_option maxRecDepth 100000 in
theorem lw_case2 (C : lz_C G p s m meth c b L xs) {i : Int32} (H1 : vp_in (i + 1) L) (H2 : vp_in (i + 2) L) (H3 : vp_in (i + 3) L) (H4 : vp_in (i + 4) L) (H5 : vp_in (i + 5) L) (h0 : S[0]? = some (16, 0)) (hk : k + 4 ≤ 600000) (hn : n + 48 ≤ 7302250) (h : lz_pr l G R mX11_village 129 mX12_village 7 [] S I J P) (K : ∀ S I J P, R S I J P → lz_WP l G p e s m below meth c b 1470 [none, some (.ref 0), some (.ref 73), some (.int i)] [] S I J P (k + 4) (n + 48)) : lz_WP l G p e s m below meth c b 326 [none, some (.ref 0), some (.ref 73), some (.int i)] [] S I J P k n := by
  obtain ⟨v, S1, I1, J1, P1, S2, I2, J2, P2, hX, hM, h73, hR⟩ := h
  refine lz_aload C (z := 1) (by decide +kernel) rfl rfl ?_
  refine lz_call C (g := mX11_village) (ix := 23) (dg := 129) (r := 0) (cc := 11) (as := []) (st := []) (by decide +kernel) tw_466 tw_467 tw_468 tw_1 tw_469 ⟨by decide +kernel, by decide +kernel, (by decide +kernel : (parseMethodDescriptor mX11_village.1.desc).map (fun d => d.parameters.length) = some 0)⟩ (by decide) rfl rfl rfl (by decide) (by show k + 0 ≤ _; omega) (by show n + 0 ≤ _; omega) (Nat.le_of_ble_eq_true rfl) h0 (hX _ ?_)
  change lz_WP l G p e s m below meth c b 330 [none, some (.ref 0), some (.ref 73), some (.int i)] [.int v] S1 I1 J1 P1 (k + mX11_village.2.2.2.2.1) (n + mX11_village.2.2.2.2.2)
  refine lz_aload C (z := 2) (by decide +kernel) rfl rfl ?_
  refine lz_call C (g := mX12_village) (ix := 27) (dg := 7) (r := 73) (cc := 12) (as := []) (st := [.int v]) (by decide +kernel) tw_1307 tw_1308 tw_1309 tw_13 tw_1310 ⟨by decide +kernel, by decide +kernel, (by decide +kernel : (parseMethodDescriptor mX12_village.1.desc).map (fun d => d.parameters.length) = some 0)⟩ (by decide) rfl rfl rfl (by decide) (by show k + 0 + 0 ≤ _; omega) (by show n + 0 + 0 ≤ _; omega) (Nat.le_of_ble_eq_true rfl) h73 (hM _ ?_)
  change lz_WP l G p e s m below meth c b 334 [none, some (.ref 0), some (.ref 73), some (.int i)] [.int v, .int v] S2 I2 J2 P2 (k + 0) (n + 0)
  refine lz_icmp_eq C (off := 1136) (tgt := 1470) (by decide +kernel) rfl rfl ?_
  exact lz_widen (by omega) (by omega) (K S2 I2 J2 P2 hR)
set_option maxRecDepth 100000 in
theorem lw_case3 (C : lz_C G p s m meth c b L xs) {i : Int32} (H1 : vp_in (i + 1) L) (H2 : vp_in (i + 2) L) (H3 : vp_in (i + 3) L) (H4 : vp_in (i + 4) L) (H5 : vp_in (i + 5) L) (h0 : S[0]? = some (16, 0)) (hk : k + 4 ≤ 600000) (hn : n + 48 ≤ 7302250) (h : lz_pr l G R mX11_fault 0 mX12_fault 0 [.int (xs (i + 1).toNatClampNeg)] S I J P) (K : ∀ S I J P, R S I J P → lz_WP l G p e s m below meth c b 1470 [none, some (.ref 0), some (.ref 73), some (.int i)] [] S I J P (k + 4) (n + 48)) : lz_WP l G p e s m below meth c b 339 [none, some (.ref 0), some (.ref 73), some (.int i)] [] S I J P k n := by
  obtain ⟨v, S1, I1, J1, P1, S2, I2, J2, P2, hX, hM, h73, hR⟩ := h
  refine lz_aload C (z := 1) (by decide +kernel) rfl rfl ?_
  refine lz_sc C (z := 1) (v := (1 : Int32)) rfl (by decide +kernel) (by decide +kernel) (by decide +kernel) (by decide) (by decide +kernel) (by decide +kernel) H1 ?_
  refine lz_call C (g := mX11_fault) (ix := 28) (dg := 0) (r := 0) (cc := 11) (as := [.int (xs (i + 1).toNatClampNeg)]) (st := []) (by decide +kernel) tw_628 tw_629 tw_630 tw_1 tw_631 ⟨by decide +kernel, by decide +kernel, (by decide +kernel : (parseMethodDescriptor mX11_fault.1.desc).map (fun d => d.parameters.length) = some 1)⟩ (by decide) rfl rfl rfl (by decide) (by show k + 0 ≤ _; omega) (by show n + 0 ≤ _; omega) (Nat.le_of_ble_eq_true rfl) h0 (hX _ ?_)
  change lz_WP l G p e s m below meth c b 348 [none, some (.ref 0), some (.ref 73), some (.int i)] [.int v] S1 I1 J1 P1 (k + mX11_fault.2.2.2.2.1) (n + mX11_fault.2.2.2.2.2)
  refine lz_aload C (z := 2) (by decide +kernel) rfl rfl ?_
  refine lz_sc C (z := 1) (v := (1 : Int32)) rfl (by decide +kernel) (by decide +kernel) (by decide +kernel) (by decide) (by decide +kernel) (by decide +kernel) H1 ?_
  refine lz_call C (g := mX12_fault) (ix := 31) (dg := 0) (r := 73) (cc := 12) (as := [.int (xs (i + 1).toNatClampNeg)]) (st := [.int v]) (by decide +kernel) tw_1462 tw_1463 tw_1464 tw_13 tw_1465 ⟨by decide +kernel, by decide +kernel, (by decide +kernel : (parseMethodDescriptor mX12_fault.1.desc).map (fun d => d.parameters.length) = some 1)⟩ (by decide) rfl rfl rfl (by decide) (by show k + 0 + 0 ≤ _; omega) (by show n + 0 + 0 ≤ _; omega) (Nat.le_of_ble_eq_true rfl) h73 (hM _ ?_)
  change lz_WP l G p e s m below meth c b 357 [none, some (.ref 0), some (.ref 73), some (.int i)] [.int v, .int v] S2 I2 J2 P2 (k + 0) (n + 0)
  refine lz_icmp_eq C (off := 1113) (tgt := 1470) (by decide +kernel) rfl rfl ?_
  exact lz_widen (by omega) (by omega) (K S2 I2 J2 P2 hR)
set_option maxRecDepth 100000 in
theorem lw_case4 (C : lz_C G p s m meth c b L xs) {i : Int32} (H1 : vp_in (i + 1) L) (H2 : vp_in (i + 2) L) (H3 : vp_in (i + 3) L) (H4 : vp_in (i + 4) L) (H5 : vp_in (i + 5) L) (h0 : S[0]? = some (16, 0)) (hk : k + 4 ≤ 600000) (hn : n + 48 ≤ 7302250) (h : lz_pr l G R mX11_person 7 mX12_person 6 [.int (xs (i + 1).toNatClampNeg), .int (xs (i + 2).toNatClampNeg)] S I J P) (K : ∀ S I J P, R S I J P → lz_WP l G p e s m below meth c b 1470 [none, some (.ref 0), some (.ref 73), some (.int i)] [] S I J P (k + 4) (n + 48)) : lz_WP l G p e s m below meth c b 362 [none, some (.ref 0), some (.ref 73), some (.int i)] [] S I J P k n := by
  obtain ⟨v, S1, I1, J1, P1, S2, I2, J2, P2, hX, hM, h73, hR⟩ := h
  refine lz_aload C (z := 1) (by decide +kernel) rfl rfl ?_
  refine lz_sc C (z := 1) (v := (1 : Int32)) rfl (by decide +kernel) (by decide +kernel) (by decide +kernel) (by decide) (by decide +kernel) (by decide +kernel) H1 ?_
  refine lz_sc C (z := 2) (v := (2 : Int32)) rfl (by decide +kernel) (by decide +kernel) (by decide +kernel) (by decide) (by decide +kernel) (by decide +kernel) H2 ?_
  refine lz_call C (g := mX11_person) (ix := 32) (dg := 7) (r := 0) (cc := 11) (as := [.int (xs (i + 1).toNatClampNeg), .int (xs (i + 2).toNatClampNeg)]) (st := []) (by decide +kernel) tw_632 tw_633 tw_634 tw_1 tw_635 ⟨by decide +kernel, by decide +kernel, (by decide +kernel : (parseMethodDescriptor mX11_person.1.desc).map (fun d => d.parameters.length) = some 2)⟩ (by decide) rfl rfl rfl (by decide) (by show k + 0 ≤ _; omega) (by show n + 0 ≤ _; omega) (Nat.le_of_ble_eq_true rfl) h0 (hX _ ?_)
  change lz_WP l G p e s m below meth c b 376 [none, some (.ref 0), some (.ref 73), some (.int i)] [.int v] S1 I1 J1 P1 (k + mX11_person.2.2.2.2.1) (n + mX11_person.2.2.2.2.2)
  refine lz_aload C (z := 2) (by decide +kernel) rfl rfl ?_
  refine lz_sc C (z := 1) (v := (1 : Int32)) rfl (by decide +kernel) (by decide +kernel) (by decide +kernel) (by decide) (by decide +kernel) (by decide +kernel) H1 ?_
  refine lz_sc C (z := 2) (v := (2 : Int32)) rfl (by decide +kernel) (by decide +kernel) (by decide +kernel) (by decide) (by decide +kernel) (by decide +kernel) H2 ?_
  refine lz_call C (g := mX12_person) (ix := 36) (dg := 6) (r := 73) (cc := 12) (as := [.int (xs (i + 1).toNatClampNeg), .int (xs (i + 2).toNatClampNeg)]) (st := [.int v]) (by decide +kernel) tw_1466 tw_1467 tw_1468 tw_13 tw_1469 ⟨by decide +kernel, by decide +kernel, (by decide +kernel : (parseMethodDescriptor mX12_person.1.desc).map (fun d => d.parameters.length) = some 2)⟩ (by decide) rfl rfl rfl (by decide) (by show k + 0 + 0 ≤ _; omega) (by show n + 0 + 0 ≤ _; omega) (Nat.le_of_ble_eq_true rfl) h73 (hM _ ?_)
  change lz_WP l G p e s m below meth c b 390 [none, some (.ref 0), some (.ref 73), some (.int i)] [.int v, .int v] S2 I2 J2 P2 (k + 0) (n + 0)
  refine lz_icmp_eq C (off := 1080) (tgt := 1470) (by decide +kernel) rfl rfl ?_
  exact lz_widen (by omega) (by omega) (K S2 I2 J2 P2 hR)
set_option maxRecDepth 100000 in
theorem lw_case5 (C : lz_C G p s m meth c b L xs) {i : Int32} (H1 : vp_in (i + 1) L) (H2 : vp_in (i + 2) L) (H3 : vp_in (i + 3) L) (H4 : vp_in (i + 4) L) (H5 : vp_in (i + 5) L) (h0 : S[0]? = some (16, 0)) (hk : k + 4 ≤ 600000) (hn : n + 48 ≤ 7302250) (h : lz_pr l G R mX11_loss 2 mX12_loss 2 [.int (xs (i + 1).toNatClampNeg), .int (xs (i + 2).toNatClampNeg)] S I J P) (K : ∀ S I J P, R S I J P → lz_WP l G p e s m below meth c b 1470 [none, some (.ref 0), some (.ref 73), some (.int i)] [] S I J P (k + 4) (n + 48)) : lz_WP l G p e s m below meth c b 395 [none, some (.ref 0), some (.ref 73), some (.int i)] [] S I J P k n := by
  obtain ⟨v, S1, I1, J1, P1, S2, I2, J2, P2, hX, hM, h73, hR⟩ := h
  refine lz_aload C (z := 1) (by decide +kernel) rfl rfl ?_
  refine lz_sc C (z := 1) (v := (1 : Int32)) rfl (by decide +kernel) (by decide +kernel) (by decide +kernel) (by decide) (by decide +kernel) (by decide +kernel) H1 ?_
  refine lz_sc C (z := 2) (v := (2 : Int32)) rfl (by decide +kernel) (by decide +kernel) (by decide +kernel) (by decide) (by decide +kernel) (by decide +kernel) H2 ?_
  refine lz_call C (g := mX11_loss) (ix := 37) (dg := 2) (r := 0) (cc := 11) (as := [.int (xs (i + 1).toNatClampNeg), .int (xs (i + 2).toNatClampNeg)]) (st := []) (by decide +kernel) tw_697 tw_698 tw_699 tw_1 tw_700 ⟨by decide +kernel, by decide +kernel, (by decide +kernel : (parseMethodDescriptor mX11_loss.1.desc).map (fun d => d.parameters.length) = some 2)⟩ (by decide) rfl rfl rfl (by decide) (by show k + 0 ≤ _; omega) (by show n + 0 ≤ _; omega) (Nat.le_of_ble_eq_true rfl) h0 (hX _ ?_)
  change lz_WP l G p e s m below meth c b 409 [none, some (.ref 0), some (.ref 73), some (.int i)] [.int v] S1 I1 J1 P1 (k + mX11_loss.2.2.2.2.1) (n + mX11_loss.2.2.2.2.2)
  refine lz_aload C (z := 2) (by decide +kernel) rfl rfl ?_
  refine lz_sc C (z := 1) (v := (1 : Int32)) rfl (by decide +kernel) (by decide +kernel) (by decide +kernel) (by decide) (by decide +kernel) (by decide +kernel) H1 ?_
  refine lz_sc C (z := 2) (v := (2 : Int32)) rfl (by decide +kernel) (by decide +kernel) (by decide +kernel) (by decide) (by decide +kernel) (by decide +kernel) H2 ?_
  refine lz_call C (g := mX12_loss) (ix := 40) (dg := 2) (r := 73) (cc := 12) (as := [.int (xs (i + 1).toNatClampNeg), .int (xs (i + 2).toNatClampNeg)]) (st := [.int v]) (by decide +kernel) tw_1525 tw_1526 tw_1527 tw_13 tw_1528 ⟨by decide +kernel, by decide +kernel, (by decide +kernel : (parseMethodDescriptor mX12_loss.1.desc).map (fun d => d.parameters.length) = some 2)⟩ (by decide) rfl rfl rfl (by decide) (by show k + 0 + 0 ≤ _; omega) (by show n + 0 + 0 ≤ _; omega) (Nat.le_of_ble_eq_true rfl) h73 (hM _ ?_)
  change lz_WP l G p e s m below meth c b 423 [none, some (.ref 0), some (.ref 73), some (.int i)] [.int v, .int v] S2 I2 J2 P2 (k + 0) (n + 0)
  refine lz_icmp_eq C (off := 1047) (tgt := 1470) (by decide +kernel) rfl rfl ?_
  exact lz_widen (by omega) (by omega) (K S2 I2 J2 P2 hR)
set_option maxRecDepth 100000 in
theorem lw_case6 (C : lz_C G p s m meth c b L xs) {i : Int32} (H1 : vp_in (i + 1) L) (H2 : vp_in (i + 2) L) (H3 : vp_in (i + 3) L) (H4 : vp_in (i + 4) L) (H5 : vp_in (i + 5) L) (h0 : S[0]? = some (16, 0)) (hk : k + 4 ≤ 600000) (hn : n + 48 ≤ 7302250) (h : lz_pr l G R mX11_weight 2 mX12_weight 3 [.int (xs (i + 1).toNatClampNeg), .int (xs (i + 2).toNatClampNeg)] S I J P) (K : ∀ S I J P, R S I J P → lz_WP l G p e s m below meth c b 1470 [none, some (.ref 0), some (.ref 73), some (.int i)] [] S I J P (k + 4) (n + 48)) : lz_WP l G p e s m below meth c b 428 [none, some (.ref 0), some (.ref 73), some (.int i)] [] S I J P k n := by
  obtain ⟨v, S1, I1, J1, P1, S2, I2, J2, P2, hX, hM, h73, hR⟩ := h
  refine lz_aload C (z := 1) (by decide +kernel) rfl rfl ?_
  refine lz_sc C (z := 1) (v := (1 : Int32)) rfl (by decide +kernel) (by decide +kernel) (by decide +kernel) (by decide) (by decide +kernel) (by decide +kernel) H1 ?_
  refine lz_sc C (z := 2) (v := (2 : Int32)) rfl (by decide +kernel) (by decide +kernel) (by decide +kernel) (by decide) (by decide +kernel) (by decide +kernel) H2 ?_
  refine lz_call C (g := mX11_weight) (ix := 41) (dg := 2) (r := 0) (cc := 11) (as := [.int (xs (i + 1).toNatClampNeg), .int (xs (i + 2).toNatClampNeg)]) (st := []) (by decide +kernel) tw_711 tw_712 tw_713 tw_1 tw_714 ⟨by decide +kernel, by decide +kernel, (by decide +kernel : (parseMethodDescriptor mX11_weight.1.desc).map (fun d => d.parameters.length) = some 2)⟩ (by decide) rfl rfl rfl (by decide) (by show k + 0 ≤ _; omega) (by show n + 0 ≤ _; omega) (Nat.le_of_ble_eq_true rfl) h0 (hX _ ?_)
  change lz_WP l G p e s m below meth c b 442 [none, some (.ref 0), some (.ref 73), some (.int i)] [.int v] S1 I1 J1 P1 (k + mX11_weight.2.2.2.2.1) (n + mX11_weight.2.2.2.2.2)
  refine lz_aload C (z := 2) (by decide +kernel) rfl rfl ?_
  refine lz_sc C (z := 1) (v := (1 : Int32)) rfl (by decide +kernel) (by decide +kernel) (by decide +kernel) (by decide) (by decide +kernel) (by decide +kernel) H1 ?_
  refine lz_sc C (z := 2) (v := (2 : Int32)) rfl (by decide +kernel) (by decide +kernel) (by decide +kernel) (by decide) (by decide +kernel) (by decide +kernel) H2 ?_
  refine lz_call C (g := mX12_weight) (ix := 44) (dg := 3) (r := 73) (cc := 12) (as := [.int (xs (i + 1).toNatClampNeg), .int (xs (i + 2).toNatClampNeg)]) (st := [.int v]) (by decide +kernel) tw_1533 tw_1534 tw_1535 tw_13 tw_1536 ⟨by decide +kernel, by decide +kernel, (by decide +kernel : (parseMethodDescriptor mX12_weight.1.desc).map (fun d => d.parameters.length) = some 2)⟩ (by decide) rfl rfl rfl (by decide) (by show k + 0 + 0 ≤ _; omega) (by show n + 0 + 0 ≤ _; omega) (Nat.le_of_ble_eq_true rfl) h73 (hM _ ?_)
  change lz_WP l G p e s m below meth c b 456 [none, some (.ref 0), some (.ref 73), some (.int i)] [.int v, .int v] S2 I2 J2 P2 (k + 0) (n + 0)
  refine lz_icmp_eq C (off := 1014) (tgt := 1470) (by decide +kernel) rfl rfl ?_
  exact lz_widen (by omega) (by omega) (K S2 I2 J2 P2 hR)
set_option maxRecDepth 100000 in
theorem lw_case7 (C : lz_C G p s m meth c b L xs) {i : Int32} (H1 : vp_in (i + 1) L) (H2 : vp_in (i + 2) L) (H3 : vp_in (i + 3) L) (H4 : vp_in (i + 4) L) (H5 : vp_in (i + 5) L) (h0 : S[0]? = some (16, 0)) (hk : k + 4 ≤ 600000) (hn : n + 48 ≤ 7302250) (h : lz_pr l G R mX11_ringer 3 mX12_ringer 4 [.int (xs (i + 1).toNatClampNeg)] S I J P) (K : ∀ S I J P, R S I J P → lz_WP l G p e s m below meth c b 1470 [none, some (.ref 0), some (.ref 73), some (.int i)] [] S I J P (k + 4) (n + 48)) : lz_WP l G p e s m below meth c b 461 [none, some (.ref 0), some (.ref 73), some (.int i)] [] S I J P k n := by
  obtain ⟨v, S1, I1, J1, P1, S2, I2, J2, P2, hX, hM, h73, hR⟩ := h
  refine lz_aload C (z := 1) (by decide +kernel) rfl rfl ?_
  refine lz_sc C (z := 1) (v := (1 : Int32)) rfl (by decide +kernel) (by decide +kernel) (by decide +kernel) (by decide) (by decide +kernel) (by decide +kernel) H1 ?_
  refine lz_call C (g := mX11_ringer) (ix := 45) (dg := 3) (r := 0) (cc := 11) (as := [.int (xs (i + 1).toNatClampNeg)]) (st := []) (by decide +kernel) tw_717 tw_718 tw_719 tw_1 tw_720 ⟨by decide +kernel, by decide +kernel, (by decide +kernel : (parseMethodDescriptor mX11_ringer.1.desc).map (fun d => d.parameters.length) = some 1)⟩ (by decide) rfl rfl rfl (by decide) (by show k + 0 ≤ _; omega) (by show n + 0 ≤ _; omega) (Nat.le_of_ble_eq_true rfl) h0 (hX _ ?_)
  change lz_WP l G p e s m below meth c b 470 [none, some (.ref 0), some (.ref 73), some (.int i)] [.int v] S1 I1 J1 P1 (k + mX11_ringer.2.2.2.2.1) (n + mX11_ringer.2.2.2.2.2)
  refine lz_aload C (z := 2) (by decide +kernel) rfl rfl ?_
  refine lz_sc C (z := 1) (v := (1 : Int32)) rfl (by decide +kernel) (by decide +kernel) (by decide +kernel) (by decide) (by decide +kernel) (by decide +kernel) H1 ?_
  refine lz_call C (g := mX12_ringer) (ix := 48) (dg := 4) (r := 73) (cc := 12) (as := [.int (xs (i + 1).toNatClampNeg)]) (st := [.int v]) (by decide +kernel) tw_1538 tw_1539 tw_1540 tw_13 tw_1541 ⟨by decide +kernel, by decide +kernel, (by decide +kernel : (parseMethodDescriptor mX12_ringer.1.desc).map (fun d => d.parameters.length) = some 1)⟩ (by decide) rfl rfl rfl (by decide) (by show k + 0 + 0 ≤ _; omega) (by show n + 0 + 0 ≤ _; omega) (Nat.le_of_ble_eq_true rfl) h73 (hM _ ?_)
  change lz_WP l G p e s m below meth c b 479 [none, some (.ref 0), some (.ref 73), some (.int i)] [.int v, .int v] S2 I2 J2 P2 (k + 0) (n + 0)
  refine lz_icmp_eq C (off := 991) (tgt := 1470) (by decide +kernel) rfl rfl ?_
  exact lz_widen (by omega) (by omega) (K S2 I2 J2 P2 hR)
set_option maxRecDepth 100000 in
theorem lw_case8 (C : lz_C G p s m meth c b L xs) {i : Int32} (H1 : vp_in (i + 1) L) (H2 : vp_in (i + 2) L) (H3 : vp_in (i + 3) L) (H4 : vp_in (i + 4) L) (H5 : vp_in (i + 5) L) (h0 : S[0]? = some (16, 0)) (hk : k + 4 ≤ 600000) (hn : n + 48 ≤ 7302250) (h : lz_pr l G R mX11_hour 1 mX12_hour 2 [.int (xs (i + 1).toNatClampNeg)] S I J P) (K : ∀ S I J P, R S I J P → lz_WP l G p e s m below meth c b 1470 [none, some (.ref 0), some (.ref 73), some (.int i)] [] S I J P (k + 4) (n + 48)) : lz_WP l G p e s m below meth c b 484 [none, some (.ref 0), some (.ref 73), some (.int i)] [] S I J P k n := by
  obtain ⟨v, S1, I1, J1, P1, S2, I2, J2, P2, hX, hM, h73, hR⟩ := h
  refine lz_aload C (z := 1) (by decide +kernel) rfl rfl ?_
  refine lz_sc C (z := 1) (v := (1 : Int32)) rfl (by decide +kernel) (by decide +kernel) (by decide +kernel) (by decide) (by decide +kernel) (by decide +kernel) H1 ?_
  refine lz_call C (g := mX11_hour) (ix := 49) (dg := 1) (r := 0) (cc := 11) (as := [.int (xs (i + 1).toNatClampNeg)]) (st := []) (by decide +kernel) tw_723 tw_724 tw_725 tw_1 tw_726 ⟨by decide +kernel, by decide +kernel, (by decide +kernel : (parseMethodDescriptor mX11_hour.1.desc).map (fun d => d.parameters.length) = some 1)⟩ (by decide) rfl rfl rfl (by decide) (by show k + 0 ≤ _; omega) (by show n + 0 ≤ _; omega) (Nat.le_of_ble_eq_true rfl) h0 (hX _ ?_)
  change lz_WP l G p e s m below meth c b 493 [none, some (.ref 0), some (.ref 73), some (.int i)] [.int v] S1 I1 J1 P1 (k + mX11_hour.2.2.2.2.1) (n + mX11_hour.2.2.2.2.2)
  refine lz_aload C (z := 2) (by decide +kernel) rfl rfl ?_
  refine lz_sc C (z := 1) (v := (1 : Int32)) rfl (by decide +kernel) (by decide +kernel) (by decide +kernel) (by decide) (by decide +kernel) (by decide +kernel) H1 ?_
  refine lz_call C (g := mX12_hour) (ix := 52) (dg := 2) (r := 73) (cc := 12) (as := [.int (xs (i + 1).toNatClampNeg)]) (st := [.int v]) (by decide +kernel) tw_1542 tw_1543 tw_1544 tw_13 tw_1545 ⟨by decide +kernel, by decide +kernel, (by decide +kernel : (parseMethodDescriptor mX12_hour.1.desc).map (fun d => d.parameters.length) = some 1)⟩ (by decide) rfl rfl rfl (by decide) (by show k + 0 + 0 ≤ _; omega) (by show n + 0 + 0 ≤ _; omega) (Nat.le_of_ble_eq_true rfl) h73 (hM _ ?_)
  change lz_WP l G p e s m below meth c b 502 [none, some (.ref 0), some (.ref 73), some (.int i)] [.int v, .int v] S2 I2 J2 P2 (k + 0) (n + 0)
  refine lz_icmp_eq C (off := 968) (tgt := 1470) (by decide +kernel) rfl rfl ?_
  exact lz_widen (by omega) (by omega) (K S2 I2 J2 P2 hR)
set_option maxRecDepth 100000 in
theorem lw_case9 (C : lz_C G p s m meth c b L xs) {i : Int32} (H1 : vp_in (i + 1) L) (H2 : vp_in (i + 2) L) (H3 : vp_in (i + 3) L) (H4 : vp_in (i + 4) L) (H5 : vp_in (i + 5) L) (h0 : S[0]? = some (16, 0)) (hk : k + 4 ≤ 600000) (hn : n + 48 ≤ 7302250) (h : lz_pr l G R mX11_day 5 mX12_day 6 [] S I J P) (K : ∀ S I J P, R S I J P → lz_WP l G p e s m below meth c b 1470 [none, some (.ref 0), some (.ref 73), some (.int i)] [] S I J P (k + 4) (n + 48)) : lz_WP l G p e s m below meth c b 507 [none, some (.ref 0), some (.ref 73), some (.int i)] [] S I J P k n := by
  obtain ⟨v, S1, I1, J1, P1, S2, I2, J2, P2, hX, hM, h73, hR⟩ := h
  refine lz_aload C (z := 1) (by decide +kernel) rfl rfl ?_
  refine lz_call C (g := mX11_day) (ix := 53) (dg := 5) (r := 0) (cc := 11) (as := []) (st := []) (by decide +kernel) tw_727 tw_728 tw_729 tw_1 tw_730 ⟨by decide +kernel, by decide +kernel, (by decide +kernel : (parseMethodDescriptor mX11_day.1.desc).map (fun d => d.parameters.length) = some 0)⟩ (by decide) rfl rfl rfl (by decide) (by show k + 4 ≤ _; omega) (by show n + 48 ≤ _; omega) (Nat.le_of_ble_eq_true rfl) h0 (hX _ ?_)
  change lz_WP l G p e s m below meth c b 511 [none, some (.ref 0), some (.ref 73), some (.int i)] [.int v] S1 I1 J1 P1 (k + mX11_day.2.2.2.2.1) (n + mX11_day.2.2.2.2.2)
  refine lz_aload C (z := 2) (by decide +kernel) rfl rfl ?_
  refine lz_call C (g := mX12_day) (ix := 56) (dg := 6) (r := 73) (cc := 12) (as := []) (st := [.int v]) (by decide +kernel) tw_1546 tw_1547 tw_1548 tw_13 tw_1549 ⟨by decide +kernel, by decide +kernel, (by decide +kernel : (parseMethodDescriptor mX12_day.1.desc).map (fun d => d.parameters.length) = some 0)⟩ (by decide) rfl rfl rfl (by decide) (by show k + 4 + 0 ≤ _; omega) (by show n + 48 + 0 ≤ _; omega) (Nat.le_of_ble_eq_true rfl) h73 (hM _ ?_)
  change lz_WP l G p e s m below meth c b 515 [none, some (.ref 0), some (.ref 73), some (.int i)] [.int v, .int v] S2 I2 J2 P2 (k + 4) (n + 48)
  refine lz_icmp_eq C (off := 955) (tgt := 1470) (by decide +kernel) rfl rfl ?_
  exact lz_widen (by omega) (by omega) (K S2 I2 J2 P2 hR)
set_option maxRecDepth 100000 in
theorem lw_case10 (C : lz_C G p s m meth c b L xs) {i : Int32} (H1 : vp_in (i + 1) L) (H2 : vp_in (i + 2) L) (H3 : vp_in (i + 3) L) (H4 : vp_in (i + 4) L) (H5 : vp_in (i + 5) L) (h0 : S[0]? = some (16, 0)) (hk : k + 4 ≤ 600000) (hn : n + 48 ≤ 7302250) (h : lz_pr l G R mX11_want 3 mX12_want 2 [.int (xs (i + 1).toNatClampNeg), .int (xs (i + 2).toNatClampNeg), .int (xs (i + 3).toNatClampNeg)] S I J P) (K : ∀ S I J P, R S I J P → lz_WP l G p e s m below meth c b 1470 [none, some (.ref 0), some (.ref 73), some (.int i)] [] S I J P (k + 4) (n + 48)) : lz_WP l G p e s m below meth c b 520 [none, some (.ref 0), some (.ref 73), some (.int i)] [] S I J P k n := by
  obtain ⟨v, S1, I1, J1, P1, S2, I2, J2, P2, hX, hM, h73, hR⟩ := h
  refine lz_aload C (z := 1) (by decide +kernel) rfl rfl ?_
  refine lz_sc C (z := 1) (v := (1 : Int32)) rfl (by decide +kernel) (by decide +kernel) (by decide +kernel) (by decide) (by decide +kernel) (by decide +kernel) H1 ?_
  refine lz_sc C (z := 2) (v := (2 : Int32)) rfl (by decide +kernel) (by decide +kernel) (by decide +kernel) (by decide) (by decide +kernel) (by decide +kernel) H2 ?_
  refine lz_sc C (z := 3) (v := (3 : Int32)) rfl (by decide +kernel) (by decide +kernel) (by decide +kernel) (by decide) (by decide +kernel) (by decide +kernel) H3 ?_
  refine lz_call C (g := mX11_want) (ix := 57) (dg := 3) (r := 0) (cc := 11) (as := [.int (xs (i + 1).toNatClampNeg), .int (xs (i + 2).toNatClampNeg), .int (xs (i + 3).toNatClampNeg)]) (st := []) (by decide +kernel) tw_742 tw_743 tw_744 tw_1 tw_745 ⟨by decide +kernel, by decide +kernel, (by decide +kernel : (parseMethodDescriptor mX11_want.1.desc).map (fun d => d.parameters.length) = some 3)⟩ (by decide) rfl rfl rfl (by decide) (by show k + 4 ≤ _; omega) (by show n + 48 ≤ _; omega) (Nat.le_of_ble_eq_true rfl) h0 (hX _ ?_)
  change lz_WP l G p e s m below meth c b 539 [none, some (.ref 0), some (.ref 73), some (.int i)] [.int v] S1 I1 J1 P1 (k + mX11_want.2.2.2.2.1) (n + mX11_want.2.2.2.2.2)
  refine lz_aload C (z := 2) (by decide +kernel) rfl rfl ?_
  refine lz_sc C (z := 1) (v := (1 : Int32)) rfl (by decide +kernel) (by decide +kernel) (by decide +kernel) (by decide) (by decide +kernel) (by decide +kernel) H1 ?_
  refine lz_sc C (z := 2) (v := (2 : Int32)) rfl (by decide +kernel) (by decide +kernel) (by decide +kernel) (by decide) (by decide +kernel) (by decide +kernel) H2 ?_
  refine lz_sc C (z := 3) (v := (3 : Int32)) rfl (by decide +kernel) (by decide +kernel) (by decide +kernel) (by decide) (by decide +kernel) (by decide +kernel) H3 ?_
  refine lz_call C (g := mX12_want) (ix := 61) (dg := 2) (r := 73) (cc := 12) (as := [.int (xs (i + 1).toNatClampNeg), .int (xs (i + 2).toNatClampNeg), .int (xs (i + 3).toNatClampNeg)]) (st := [.int v]) (by decide +kernel) tw_1554 tw_1555 tw_1556 tw_13 tw_1557 ⟨by decide +kernel, by decide +kernel, (by decide +kernel : (parseMethodDescriptor mX12_want.1.desc).map (fun d => d.parameters.length) = some 3)⟩ (by decide) rfl rfl rfl (by decide) (by show k + 4 + 0 ≤ _; omega) (by show n + 48 + 0 ≤ _; omega) (Nat.le_of_ble_eq_true rfl) h73 (hM _ ?_)
  change lz_WP l G p e s m below meth c b 558 [none, some (.ref 0), some (.ref 73), some (.int i)] [.int v, .int v] S2 I2 J2 P2 (k + 4) (n + 48)
  refine lz_icmp_eq C (off := 912) (tgt := 1470) (by decide +kernel) rfl rfl ?_
  exact lz_widen (by omega) (by omega) (K S2 I2 J2 P2 hR)
set_option maxRecDepth 100000 in
theorem lw_case11 (C : lz_C G p s m meth c b L xs) {i : Int32} (H1 : vp_in (i + 1) L) (H2 : vp_in (i + 2) L) (H3 : vp_in (i + 3) L) (H4 : vp_in (i + 4) L) (H5 : vp_in (i + 5) L) (h0 : S[0]? = some (16, 0)) (hk : k + 4 ≤ 600000) (hn : n + 48 ≤ 7302250) (h : lz_pr l G R mX11_leave 3 mX12_leave 3 [.int (xs (i + 1).toNatClampNeg)] S I J P) (K : ∀ S I J P, R S I J P → lz_WP l G p e s m below meth c b 1470 [none, some (.ref 0), some (.ref 73), some (.int i)] [] S I J P (k + 4) (n + 48)) : lz_WP l G p e s m below meth c b 563 [none, some (.ref 0), some (.ref 73), some (.int i)] [] S I J P k n := by
  obtain ⟨v, S1, I1, J1, P1, S2, I2, J2, P2, hX, hM, h73, hR⟩ := h
  refine lz_aload C (z := 1) (by decide +kernel) rfl rfl ?_
  refine lz_sc C (z := 1) (v := (1 : Int32)) rfl (by decide +kernel) (by decide +kernel) (by decide +kernel) (by decide) (by decide +kernel) (by decide +kernel) H1 ?_
  refine lz_call C (g := mX11_leave) (ix := 62) (dg := 3) (r := 0) (cc := 11) (as := [.int (xs (i + 1).toNatClampNeg)]) (st := []) (by decide +kernel) tw_747 tw_748 tw_749 tw_1 tw_750 ⟨by decide +kernel, by decide +kernel, (by decide +kernel : (parseMethodDescriptor mX11_leave.1.desc).map (fun d => d.parameters.length) = some 1)⟩ (by decide) rfl rfl rfl (by decide) (by show k + 4 ≤ _; omega) (by show n + 48 ≤ _; omega) (Nat.le_of_ble_eq_true rfl) h0 (hX _ ?_)
  change lz_WP l G p e s m below meth c b 572 [none, some (.ref 0), some (.ref 73), some (.int i)] [.int v] S1 I1 J1 P1 (k + mX11_leave.2.2.2.2.1) (n + mX11_leave.2.2.2.2.2)
  refine lz_aload C (z := 2) (by decide +kernel) rfl rfl ?_
  refine lz_sc C (z := 1) (v := (1 : Int32)) rfl (by decide +kernel) (by decide +kernel) (by decide +kernel) (by decide) (by decide +kernel) (by decide +kernel) H1 ?_
  refine lz_call C (g := mX12_leave) (ix := 65) (dg := 3) (r := 73) (cc := 12) (as := [.int (xs (i + 1).toNatClampNeg)]) (st := [.int v]) (by decide +kernel) tw_1558 tw_1559 tw_1560 tw_13 tw_1561 ⟨by decide +kernel, by decide +kernel, (by decide +kernel : (parseMethodDescriptor mX12_leave.1.desc).map (fun d => d.parameters.length) = some 1)⟩ (by decide) rfl rfl rfl (by decide) (by show k + 4 + 0 ≤ _; omega) (by show n + 48 + 0 ≤ _; omega) (Nat.le_of_ble_eq_true rfl) h73 (hM _ ?_)
  change lz_WP l G p e s m below meth c b 581 [none, some (.ref 0), some (.ref 73), some (.int i)] [.int v, .int v] S2 I2 J2 P2 (k + 4) (n + 48)
  refine lz_icmp_eq C (off := 889) (tgt := 1470) (by decide +kernel) rfl rfl ?_
  exact lz_widen (by omega) (by omega) (K S2 I2 J2 P2 hR)
set_option maxRecDepth 100000 in
theorem lw_case12 (C : lz_C G p s m meth c b L xs) {i : Int32} (H1 : vp_in (i + 1) L) (H2 : vp_in (i + 2) L) (H3 : vp_in (i + 3) L) (H4 : vp_in (i + 4) L) (H5 : vp_in (i + 5) L) (h0 : S[0]? = some (16, 0)) (hk : k + 4 ≤ 600000) (hn : n + 48 ≤ 7302250) (h : lz_pr l G R mX11_come 3 mX12_come 3 [.int (xs (i + 1).toNatClampNeg)] S I J P) (K : ∀ S I J P, R S I J P → lz_WP l G p e s m below meth c b 1470 [none, some (.ref 0), some (.ref 73), some (.int i)] [] S I J P (k + 4) (n + 48)) : lz_WP l G p e s m below meth c b 586 [none, some (.ref 0), some (.ref 73), some (.int i)] [] S I J P k n := by
  obtain ⟨v, S1, I1, J1, P1, S2, I2, J2, P2, hX, hM, h73, hR⟩ := h
  refine lz_aload C (z := 1) (by decide +kernel) rfl rfl ?_
  refine lz_sc C (z := 1) (v := (1 : Int32)) rfl (by decide +kernel) (by decide +kernel) (by decide +kernel) (by decide) (by decide +kernel) (by decide +kernel) H1 ?_
  refine lz_call C (g := mX11_come) (ix := 66) (dg := 3) (r := 0) (cc := 11) (as := [.int (xs (i + 1).toNatClampNeg)]) (st := []) (by decide +kernel) tw_753 tw_754 tw_755 tw_1 tw_756 ⟨by decide +kernel, by decide +kernel, (by decide +kernel : (parseMethodDescriptor mX11_come.1.desc).map (fun d => d.parameters.length) = some 1)⟩ (by decide) rfl rfl rfl (by decide) (by show k + 4 ≤ _; omega) (by show n + 48 ≤ _; omega) (Nat.le_of_ble_eq_true rfl) h0 (hX _ ?_)
  change lz_WP l G p e s m below meth c b 595 [none, some (.ref 0), some (.ref 73), some (.int i)] [.int v] S1 I1 J1 P1 (k + mX11_come.2.2.2.2.1) (n + mX11_come.2.2.2.2.2)
  refine lz_aload C (z := 2) (by decide +kernel) rfl rfl ?_
  refine lz_sc C (z := 1) (v := (1 : Int32)) rfl (by decide +kernel) (by decide +kernel) (by decide +kernel) (by decide) (by decide +kernel) (by decide +kernel) H1 ?_
  refine lz_call C (g := mX12_come) (ix := 69) (dg := 3) (r := 73) (cc := 12) (as := [.int (xs (i + 1).toNatClampNeg)]) (st := [.int v]) (by decide +kernel) tw_1570 tw_1571 tw_1572 tw_13 tw_1573 ⟨by decide +kernel, by decide +kernel, (by decide +kernel : (parseMethodDescriptor mX12_come.1.desc).map (fun d => d.parameters.length) = some 1)⟩ (by decide) rfl rfl rfl (by decide) (by show k + 4 + 0 ≤ _; omega) (by show n + 48 + 0 ≤ _; omega) (Nat.le_of_ble_eq_true rfl) h73 (hM _ ?_)
  change lz_WP l G p e s m below meth c b 604 [none, some (.ref 0), some (.ref 73), some (.int i)] [.int v, .int v] S2 I2 J2 P2 (k + 4) (n + 48)
  refine lz_icmp_eq C (off := 866) (tgt := 1470) (by decide +kernel) rfl rfl ?_
  exact lz_widen (by omega) (by omega) (K S2 I2 J2 P2 hR)
set_option maxRecDepth 100000 in
theorem lw_case13 (C : lz_C G p s m meth c b L xs) {i : Int32} (H1 : vp_in (i + 1) L) (H2 : vp_in (i + 2) L) (H3 : vp_in (i + 3) L) (H4 : vp_in (i + 4) L) (H5 : vp_in (i + 5) L) (h0 : S[0]? = some (16, 0)) (hk : k + 4 ≤ 600000) (hn : n + 48 ≤ 7302250) (h : lz_pr l G R mX11_gift 3 mX12_gift 2 [.int (xs (i + 1).toNatClampNeg), .int (xs (i + 2).toNatClampNeg)] S I J P) (K : ∀ S I J P, R S I J P → lz_WP l G p e s m below meth c b 1470 [none, some (.ref 0), some (.ref 73), some (.int i)] [] S I J P (k + 4) (n + 48)) : lz_WP l G p e s m below meth c b 609 [none, some (.ref 0), some (.ref 73), some (.int i)] [] S I J P k n := by
  obtain ⟨v, S1, I1, J1, P1, S2, I2, J2, P2, hX, hM, h73, hR⟩ := h
  refine lz_aload C (z := 1) (by decide +kernel) rfl rfl ?_
  refine lz_sc C (z := 1) (v := (1 : Int32)) rfl (by decide +kernel) (by decide +kernel) (by decide +kernel) (by decide) (by decide +kernel) (by decide +kernel) H1 ?_
  refine lz_sc C (z := 2) (v := (2 : Int32)) rfl (by decide +kernel) (by decide +kernel) (by decide +kernel) (by decide) (by decide +kernel) (by decide +kernel) H2 ?_
  refine lz_call C (g := mX11_gift) (ix := 70) (dg := 3) (r := 0) (cc := 11) (as := [.int (xs (i + 1).toNatClampNeg), .int (xs (i + 2).toNatClampNeg)]) (st := []) (by decide +kernel) tw_757 tw_758 tw_759 tw_1 tw_760 ⟨by decide +kernel, by decide +kernel, (by decide +kernel : (parseMethodDescriptor mX11_gift.1.desc).map (fun d => d.parameters.length) = some 2)⟩ (by decide) rfl rfl rfl (by decide) (by show k + 4 ≤ _; omega) (by show n + 48 ≤ _; omega) (Nat.le_of_ble_eq_true rfl) h0 (hX _ ?_)
  change lz_WP l G p e s m below meth c b 623 [none, some (.ref 0), some (.ref 73), some (.int i)] [.int v] S1 I1 J1 P1 (k + mX11_gift.2.2.2.2.1) (n + mX11_gift.2.2.2.2.2)
  refine lz_aload C (z := 2) (by decide +kernel) rfl rfl ?_
  refine lz_sc C (z := 1) (v := (1 : Int32)) rfl (by decide +kernel) (by decide +kernel) (by decide +kernel) (by decide) (by decide +kernel) (by decide +kernel) H1 ?_
  refine lz_sc C (z := 2) (v := (2 : Int32)) rfl (by decide +kernel) (by decide +kernel) (by decide +kernel) (by decide) (by decide +kernel) (by decide +kernel) H2 ?_
  refine lz_call C (g := mX12_gift) (ix := 73) (dg := 2) (r := 73) (cc := 12) (as := [.int (xs (i + 1).toNatClampNeg), .int (xs (i + 2).toNatClampNeg)]) (st := [.int v]) (by decide +kernel) tw_1574 tw_1575 tw_1576 tw_13 tw_1577 ⟨by decide +kernel, by decide +kernel, (by decide +kernel : (parseMethodDescriptor mX12_gift.1.desc).map (fun d => d.parameters.length) = some 2)⟩ (by decide) rfl rfl rfl (by decide) (by show k + 4 + 0 ≤ _; omega) (by show n + 48 + 0 ≤ _; omega) (Nat.le_of_ble_eq_true rfl) h73 (hM _ ?_)
  change lz_WP l G p e s m below meth c b 637 [none, some (.ref 0), some (.ref 73), some (.int i)] [.int v, .int v] S2 I2 J2 P2 (k + 4) (n + 48)
  refine lz_icmp_eq C (off := 833) (tgt := 1470) (by decide +kernel) rfl rfl ?_
  exact lz_widen (by omega) (by omega) (K S2 I2 J2 P2 hR)
set_option maxRecDepth 100000 in
theorem lw_case14 (C : lz_C G p s m meth c b L xs) {i : Int32} (H1 : vp_in (i + 1) L) (H2 : vp_in (i + 2) L) (H3 : vp_in (i + 3) L) (H4 : vp_in (i + 4) L) (H5 : vp_in (i + 5) L) (h0 : S[0]? = some (16, 0)) (hk : k + 4 ≤ 600000) (hn : n + 48 ≤ 7302250) (h : lz_pr l G R mX11_undo 1 mX12_undo 1 [] S I J P) (K : ∀ S I J P, R S I J P → lz_WP l G p e s m below meth c b 1470 [none, some (.ref 0), some (.ref 73), some (.int i)] [] S I J P (k + 4) (n + 48)) : lz_WP l G p e s m below meth c b 642 [none, some (.ref 0), some (.ref 73), some (.int i)] [] S I J P k n := by
  obtain ⟨v, S1, I1, J1, P1, S2, I2, J2, P2, hX, hM, h73, hR⟩ := h
  refine lz_aload C (z := 1) (by decide +kernel) rfl rfl ?_
  refine lz_call C (g := mX11_undo) (ix := 74) (dg := 1) (r := 0) (cc := 11) (as := []) (st := []) (by decide +kernel) tw_762 tw_763 tw_764 tw_1 tw_765 ⟨by decide +kernel, by decide +kernel, (by decide +kernel : (parseMethodDescriptor mX11_undo.1.desc).map (fun d => d.parameters.length) = some 0)⟩ (by decide) rfl rfl rfl (by decide) (by show k + 0 ≤ _; omega) (by show n + 0 ≤ _; omega) (Nat.le_of_ble_eq_true rfl) h0 (hX _ ?_)
  change lz_WP l G p e s m below meth c b 646 [none, some (.ref 0), some (.ref 73), some (.int i)] [.int v] S1 I1 J1 P1 (k + mX11_undo.2.2.2.2.1) (n + mX11_undo.2.2.2.2.2)
  refine lz_aload C (z := 2) (by decide +kernel) rfl rfl ?_
  refine lz_call C (g := mX12_undo) (ix := 78) (dg := 1) (r := 73) (cc := 12) (as := []) (st := [.int v]) (by decide +kernel) tw_1578 tw_1579 tw_1580 tw_13 tw_1581 ⟨by decide +kernel, by decide +kernel, (by decide +kernel : (parseMethodDescriptor mX12_undo.1.desc).map (fun d => d.parameters.length) = some 0)⟩ (by decide) rfl rfl rfl (by decide) (by show k + 0 + 0 ≤ _; omega) (by show n + 0 + 0 ≤ _; omega) (Nat.le_of_ble_eq_true rfl) h73 (hM _ ?_)
  change lz_WP l G p e s m below meth c b 650 [none, some (.ref 0), some (.ref 73), some (.int i)] [.int v, .int v] S2 I2 J2 P2 (k + 0) (n + 0)
  refine lz_icmp_eq C (off := 820) (tgt := 1470) (by decide +kernel) rfl rfl ?_
  exact lz_widen (by omega) (by omega) (K S2 I2 J2 P2 hR)
set_option maxRecDepth 100000 in
theorem lw_case15 (C : lz_C G p s m meth c b L xs) {i : Int32} (H1 : vp_in (i + 1) L) (H2 : vp_in (i + 2) L) (H3 : vp_in (i + 3) L) (H4 : vp_in (i + 4) L) (H5 : vp_in (i + 5) L) (h0 : S[0]? = some (16, 0)) (hk : k + 4 ≤ 600000) (hn : n + 48 ≤ 7302250) (h : lz_pr l G R mX11_redo 1 mX12_redo 1 [] S I J P) (K : ∀ S I J P, R S I J P → lz_WP l G p e s m below meth c b 1470 [none, some (.ref 0), some (.ref 73), some (.int i)] [] S I J P (k + 4) (n + 48)) : lz_WP l G p e s m below meth c b 655 [none, some (.ref 0), some (.ref 73), some (.int i)] [] S I J P k n := by
  obtain ⟨v, S1, I1, J1, P1, S2, I2, J2, P2, hX, hM, h73, hR⟩ := h
  refine lz_aload C (z := 1) (by decide +kernel) rfl rfl ?_
  refine lz_call C (g := mX11_redo) (ix := 79) (dg := 1) (r := 0) (cc := 11) (as := []) (st := []) (by decide +kernel) tw_770 tw_771 tw_772 tw_1 tw_773 ⟨by decide +kernel, by decide +kernel, (by decide +kernel : (parseMethodDescriptor mX11_redo.1.desc).map (fun d => d.parameters.length) = some 0)⟩ (by decide) rfl rfl rfl (by decide) (by show k + 0 ≤ _; omega) (by show n + 0 ≤ _; omega) (Nat.le_of_ble_eq_true rfl) h0 (hX _ ?_)
  change lz_WP l G p e s m below meth c b 659 [none, some (.ref 0), some (.ref 73), some (.int i)] [.int v] S1 I1 J1 P1 (k + mX11_redo.2.2.2.2.1) (n + mX11_redo.2.2.2.2.2)
  refine lz_aload C (z := 2) (by decide +kernel) rfl rfl ?_
  refine lz_call C (g := mX12_redo) (ix := 82) (dg := 1) (r := 73) (cc := 12) (as := []) (st := [.int v]) (by decide +kernel) tw_1586 tw_1587 tw_1588 tw_13 tw_1589 ⟨by decide +kernel, by decide +kernel, (by decide +kernel : (parseMethodDescriptor mX12_redo.1.desc).map (fun d => d.parameters.length) = some 0)⟩ (by decide) rfl rfl rfl (by decide) (by show k + 0 + 0 ≤ _; omega) (by show n + 0 + 0 ≤ _; omega) (Nat.le_of_ble_eq_true rfl) h73 (hM _ ?_)
  change lz_WP l G p e s m below meth c b 663 [none, some (.ref 0), some (.ref 73), some (.int i)] [.int v, .int v] S2 I2 J2 P2 (k + 0) (n + 0)
  refine lz_icmp_eq C (off := 807) (tgt := 1470) (by decide +kernel) rfl rfl ?_
  exact lz_widen (by omega) (by omega) (K S2 I2 J2 P2 hR)
set_option maxRecDepth 100000 in
theorem lw_case16 (C : lz_C G p s m meth c b L xs) {i : Int32} (H1 : vp_in (i + 1) L) (H2 : vp_in (i + 2) L) (H3 : vp_in (i + 3) L) (H4 : vp_in (i + 4) L) (H5 : vp_in (i + 5) L) (h0 : S[0]? = some (16, 0)) (hk : k + 4 ≤ 600000) (hn : n + 48 ≤ 7302250) (h : lz_pr l G R mX11_will 6 mX12_will 6 [.int (xs (i + 1).toNatClampNeg), .int (xs (i + 2).toNatClampNeg), .int (xs (i + 3).toNatClampNeg)] S I J P) (K : ∀ S I J P, R S I J P → lz_WP l G p e s m below meth c b 1470 [none, some (.ref 0), some (.ref 73), some (.int i)] [] S I J P (k + 4) (n + 48)) : lz_WP l G p e s m below meth c b 668 [none, some (.ref 0), some (.ref 73), some (.int i)] [] S I J P k n := by
  obtain ⟨v, S1, I1, J1, P1, S2, I2, J2, P2, hX, hM, h73, hR⟩ := h
  refine lz_aload C (z := 1) (by decide +kernel) rfl rfl ?_
  refine lz_sc C (z := 1) (v := (1 : Int32)) rfl (by decide +kernel) (by decide +kernel) (by decide +kernel) (by decide) (by decide +kernel) (by decide +kernel) H1 ?_
  refine lz_sc C (z := 2) (v := (2 : Int32)) rfl (by decide +kernel) (by decide +kernel) (by decide +kernel) (by decide) (by decide +kernel) (by decide +kernel) H2 ?_
  refine lz_sc C (z := 3) (v := (3 : Int32)) rfl (by decide +kernel) (by decide +kernel) (by decide +kernel) (by decide) (by decide +kernel) (by decide +kernel) H3 ?_
  refine lz_call C (g := mX11_will) (ix := 83) (dg := 6) (r := 0) (cc := 11) (as := [.int (xs (i + 1).toNatClampNeg), .int (xs (i + 2).toNatClampNeg), .int (xs (i + 3).toNatClampNeg)]) (st := []) (by decide +kernel) tw_778 tw_779 tw_780 tw_1 tw_781 ⟨by decide +kernel, by decide +kernel, (by decide +kernel : (parseMethodDescriptor mX11_will.1.desc).map (fun d => d.parameters.length) = some 3)⟩ (by decide) rfl rfl rfl (by decide) (by show k + 0 ≤ _; omega) (by show n + 0 ≤ _; omega) (Nat.le_of_ble_eq_true rfl) h0 (hX _ ?_)
  change lz_WP l G p e s m below meth c b 687 [none, some (.ref 0), some (.ref 73), some (.int i)] [.int v] S1 I1 J1 P1 (k + mX11_will.2.2.2.2.1) (n + mX11_will.2.2.2.2.2)
  refine lz_aload C (z := 2) (by decide +kernel) rfl rfl ?_
  refine lz_sc C (z := 1) (v := (1 : Int32)) rfl (by decide +kernel) (by decide +kernel) (by decide +kernel) (by decide) (by decide +kernel) (by decide +kernel) H1 ?_
  refine lz_sc C (z := 2) (v := (2 : Int32)) rfl (by decide +kernel) (by decide +kernel) (by decide +kernel) (by decide) (by decide +kernel) (by decide +kernel) H2 ?_
  refine lz_sc C (z := 3) (v := (3 : Int32)) rfl (by decide +kernel) (by decide +kernel) (by decide +kernel) (by decide) (by decide +kernel) (by decide +kernel) H3 ?_
  refine lz_call C (g := mX12_will) (ix := 86) (dg := 6) (r := 73) (cc := 12) (as := [.int (xs (i + 1).toNatClampNeg), .int (xs (i + 2).toNatClampNeg), .int (xs (i + 3).toNatClampNeg)]) (st := [.int v]) (by decide +kernel) tw_1590 tw_1591 tw_1592 tw_13 tw_1593 ⟨by decide +kernel, by decide +kernel, (by decide +kernel : (parseMethodDescriptor mX12_will.1.desc).map (fun d => d.parameters.length) = some 3)⟩ (by decide) rfl rfl rfl (by decide) (by show k + 0 + 0 ≤ _; omega) (by show n + 0 + 0 ≤ _; omega) (Nat.le_of_ble_eq_true rfl) h73 (hM _ ?_)
  change lz_WP l G p e s m below meth c b 706 [none, some (.ref 0), some (.ref 73), some (.int i)] [.int v, .int v] S2 I2 J2 P2 (k + 0) (n + 0)
  refine lz_icmp_eq C (off := 764) (tgt := 1470) (by decide +kernel) rfl rfl ?_
  exact lz_widen (by omega) (by omega) (K S2 I2 J2 P2 hR)
set_option maxRecDepth 100000 in
theorem lw_case17 (C : lz_C G p s m meth c b L xs) {i : Int32} (H1 : vp_in (i + 1) L) (H2 : vp_in (i + 2) L) (H3 : vp_in (i + 3) L) (H4 : vp_in (i + 4) L) (H5 : vp_in (i + 5) L) (h0 : S[0]? = some (16, 0)) (hk : k + 4 ≤ 600000) (hn : n + 48 ≤ 7302250) (h : lz_pr l G R mX11_purse 6 mX12_purse 6 [.int (xs (i + 1).toNatClampNeg), .int (xs (i + 2).toNatClampNeg)] S I J P) (K : ∀ S I J P, R S I J P → lz_WP l G p e s m below meth c b 1470 [none, some (.ref 0), some (.ref 73), some (.int i)] [] S I J P (k + 4) (n + 48)) : lz_WP l G p e s m below meth c b 711 [none, some (.ref 0), some (.ref 73), some (.int i)] [] S I J P k n := by
  obtain ⟨v, S1, I1, J1, P1, S2, I2, J2, P2, hX, hM, h73, hR⟩ := h
  refine lz_aload C (z := 1) (by decide +kernel) rfl rfl ?_
  refine lz_sc C (z := 1) (v := (1 : Int32)) rfl (by decide +kernel) (by decide +kernel) (by decide +kernel) (by decide) (by decide +kernel) (by decide +kernel) H1 ?_
  refine lz_sc C (z := 2) (v := (2 : Int32)) rfl (by decide +kernel) (by decide +kernel) (by decide +kernel) (by decide) (by decide +kernel) (by decide +kernel) H2 ?_
  refine lz_call C (g := mX11_purse) (ix := 87) (dg := 6) (r := 0) (cc := 11) (as := [.int (xs (i + 1).toNatClampNeg), .int (xs (i + 2).toNatClampNeg)]) (st := []) (by decide +kernel) tw_786 tw_787 tw_788 tw_1 tw_789 ⟨by decide +kernel, by decide +kernel, (by decide +kernel : (parseMethodDescriptor mX11_purse.1.desc).map (fun d => d.parameters.length) = some 2)⟩ (by decide) rfl rfl rfl (by decide) (by show k + 0 ≤ _; omega) (by show n + 0 ≤ _; omega) (Nat.le_of_ble_eq_true rfl) h0 (hX _ ?_)
  change lz_WP l G p e s m below meth c b 725 [none, some (.ref 0), some (.ref 73), some (.int i)] [.int v] S1 I1 J1 P1 (k + mX11_purse.2.2.2.2.1) (n + mX11_purse.2.2.2.2.2)
  refine lz_aload C (z := 2) (by decide +kernel) rfl rfl ?_
  refine lz_sc C (z := 1) (v := (1 : Int32)) rfl (by decide +kernel) (by decide +kernel) (by decide +kernel) (by decide) (by decide +kernel) (by decide +kernel) H1 ?_
  refine lz_sc C (z := 2) (v := (2 : Int32)) rfl (by decide +kernel) (by decide +kernel) (by decide +kernel) (by decide) (by decide +kernel) (by decide +kernel) H2 ?_
  refine lz_call C (g := mX12_purse) (ix := 90) (dg := 6) (r := 73) (cc := 12) (as := [.int (xs (i + 1).toNatClampNeg), .int (xs (i + 2).toNatClampNeg)]) (st := [.int v]) (by decide +kernel) tw_1594 tw_1595 tw_1596 tw_13 tw_1597 ⟨by decide +kernel, by decide +kernel, (by decide +kernel : (parseMethodDescriptor mX12_purse.1.desc).map (fun d => d.parameters.length) = some 2)⟩ (by decide) rfl rfl rfl (by decide) (by show k + 0 + 0 ≤ _; omega) (by show n + 0 + 0 ≤ _; omega) (Nat.le_of_ble_eq_true rfl) h73 (hM _ ?_)
  change lz_WP l G p e s m below meth c b 739 [none, some (.ref 0), some (.ref 73), some (.int i)] [.int v, .int v] S2 I2 J2 P2 (k + 0) (n + 0)
  refine lz_icmp_eq C (off := 731) (tgt := 1470) (by decide +kernel) rfl rfl ?_
  exact lz_widen (by omega) (by omega) (K S2 I2 J2 P2 hR)
set_option maxRecDepth 100000 in
theorem lw_case18 (C : lz_C G p s m meth c b L xs) {i : Int32} (H1 : vp_in (i + 1) L) (H2 : vp_in (i + 2) L) (H3 : vp_in (i + 3) L) (H4 : vp_in (i + 4) L) (H5 : vp_in (i + 5) L) (h0 : S[0]? = some (16, 0)) (hk : k + 4 ≤ 600000) (hn : n + 48 ≤ 7302250) (h : lz_pr l G R mX11_cost 6 mX12_cost 6 [.int (xs (i + 1).toNatClampNeg)] S I J P) (K : ∀ S I J P, R S I J P → lz_WP l G p e s m below meth c b 1470 [none, some (.ref 0), some (.ref 73), some (.int i)] [] S I J P (k + 4) (n + 48)) : lz_WP l G p e s m below meth c b 744 [none, some (.ref 0), some (.ref 73), some (.int i)] [] S I J P k n := by
  obtain ⟨v, S1, I1, J1, P1, S2, I2, J2, P2, hX, hM, h73, hR⟩ := h
  refine lz_aload C (z := 1) (by decide +kernel) rfl rfl ?_
  refine lz_sc C (z := 1) (v := (1 : Int32)) rfl (by decide +kernel) (by decide +kernel) (by decide +kernel) (by decide) (by decide +kernel) (by decide +kernel) H1 ?_
  refine lz_call C (g := mX11_cost) (ix := 91) (dg := 6) (r := 0) (cc := 11) (as := [.int (xs (i + 1).toNatClampNeg)]) (st := []) (by decide +kernel) tw_790 tw_791 tw_792 tw_1 tw_793 ⟨by decide +kernel, by decide +kernel, (by decide +kernel : (parseMethodDescriptor mX11_cost.1.desc).map (fun d => d.parameters.length) = some 1)⟩ (by decide) rfl rfl rfl (by decide) (by show k + 0 ≤ _; omega) (by show n + 0 ≤ _; omega) (Nat.le_of_ble_eq_true rfl) h0 (hX _ ?_)
  change lz_WP l G p e s m below meth c b 753 [none, some (.ref 0), some (.ref 73), some (.int i)] [.int v] S1 I1 J1 P1 (k + mX11_cost.2.2.2.2.1) (n + mX11_cost.2.2.2.2.2)
  refine lz_aload C (z := 2) (by decide +kernel) rfl rfl ?_
  refine lz_sc C (z := 1) (v := (1 : Int32)) rfl (by decide +kernel) (by decide +kernel) (by decide +kernel) (by decide) (by decide +kernel) (by decide +kernel) H1 ?_
  refine lz_call C (g := mX12_cost) (ix := 94) (dg := 6) (r := 73) (cc := 12) (as := [.int (xs (i + 1).toNatClampNeg)]) (st := [.int v]) (by decide +kernel) tw_1598 tw_1599 tw_1600 tw_13 tw_1601 ⟨by decide +kernel, by decide +kernel, (by decide +kernel : (parseMethodDescriptor mX12_cost.1.desc).map (fun d => d.parameters.length) = some 1)⟩ (by decide) rfl rfl rfl (by decide) (by show k + 0 + 0 ≤ _; omega) (by show n + 0 + 0 ≤ _; omega) (Nat.le_of_ble_eq_true rfl) h73 (hM _ ?_)
  change lz_WP l G p e s m below meth c b 762 [none, some (.ref 0), some (.ref 73), some (.int i)] [.int v, .int v] S2 I2 J2 P2 (k + 0) (n + 0)
  refine lz_icmp_eq C (off := 708) (tgt := 1470) (by decide +kernel) rfl rfl ?_
  exact lz_widen (by omega) (by omega) (K S2 I2 J2 P2 hR)
set_option maxRecDepth 100000 in
theorem lw_case19 (C : lz_C G p s m meth c b L xs) {i : Int32} (H1 : vp_in (i + 1) L) (H2 : vp_in (i + 2) L) (H3 : vp_in (i + 3) L) (H4 : vp_in (i + 4) L) (H5 : vp_in (i + 5) L) (h0 : S[0]? = some (16, 0)) (hk : k + 4 ≤ 600000) (hn : n + 48 ≤ 7302250) (h : lz_pr l G R mX11_order 6 mX12_order 5 [] S I J P) (K : ∀ S I J P, R S I J P → lz_WP l G p e s m below meth c b 1470 [none, some (.ref 0), some (.ref 73), some (.int i)] [] S I J P (k + 4) (n + 48)) : lz_WP l G p e s m below meth c b 767 [none, some (.ref 0), some (.ref 73), some (.int i)] [] S I J P k n := by
  obtain ⟨v, S1, I1, J1, P1, S2, I2, J2, P2, hX, hM, h73, hR⟩ := h
  refine lz_aload C (z := 1) (by decide +kernel) rfl rfl ?_
  refine lz_call C (g := mX11_order) (ix := 95) (dg := 6) (r := 0) (cc := 11) (as := []) (st := []) (by decide +kernel) tw_794 tw_795 tw_796 tw_1 tw_797 ⟨by decide +kernel, by decide +kernel, (by decide +kernel : (parseMethodDescriptor mX11_order.1.desc).map (fun d => d.parameters.length) = some 0)⟩ (by decide) rfl rfl rfl (by decide) (by show k + 0 ≤ _; omega) (by show n + 0 ≤ _; omega) (Nat.le_of_ble_eq_true rfl) h0 (hX _ ?_)
  change lz_WP l G p e s m below meth c b 771 [none, some (.ref 0), some (.ref 73), some (.int i)] [.int v] S1 I1 J1 P1 (k + mX11_order.2.2.2.2.1) (n + mX11_order.2.2.2.2.2)
  refine lz_aload C (z := 2) (by decide +kernel) rfl rfl ?_
  refine lz_call C (g := mX12_order) (ix := 98) (dg := 5) (r := 73) (cc := 12) (as := []) (st := [.int v]) (by decide +kernel) tw_1626 tw_1627 tw_1628 tw_13 tw_1629 ⟨by decide +kernel, by decide +kernel, (by decide +kernel : (parseMethodDescriptor mX12_order.1.desc).map (fun d => d.parameters.length) = some 0)⟩ (by decide) rfl rfl rfl (by decide) (by show k + 0 + 0 ≤ _; omega) (by show n + 0 + 0 ≤ _; omega) (Nat.le_of_ble_eq_true rfl) h73 (hM _ ?_)
  change lz_WP l G p e s m below meth c b 775 [none, some (.ref 0), some (.ref 73), some (.int i)] [.int v, .int v] S2 I2 J2 P2 (k + 0) (n + 0)
  refine lz_icmp_eq C (off := 695) (tgt := 1470) (by decide +kernel) rfl rfl ?_
  exact lz_widen (by omega) (by omega) (K S2 I2 J2 P2 hR)
set_option maxRecDepth 100000 in
theorem lw_case20 (C : lz_C G p s m meth c b L xs) {i : Int32} (H1 : vp_in (i + 1) L) (H2 : vp_in (i + 2) L) (H3 : vp_in (i + 3) L) (H4 : vp_in (i + 4) L) (H5 : vp_in (i + 5) L) (h0 : S[0]? = some (16, 0)) (hk : k + 4 ≤ 600000) (hn : n + 48 ≤ 7302250) (h : lz_pr l G R mX11_duties 25 mX12_duties 2 [.int (xs (i + 1).toNatClampNeg)] S I J P) (K : ∀ S I J P, R S I J P → lz_WP l G p e s m below meth c b 1470 [none, some (.ref 0), some (.ref 73), some (.int i)] [] S I J P (k + 4) (n + 48)) : lz_WP l G p e s m below meth c b 780 [none, some (.ref 0), some (.ref 73), some (.int i)] [] S I J P k n := by
  obtain ⟨v, S1, I1, J1, P1, S2, I2, J2, P2, hX, hM, h73, hR⟩ := h
  refine lz_aload C (z := 1) (by decide +kernel) rfl rfl ?_
  refine lz_sc C (z := 1) (v := (1 : Int32)) rfl (by decide +kernel) (by decide +kernel) (by decide +kernel) (by decide) (by decide +kernel) (by decide +kernel) H1 ?_
  refine lz_call C (g := mX11_duties) (ix := 99) (dg := 25) (r := 0) (cc := 11) (as := [.int (xs (i + 1).toNatClampNeg)]) (st := []) (by decide +kernel) tw_822 tw_823 tw_824 tw_1 tw_825 ⟨by decide +kernel, by decide +kernel, (by decide +kernel : (parseMethodDescriptor mX11_duties.1.desc).map (fun d => d.parameters.length) = some 1)⟩ (by decide) rfl rfl rfl (by decide) (by show k + 0 ≤ _; omega) (by show n + 0 ≤ _; omega) (Nat.le_of_ble_eq_true rfl) h0 (hX _ ?_)
  change lz_WP l G p e s m below meth c b 789 [none, some (.ref 0), some (.ref 73), some (.int i)] [.int v] S1 I1 J1 P1 (k + mX11_duties.2.2.2.2.1) (n + mX11_duties.2.2.2.2.2)
  refine lz_aload C (z := 2) (by decide +kernel) rfl rfl ?_
  refine lz_sc C (z := 1) (v := (1 : Int32)) rfl (by decide +kernel) (by decide +kernel) (by decide +kernel) (by decide) (by decide +kernel) (by decide +kernel) H1 ?_
  refine lz_call C (g := mX12_duties) (ix := 102) (dg := 2) (r := 73) (cc := 12) (as := [.int (xs (i + 1).toNatClampNeg)]) (st := [.int v]) (by decide +kernel) tw_1639 tw_1640 tw_1641 tw_13 tw_1642 ⟨by decide +kernel, by decide +kernel, (by decide +kernel : (parseMethodDescriptor mX12_duties.1.desc).map (fun d => d.parameters.length) = some 1)⟩ (by decide) rfl rfl rfl (by decide) (by show k + 0 + 0 ≤ _; omega) (by show n + 0 + 0 ≤ _; omega) (Nat.le_of_ble_eq_true rfl) h73 (hM _ ?_)
  change lz_WP l G p e s m below meth c b 798 [none, some (.ref 0), some (.ref 73), some (.int i)] [.int v, .int v] S2 I2 J2 P2 (k + 0) (n + 0)
  refine lz_icmp_eq C (off := 672) (tgt := 1470) (by decide +kernel) rfl rfl ?_
  exact lz_widen (by omega) (by omega) (K S2 I2 J2 P2 hR)
set_option maxRecDepth 100000 in
theorem lw_case21 (C : lz_C G p s m meth c b L xs) {i : Int32} (H1 : vp_in (i + 1) L) (H2 : vp_in (i + 2) L) (H3 : vp_in (i + 3) L) (H4 : vp_in (i + 4) L) (H5 : vp_in (i + 5) L) (h0 : S[0]? = some (16, 0)) (hk : k + 4 ≤ 600000) (hn : n + 48 ≤ 7302250) (h : lz_pr l G R mX11_hush 7 mX12_hush 7 [.int (xs (i + 1).toNatClampNeg)] S I J P) (K : ∀ S I J P, R S I J P → lz_WP l G p e s m below meth c b 1470 [none, some (.ref 0), some (.ref 73), some (.int i)] [] S I J P (k + 4) (n + 48)) : lz_WP l G p e s m below meth c b 803 [none, some (.ref 0), some (.ref 73), some (.int i)] [] S I J P k n := by
  obtain ⟨v, S1, I1, J1, P1, S2, I2, J2, P2, hX, hM, h73, hR⟩ := h
  refine lz_aload C (z := 1) (by decide +kernel) rfl rfl ?_
  refine lz_sc C (z := 1) (v := (1 : Int32)) rfl (by decide +kernel) (by decide +kernel) (by decide +kernel) (by decide) (by decide +kernel) (by decide +kernel) H1 ?_
  refine lz_call C (g := mX11_hush) (ix := 103) (dg := 7) (r := 0) (cc := 11) (as := [.int (xs (i + 1).toNatClampNeg)]) (st := []) (by decide +kernel) tw_835 tw_836 tw_837 tw_1 tw_838 ⟨by decide +kernel, by decide +kernel, (by decide +kernel : (parseMethodDescriptor mX11_hush.1.desc).map (fun d => d.parameters.length) = some 1)⟩ (by decide) rfl rfl rfl (by decide) (by show k + 0 ≤ _; omega) (by show n + 0 ≤ _; omega) (Nat.le_of_ble_eq_true rfl) h0 (hX _ ?_)
  change lz_WP l G p e s m below meth c b 812 [none, some (.ref 0), some (.ref 73), some (.int i)] [.int v] S1 I1 J1 P1 (k + mX11_hush.2.2.2.2.1) (n + mX11_hush.2.2.2.2.2)
  refine lz_aload C (z := 2) (by decide +kernel) rfl rfl ?_
  refine lz_sc C (z := 1) (v := (1 : Int32)) rfl (by decide +kernel) (by decide +kernel) (by decide +kernel) (by decide) (by decide +kernel) (by decide +kernel) H1 ?_
  refine lz_call C (g := mX12_hush) (ix := 106) (dg := 7) (r := 73) (cc := 12) (as := [.int (xs (i + 1).toNatClampNeg)]) (st := [.int v]) (by decide +kernel) tw_1654 tw_1655 tw_1656 tw_13 tw_1657 ⟨by decide +kernel, by decide +kernel, (by decide +kernel : (parseMethodDescriptor mX12_hush.1.desc).map (fun d => d.parameters.length) = some 1)⟩ (by decide) rfl rfl rfl (by decide) (by show k + 0 + 0 ≤ _; omega) (by show n + 0 + 0 ≤ _; omega) (Nat.le_of_ble_eq_true rfl) h73 (hM _ ?_)
  change lz_WP l G p e s m below meth c b 821 [none, some (.ref 0), some (.ref 73), some (.int i)] [.int v, .int v] S2 I2 J2 P2 (k + 0) (n + 0)
  refine lz_icmp_eq C (off := 649) (tgt := 1470) (by decide +kernel) rfl rfl ?_
  exact lz_widen (by omega) (by omega) (K S2 I2 J2 P2 hR)
set_option maxRecDepth 100000 in
theorem lw_case22 (C : lz_C G p s m meth c b L xs) {i : Int32} (H1 : vp_in (i + 1) L) (H2 : vp_in (i + 2) L) (H3 : vp_in (i + 3) L) (H4 : vp_in (i + 4) L) (H5 : vp_in (i + 5) L) (h0 : S[0]? = some (16, 0)) (hk : k + 4 ≤ 600000) (hn : n + 48 ≤ 7302250) (h : lz_pr l G R mX11_spare 7 mX12_spare 7 [.int (xs (i + 1).toNatClampNeg)] S I J P) (K : ∀ S I J P, R S I J P → lz_WP l G p e s m below meth c b 1470 [none, some (.ref 0), some (.ref 73), some (.int i)] [] S I J P (k + 4) (n + 48)) : lz_WP l G p e s m below meth c b 826 [none, some (.ref 0), some (.ref 73), some (.int i)] [] S I J P k n := by
  obtain ⟨v, S1, I1, J1, P1, S2, I2, J2, P2, hX, hM, h73, hR⟩ := h
  refine lz_aload C (z := 1) (by decide +kernel) rfl rfl ?_
  refine lz_sc C (z := 1) (v := (1 : Int32)) rfl (by decide +kernel) (by decide +kernel) (by decide +kernel) (by decide) (by decide +kernel) (by decide +kernel) H1 ?_
  refine lz_call C (g := mX11_spare) (ix := 107) (dg := 7) (r := 0) (cc := 11) (as := [.int (xs (i + 1).toNatClampNeg)]) (st := []) (by decide +kernel) tw_844 tw_845 tw_846 tw_1 tw_847 ⟨by decide +kernel, by decide +kernel, (by decide +kernel : (parseMethodDescriptor mX11_spare.1.desc).map (fun d => d.parameters.length) = some 1)⟩ (by decide) rfl rfl rfl (by decide) (by show k + 0 ≤ _; omega) (by show n + 0 ≤ _; omega) (Nat.le_of_ble_eq_true rfl) h0 (hX _ ?_)
  change lz_WP l G p e s m below meth c b 835 [none, some (.ref 0), some (.ref 73), some (.int i)] [.int v] S1 I1 J1 P1 (k + mX11_spare.2.2.2.2.1) (n + mX11_spare.2.2.2.2.2)
  refine lz_aload C (z := 2) (by decide +kernel) rfl rfl ?_
  refine lz_sc C (z := 1) (v := (1 : Int32)) rfl (by decide +kernel) (by decide +kernel) (by decide +kernel) (by decide) (by decide +kernel) (by decide +kernel) H1 ?_
  refine lz_call C (g := mX12_spare) (ix := 110) (dg := 7) (r := 73) (cc := 12) (as := [.int (xs (i + 1).toNatClampNeg)]) (st := [.int v]) (by decide +kernel) tw_1662 tw_1663 tw_1664 tw_13 tw_1665 ⟨by decide +kernel, by decide +kernel, (by decide +kernel : (parseMethodDescriptor mX12_spare.1.desc).map (fun d => d.parameters.length) = some 1)⟩ (by decide) rfl rfl rfl (by decide) (by show k + 0 + 0 ≤ _; omega) (by show n + 0 + 0 ≤ _; omega) (Nat.le_of_ble_eq_true rfl) h73 (hM _ ?_)
  change lz_WP l G p e s m below meth c b 844 [none, some (.ref 0), some (.ref 73), some (.int i)] [.int v, .int v] S2 I2 J2 P2 (k + 0) (n + 0)
  refine lz_icmp_eq C (off := 626) (tgt := 1470) (by decide +kernel) rfl rfl ?_
  exact lz_widen (by omega) (by omega) (K S2 I2 J2 P2 hR)
set_option maxRecDepth 100000 in
theorem lw_case23 (C : lz_C G p s m meth c b L xs) {i : Int32} (H1 : vp_in (i + 1) L) (H2 : vp_in (i + 2) L) (H3 : vp_in (i + 3) L) (H4 : vp_in (i + 4) L) (H5 : vp_in (i + 5) L) (h0 : S[0]? = some (16, 0)) (hk : k + 4 ≤ 600000) (hn : n + 48 ≤ 7302250) (h : lz_pr l G R mX11_chorus 4 mX12_chorus 3 [.int (xs (i + 1).toNatClampNeg)] S I J P) (K : ∀ S I J P, R S I J P → lz_WP l G p e s m below meth c b 1470 [none, some (.ref 0), some (.ref 73), some (.int i)] [] S I J P (k + 4) (n + 48)) : lz_WP l G p e s m below meth c b 849 [none, some (.ref 0), some (.ref 73), some (.int i)] [] S I J P k n := by
  obtain ⟨v, S1, I1, J1, P1, S2, I2, J2, P2, hX, hM, h73, hR⟩ := h
  refine lz_aload C (z := 1) (by decide +kernel) rfl rfl ?_
  refine lz_sc C (z := 1) (v := (1 : Int32)) rfl (by decide +kernel) (by decide +kernel) (by decide +kernel) (by decide) (by decide +kernel) (by decide +kernel) H1 ?_
  refine lz_call C (g := mX11_chorus) (ix := 111) (dg := 4) (r := 0) (cc := 11) (as := [.int (xs (i + 1).toNatClampNeg)]) (st := []) (by decide +kernel) tw_854 tw_855 tw_856 tw_1 tw_857 ⟨by decide +kernel, by decide +kernel, (by decide +kernel : (parseMethodDescriptor mX11_chorus.1.desc).map (fun d => d.parameters.length) = some 1)⟩ (by decide) rfl rfl rfl (by decide) (by show k + 0 ≤ _; omega) (by show n + 0 ≤ _; omega) (Nat.le_of_ble_eq_true rfl) h0 (hX _ ?_)
  change lz_WP l G p e s m below meth c b 858 [none, some (.ref 0), some (.ref 73), some (.int i)] [.int v] S1 I1 J1 P1 (k + mX11_chorus.2.2.2.2.1) (n + mX11_chorus.2.2.2.2.2)
  refine lz_aload C (z := 2) (by decide +kernel) rfl rfl ?_
  refine lz_sc C (z := 1) (v := (1 : Int32)) rfl (by decide +kernel) (by decide +kernel) (by decide +kernel) (by decide) (by decide +kernel) (by decide +kernel) H1 ?_
  refine lz_call C (g := mX12_chorus) (ix := 114) (dg := 3) (r := 73) (cc := 12) (as := [.int (xs (i + 1).toNatClampNeg)]) (st := [.int v]) (by decide +kernel) tw_1666 tw_1667 tw_1668 tw_13 tw_1669 ⟨by decide +kernel, by decide +kernel, (by decide +kernel : (parseMethodDescriptor mX12_chorus.1.desc).map (fun d => d.parameters.length) = some 1)⟩ (by decide) rfl rfl rfl (by decide) (by show k + 0 + 0 ≤ _; omega) (by show n + 0 + 0 ≤ _; omega) (Nat.le_of_ble_eq_true rfl) h73 (hM _ ?_)
  change lz_WP l G p e s m below meth c b 867 [none, some (.ref 0), some (.ref 73), some (.int i)] [.int v, .int v] S2 I2 J2 P2 (k + 0) (n + 0)
  refine lz_icmp_eq C (off := 603) (tgt := 1470) (by decide +kernel) rfl rfl ?_
  exact lz_widen (by omega) (by omega) (K S2 I2 J2 P2 hR)
set_option maxRecDepth 100000 in
theorem lw_case24 (C : lz_C G p s m meth c b L xs) {i : Int32} (H1 : vp_in (i + 1) L) (H2 : vp_in (i + 2) L) (H3 : vp_in (i + 3) L) (H4 : vp_in (i + 4) L) (H5 : vp_in (i + 5) L) (h0 : S[0]? = some (16, 0)) (hk : k + 4 ≤ 600000) (hn : n + 48 ≤ 7302250) (h : lz_pr l G R mX11_wish 6 mX12_wish 6 [.int (xs (i + 1).toNatClampNeg), .int (xs (i + 2).toNatClampNeg)] S I J P) (K : ∀ S I J P, R S I J P → lz_WP l G p e s m below meth c b 1470 [none, some (.ref 0), some (.ref 73), some (.int i)] [] S I J P (k + 4) (n + 48)) : lz_WP l G p e s m below meth c b 872 [none, some (.ref 0), some (.ref 73), some (.int i)] [] S I J P k n := by
  obtain ⟨v, S1, I1, J1, P1, S2, I2, J2, P2, hX, hM, h73, hR⟩ := h
  refine lz_aload C (z := 1) (by decide +kernel) rfl rfl ?_
  refine lz_sc C (z := 1) (v := (1 : Int32)) rfl (by decide +kernel) (by decide +kernel) (by decide +kernel) (by decide) (by decide +kernel) (by decide +kernel) H1 ?_
  refine lz_sc C (z := 2) (v := (2 : Int32)) rfl (by decide +kernel) (by decide +kernel) (by decide +kernel) (by decide) (by decide +kernel) (by decide +kernel) H2 ?_
  refine lz_call C (g := mX11_wish) (ix := 115) (dg := 6) (r := 0) (cc := 11) (as := [.int (xs (i + 1).toNatClampNeg), .int (xs (i + 2).toNatClampNeg)]) (st := []) (by decide +kernel) tw_868 tw_869 tw_870 tw_1 tw_871 ⟨by decide +kernel, by decide +kernel, (by decide +kernel : (parseMethodDescriptor mX11_wish.1.desc).map (fun d => d.parameters.length) = some 2)⟩ (by decide) rfl rfl rfl (by decide) (by show k + 0 ≤ _; omega) (by show n + 0 ≤ _; omega) (Nat.le_of_ble_eq_true rfl) h0 (hX _ ?_)
  change lz_WP l G p e s m below meth c b 886 [none, some (.ref 0), some (.ref 73), some (.int i)] [.int v] S1 I1 J1 P1 (k + mX11_wish.2.2.2.2.1) (n + mX11_wish.2.2.2.2.2)
  refine lz_aload C (z := 2) (by decide +kernel) rfl rfl ?_
  refine lz_sc C (z := 1) (v := (1 : Int32)) rfl (by decide +kernel) (by decide +kernel) (by decide +kernel) (by decide) (by decide +kernel) (by decide +kernel) H1 ?_
  refine lz_sc C (z := 2) (v := (2 : Int32)) rfl (by decide +kernel) (by decide +kernel) (by decide +kernel) (by decide) (by decide +kernel) (by decide +kernel) H2 ?_
  refine lz_call C (g := mX12_wish) (ix := 118) (dg := 6) (r := 73) (cc := 12) (as := [.int (xs (i + 1).toNatClampNeg), .int (xs (i + 2).toNatClampNeg)]) (st := [.int v]) (by decide +kernel) tw_1674 tw_1675 tw_1676 tw_13 tw_1677 ⟨by decide +kernel, by decide +kernel, (by decide +kernel : (parseMethodDescriptor mX12_wish.1.desc).map (fun d => d.parameters.length) = some 2)⟩ (by decide) rfl rfl rfl (by decide) (by show k + 0 + 0 ≤ _; omega) (by show n + 0 + 0 ≤ _; omega) (Nat.le_of_ble_eq_true rfl) h73 (hM _ ?_)
  change lz_WP l G p e s m below meth c b 900 [none, some (.ref 0), some (.ref 73), some (.int i)] [.int v, .int v] S2 I2 J2 P2 (k + 0) (n + 0)
  refine lz_icmp_eq C (off := 570) (tgt := 1470) (by decide +kernel) rfl rfl ?_
  exact lz_widen (by omega) (by omega) (K S2 I2 J2 P2 hR)
set_option maxRecDepth 100000 in
theorem lw_case25 (C : lz_C G p s m meth c b L xs) {i : Int32} (H1 : vp_in (i + 1) L) (H2 : vp_in (i + 2) L) (H3 : vp_in (i + 3) L) (H4 : vp_in (i + 4) L) (H5 : vp_in (i + 5) L) (h0 : S[0]? = some (16, 0)) (hk : k + 4 ≤ 600000) (hn : n + 48 ≤ 7302250) (h : lz_pr l G R mX11_ruin 6 mX12_ruin 6 [.int (xs (i + 1).toNatClampNeg)] S I J P) (K : ∀ S I J P, R S I J P → lz_WP l G p e s m below meth c b 1470 [none, some (.ref 0), some (.ref 73), some (.int i)] [] S I J P (k + 4) (n + 48)) : lz_WP l G p e s m below meth c b 905 [none, some (.ref 0), some (.ref 73), some (.int i)] [] S I J P k n := by
  obtain ⟨v, S1, I1, J1, P1, S2, I2, J2, P2, hX, hM, h73, hR⟩ := h
  refine lz_aload C (z := 1) (by decide +kernel) rfl rfl ?_
  refine lz_sc C (z := 1) (v := (1 : Int32)) rfl (by decide +kernel) (by decide +kernel) (by decide +kernel) (by decide) (by decide +kernel) (by decide +kernel) H1 ?_
  refine lz_call C (g := mX11_ruin) (ix := 119) (dg := 6) (r := 0) (cc := 11) (as := [.int (xs (i + 1).toNatClampNeg)]) (st := []) (by decide +kernel) tw_877 tw_878 tw_879 tw_1 tw_880 ⟨by decide +kernel, by decide +kernel, (by decide +kernel : (parseMethodDescriptor mX11_ruin.1.desc).map (fun d => d.parameters.length) = some 1)⟩ (by decide) rfl rfl rfl (by decide) (by show k + 0 ≤ _; omega) (by show n + 0 ≤ _; omega) (Nat.le_of_ble_eq_true rfl) h0 (hX _ ?_)
  change lz_WP l G p e s m below meth c b 914 [none, some (.ref 0), some (.ref 73), some (.int i)] [.int v] S1 I1 J1 P1 (k + mX11_ruin.2.2.2.2.1) (n + mX11_ruin.2.2.2.2.2)
  refine lz_aload C (z := 2) (by decide +kernel) rfl rfl ?_
  refine lz_sc C (z := 1) (v := (1 : Int32)) rfl (by decide +kernel) (by decide +kernel) (by decide +kernel) (by decide) (by decide +kernel) (by decide +kernel) H1 ?_
  refine lz_call C (g := mX12_ruin) (ix := 122) (dg := 6) (r := 73) (cc := 12) (as := [.int (xs (i + 1).toNatClampNeg)]) (st := [.int v]) (by decide +kernel) tw_1602 tw_1603 tw_1604 tw_13 tw_1605 ⟨by decide +kernel, by decide +kernel, (by decide +kernel : (parseMethodDescriptor mX12_ruin.1.desc).map (fun d => d.parameters.length) = some 1)⟩ (by decide) rfl rfl rfl (by decide) (by show k + 0 + 0 ≤ _; omega) (by show n + 0 + 0 ≤ _; omega) (Nat.le_of_ble_eq_true rfl) h73 (hM _ ?_)
  change lz_WP l G p e s m below meth c b 923 [none, some (.ref 0), some (.ref 73), some (.int i)] [.int v, .int v] S2 I2 J2 P2 (k + 0) (n + 0)
  refine lz_icmp_eq C (off := 547) (tgt := 1470) (by decide +kernel) rfl rfl ?_
  exact lz_widen (by omega) (by omega) (K S2 I2 J2 P2 hR)
set_option maxRecDepth 100000 in
theorem lw_case26 (C : lz_C G p s m meth c b L xs) {i : Int32} (H1 : vp_in (i + 1) L) (H2 : vp_in (i + 2) L) (H3 : vp_in (i + 3) L) (H4 : vp_in (i + 4) L) (H5 : vp_in (i + 5) L) (h0 : S[0]? = some (16, 0)) (hk : k + 4 ≤ 600000) (hn : n + 48 ≤ 7302250) (h : lz_pr l G R mX11_hides 7 mX12_hides 7 [.int (xs (i + 1).toNatClampNeg)] S I J P) (K : ∀ S I J P, R S I J P → lz_WP l G p e s m below meth c b 1470 [none, some (.ref 0), some (.ref 73), some (.int i)] [] S I J P (k + 4) (n + 48)) : lz_WP l G p e s m below meth c b 928 [none, some (.ref 0), some (.ref 73), some (.int i)] [] S I J P k n := by
  obtain ⟨v, S1, I1, J1, P1, S2, I2, J2, P2, hX, hM, h73, hR⟩ := h
  refine lz_aload C (z := 1) (by decide +kernel) rfl rfl ?_
  refine lz_sc C (z := 1) (v := (1 : Int32)) rfl (by decide +kernel) (by decide +kernel) (by decide +kernel) (by decide) (by decide +kernel) (by decide +kernel) H1 ?_
  refine lz_call C (g := mX11_hides) (ix := 123) (dg := 7) (r := 0) (cc := 11) (as := [.int (xs (i + 1).toNatClampNeg)]) (st := []) (by decide +kernel) tw_885 tw_886 tw_887 tw_1 tw_888 ⟨by decide +kernel, by decide +kernel, (by decide +kernel : (parseMethodDescriptor mX11_hides.1.desc).map (fun d => d.parameters.length) = some 1)⟩ (by decide) rfl rfl rfl (by decide) (by show k + 0 ≤ _; omega) (by show n + 0 ≤ _; omega) (Nat.le_of_ble_eq_true rfl) h0 (hX _ ?_)
  change lz_WP l G p e s m below meth c b 937 [none, some (.ref 0), some (.ref 73), some (.int i)] [.int v] S1 I1 J1 P1 (k + mX11_hides.2.2.2.2.1) (n + mX11_hides.2.2.2.2.2)
  refine lz_aload C (z := 2) (by decide +kernel) rfl rfl ?_
  refine lz_sc C (z := 1) (v := (1 : Int32)) rfl (by decide +kernel) (by decide +kernel) (by decide +kernel) (by decide) (by decide +kernel) (by decide +kernel) H1 ?_
  refine lz_call C (g := mX12_hides) (ix := 126) (dg := 7) (r := 73) (cc := 12) (as := [.int (xs (i + 1).toNatClampNeg)]) (st := [.int v]) (by decide +kernel) tw_1678 tw_1679 tw_1680 tw_13 tw_1681 ⟨by decide +kernel, by decide +kernel, (by decide +kernel : (parseMethodDescriptor mX12_hides.1.desc).map (fun d => d.parameters.length) = some 1)⟩ (by decide) rfl rfl rfl (by decide) (by show k + 0 + 0 ≤ _; omega) (by show n + 0 + 0 ≤ _; omega) (Nat.le_of_ble_eq_true rfl) h73 (hM _ ?_)
  change lz_WP l G p e s m below meth c b 946 [none, some (.ref 0), some (.ref 73), some (.int i)] [.int v, .int v] S2 I2 J2 P2 (k + 0) (n + 0)
  refine lz_icmp_eq C (off := 524) (tgt := 1470) (by decide +kernel) rfl rfl ?_
  exact lz_widen (by omega) (by omega) (K S2 I2 J2 P2 hR)
set_option maxRecDepth 100000 in
theorem lw_case27 (C : lz_C G p s m meth c b L xs) {i : Int32} (H1 : vp_in (i + 1) L) (H2 : vp_in (i + 2) L) (H3 : vp_in (i + 3) L) (H4 : vp_in (i + 4) L) (H5 : vp_in (i + 5) L) (h0 : S[0]? = some (16, 0)) (hk : k + 4 ≤ 600000) (hn : n + 48 ≤ 7302250) (h : lz_pr l G R mX11_staying 7 mX12_staying 8 [.int (xs (i + 1).toNatClampNeg), .int (xs (i + 2).toNatClampNeg)] S I J P) (K : ∀ S I J P, R S I J P → lz_WP l G p e s m below meth c b 1470 [none, some (.ref 0), some (.ref 73), some (.int i)] [] S I J P (k + 4) (n + 48)) : lz_WP l G p e s m below meth c b 951 [none, some (.ref 0), some (.ref 73), some (.int i)] [] S I J P k n := by
  obtain ⟨v, S1, I1, J1, P1, S2, I2, J2, P2, hX, hM, h73, hR⟩ := h
  refine lz_aload C (z := 1) (by decide +kernel) rfl rfl ?_
  refine lz_sc C (z := 1) (v := (1 : Int32)) rfl (by decide +kernel) (by decide +kernel) (by decide +kernel) (by decide) (by decide +kernel) (by decide +kernel) H1 ?_
  refine lz_sc C (z := 2) (v := (2 : Int32)) rfl (by decide +kernel) (by decide +kernel) (by decide +kernel) (by decide) (by decide +kernel) (by decide +kernel) H2 ?_
  refine lz_call C (g := mX11_staying) (ix := 127) (dg := 7) (r := 0) (cc := 11) (as := [.int (xs (i + 1).toNatClampNeg), .int (xs (i + 2).toNatClampNeg)]) (st := []) (by decide +kernel) tw_893 tw_894 tw_895 tw_1 tw_896 ⟨by decide +kernel, by decide +kernel, (by decide +kernel : (parseMethodDescriptor mX11_staying.1.desc).map (fun d => d.parameters.length) = some 2)⟩ (by decide) rfl rfl rfl (by decide) (by show k + 0 ≤ _; omega) (by show n + 0 ≤ _; omega) (Nat.le_of_ble_eq_true rfl) h0 (hX _ ?_)
  change lz_WP l G p e s m below meth c b 965 [none, some (.ref 0), some (.ref 73), some (.int i)] [.int v] S1 I1 J1 P1 (k + mX11_staying.2.2.2.2.1) (n + mX11_staying.2.2.2.2.2)
  refine lz_aload C (z := 2) (by decide +kernel) rfl rfl ?_
  refine lz_sc C (z := 1) (v := (1 : Int32)) rfl (by decide +kernel) (by decide +kernel) (by decide +kernel) (by decide) (by decide +kernel) (by decide +kernel) H1 ?_
  refine lz_sc C (z := 2) (v := (2 : Int32)) rfl (by decide +kernel) (by decide +kernel) (by decide +kernel) (by decide) (by decide +kernel) (by decide +kernel) H2 ?_
  refine lz_call C (g := mX12_staying) (ix := 130) (dg := 8) (r := 73) (cc := 12) (as := [.int (xs (i + 1).toNatClampNeg), .int (xs (i + 2).toNatClampNeg)]) (st := [.int v]) (by decide +kernel) tw_1682 tw_1683 tw_1684 tw_13 tw_1685 ⟨by decide +kernel, by decide +kernel, (by decide +kernel : (parseMethodDescriptor mX12_staying.1.desc).map (fun d => d.parameters.length) = some 2)⟩ (by decide) rfl rfl rfl (by decide) (by show k + 0 + 0 ≤ _; omega) (by show n + 0 + 0 ≤ _; omega) (Nat.le_of_ble_eq_true rfl) h73 (hM _ ?_)
  change lz_WP l G p e s m below meth c b 979 [none, some (.ref 0), some (.ref 73), some (.int i)] [.int v, .int v] S2 I2 J2 P2 (k + 0) (n + 0)
  refine lz_icmp_eq C (off := 491) (tgt := 1470) (by decide +kernel) rfl rfl ?_
  exact lz_widen (by omega) (by omega) (K S2 I2 J2 P2 hR)
set_option maxRecDepth 100000 in
theorem lw_case28 (C : lz_C G p s m meth c b L xs) {i : Int32} (H1 : vp_in (i + 1) L) (H2 : vp_in (i + 2) L) (H3 : vp_in (i + 3) L) (H4 : vp_in (i + 4) L) (H5 : vp_in (i + 5) L) (h0 : S[0]? = some (16, 0)) (hk : k + 4 ≤ 600000) (hn : n + 48 ≤ 7302250) (h : lz_pr l G R mX11_slight 6 mX12_slight 6 [.int (xs (i + 1).toNatClampNeg)] S I J P) (K : ∀ S I J P, R S I J P → lz_WP l G p e s m below meth c b 1470 [none, some (.ref 0), some (.ref 73), some (.int i)] [] S I J P (k + 4) (n + 48)) : lz_WP l G p e s m below meth c b 984 [none, some (.ref 0), some (.ref 73), some (.int i)] [] S I J P k n := by
  obtain ⟨v, S1, I1, J1, P1, S2, I2, J2, P2, hX, hM, h73, hR⟩ := h
  refine lz_aload C (z := 1) (by decide +kernel) rfl rfl ?_
  refine lz_sc C (z := 1) (v := (1 : Int32)) rfl (by decide +kernel) (by decide +kernel) (by decide +kernel) (by decide) (by decide +kernel) (by decide +kernel) H1 ?_
  refine lz_call C (g := mX11_slight) (ix := 131) (dg := 6) (r := 0) (cc := 11) (as := [.int (xs (i + 1).toNatClampNeg)]) (st := []) (by decide +kernel) tw_905 tw_906 tw_907 tw_1 tw_908 ⟨by decide +kernel, by decide +kernel, (by decide +kernel : (parseMethodDescriptor mX11_slight.1.desc).map (fun d => d.parameters.length) = some 1)⟩ (by decide) rfl rfl rfl (by decide) (by show k + 0 ≤ _; omega) (by show n + 0 ≤ _; omega) (Nat.le_of_ble_eq_true rfl) h0 (hX _ ?_)
  change lz_WP l G p e s m below meth c b 993 [none, some (.ref 0), some (.ref 73), some (.int i)] [.int v] S1 I1 J1 P1 (k + mX11_slight.2.2.2.2.1) (n + mX11_slight.2.2.2.2.2)
  refine lz_aload C (z := 2) (by decide +kernel) rfl rfl ?_
  refine lz_sc C (z := 1) (v := (1 : Int32)) rfl (by decide +kernel) (by decide +kernel) (by decide +kernel) (by decide) (by decide +kernel) (by decide +kernel) H1 ?_
  refine lz_call C (g := mX12_slight) (ix := 134) (dg := 6) (r := 73) (cc := 12) (as := [.int (xs (i + 1).toNatClampNeg)]) (st := [.int v]) (by decide +kernel) tw_1606 tw_1607 tw_1608 tw_13 tw_1609 ⟨by decide +kernel, by decide +kernel, (by decide +kernel : (parseMethodDescriptor mX12_slight.1.desc).map (fun d => d.parameters.length) = some 1)⟩ (by decide) rfl rfl rfl (by decide) (by show k + 0 + 0 ≤ _; omega) (by show n + 0 + 0 ≤ _; omega) (Nat.le_of_ble_eq_true rfl) h73 (hM _ ?_)
  change lz_WP l G p e s m below meth c b 1002 [none, some (.ref 0), some (.ref 73), some (.int i)] [.int v, .int v] S2 I2 J2 P2 (k + 0) (n + 0)
  refine lz_icmp_eq C (off := 468) (tgt := 1470) (by decide +kernel) rfl rfl ?_
  exact lz_widen (by omega) (by omega) (K S2 I2 J2 P2 hR)
set_option maxRecDepth 100000 in
theorem lw_case29 (C : lz_C G p s m meth c b L xs) {i : Int32} (H1 : vp_in (i + 1) L) (H2 : vp_in (i + 2) L) (H3 : vp_in (i + 3) L) (H4 : vp_in (i + 4) L) (H5 : vp_in (i + 5) L) (h0 : S[0]? = some (16, 0)) (hk : k + 4 ≤ 600000) (hn : n + 48 ≤ 7302250) (h : lz_pr l G R mX11_list 2 mX12_list 0 [] S I J P) (K : ∀ S I J P, R S I J P → lz_WP l G p e s m below meth c b 1470 [none, some (.ref 0), some (.ref 73), some (.int i)] [] S I J P (k + 4) (n + 48)) : lz_WP l G p e s m below meth c b 1007 [none, some (.ref 0), some (.ref 73), some (.int i)] [] S I J P k n := by
  obtain ⟨v, S1, I1, J1, P1, S2, I2, J2, P2, hX, hM, h73, hR⟩ := h
  refine lz_aload C (z := 1) (by decide +kernel) rfl rfl ?_
  refine lz_call C (g := mX11_list) (ix := 135) (dg := 2) (r := 0) (cc := 11) (as := []) (st := []) (by decide +kernel) tw_913 tw_914 tw_915 tw_1 tw_916 ⟨by decide +kernel, by decide +kernel, (by decide +kernel : (parseMethodDescriptor mX11_list.1.desc).map (fun d => d.parameters.length) = some 0)⟩ (by decide) rfl rfl rfl (by decide) (by show k + 0 ≤ _; omega) (by show n + 0 ≤ _; omega) (Nat.le_of_ble_eq_true rfl) h0 (hX _ ?_)
  change lz_WP l G p e s m below meth c b 1011 [none, some (.ref 0), some (.ref 73), some (.int i)] [.int v] S1 I1 J1 P1 (k + mX11_list.2.2.2.2.1) (n + mX11_list.2.2.2.2.2)
  refine lz_aload C (z := 2) (by decide +kernel) rfl rfl ?_
  refine lz_call C (g := mX12_list) (ix := 138) (dg := 0) (r := 73) (cc := 12) (as := []) (st := [.int v]) (by decide +kernel) tw_1690 tw_1691 tw_1692 tw_13 tw_1693 ⟨by decide +kernel, by decide +kernel, (by decide +kernel : (parseMethodDescriptor mX12_list.1.desc).map (fun d => d.parameters.length) = some 0)⟩ (by decide) rfl rfl rfl (by decide) (by show k + 0 + 0 ≤ _; omega) (by show n + 0 + 0 ≤ _; omega) (Nat.le_of_ble_eq_true rfl) h73 (hM _ ?_)
  change lz_WP l G p e s m below meth c b 1015 [none, some (.ref 0), some (.ref 73), some (.int i)] [.int v, .int v] S2 I2 J2 P2 (k + 0) (n + 0)
  refine lz_icmp_eq C (off := 455) (tgt := 1470) (by decide +kernel) rfl rfl ?_
  exact lz_widen (by omega) (by omega) (K S2 I2 J2 P2 hR)
set_option maxRecDepth 100000 in
theorem lw_case30 (C : lz_C G p s m meth c b L xs) {i : Int32} (H1 : vp_in (i + 1) L) (H2 : vp_in (i + 2) L) (H3 : vp_in (i + 3) L) (H4 : vp_in (i + 4) L) (H5 : vp_in (i + 5) L) (h0 : S[0]? = some (16, 0)) (hk : k + 4 ≤ 600000) (hn : n + 48 ≤ 7302250) (h : lz_pr l G R mX11_silent 7 mX12_silent 7 [] S I J P) (K : ∀ S I J P, R S I J P → lz_WP l G p e s m below meth c b 1470 [none, some (.ref 0), some (.ref 73), some (.int i)] [] S I J P (k + 4) (n + 48)) : lz_WP l G p e s m below meth c b 1020 [none, some (.ref 0), some (.ref 73), some (.int i)] [] S I J P k n := by
  obtain ⟨v, S1, I1, J1, P1, S2, I2, J2, P2, hX, hM, h73, hR⟩ := h
  refine lz_aload C (z := 1) (by decide +kernel) rfl rfl ?_
  refine lz_call C (g := mX11_silent) (ix := 139) (dg := 7) (r := 0) (cc := 11) (as := []) (st := []) (by decide +kernel) tw_921 tw_922 tw_923 tw_1 tw_924 ⟨by decide +kernel, by decide +kernel, (by decide +kernel : (parseMethodDescriptor mX11_silent.1.desc).map (fun d => d.parameters.length) = some 0)⟩ (by decide) rfl rfl rfl (by decide) (by show k + 0 ≤ _; omega) (by show n + 0 ≤ _; omega) (Nat.le_of_ble_eq_true rfl) h0 (hX _ ?_)
  change lz_WP l G p e s m below meth c b 1024 [none, some (.ref 0), some (.ref 73), some (.int i)] [.int v] S1 I1 J1 P1 (k + mX11_silent.2.2.2.2.1) (n + mX11_silent.2.2.2.2.2)
  refine lz_aload C (z := 2) (by decide +kernel) rfl rfl ?_
  refine lz_call C (g := mX12_silent) (ix := 142) (dg := 7) (r := 73) (cc := 12) (as := []) (st := [.int v]) (by decide +kernel) tw_1614 tw_1615 tw_1616 tw_13 tw_1617 ⟨by decide +kernel, by decide +kernel, (by decide +kernel : (parseMethodDescriptor mX12_silent.1.desc).map (fun d => d.parameters.length) = some 0)⟩ (by decide) rfl rfl rfl (by decide) (by show k + 0 + 0 ≤ _; omega) (by show n + 0 + 0 ≤ _; omega) (Nat.le_of_ble_eq_true rfl) h73 (hM _ ?_)
  change lz_WP l G p e s m below meth c b 1028 [none, some (.ref 0), some (.ref 73), some (.int i)] [.int v, .int v] S2 I2 J2 P2 (k + 0) (n + 0)
  refine lz_icmp_eq C (off := 442) (tgt := 1470) (by decide +kernel) rfl rfl ?_
  exact lz_widen (by omega) (by omega) (K S2 I2 J2 P2 hR)
set_option maxRecDepth 100000 in
theorem lw_case31 (C : lz_C G p s m meth c b L xs) {i : Int32} (H1 : vp_in (i + 1) L) (H2 : vp_in (i + 2) L) (H3 : vp_in (i + 3) L) (H4 : vp_in (i + 4) L) (H5 : vp_in (i + 5) L) (h0 : S[0]? = some (16, 0)) (hk : k + 4 ≤ 600000) (hn : n + 48 ≤ 7302250) (h : lz_pr l G R mX11_dreaded 2 mX12_dreaded 2 [] S I J P) (K : ∀ S I J P, R S I J P → lz_WP l G p e s m below meth c b 1470 [none, some (.ref 0), some (.ref 73), some (.int i)] [] S I J P (k + 4) (n + 48)) : lz_WP l G p e s m below meth c b 1033 [none, some (.ref 0), some (.ref 73), some (.int i)] [] S I J P k n := by
  obtain ⟨v, S1, I1, J1, P1, S2, I2, J2, P2, hX, hM, h73, hR⟩ := h
  refine lz_aload C (z := 1) (by decide +kernel) rfl rfl ?_
  refine lz_call C (g := mX11_dreaded) (ix := 143) (dg := 2) (r := 0) (cc := 11) (as := []) (st := []) (by decide +kernel) tw_929 tw_930 tw_931 tw_1 tw_932 ⟨by decide +kernel, by decide +kernel, (by decide +kernel : (parseMethodDescriptor mX11_dreaded.1.desc).map (fun d => d.parameters.length) = some 0)⟩ (by decide) rfl rfl rfl (by decide) (by show k + 0 ≤ _; omega) (by show n + 0 ≤ _; omega) (Nat.le_of_ble_eq_true rfl) h0 (hX _ ?_)
  change lz_WP l G p e s m below meth c b 1037 [none, some (.ref 0), some (.ref 73), some (.int i)] [.int v] S1 I1 J1 P1 (k + mX11_dreaded.2.2.2.2.1) (n + mX11_dreaded.2.2.2.2.2)
  refine lz_aload C (z := 2) (by decide +kernel) rfl rfl ?_
  refine lz_call C (g := mX12_dreaded) (ix := 146) (dg := 2) (r := 73) (cc := 12) (as := []) (st := [.int v]) (by decide +kernel) tw_1694 tw_1695 tw_1696 tw_13 tw_1697 ⟨by decide +kernel, by decide +kernel, (by decide +kernel : (parseMethodDescriptor mX12_dreaded.1.desc).map (fun d => d.parameters.length) = some 0)⟩ (by decide) rfl rfl rfl (by decide) (by show k + 0 + 0 ≤ _; omega) (by show n + 0 + 0 ≤ _; omega) (Nat.le_of_ble_eq_true rfl) h73 (hM _ ?_)
  change lz_WP l G p e s m below meth c b 1041 [none, some (.ref 0), some (.ref 73), some (.int i)] [.int v, .int v] S2 I2 J2 P2 (k + 0) (n + 0)
  refine lz_icmp_eq C (off := 429) (tgt := 1470) (by decide +kernel) rfl rfl ?_
  exact lz_widen (by omega) (by omega) (K S2 I2 J2 P2 hR)
set_option maxRecDepth 100000 in
theorem lw_case32 (C : lz_C G p s m meth c b L xs) {i : Int32} (H1 : vp_in (i + 1) L) (H2 : vp_in (i + 2) L) (H3 : vp_in (i + 3) L) (H4 : vp_in (i + 4) L) (H5 : vp_in (i + 5) L) (h0 : S[0]? = some (16, 0)) (hk : k + 4 ≤ 600000) (hn : n + 48 ≤ 7302250) (h : lz_pr l G R mX11_untouched 2 mX12_untouched 2 [] S I J P) (K : ∀ S I J P, R S I J P → lz_WP l G p e s m below meth c b 1470 [none, some (.ref 0), some (.ref 73), some (.int i)] [] S I J P (k + 4) (n + 48)) : lz_WP l G p e s m below meth c b 1046 [none, some (.ref 0), some (.ref 73), some (.int i)] [] S I J P k n := by
  obtain ⟨v, S1, I1, J1, P1, S2, I2, J2, P2, hX, hM, h73, hR⟩ := h
  refine lz_aload C (z := 1) (by decide +kernel) rfl rfl ?_
  refine lz_call C (g := mX11_untouched) (ix := 147) (dg := 2) (r := 0) (cc := 11) (as := []) (st := []) (by decide +kernel) tw_938 tw_939 tw_940 tw_1 tw_941 ⟨by decide +kernel, by decide +kernel, (by decide +kernel : (parseMethodDescriptor mX11_untouched.1.desc).map (fun d => d.parameters.length) = some 0)⟩ (by decide) rfl rfl rfl (by decide) (by show k + 0 ≤ _; omega) (by show n + 0 ≤ _; omega) (Nat.le_of_ble_eq_true rfl) h0 (hX _ ?_)
  change lz_WP l G p e s m below meth c b 1050 [none, some (.ref 0), some (.ref 73), some (.int i)] [.int v] S1 I1 J1 P1 (k + mX11_untouched.2.2.2.2.1) (n + mX11_untouched.2.2.2.2.2)
  refine lz_aload C (z := 2) (by decide +kernel) rfl rfl ?_
  refine lz_call C (g := mX12_untouched) (ix := 150) (dg := 2) (r := 73) (cc := 12) (as := []) (st := [.int v]) (by decide +kernel) tw_1702 tw_1703 tw_1704 tw_13 tw_1705 ⟨by decide +kernel, by decide +kernel, (by decide +kernel : (parseMethodDescriptor mX12_untouched.1.desc).map (fun d => d.parameters.length) = some 0)⟩ (by decide) rfl rfl rfl (by decide) (by show k + 0 + 0 ≤ _; omega) (by show n + 0 + 0 ≤ _; omega) (Nat.le_of_ble_eq_true rfl) h73 (hM _ ?_)
  change lz_WP l G p e s m below meth c b 1054 [none, some (.ref 0), some (.ref 73), some (.int i)] [.int v, .int v] S2 I2 J2 P2 (k + 0) (n + 0)
  refine lz_icmp_eq C (off := 416) (tgt := 1470) (by decide +kernel) rfl rfl ?_
  exact lz_widen (by omega) (by omega) (K S2 I2 J2 P2 hR)
set_option maxRecDepth 100000 in
theorem lw_case33 (C : lz_C G p s m meth c b L xs) {i : Int32} (H1 : vp_in (i + 1) L) (H2 : vp_in (i + 2) L) (H3 : vp_in (i + 3) L) (H4 : vp_in (i + 4) L) (H5 : vp_in (i + 5) L) (h0 : S[0]? = some (16, 0)) (hk : k + 4 ≤ 600000) (hn : n + 48 ≤ 7302250) (h : lz_pr l G R mX11_richest 0 mX12_richest 0 [] S I J P) (K : ∀ S I J P, R S I J P → lz_WP l G p e s m below meth c b 1470 [none, some (.ref 0), some (.ref 73), some (.int i)] [] S I J P (k + 4) (n + 48)) : lz_WP l G p e s m below meth c b 1059 [none, some (.ref 0), some (.ref 73), some (.int i)] [] S I J P k n := by
  obtain ⟨v, S1, I1, J1, P1, S2, I2, J2, P2, hX, hM, h73, hR⟩ := h
  refine lz_aload C (z := 1) (by decide +kernel) rfl rfl ?_
  refine lz_call C (g := mX11_richest) (ix := 151) (dg := 0) (r := 0) (cc := 11) (as := []) (st := []) (by decide +kernel) tw_942 tw_943 tw_944 tw_1 tw_945 ⟨by decide +kernel, by decide +kernel, (by decide +kernel : (parseMethodDescriptor mX11_richest.1.desc).map (fun d => d.parameters.length) = some 0)⟩ (by decide) rfl rfl rfl (by decide) (by show k + 0 ≤ _; omega) (by show n + 0 ≤ _; omega) (Nat.le_of_ble_eq_true rfl) h0 (hX _ ?_)
  change lz_WP l G p e s m below meth c b 1063 [none, some (.ref 0), some (.ref 73), some (.int i)] [.int v] S1 I1 J1 P1 (k + mX11_richest.2.2.2.2.1) (n + mX11_richest.2.2.2.2.2)
  refine lz_aload C (z := 2) (by decide +kernel) rfl rfl ?_
  refine lz_call C (g := mX12_richest) (ix := 154) (dg := 0) (r := 73) (cc := 12) (as := []) (st := [.int v]) (by decide +kernel) tw_1706 tw_1707 tw_1708 tw_13 tw_1709 ⟨by decide +kernel, by decide +kernel, (by decide +kernel : (parseMethodDescriptor mX12_richest.1.desc).map (fun d => d.parameters.length) = some 0)⟩ (by decide) rfl rfl rfl (by decide) (by show k + 0 + 0 ≤ _; omega) (by show n + 0 + 0 ≤ _; omega) (Nat.le_of_ble_eq_true rfl) h73 (hM _ ?_)
  change lz_WP l G p e s m below meth c b 1067 [none, some (.ref 0), some (.ref 73), some (.int i)] [.int v, .int v] S2 I2 J2 P2 (k + 0) (n + 0)
  refine lz_icmp_eq C (off := 403) (tgt := 1470) (by decide +kernel) rfl rfl ?_
  exact lz_widen (by omega) (by omega) (K S2 I2 J2 P2 hR)
set_option maxRecDepth 100000 in
theorem lw_case34 (C : lz_C G p s m meth c b L xs) {i : Int32} (H1 : vp_in (i + 1) L) (H2 : vp_in (i + 2) L) (H3 : vp_in (i + 3) L) (H4 : vp_in (i + 4) L) (H5 : vp_in (i + 5) L) (h0 : S[0]? = some (16, 0)) (hk : k + 4 ≤ 600000) (hn : n + 48 ≤ 7302250) (h : lz_pr l G R mX11_busiest 7 mX12_busiest 7 [] S I J P) (K : ∀ S I J P, R S I J P → lz_WP l G p e s m below meth c b 1470 [none, some (.ref 0), some (.ref 73), some (.int i)] [] S I J P (k + 4) (n + 48)) : lz_WP l G p e s m below meth c b 1072 [none, some (.ref 0), some (.ref 73), some (.int i)] [] S I J P k n := by
  obtain ⟨v, S1, I1, J1, P1, S2, I2, J2, P2, hX, hM, h73, hR⟩ := h
  refine lz_aload C (z := 1) (by decide +kernel) rfl rfl ?_
  refine lz_call C (g := mX11_busiest) (ix := 155) (dg := 7) (r := 0) (cc := 11) (as := []) (st := []) (by decide +kernel) tw_946 tw_947 tw_948 tw_1 tw_949 ⟨by decide +kernel, by decide +kernel, (by decide +kernel : (parseMethodDescriptor mX11_busiest.1.desc).map (fun d => d.parameters.length) = some 0)⟩ (by decide) rfl rfl rfl (by decide) (by show k + 0 ≤ _; omega) (by show n + 0 ≤ _; omega) (Nat.le_of_ble_eq_true rfl) h0 (hX _ ?_)
  change lz_WP l G p e s m below meth c b 1076 [none, some (.ref 0), some (.ref 73), some (.int i)] [.int v] S1 I1 J1 P1 (k + mX11_busiest.2.2.2.2.1) (n + mX11_busiest.2.2.2.2.2)
  refine lz_aload C (z := 2) (by decide +kernel) rfl rfl ?_
  refine lz_call C (g := mX12_busiest) (ix := 158) (dg := 7) (r := 73) (cc := 12) (as := []) (st := [.int v]) (by decide +kernel) tw_1710 tw_1711 tw_1712 tw_13 tw_1713 ⟨by decide +kernel, by decide +kernel, (by decide +kernel : (parseMethodDescriptor mX12_busiest.1.desc).map (fun d => d.parameters.length) = some 0)⟩ (by decide) rfl rfl rfl (by decide) (by show k + 0 + 0 ≤ _; omega) (by show n + 0 + 0 ≤ _; omega) (Nat.le_of_ble_eq_true rfl) h73 (hM _ ?_)
  change lz_WP l G p e s m below meth c b 1080 [none, some (.ref 0), some (.ref 73), some (.int i)] [.int v, .int v] S2 I2 J2 P2 (k + 0) (n + 0)
  refine lz_icmp_eq C (off := 390) (tgt := 1470) (by decide +kernel) rfl rfl ?_
  exact lz_widen (by omega) (by omega) (K S2 I2 J2 P2 hR)
set_option maxRecDepth 100000 in
theorem lw_case35 (C : lz_C G p s m meth c b L xs) {i : Int32} (H1 : vp_in (i + 1) L) (H2 : vp_in (i + 2) L) (H3 : vp_in (i + 3) L) (H4 : vp_in (i + 4) L) (H5 : vp_in (i + 5) L) (h0 : S[0]? = some (16, 0)) (hk : k + 4 ≤ 600000) (hn : n + 48 ≤ 7302250) (h : lz_pr l G R mX11_law 6 mX12_law 6 [.int (xs (i + 1).toNatClampNeg)] S I J P) (K : ∀ S I J P, R S I J P → lz_WP l G p e s m below meth c b 1470 [none, some (.ref 0), some (.ref 73), some (.int i)] [] S I J P (k + 4) (n + 48)) : lz_WP l G p e s m below meth c b 1085 [none, some (.ref 0), some (.ref 73), some (.int i)] [] S I J P k n := by
  obtain ⟨v, S1, I1, J1, P1, S2, I2, J2, P2, hX, hM, h73, hR⟩ := h
  refine lz_aload C (z := 1) (by decide +kernel) rfl rfl ?_
  refine lz_sc C (z := 1) (v := (1 : Int32)) rfl (by decide +kernel) (by decide +kernel) (by decide +kernel) (by decide) (by decide +kernel) (by decide +kernel) H1 ?_
  refine lz_call C (g := mX11_law) (ix := 159) (dg := 6) (r := 0) (cc := 11) (as := [.int (xs (i + 1).toNatClampNeg)]) (st := []) (by decide +kernel) tw_954 tw_955 tw_956 tw_1 tw_957 ⟨by decide +kernel, by decide +kernel, (by decide +kernel : (parseMethodDescriptor mX11_law.1.desc).map (fun d => d.parameters.length) = some 1)⟩ (by decide) rfl rfl rfl (by decide) (by show k + 0 ≤ _; omega) (by show n + 0 ≤ _; omega) (Nat.le_of_ble_eq_true rfl) h0 (hX _ ?_)
  change lz_WP l G p e s m below meth c b 1094 [none, some (.ref 0), some (.ref 73), some (.int i)] [.int v] S1 I1 J1 P1 (k + mX11_law.2.2.2.2.1) (n + mX11_law.2.2.2.2.2)
  refine lz_aload C (z := 2) (by decide +kernel) rfl rfl ?_
  refine lz_sc C (z := 1) (v := (1 : Int32)) rfl (by decide +kernel) (by decide +kernel) (by decide +kernel) (by decide) (by decide +kernel) (by decide +kernel) H1 ?_
  refine lz_call C (g := mX12_law) (ix := 162) (dg := 6) (r := 73) (cc := 12) (as := [.int (xs (i + 1).toNatClampNeg)]) (st := [.int v]) (by decide +kernel) tw_1714 tw_1715 tw_1716 tw_13 tw_1717 ⟨by decide +kernel, by decide +kernel, (by decide +kernel : (parseMethodDescriptor mX12_law.1.desc).map (fun d => d.parameters.length) = some 1)⟩ (by decide) rfl rfl rfl (by decide) (by show k + 0 + 0 ≤ _; omega) (by show n + 0 + 0 ≤ _; omega) (Nat.le_of_ble_eq_true rfl) h73 (hM _ ?_)
  change lz_WP l G p e s m below meth c b 1103 [none, some (.ref 0), some (.ref 73), some (.int i)] [.int v, .int v] S2 I2 J2 P2 (k + 0) (n + 0)
  refine lz_icmp_eq C (off := 367) (tgt := 1470) (by decide +kernel) rfl rfl ?_
  exact lz_widen (by omega) (by omega) (K S2 I2 J2 P2 hR)
set_option maxRecDepth 100000 in
theorem lw_case36 (C : lz_C G p s m meth c b L xs) {i : Int32} (H1 : vp_in (i + 1) L) (H2 : vp_in (i + 2) L) (H3 : vp_in (i + 3) L) (H4 : vp_in (i + 4) L) (H5 : vp_in (i + 5) L) (h0 : S[0]? = some (16, 0)) (hk : k + 4 ≤ 600000) (hn : n + 48 ≤ 7302250) (h : lz_pr l G R mX11_hushed 6 mX12_hushed 6 [.int (xs (i + 1).toNatClampNeg)] S I J P) (K : ∀ S I J P, R S I J P → lz_WP l G p e s m below meth c b 1470 [none, some (.ref 0), some (.ref 73), some (.int i)] [] S I J P (k + 4) (n + 48)) : lz_WP l G p e s m below meth c b 1108 [none, some (.ref 0), some (.ref 73), some (.int i)] [] S I J P k n := by
  obtain ⟨v, S1, I1, J1, P1, S2, I2, J2, P2, hX, hM, h73, hR⟩ := h
  refine lz_aload C (z := 1) (by decide +kernel) rfl rfl ?_
  refine lz_sc C (z := 1) (v := (1 : Int32)) rfl (by decide +kernel) (by decide +kernel) (by decide +kernel) (by decide) (by decide +kernel) (by decide +kernel) H1 ?_
  refine lz_call C (g := mX11_hushed) (ix := 163) (dg := 6) (r := 0) (cc := 11) (as := [.int (xs (i + 1).toNatClampNeg)]) (st := []) (by decide +kernel) tw_962 tw_963 tw_964 tw_1 tw_965 ⟨by decide +kernel, by decide +kernel, (by decide +kernel : (parseMethodDescriptor mX11_hushed.1.desc).map (fun d => d.parameters.length) = some 1)⟩ (by decide) rfl rfl rfl (by decide) (by show k + 0 ≤ _; omega) (by show n + 0 ≤ _; omega) (Nat.le_of_ble_eq_true rfl) h0 (hX _ ?_)
  change lz_WP l G p e s m below meth c b 1117 [none, some (.ref 0), some (.ref 73), some (.int i)] [.int v] S1 I1 J1 P1 (k + mX11_hushed.2.2.2.2.1) (n + mX11_hushed.2.2.2.2.2)
  refine lz_aload C (z := 2) (by decide +kernel) rfl rfl ?_
  refine lz_sc C (z := 1) (v := (1 : Int32)) rfl (by decide +kernel) (by decide +kernel) (by decide +kernel) (by decide) (by decide +kernel) (by decide +kernel) H1 ?_
  refine lz_call C (g := mX12_hushed) (ix := 166) (dg := 6) (r := 73) (cc := 12) (as := [.int (xs (i + 1).toNatClampNeg)]) (st := [.int v]) (by decide +kernel) tw_1610 tw_1611 tw_1612 tw_13 tw_1613 ⟨by decide +kernel, by decide +kernel, (by decide +kernel : (parseMethodDescriptor mX12_hushed.1.desc).map (fun d => d.parameters.length) = some 1)⟩ (by decide) rfl rfl rfl (by decide) (by show k + 0 + 0 ≤ _; omega) (by show n + 0 + 0 ≤ _; omega) (Nat.le_of_ble_eq_true rfl) h73 (hM _ ?_)
  change lz_WP l G p e s m below meth c b 1126 [none, some (.ref 0), some (.ref 73), some (.int i)] [.int v, .int v] S2 I2 J2 P2 (k + 0) (n + 0)
  refine lz_icmp_eq C (off := 344) (tgt := 1470) (by decide +kernel) rfl rfl ?_
  exact lz_widen (by omega) (by omega) (K S2 I2 J2 P2 hR)
set_option maxRecDepth 100000 in
theorem lw_case37 (C : lz_C G p s m meth c b L xs) {i : Int32} (H1 : vp_in (i + 1) L) (H2 : vp_in (i + 2) L) (H3 : vp_in (i + 3) L) (H4 : vp_in (i + 4) L) (H5 : vp_in (i + 5) L) (h0 : S[0]? = some (16, 0)) (hk : k + 4 ≤ 600000) (hn : n + 48 ≤ 7302250) (h : lz_pr l G R mX11_odds 2 mX12_odds 1 [.int (xs (i + 1).toNatClampNeg), .int (xs (i + 2).toNatClampNeg)] S I J P) (K : ∀ S I J P, R S I J P → lz_WP l G p e s m below meth c b 1470 [none, some (.ref 0), some (.ref 73), some (.int i)] [] S I J P (k + 4) (n + 48)) : lz_WP l G p e s m below meth c b 1131 [none, some (.ref 0), some (.ref 73), some (.int i)] [] S I J P k n := by
  obtain ⟨v, S1, I1, J1, P1, S2, I2, J2, P2, hX, hM, h73, hR⟩ := h
  refine lz_aload C (z := 1) (by decide +kernel) rfl rfl ?_
  refine lz_sc C (z := 1) (v := (1 : Int32)) rfl (by decide +kernel) (by decide +kernel) (by decide +kernel) (by decide) (by decide +kernel) (by decide +kernel) H1 ?_
  refine lz_sc C (z := 2) (v := (2 : Int32)) rfl (by decide +kernel) (by decide +kernel) (by decide +kernel) (by decide) (by decide +kernel) (by decide +kernel) H2 ?_
  refine lz_call C (g := mX11_odds) (ix := 167) (dg := 2) (r := 0) (cc := 11) (as := [.int (xs (i + 1).toNatClampNeg), .int (xs (i + 2).toNatClampNeg)]) (st := []) (by decide +kernel) tw_970 tw_971 tw_972 tw_1 tw_973 ⟨by decide +kernel, by decide +kernel, (by decide +kernel : (parseMethodDescriptor mX11_odds.1.desc).map (fun d => d.parameters.length) = some 2)⟩ (by decide) rfl rfl rfl (by decide) (by show k + 0 ≤ _; omega) (by show n + 0 ≤ _; omega) (Nat.le_of_ble_eq_true rfl) h0 (hX _ ?_)
  change lz_WP l G p e s m below meth c b 1145 [none, some (.ref 0), some (.ref 73), some (.int i)] [.int v] S1 I1 J1 P1 (k + mX11_odds.2.2.2.2.1) (n + mX11_odds.2.2.2.2.2)
  refine lz_aload C (z := 2) (by decide +kernel) rfl rfl ?_
  refine lz_sc C (z := 1) (v := (1 : Int32)) rfl (by decide +kernel) (by decide +kernel) (by decide +kernel) (by decide) (by decide +kernel) (by decide +kernel) H1 ?_
  refine lz_sc C (z := 2) (v := (2 : Int32)) rfl (by decide +kernel) (by decide +kernel) (by decide +kernel) (by decide) (by decide +kernel) (by decide +kernel) H2 ?_
  refine lz_call C (g := mX12_odds) (ix := 170) (dg := 1) (r := 73) (cc := 12) (as := [.int (xs (i + 1).toNatClampNeg), .int (xs (i + 2).toNatClampNeg)]) (st := [.int v]) (by decide +kernel) tw_1718 tw_1719 tw_1720 tw_13 tw_1721 ⟨by decide +kernel, by decide +kernel, (by decide +kernel : (parseMethodDescriptor mX12_odds.1.desc).map (fun d => d.parameters.length) = some 2)⟩ (by decide) rfl rfl rfl (by decide) (by show k + 0 + 0 ≤ _; omega) (by show n + 0 + 0 ≤ _; omega) (Nat.le_of_ble_eq_true rfl) h73 (hM _ ?_)
  change lz_WP l G p e s m below meth c b 1159 [none, some (.ref 0), some (.ref 73), some (.int i)] [.int v, .int v] S2 I2 J2 P2 (k + 0) (n + 0)
  refine lz_icmp_eq C (off := 311) (tgt := 1470) (by decide +kernel) rfl rfl ?_
  exact lz_widen (by omega) (by omega) (K S2 I2 J2 P2 hR)
set_option maxRecDepth 100000 in
theorem lw_case38 (C : lz_C G p s m meth c b L xs) {i : Int32} (H1 : vp_in (i + 1) L) (H2 : vp_in (i + 2) L) (H3 : vp_in (i + 3) L) (H4 : vp_in (i + 4) L) (H5 : vp_in (i + 5) L) (h0 : S[0]? = some (16, 0)) (hk : k + 4 ≤ 600000) (hn : n + 48 ≤ 7302250) (h : lz_pr l G R mX11_lies 0 mX12_lies 1 [.int (xs (i + 1).toNatClampNeg)] S I J P) (K : ∀ S I J P, R S I J P → lz_WP l G p e s m below meth c b 1470 [none, some (.ref 0), some (.ref 73), some (.int i)] [] S I J P (k + 4) (n + 48)) : lz_WP l G p e s m below meth c b 1164 [none, some (.ref 0), some (.ref 73), some (.int i)] [] S I J P k n := by
  obtain ⟨v, S1, I1, J1, P1, S2, I2, J2, P2, hX, hM, h73, hR⟩ := h
  refine lz_aload C (z := 1) (by decide +kernel) rfl rfl ?_
  refine lz_sc C (z := 1) (v := (1 : Int32)) rfl (by decide +kernel) (by decide +kernel) (by decide +kernel) (by decide) (by decide +kernel) (by decide +kernel) H1 ?_
  refine lz_call C (g := mX11_lies) (ix := 171) (dg := 0) (r := 0) (cc := 11) (as := [.int (xs (i + 1).toNatClampNeg)]) (st := []) (by decide +kernel) tw_980 tw_981 tw_982 tw_1 tw_983 ⟨by decide +kernel, by decide +kernel, (by decide +kernel : (parseMethodDescriptor mX11_lies.1.desc).map (fun d => d.parameters.length) = some 1)⟩ (by decide) rfl rfl rfl (by decide) (by show k + 0 ≤ _; omega) (by show n + 0 ≤ _; omega) (Nat.le_of_ble_eq_true rfl) h0 (hX _ ?_)
  change lz_WP l G p e s m below meth c b 1173 [none, some (.ref 0), some (.ref 73), some (.int i)] [.int v] S1 I1 J1 P1 (k + mX11_lies.2.2.2.2.1) (n + mX11_lies.2.2.2.2.2)
  refine lz_aload C (z := 2) (by decide +kernel) rfl rfl ?_
  refine lz_sc C (z := 1) (v := (1 : Int32)) rfl (by decide +kernel) (by decide +kernel) (by decide +kernel) (by decide) (by decide +kernel) (by decide +kernel) H1 ?_
  refine lz_call C (g := mX12_lies) (ix := 174) (dg := 1) (r := 73) (cc := 12) (as := [.int (xs (i + 1).toNatClampNeg)]) (st := [.int v]) (by decide +kernel) tw_1725 tw_1726 tw_1727 tw_13 tw_1728 ⟨by decide +kernel, by decide +kernel, (by decide +kernel : (parseMethodDescriptor mX12_lies.1.desc).map (fun d => d.parameters.length) = some 1)⟩ (by decide) rfl rfl rfl (by decide) (by show k + 0 + 0 ≤ _; omega) (by show n + 0 + 0 ≤ _; omega) (Nat.le_of_ble_eq_true rfl) h73 (hM _ ?_)
  change lz_WP l G p e s m below meth c b 1182 [none, some (.ref 0), some (.ref 73), some (.int i)] [.int v, .int v] S2 I2 J2 P2 (k + 0) (n + 0)
  refine lz_icmp_eq C (off := 288) (tgt := 1470) (by decide +kernel) rfl rfl ?_
  exact lz_widen (by omega) (by omega) (K S2 I2 J2 P2 hR)
set_option maxRecDepth 100000 in
theorem lw_case39 (C : lz_C G p s m meth c b L xs) {i : Int32} (H1 : vp_in (i + 1) L) (H2 : vp_in (i + 2) L) (H3 : vp_in (i + 3) L) (H4 : vp_in (i + 4) L) (H5 : vp_in (i + 5) L) (h0 : S[0]? = some (16, 0)) (hk : k + 4 ≤ 600000) (hn : n + 48 ≤ 7302250) (h : lz_pr l G R mX11_seen 2 mX12_seen 2 [.int (xs (i + 1).toNatClampNeg), .int (xs (i + 2).toNatClampNeg), .int (xs (i + 3).toNatClampNeg), .int (if (xs (i + 4).toNatClampNeg) = 0 then 0 else 1)] S I J P) (K : ∀ S I J P, R S I J P → lz_WP l G p e s m below meth c b 1470 [none, some (.ref 0), some (.ref 73), some (.int i)] [] S I J P (k + 4) (n + 48)) : lz_WP l G p e s m below meth c b 1187 [none, some (.ref 0), some (.ref 73), some (.int i)] [] S I J P k n := by
  obtain ⟨v, S1, I1, J1, P1, S2, I2, J2, P2, hX, hM, h73, hR⟩ := h
  refine lz_aload C (z := 1) (by decide +kernel) rfl rfl ?_
  refine lz_sc C (z := 1) (v := (1 : Int32)) rfl (by decide +kernel) (by decide +kernel) (by decide +kernel) (by decide) (by decide +kernel) (by decide +kernel) H1 ?_
  refine lz_sc C (z := 2) (v := (2 : Int32)) rfl (by decide +kernel) (by decide +kernel) (by decide +kernel) (by decide) (by decide +kernel) (by decide +kernel) H2 ?_
  refine lz_sc C (z := 3) (v := (3 : Int32)) rfl (by decide +kernel) (by decide +kernel) (by decide +kernel) (by decide) (by decide +kernel) (by decide +kernel) H3 ?_
  refine lz_sc C (z := 4) (v := (4 : Int32)) rfl (by decide +kernel) (by decide +kernel) (by decide +kernel) (by decide) (by decide +kernel) (by decide +kernel) H4 ?_
  have KJ : ∀ z : Int32, z = (if (xs (i + 4).toNatClampNeg) = 0 then 0 else 1) → lz_WP l G p e s m below meth c b 1216 [none, some (.ref 0), some (.ref 73), some (.int i)] (.int z :: [.int (xs (i + 3).toNatClampNeg), .int (xs (i + 2).toNatClampNeg), .int (xs (i + 1).toNatClampNeg), .ref 0]) S I J P k n := by
    intro z hz
    subst hz
    refine lz_call C (g := mX11_seen) (ix := 175) (dg := 2) (r := 0) (cc := 11) (as := [.int (xs (i + 1).toNatClampNeg), .int (xs (i + 2).toNatClampNeg), .int (xs (i + 3).toNatClampNeg), .int (if (xs (i + 4).toNatClampNeg) = 0 then 0 else 1)]) (st := []) (by decide +kernel) tw_984 tw_985 tw_986 tw_1 tw_987 ⟨by decide +kernel, by decide +kernel, (by decide +kernel : (parseMethodDescriptor mX11_seen.1.desc).map (fun d => d.parameters.length) = some 4)⟩ (by decide) rfl rfl rfl (by decide) (by show k + 0 ≤ _; omega) (by show n + 0 ≤ _; omega) (Nat.le_of_ble_eq_true rfl) h0 (hX _ ?_)
    change lz_WP l G p e s m below meth c b 1219 [none, some (.ref 0), some (.ref 73), some (.int i)] [.int v] S1 I1 J1 P1 (k + mX11_seen.2.2.2.2.1) (n + mX11_seen.2.2.2.2.2)
    refine lz_aload C (z := 2) (by decide +kernel) rfl rfl ?_
    refine lz_sc C (z := 1) (v := (1 : Int32)) rfl (by decide +kernel) (by decide +kernel) (by decide +kernel) (by decide) (by decide +kernel) (by decide +kernel) H1 ?_
    refine lz_sc C (z := 2) (v := (2 : Int32)) rfl (by decide +kernel) (by decide +kernel) (by decide +kernel) (by decide) (by decide +kernel) (by decide +kernel) H2 ?_
    refine lz_sc C (z := 3) (v := (3 : Int32)) rfl (by decide +kernel) (by decide +kernel) (by decide +kernel) (by decide) (by decide +kernel) (by decide +kernel) H3 ?_
    refine lz_sc C (z := 4) (v := (4 : Int32)) rfl (by decide +kernel) (by decide +kernel) (by decide +kernel) (by decide) (by decide +kernel) (by decide +kernel) H4 ?_
    have KJ : ∀ z : Int32, z = (if (xs (i + 4).toNatClampNeg) = 0 then 0 else 1) → lz_WP l G p e s m below meth c b 1248 [none, some (.ref 0), some (.ref 73), some (.int i)] (.int z :: [.int (xs (i + 3).toNatClampNeg), .int (xs (i + 2).toNatClampNeg), .int (xs (i + 1).toNatClampNeg), .ref 73, .int v]) S1 I1 J1 P1 (k + mX11_seen.2.2.2.2.1) (n + mX11_seen.2.2.2.2.2) := by
      intro z hz
      subst hz
      refine lz_call C (g := mX12_seen) (ix := 179) (dg := 2) (r := 73) (cc := 12) (as := [.int (xs (i + 1).toNatClampNeg), .int (xs (i + 2).toNatClampNeg), .int (xs (i + 3).toNatClampNeg), .int (if (xs (i + 4).toNatClampNeg) = 0 then 0 else 1)]) (st := [.int v]) (by decide +kernel) tw_1729 tw_1730 tw_1731 tw_13 tw_1732 ⟨by decide +kernel, by decide +kernel, (by decide +kernel : (parseMethodDescriptor mX12_seen.1.desc).map (fun d => d.parameters.length) = some 4)⟩ (by decide) rfl rfl rfl (by decide) (by show k + 0 + 0 ≤ _; omega) (by show n + 0 + 0 ≤ _; omega) (Nat.le_of_ble_eq_true rfl) h73 (hM _ ?_)
      change lz_WP l G p e s m below meth c b 1251 [none, some (.ref 0), some (.ref 73), some (.int i)] [.int v, .int v] S2 I2 J2 P2 (k + 0) (n + 0)
      refine lz_icmp_eq C (off := 219) (tgt := 1470) (by decide +kernel) rfl rfl ?_
      exact lz_widen (by omega) (by omega) (K S2 I2 J2 P2 hR)
    refine lz_if_eq C (off := 7) (tgt := 1247) (by decide +kernel) rfl (fun hc => ?_) (fun hc => ?_)
    · refine lz_iconst C (z := 0) (v := (0 : Int32)) (by decide +kernel) (by decide) ?_
      exact KJ 0 (if_pos hc).symm
    · refine lz_iconst C (z := 1) (v := (1 : Int32)) (by decide +kernel) (by decide) ?_
      refine lz_goto C (off := 4) (tgt := 1248) (by decide +kernel) rfl ?_
      exact KJ 1 (if_neg hc).symm
  refine lz_if_eq C (off := 7) (tgt := 1215) (by decide +kernel) rfl (fun hc => ?_) (fun hc => ?_)
  · refine lz_iconst C (z := 0) (v := (0 : Int32)) (by decide +kernel) (by decide) ?_
    exact KJ 0 (if_pos hc).symm
  · refine lz_iconst C (z := 1) (v := (1 : Int32)) (by decide +kernel) (by decide) ?_
    refine lz_goto C (off := 4) (tgt := 1216) (by decide +kernel) rfl ?_
    exact KJ 1 (if_neg hc).symm
set_option maxRecDepth 100000 in
theorem lw_case40 (C : lz_C G p s m meth c b L xs) {i : Int32} (H1 : vp_in (i + 1) L) (H2 : vp_in (i + 2) L) (H3 : vp_in (i + 3) L) (H4 : vp_in (i + 4) L) (H5 : vp_in (i + 5) L) (h0 : S[0]? = some (16, 0)) (hk : k + 4 ≤ 600000) (hn : n + 48 ≤ 7302250) (h : lz_pr l G R mX11_untell 1 mX12_untell 1 [.int (xs (i + 1).toNatClampNeg)] S I J P) (K : ∀ S I J P, R S I J P → lz_WP l G p e s m below meth c b 1470 [none, some (.ref 0), some (.ref 73), some (.int i)] [] S I J P (k + 4) (n + 48)) : lz_WP l G p e s m below meth c b 1256 [none, some (.ref 0), some (.ref 73), some (.int i)] [] S I J P k n := by
  obtain ⟨v, S1, I1, J1, P1, S2, I2, J2, P2, hX, hM, h73, hR⟩ := h
  refine lz_aload C (z := 1) (by decide +kernel) rfl rfl ?_
  refine lz_sc C (z := 1) (v := (1 : Int32)) rfl (by decide +kernel) (by decide +kernel) (by decide +kernel) (by decide) (by decide +kernel) (by decide +kernel) H1 ?_
  refine lz_call C (g := mX11_untell) (ix := 180) (dg := 1) (r := 0) (cc := 11) (as := [.int (xs (i + 1).toNatClampNeg)]) (st := []) (by decide +kernel) tw_993 tw_994 tw_995 tw_1 tw_996 ⟨by decide +kernel, by decide +kernel, (by decide +kernel : (parseMethodDescriptor mX11_untell.1.desc).map (fun d => d.parameters.length) = some 1)⟩ (by decide) rfl rfl rfl (by decide) (by show k + 0 ≤ _; omega) (by show n + 0 ≤ _; omega) (Nat.le_of_ble_eq_true rfl) h0 (hX _ ?_)
  change lz_WP l G p e s m below meth c b 1265 [none, some (.ref 0), some (.ref 73), some (.int i)] [.int v] S1 I1 J1 P1 (k + mX11_untell.2.2.2.2.1) (n + mX11_untell.2.2.2.2.2)
  refine lz_aload C (z := 2) (by decide +kernel) rfl rfl ?_
  refine lz_sc C (z := 1) (v := (1 : Int32)) rfl (by decide +kernel) (by decide +kernel) (by decide +kernel) (by decide) (by decide +kernel) (by decide +kernel) H1 ?_
  refine lz_call C (g := mX12_untell) (ix := 184) (dg := 1) (r := 73) (cc := 12) (as := [.int (xs (i + 1).toNatClampNeg)]) (st := [.int v]) (by decide +kernel) tw_1733 tw_1734 tw_1735 tw_13 tw_1736 ⟨by decide +kernel, by decide +kernel, (by decide +kernel : (parseMethodDescriptor mX12_untell.1.desc).map (fun d => d.parameters.length) = some 1)⟩ (by decide) rfl rfl rfl (by decide) (by show k + 0 + 0 ≤ _; omega) (by show n + 0 + 0 ≤ _; omega) (Nat.le_of_ble_eq_true rfl) h73 (hM _ ?_)
  change lz_WP l G p e s m below meth c b 1274 [none, some (.ref 0), some (.ref 73), some (.int i)] [.int v, .int v] S2 I2 J2 P2 (k + 0) (n + 0)
  refine lz_icmp_eq C (off := 196) (tgt := 1470) (by decide +kernel) rfl rfl ?_
  exact lz_widen (by omega) (by omega) (K S2 I2 J2 P2 hR)
set_option maxRecDepth 100000 in
theorem lw_case41 (C : lz_C G p s m meth c b L xs) {i : Int32} (H1 : vp_in (i + 1) L) (H2 : vp_in (i + 2) L) (H3 : vp_in (i + 3) L) (H4 : vp_in (i + 4) L) (H5 : vp_in (i + 5) L) (h0 : S[0]? = some (16, 0)) (hk : k + 4 ≤ 600000) (hn : n + 48 ≤ 7302250) (h : lz_pr l G R mX11_later 1 mX12_later 0 [.int (xs (i + 1).toNatClampNeg)] S I J P) (K : ∀ S I J P, R S I J P → lz_WP l G p e s m below meth c b 1470 [none, some (.ref 0), some (.ref 73), some (.int i)] [] S I J P (k + 4) (n + 48)) : lz_WP l G p e s m below meth c b 1279 [none, some (.ref 0), some (.ref 73), some (.int i)] [] S I J P k n := by
  obtain ⟨v, S1, I1, J1, P1, S2, I2, J2, P2, hX, hM, h73, hR⟩ := h
  refine lz_aload C (z := 1) (by decide +kernel) rfl rfl ?_
  refine lz_sc C (z := 1) (v := (1 : Int32)) rfl (by decide +kernel) (by decide +kernel) (by decide +kernel) (by decide) (by decide +kernel) (by decide +kernel) H1 ?_
  refine lz_call C (g := mX11_later) (ix := 185) (dg := 1) (r := 0) (cc := 11) (as := [.int (xs (i + 1).toNatClampNeg)]) (st := []) (by decide +kernel) tw_1001 tw_1002 tw_1003 tw_1 tw_1004 ⟨by decide +kernel, by decide +kernel, (by decide +kernel : (parseMethodDescriptor mX11_later.1.desc).map (fun d => d.parameters.length) = some 1)⟩ (by decide) rfl rfl rfl (by decide) (by show k + 0 ≤ _; omega) (by show n + 0 ≤ _; omega) (Nat.le_of_ble_eq_true rfl) h0 (hX _ ?_)
  change lz_WP l G p e s m below meth c b 1288 [none, some (.ref 0), some (.ref 73), some (.int i)] [.int v] S1 I1 J1 P1 (k + mX11_later.2.2.2.2.1) (n + mX11_later.2.2.2.2.2)
  refine lz_aload C (z := 2) (by decide +kernel) rfl rfl ?_
  refine lz_sc C (z := 1) (v := (1 : Int32)) rfl (by decide +kernel) (by decide +kernel) (by decide +kernel) (by decide) (by decide +kernel) (by decide +kernel) H1 ?_
  refine lz_call C (g := mX12_later) (ix := 188) (dg := 0) (r := 73) (cc := 12) (as := [.int (xs (i + 1).toNatClampNeg)]) (st := [.int v]) (by decide +kernel) tw_1737 tw_1738 tw_1739 tw_13 tw_1740 ⟨by decide +kernel, by decide +kernel, (by decide +kernel : (parseMethodDescriptor mX12_later.1.desc).map (fun d => d.parameters.length) = some 1)⟩ (by decide) rfl rfl rfl (by decide) (by show k + 0 + 0 ≤ _; omega) (by show n + 0 + 0 ≤ _; omega) (Nat.le_of_ble_eq_true rfl) h73 (hM _ ?_)
  change lz_WP l G p e s m below meth c b 1297 [none, some (.ref 0), some (.ref 73), some (.int i)] [.int v, .int v] S2 I2 J2 P2 (k + 0) (n + 0)
  refine lz_icmp_eq C (off := 173) (tgt := 1470) (by decide +kernel) rfl rfl ?_
  exact lz_widen (by omega) (by omega) (K S2 I2 J2 P2 hR)
set_option maxRecDepth 100000 in
theorem lw_case42 (C : lz_C G p s m meth c b L xs) {i : Int32} (H1 : vp_in (i + 1) L) (H2 : vp_in (i + 2) L) (H3 : vp_in (i + 3) L) (H4 : vp_in (i + 4) L) (H5 : vp_in (i + 5) L) (h0 : S[0]? = some (16, 0)) (hk : k + 4 ≤ 600000) (hn : n + 48 ≤ 7302250) (h : lz_pr l G R mX11_fits 7 mX12_fits 7 [.int (xs (i + 1).toNatClampNeg)] S I J P) (K : ∀ S I J P, R S I J P → lz_WP l G p e s m below meth c b 1470 [none, some (.ref 0), some (.ref 73), some (.int i)] [] S I J P (k + 4) (n + 48)) : lz_WP l G p e s m below meth c b 1302 [none, some (.ref 0), some (.ref 73), some (.int i)] [] S I J P k n := by
  obtain ⟨v, S1, I1, J1, P1, S2, I2, J2, P2, hX, hM, h73, hR⟩ := h
  refine lz_aload C (z := 1) (by decide +kernel) rfl rfl ?_
  refine lz_sc C (z := 1) (v := (1 : Int32)) rfl (by decide +kernel) (by decide +kernel) (by decide +kernel) (by decide) (by decide +kernel) (by decide +kernel) H1 ?_
  refine lz_call C (g := mX11_fits) (ix := 189) (dg := 7) (r := 0) (cc := 11) (as := [.int (xs (i + 1).toNatClampNeg)]) (st := []) (by decide +kernel) tw_1006 tw_1007 tw_1008 tw_1 tw_1009 ⟨by decide +kernel, by decide +kernel, (by decide +kernel : (parseMethodDescriptor mX11_fits.1.desc).map (fun d => d.parameters.length) = some 1)⟩ (by decide) rfl rfl rfl (by decide) (by show k + 0 ≤ _; omega) (by show n + 0 ≤ _; omega) (Nat.le_of_ble_eq_true rfl) h0 (hX _ ?_)
  change lz_WP l G p e s m below meth c b 1311 [none, some (.ref 0), some (.ref 73), some (.int i)] [.int v] S1 I1 J1 P1 (k + mX11_fits.2.2.2.2.1) (n + mX11_fits.2.2.2.2.2)
  refine lz_aload C (z := 2) (by decide +kernel) rfl rfl ?_
  refine lz_sc C (z := 1) (v := (1 : Int32)) rfl (by decide +kernel) (by decide +kernel) (by decide +kernel) (by decide) (by decide +kernel) (by decide +kernel) H1 ?_
  refine lz_call C (g := mX12_fits) (ix := 192) (dg := 7) (r := 73) (cc := 12) (as := [.int (xs (i + 1).toNatClampNeg)]) (st := [.int v]) (by decide +kernel) tw_1742 tw_1743 tw_1744 tw_13 tw_1745 ⟨by decide +kernel, by decide +kernel, (by decide +kernel : (parseMethodDescriptor mX12_fits.1.desc).map (fun d => d.parameters.length) = some 1)⟩ (by decide) rfl rfl rfl (by decide) (by show k + 0 + 0 ≤ _; omega) (by show n + 0 + 0 ≤ _; omega) (Nat.le_of_ble_eq_true rfl) h73 (hM _ ?_)
  change lz_WP l G p e s m below meth c b 1320 [none, some (.ref 0), some (.ref 73), some (.int i)] [.int v, .int v] S2 I2 J2 P2 (k + 0) (n + 0)
  refine lz_icmp_eq C (off := 150) (tgt := 1470) (by decide +kernel) rfl rfl ?_
  exact lz_widen (by omega) (by omega) (K S2 I2 J2 P2 hR)
set_option maxRecDepth 100000 in
theorem lw_case43 (C : lz_C G p s m meth c b L xs) {i : Int32} (H1 : vp_in (i + 1) L) (H2 : vp_in (i + 2) L) (H3 : vp_in (i + 3) L) (H4 : vp_in (i + 4) L) (H5 : vp_in (i + 5) L) (h0 : S[0]? = some (16, 0)) (hk : k + 4 ≤ 600000) (hn : n + 48 ≤ 7302250) (h : lz_pr l G R mX11_sure 7 mX12_sure 7 [.int (xs (i + 1).toNatClampNeg), .int (xs (i + 2).toNatClampNeg)] S I J P) (K : ∀ S I J P, R S I J P → lz_WP l G p e s m below meth c b 1470 [none, some (.ref 0), some (.ref 73), some (.int i)] [] S I J P (k + 4) (n + 48)) : lz_WP l G p e s m below meth c b 1325 [none, some (.ref 0), some (.ref 73), some (.int i)] [] S I J P k n := by
  obtain ⟨v, S1, I1, J1, P1, S2, I2, J2, P2, hX, hM, h73, hR⟩ := h
  refine lz_aload C (z := 1) (by decide +kernel) rfl rfl ?_
  refine lz_sc C (z := 1) (v := (1 : Int32)) rfl (by decide +kernel) (by decide +kernel) (by decide +kernel) (by decide) (by decide +kernel) (by decide +kernel) H1 ?_
  refine lz_sc C (z := 2) (v := (2 : Int32)) rfl (by decide +kernel) (by decide +kernel) (by decide +kernel) (by decide) (by decide +kernel) (by decide +kernel) H2 ?_
  refine lz_call C (g := mX11_sure) (ix := 193) (dg := 7) (r := 0) (cc := 11) (as := [.int (xs (i + 1).toNatClampNeg), .int (xs (i + 2).toNatClampNeg)]) (st := []) (by decide +kernel) tw_1029 tw_1030 tw_1031 tw_1 tw_1032 ⟨by decide +kernel, by decide +kernel, (by decide +kernel : (parseMethodDescriptor mX11_sure.1.desc).map (fun d => d.parameters.length) = some 2)⟩ (by decide) rfl rfl rfl (by decide) (by show k + 0 ≤ _; omega) (by show n + 0 ≤ _; omega) (Nat.le_of_ble_eq_true rfl) h0 (hX _ ?_)
  change lz_WP l G p e s m below meth c b 1339 [none, some (.ref 0), some (.ref 73), some (.int i)] [.int v] S1 I1 J1 P1 (k + mX11_sure.2.2.2.2.1) (n + mX11_sure.2.2.2.2.2)
  refine lz_aload C (z := 2) (by decide +kernel) rfl rfl ?_
  refine lz_sc C (z := 1) (v := (1 : Int32)) rfl (by decide +kernel) (by decide +kernel) (by decide +kernel) (by decide) (by decide +kernel) (by decide +kernel) H1 ?_
  refine lz_sc C (z := 2) (v := (2 : Int32)) rfl (by decide +kernel) (by decide +kernel) (by decide +kernel) (by decide) (by decide +kernel) (by decide +kernel) H2 ?_
  refine lz_call C (g := mX12_sure) (ix := 196) (dg := 7) (r := 73) (cc := 12) (as := [.int (xs (i + 1).toNatClampNeg), .int (xs (i + 2).toNatClampNeg)]) (st := [.int v]) (by decide +kernel) tw_1758 tw_1759 tw_1760 tw_13 tw_1761 ⟨by decide +kernel, by decide +kernel, (by decide +kernel : (parseMethodDescriptor mX12_sure.1.desc).map (fun d => d.parameters.length) = some 2)⟩ (by decide) rfl rfl rfl (by decide) (by show k + 0 + 0 ≤ _; omega) (by show n + 0 + 0 ≤ _; omega) (Nat.le_of_ble_eq_true rfl) h73 (hM _ ?_)
  change lz_WP l G p e s m below meth c b 1353 [none, some (.ref 0), some (.ref 73), some (.int i)] [.int v, .int v] S2 I2 J2 P2 (k + 0) (n + 0)
  refine lz_icmp_eq C (off := 117) (tgt := 1470) (by decide +kernel) rfl rfl ?_
  exact lz_widen (by omega) (by omega) (K S2 I2 J2 P2 hR)
set_option maxRecDepth 100000 in
theorem lw_case44 (C : lz_C G p s m meth c b L xs) {i : Int32} (H1 : vp_in (i + 1) L) (H2 : vp_in (i + 2) L) (H3 : vp_in (i + 3) L) (H4 : vp_in (i + 4) L) (H5 : vp_in (i + 5) L) (h0 : S[0]? = some (16, 0)) (hk : k + 4 ≤ 600000) (hn : n + 48 ≤ 7302250) (h : lz_pr l G R mX11_ask 7 mX12_ask 7 [.int (xs (i + 1).toNatClampNeg), .int (xs (i + 2).toNatClampNeg), .int (xs (i + 3).toNatClampNeg)] S I J P) (K : ∀ S I J P, R S I J P → lz_WP l G p e s m below meth c b 1470 [none, some (.ref 0), some (.ref 73), some (.int i)] [] S I J P (k + 4) (n + 48)) : lz_WP l G p e s m below meth c b 1358 [none, some (.ref 0), some (.ref 73), some (.int i)] [] S I J P k n := by
  obtain ⟨v, S1, I1, J1, P1, S2, I2, J2, P2, hX, hM, h73, hR⟩ := h
  refine lz_aload C (z := 1) (by decide +kernel) rfl rfl ?_
  refine lz_sc C (z := 1) (v := (1 : Int32)) rfl (by decide +kernel) (by decide +kernel) (by decide +kernel) (by decide) (by decide +kernel) (by decide +kernel) H1 ?_
  refine lz_sc C (z := 2) (v := (2 : Int32)) rfl (by decide +kernel) (by decide +kernel) (by decide +kernel) (by decide) (by decide +kernel) (by decide +kernel) H2 ?_
  refine lz_sc C (z := 3) (v := (3 : Int32)) rfl (by decide +kernel) (by decide +kernel) (by decide +kernel) (by decide) (by decide +kernel) (by decide +kernel) H3 ?_
  refine lz_call C (g := mX11_ask) (ix := 197) (dg := 7) (r := 0) (cc := 11) (as := [.int (xs (i + 1).toNatClampNeg), .int (xs (i + 2).toNatClampNeg), .int (xs (i + 3).toNatClampNeg)]) (st := []) (by decide +kernel) tw_1041 tw_1042 tw_1043 tw_1 tw_1044 ⟨by decide +kernel, by decide +kernel, (by decide +kernel : (parseMethodDescriptor mX11_ask.1.desc).map (fun d => d.parameters.length) = some 3)⟩ (by decide) rfl rfl rfl (by decide) (by show k + 0 ≤ _; omega) (by show n + 0 ≤ _; omega) (Nat.le_of_ble_eq_true rfl) h0 (hX _ ?_)
  change lz_WP l G p e s m below meth c b 1377 [none, some (.ref 0), some (.ref 73), some (.int i)] [.int v] S1 I1 J1 P1 (k + mX11_ask.2.2.2.2.1) (n + mX11_ask.2.2.2.2.2)
  refine lz_aload C (z := 2) (by decide +kernel) rfl rfl ?_
  refine lz_sc C (z := 1) (v := (1 : Int32)) rfl (by decide +kernel) (by decide +kernel) (by decide +kernel) (by decide) (by decide +kernel) (by decide +kernel) H1 ?_
  refine lz_sc C (z := 2) (v := (2 : Int32)) rfl (by decide +kernel) (by decide +kernel) (by decide +kernel) (by decide) (by decide +kernel) (by decide +kernel) H2 ?_
  refine lz_sc C (z := 3) (v := (3 : Int32)) rfl (by decide +kernel) (by decide +kernel) (by decide +kernel) (by decide) (by decide +kernel) (by decide +kernel) H3 ?_
  refine lz_call C (g := mX12_ask) (ix := 200) (dg := 7) (r := 73) (cc := 12) (as := [.int (xs (i + 1).toNatClampNeg), .int (xs (i + 2).toNatClampNeg), .int (xs (i + 3).toNatClampNeg)]) (st := [.int v]) (by decide +kernel) tw_1762 tw_1763 tw_1764 tw_13 tw_1765 ⟨by decide +kernel, by decide +kernel, (by decide +kernel : (parseMethodDescriptor mX12_ask.1.desc).map (fun d => d.parameters.length) = some 3)⟩ (by decide) rfl rfl rfl (by decide) (by show k + 0 + 0 ≤ _; omega) (by show n + 0 + 0 ≤ _; omega) (Nat.le_of_ble_eq_true rfl) h73 (hM _ ?_)
  change lz_WP l G p e s m below meth c b 1396 [none, some (.ref 0), some (.ref 73), some (.int i)] [.int v, .int v] S2 I2 J2 P2 (k + 0) (n + 0)
  refine lz_icmp_eq C (off := 74) (tgt := 1470) (by decide +kernel) rfl rfl ?_
  exact lz_widen (by omega) (by omega) (K S2 I2 J2 P2 hR)
set_option maxRecDepth 100000 in
theorem lw_case45 (C : lz_C G p s m meth c b L xs) {i : Int32} (H1 : vp_in (i + 1) L) (H2 : vp_in (i + 2) L) (H3 : vp_in (i + 3) L) (H4 : vp_in (i + 4) L) (H5 : vp_in (i + 5) L) (h0 : S[0]? = some (16, 0)) (hk : k + 4 ≤ 600000) (hn : n + 48 ≤ 7302250) (h : lz_pr l G R mX11_image 2 mX12_image 1 [.int (xs (i + 1).toNatClampNeg)] S I J P) (K : ∀ S I J P, R S I J P → lz_WP l G p e s m below meth c b 1470 [none, some (.ref 0), some (.ref 73), some (.int i)] [] S I J P (k + 4) (n + 48)) : lz_WP l G p e s m below meth c b 1401 [none, some (.ref 0), some (.ref 73), some (.int i)] [] S I J P k n := by
  obtain ⟨v, S1, I1, J1, P1, S2, I2, J2, P2, hX, hM, h73, hR⟩ := h
  refine lz_aload C (z := 1) (by decide +kernel) rfl rfl ?_
  refine lz_sc C (z := 1) (v := (1 : Int32)) rfl (by decide +kernel) (by decide +kernel) (by decide +kernel) (by decide) (by decide +kernel) (by decide +kernel) H1 ?_
  refine lz_call C (g := mX11_image) (ix := 201) (dg := 2) (r := 0) (cc := 11) (as := [.int (xs (i + 1).toNatClampNeg)]) (st := []) (by decide +kernel) tw_1062 tw_1063 tw_1064 tw_1 tw_1065 ⟨by decide +kernel, by decide +kernel, (by decide +kernel : (parseMethodDescriptor mX11_image.1.desc).map (fun d => d.parameters.length) = some 1)⟩ (by decide) rfl rfl rfl (by decide) (by show k + 0 ≤ _; omega) (by show n + 0 ≤ _; omega) (Nat.le_of_ble_eq_true rfl) h0 (hX _ ?_)
  change lz_WP l G p e s m below meth c b 1410 [none, some (.ref 0), some (.ref 73), some (.int i)] [.int v] S1 I1 J1 P1 (k + mX11_image.2.2.2.2.1) (n + mX11_image.2.2.2.2.2)
  refine lz_aload C (z := 2) (by decide +kernel) rfl rfl ?_
  refine lz_sc C (z := 1) (v := (1 : Int32)) rfl (by decide +kernel) (by decide +kernel) (by decide +kernel) (by decide) (by decide +kernel) (by decide +kernel) H1 ?_
  refine lz_call C (g := mX12_image) (ix := 204) (dg := 1) (r := 73) (cc := 12) (as := [.int (xs (i + 1).toNatClampNeg)]) (st := [.int v]) (by decide +kernel) tw_1770 tw_1771 tw_1772 tw_13 tw_1773 ⟨by decide +kernel, by decide +kernel, (by decide +kernel : (parseMethodDescriptor mX12_image.1.desc).map (fun d => d.parameters.length) = some 1)⟩ (by decide) rfl rfl rfl (by decide) (by show k + 0 + 0 ≤ _; omega) (by show n + 0 + 0 ≤ _; omega) (Nat.le_of_ble_eq_true rfl) h73 (hM _ ?_)
  change lz_WP l G p e s m below meth c b 1419 [none, some (.ref 0), some (.ref 73), some (.int i)] [.int v, .int v] S2 I2 J2 P2 (k + 0) (n + 0)
  refine lz_icmp_eq C (off := 51) (tgt := 1470) (by decide +kernel) rfl rfl ?_
  exact lz_widen (by omega) (by omega) (K S2 I2 J2 P2 hR)
set_option maxRecDepth 100000 in
theorem lw_case46 (C : lz_C G p s m meth c b L xs) {i : Int32} (H1 : vp_in (i + 1) L) (H2 : vp_in (i + 2) L) (H3 : vp_in (i + 3) L) (H4 : vp_in (i + 4) L) (H5 : vp_in (i + 5) L) (h0 : S[0]? = some (16, 0)) (hk : k + 4 ≤ 600000) (hn : n + 48 ≤ 7302250) (h : lz_pr l G R mX11_back 2 mX12_back 1 [.int (xs (i + 1).toNatClampNeg)] S I J P) (K : ∀ S I J P, R S I J P → lz_WP l G p e s m below meth c b 1470 [none, some (.ref 0), some (.ref 73), some (.int i)] [] S I J P (k + 4) (n + 48)) : lz_WP l G p e s m below meth c b 1424 [none, some (.ref 0), some (.ref 73), some (.int i)] [] S I J P k n := by
  obtain ⟨v, S1, I1, J1, P1, S2, I2, J2, P2, hX, hM, h73, hR⟩ := h
  refine lz_aload C (z := 1) (by decide +kernel) rfl rfl ?_
  refine lz_sc C (z := 1) (v := (1 : Int32)) rfl (by decide +kernel) (by decide +kernel) (by decide +kernel) (by decide) (by decide +kernel) (by decide +kernel) H1 ?_
  refine lz_call C (g := mX11_back) (ix := 205) (dg := 2) (r := 0) (cc := 11) (as := [.int (xs (i + 1).toNatClampNeg)]) (st := []) (by decide +kernel) tw_1067 tw_1068 tw_1069 tw_1 tw_1070 ⟨by decide +kernel, by decide +kernel, (by decide +kernel : (parseMethodDescriptor mX11_back.1.desc).map (fun d => d.parameters.length) = some 1)⟩ (by decide) rfl rfl rfl (by decide) (by show k + 0 ≤ _; omega) (by show n + 0 ≤ _; omega) (Nat.le_of_ble_eq_true rfl) h0 (hX _ ?_)
  change lz_WP l G p e s m below meth c b 1433 [none, some (.ref 0), some (.ref 73), some (.int i)] [.int v] S1 I1 J1 P1 (k + mX11_back.2.2.2.2.1) (n + mX11_back.2.2.2.2.2)
  refine lz_aload C (z := 2) (by decide +kernel) rfl rfl ?_
  refine lz_sc C (z := 1) (v := (1 : Int32)) rfl (by decide +kernel) (by decide +kernel) (by decide +kernel) (by decide) (by decide +kernel) (by decide +kernel) H1 ?_
  refine lz_call C (g := mX12_back) (ix := 208) (dg := 1) (r := 73) (cc := 12) (as := [.int (xs (i + 1).toNatClampNeg)]) (st := [.int v]) (by decide +kernel) tw_1777 tw_1778 tw_1779 tw_13 tw_1780 ⟨by decide +kernel, by decide +kernel, (by decide +kernel : (parseMethodDescriptor mX12_back.1.desc).map (fun d => d.parameters.length) = some 1)⟩ (by decide) rfl rfl rfl (by decide) (by show k + 0 + 0 ≤ _; omega) (by show n + 0 + 0 ≤ _; omega) (Nat.le_of_ble_eq_true rfl) h73 (hM _ ?_)
  change lz_WP l G p e s m below meth c b 1442 [none, some (.ref 0), some (.ref 73), some (.int i)] [.int v, .int v] S2 I2 J2 P2 (k + 0) (n + 0)
  refine lz_icmp_eq C (off := 28) (tgt := 1470) (by decide +kernel) rfl rfl ?_
  exact lz_widen (by omega) (by omega) (K S2 I2 J2 P2 hR)
set_option maxRecDepth 100000 in
theorem lw_case47 (C : lz_C G p s m meth c b L xs) {i : Int32} (H1 : vp_in (i + 1) L) (H2 : vp_in (i + 2) L) (H3 : vp_in (i + 3) L) (H4 : vp_in (i + 4) L) (H5 : vp_in (i + 5) L) (h0 : S[0]? = some (16, 0)) (hk : k + 4 ≤ 600000) (hn : n + 48 ≤ 7302250) (h : lz_pr l G R mX11_about 0 mX12_about 0 [.int (xs (i + 1).toNatClampNeg)] S I J P) (K : ∀ S I J P, R S I J P → lz_WP l G p e s m below meth c b 1470 [none, some (.ref 0), some (.ref 73), some (.int i)] [] S I J P (k + 4) (n + 48)) : lz_WP l G p e s m below meth c b 1447 [none, some (.ref 0), some (.ref 73), some (.int i)] [] S I J P k n := by
  obtain ⟨v, S1, I1, J1, P1, S2, I2, J2, P2, hX, hM, h73, hR⟩ := h
  refine lz_aload C (z := 1) (by decide +kernel) rfl rfl ?_
  refine lz_sc C (z := 1) (v := (1 : Int32)) rfl (by decide +kernel) (by decide +kernel) (by decide +kernel) (by decide) (by decide +kernel) (by decide +kernel) H1 ?_
  refine lz_call C (g := mX11_about) (ix := 209) (dg := 0) (r := 0) (cc := 11) (as := [.int (xs (i + 1).toNatClampNeg)]) (st := []) (by decide +kernel) tw_1071 tw_1072 tw_1073 tw_1 tw_1074 ⟨by decide +kernel, by decide +kernel, (by decide +kernel : (parseMethodDescriptor mX11_about.1.desc).map (fun d => d.parameters.length) = some 1)⟩ (by decide) rfl rfl rfl (by decide) (by show k + 0 ≤ _; omega) (by show n + 0 ≤ _; omega) (Nat.le_of_ble_eq_true rfl) h0 (hX _ ?_)
  change lz_WP l G p e s m below meth c b 1456 [none, some (.ref 0), some (.ref 73), some (.int i)] [.int v] S1 I1 J1 P1 (k + mX11_about.2.2.2.2.1) (n + mX11_about.2.2.2.2.2)
  refine lz_aload C (z := 2) (by decide +kernel) rfl rfl ?_
  refine lz_sc C (z := 1) (v := (1 : Int32)) rfl (by decide +kernel) (by decide +kernel) (by decide +kernel) (by decide) (by decide +kernel) (by decide +kernel) H1 ?_
  refine lz_call C (g := mX12_about) (ix := 212) (dg := 0) (r := 73) (cc := 12) (as := [.int (xs (i + 1).toNatClampNeg)]) (st := [.int v]) (by decide +kernel) tw_1781 tw_1782 tw_1783 tw_13 tw_1784 ⟨by decide +kernel, by decide +kernel, (by decide +kernel : (parseMethodDescriptor mX12_about.1.desc).map (fun d => d.parameters.length) = some 1)⟩ (by decide) rfl rfl rfl (by decide) (by show k + 0 + 0 ≤ _; omega) (by show n + 0 + 0 ≤ _; omega) (Nat.le_of_ble_eq_true rfl) h73 (hM _ ?_)
  change lz_WP l G p e s m below meth c b 1465 [none, some (.ref 0), some (.ref 73), some (.int i)] [.int v, .int v] S2 I2 J2 P2 (k + 0) (n + 0)
  refine lz_icmp_eq C (off := 5) (tgt := 1470) (by decide +kernel) rfl rfl ?_
  exact lz_widen (by omega) (by omega) (K S2 I2 J2 P2 hR)
end LCA
