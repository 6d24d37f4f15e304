abbrev iX6 : ab_M := (yX6_init, cX6_init, 1, none, 3, 42)
set_option maxRecDepth 100000 in
set_option maxHeartbeats 4000000 in
theorem iX6_ok {l : Launch} {G : ab_G} {S : ab_S} {I : ab_I} {J : ab_J} {P : ab_P} {Q : ab_Q} {q : Nat} (hL : S.length = q + 1) (hq : S[q]? = some (11, 0)) (hZ : bz_Z (q + 1) I J P) (K : Q none (S ++ [(0, 6), (0, 6), (0, 30)]) (ab_u (ab_u (ab_u I q 3 (0 : Int32)) q 4 (0 : Int32)) q 5 (0 : Int32)) J (ab_u (ab_u (ab_u P q 0 (some (q + 1))) q 1 (some (q + 2))) q 2 (some (q + 3)))) : ab_Call l G iX6 1 [.ref q] S I J P Q := by
  replace K : Q none (((S ++ [(0, 6)]) ++ [(0, 6)]) ++ [(0, 30)]) (ab_u (ab_u (ab_u I q 3 (0 : Int32)) q 4 (0 : Int32)) q 5 (0 : Int32)) J (ab_u (ab_u (ab_u P q 0 (some (q + 1))) q 1 (some (q + 2))) q 2 (some (q + 3))) := by simpa only [List.append_assoc, List.cons_append, List.nil_append] using K
  refine ab_enter rfl (Nat.le_of_ble_eq_true rfl) (ab_wk (ls' := [some (.ref q)]) (ab_le_some (ab_le_nil)) ?_)
  refine ab_aload_n (z := 0) (by decide +kernel) rfl rfl ?_
  refine ab_objInit (ix := 3) (by decide +kernel) tw_232 tw_24 tw_25 (by decide) (Nat.le_of_ble_eq_true rfl) ?_
  refine ab_aload_n (z := 0) (by decide +kernel) rfl rfl ?_
  refine ab_bipush (z := 6) (v := (6 : Int32)) (by decide +kernel) (by decide) ?_
  refine bz_newi (ln := 6) (by decide +kernel) tw_72 (by decide) (by decide) (by decide) hL hZ (by decide) (by decide) ?_
  have hF1 := bz_last hL (a := (0, 6))
  have hL := bz_len hL (a := (0, 6))
  have hZ := bz_Z_m hZ (Nat.le_succ _)
  refine bz_pP6_0 (ix := 9) (by decide +kernel) tw_233 ⟨rfl, rfl⟩ (bz_app hq) ?_
  have hZ := bz_Z_P (k := 0) (x := some (q + 1)) hZ (by omega : q < (q + 2))
  refine ab_aload_n (z := 0) (by decide +kernel) rfl rfl ?_
  refine ab_bipush (z := 6) (v := (6 : Int32)) (by decide +kernel) (by decide) ?_
  refine bz_newi (ln := 6) (by decide +kernel) tw_72 (by decide) (by decide) (by decide) hL hZ (by decide) (by decide) ?_
  have hF2 := bz_last hL (a := (0, 6))
  have hL := bz_len hL (a := (0, 6))
  have hZ := bz_Z_m hZ (Nat.le_succ _)
  refine bz_pP6_1 (ix := 15) (by decide +kernel) tw_239 ⟨rfl, rfl⟩ (bz_app (bz_app hq)) ?_
  have hZ := bz_Z_P (k := 1) (x := some (q + 2)) hZ (by omega : q < (q + 3))
  refine ab_aload_n (z := 0) (by decide +kernel) rfl rfl ?_
  refine ab_bipush (z := 30) (v := (30 : Int32)) (by decide +kernel) (by decide) ?_
  refine bz_newi (ln := 30) (by decide +kernel) tw_72 (by decide) (by decide) (by decide) hL hZ (by decide) (by decide) ?_
  have hF3 := bz_last hL (a := (0, 30))
  have hL := bz_len hL (a := (0, 30))
  have hZ := bz_Z_m hZ (Nat.le_succ _)
  refine bz_pP6_2 (ix := 18) (by decide +kernel) tw_245 ⟨rfl, rfl⟩ (bz_app (bz_app (bz_app hq))) ?_
  have hZ := bz_Z_P (k := 2) (x := some (q + 3)) hZ (by omega : q < (q + 4))
  refine ab_aload_n (z := 0) (by decide +kernel) rfl rfl ?_
  refine ab_iconst (z := 0) (v := (0 : Int32)) (by decide +kernel) (by decide) ?_
  refine bz_pI6_3 (ix := 21) (by decide +kernel) tw_253 ⟨rfl, rfl⟩ (bz_app (bz_app (bz_app hq))) ?_
  have hZ := bz_Z_I (k := 3) (x := (0 : Int32)) hZ (by omega : q < (q + 4))
  refine ab_aload_n (z := 0) (by decide +kernel) rfl rfl ?_
  refine ab_iconst (z := 0) (v := (0 : Int32)) (by decide +kernel) (by decide) ?_
  refine bz_pI6_4 (ix := 25) (by decide +kernel) tw_259 ⟨rfl, rfl⟩ (bz_app (bz_app (bz_app hq))) ?_
  have hZ := bz_Z_I (k := 4) (x := (0 : Int32)) hZ (by omega : q < (q + 4))
  refine ab_aload_n (z := 0) (by decide +kernel) rfl rfl ?_
  refine ab_iconst (z := 0) (v := (0 : Int32)) (by decide +kernel) (by decide) ?_
  refine bz_pI6_5 (ix := 28) (by decide +kernel) tw_264 ⟨rfl, rfl⟩ (bz_app (bz_app (bz_app hq))) ?_
  have hZ := bz_Z_I (k := 5) (x := (0 : Int32)) hZ (by omega : q < (q + 4))
  exact ab_vret (by decide +kernel) rfl (by decide) (by decide) K
abbrev iX7 : ab_M := (yX7_init, cX7_init, 1, none, 1, 1600)
set_option maxRecDepth 100000 in
set_option maxHeartbeats 4000000 in
theorem iX7_ok {l : Launch} {G : ab_G} {S : ab_S} {I : ab_I} {J : ab_J} {P : ab_P} {Q : ab_Q} {q : Nat} (hL : S.length = q + 1) (hq : S[q]? = some (12, 0)) (hZ : bz_Z (q + 1) I J P) (K : Q none (S ++ [(1, 1600)]) (ab_u I q 1 (0 : Int32)) J (ab_u P q 0 (some (q + 1)))) : ab_Call l G iX7 1 [.ref q] S I J P Q := by
  refine ab_enter rfl (Nat.le_of_ble_eq_true rfl) (ab_wk (ls' := [some (.ref q)]) (ab_le_some (ab_le_nil)) ?_)
  refine ab_aload_n (z := 0) (by decide +kernel) rfl rfl ?_
  refine ab_objInit (ix := 3) (by decide +kernel) tw_31 tw_24 tw_25 (by decide) (Nat.le_of_ble_eq_true rfl) ?_
  refine ab_aload_n (z := 0) (by decide +kernel) rfl rfl ?_
  refine ab_sipush (z := 1600) (v := (1600 : Int32)) (by decide +kernel) (by decide) ?_
  refine bz_newb (ln := 1600) (by decide +kernel) tw_41 (by decide) (by decide) (by decide) hL hZ (by decide) (by decide) ?_
  have hF1 := bz_last hL (a := (1, 1600))
  have hL := bz_len hL (a := (1, 1600))
  have hZ := bz_Z_m hZ (Nat.le_succ _)
  refine bz_pP7_0 (ix := 9) (by decide +kernel) tw_32 ⟨rfl, rfl⟩ (bz_app hq) ?_
  have hZ := bz_Z_P (k := 0) (x := some (q + 1)) hZ (by omega : q < (q + 2))
  refine ab_aload_n (z := 0) (by decide +kernel) rfl rfl ?_
  refine ab_iconst (z := 0) (v := (0 : Int32)) (by decide +kernel) (by decide) ?_
  refine bz_pI7_1 (ix := 15) (by decide +kernel) tw_33 ⟨rfl, rfl⟩ (bz_app hq) ?_
  have hZ := bz_Z_I (k := 1) (x := (0 : Int32)) hZ (by omega : q < (q + 2))
  exact ab_vret (by decide +kernel) rfl (by decide) (by decide) K
abbrev iX2 : ab_M := (yX2_init, cX2_init, 1, none, 3, 336)
set_option maxRecDepth 100000 in
set_option maxHeartbeats 4000000 in
theorem iX2_ok {l : Launch} {G : ab_G} {S : ab_S} {I : ab_I} {J : ab_J} {P : ab_P} {Q : ab_Q} {q : Nat} (hL : S.length = q + 1) (hq : S[q]? = some (7, 0)) (hZ : bz_Z (q + 1) I J P) (K : Q none (S ++ [(0, 300), (0, 30), (0, 6)]) (ab_u (ab_u I q 3 (0 : Int32)) q 4 (0 : Int32)) J (ab_u (ab_u (ab_u P q 0 (some (q + 1))) q 1 (some (q + 2))) q 2 (some (q + 3)))) : ab_Call l G iX2 1 [.ref q] S I J P Q := by
  replace K : Q none (((S ++ [(0, 300)]) ++ [(0, 30)]) ++ [(0, 6)]) (ab_u (ab_u I q 3 (0 : Int32)) q 4 (0 : Int32)) J (ab_u (ab_u (ab_u P q 0 (some (q + 1))) q 1 (some (q + 2))) q 2 (some (q + 3))) := by simpa only [List.append_assoc, List.cons_append, List.nil_append] using K
  refine ab_enter rfl (Nat.le_of_ble_eq_true rfl) (ab_wk (ls' := [some (.ref q)]) (ab_le_some (ab_le_nil)) ?_)
  refine ab_aload_n (z := 0) (by decide +kernel) rfl rfl ?_
  refine ab_objInit (ix := 3) (by decide +kernel) tw_53 tw_24 tw_25 (by decide) (Nat.le_of_ble_eq_true rfl) ?_
  refine ab_aload_n (z := 0) (by decide +kernel) rfl rfl ?_
  refine ab_sipush (z := 300) (v := (300 : Int32)) (by decide +kernel) (by decide) ?_
  refine bz_newi (ln := 300) (by decide +kernel) tw_72 (by decide) (by decide) (by decide) hL hZ (by decide) (by decide) ?_
  have hF1 := bz_last hL (a := (0, 300))
  have hL := bz_len hL (a := (0, 300))
  have hZ := bz_Z_m hZ (Nat.le_succ _)
  refine bz_pP2_0 (ix := 9) (by decide +kernel) tw_54 ⟨rfl, rfl⟩ (bz_app hq) ?_
  have hZ := bz_Z_P (k := 0) (x := some (q + 1)) hZ (by omega : q < (q + 2))
  refine ab_aload_n (z := 0) (by decide +kernel) rfl rfl ?_
  refine ab_bipush (z := 30) (v := (30 : Int32)) (by decide +kernel) (by decide) ?_
  refine bz_newi (ln := 30) (by decide +kernel) tw_72 (by decide) (by decide) (by decide) hL hZ (by decide) (by decide) ?_
  have hF2 := bz_last hL (a := (0, 30))
  have hL := bz_len hL (a := (0, 30))
  have hZ := bz_Z_m hZ (Nat.le_succ _)
  refine bz_pP2_1 (ix := 15) (by decide +kernel) tw_55 ⟨rfl, rfl⟩ (bz_app (bz_app hq)) ?_
  have hZ := bz_Z_P (k := 1) (x := some (q + 2)) hZ (by omega : q < (q + 3))
  refine ab_aload_n (z := 0) (by decide +kernel) rfl rfl ?_
  refine ab_bipush (z := 6) (v := (6 : Int32)) (by decide +kernel) (by decide) ?_
  refine bz_newi (ln := 6) (by decide +kernel) tw_72 (by decide) (by decide) (by decide) hL hZ (by decide) (by decide) ?_
  have hF3 := bz_last hL (a := (0, 6))
  have hL := bz_len hL (a := (0, 6))
  have hZ := bz_Z_m hZ (Nat.le_succ _)
  refine bz_pP2_2 (ix := 18) (by decide +kernel) tw_56 ⟨rfl, rfl⟩ (bz_app (bz_app (bz_app hq))) ?_
  have hZ := bz_Z_P (k := 2) (x := some (q + 3)) hZ (by omega : q < (q + 4))
  refine ab_aload_n (z := 0) (by decide +kernel) rfl rfl ?_
  refine ab_iconst (z := 0) (v := (0 : Int32)) (by decide +kernel) (by decide) ?_
  refine bz_pI2_3 (ix := 21) (by decide +kernel) tw_57 ⟨rfl, rfl⟩ (bz_app (bz_app (bz_app hq))) ?_
  have hZ := bz_Z_I (k := 3) (x := (0 : Int32)) hZ (by omega : q < (q + 4))
  refine ab_aload_n (z := 0) (by decide +kernel) rfl rfl ?_
  refine ab_iconst (z := 0) (v := (0 : Int32)) (by decide +kernel) (by decide) ?_
  refine bz_pI2_4 (ix := 25) (by decide +kernel) tw_58 ⟨rfl, rfl⟩ (bz_app (bz_app (bz_app hq))) ?_
  have hZ := bz_Z_I (k := 4) (x := (0 : Int32)) hZ (by omega : q < (q + 4))
  exact ab_vret (by decide +kernel) rfl (by decide) (by decide) K
abbrev iX9 : ab_M := (yX9_init, cX9_init, 1, none, 7, 382)
set_option maxRecDepth 100000 in
set_option maxHeartbeats 4000000 in
theorem iX9_ok {l : Launch} {G : ab_G} {S : ab_S} {I : ab_I} {J : ab_J} {P : ab_P} {Q : ab_Q} {q : Nat} (hL : S.length = q + 1) (hq : S[q]? = some (14, 0)) (hZ : bz_Z (q + 1) I J P) (K : Q none (S ++ [(0, 6), (0, 5), (0, 30), (7, 0), (0, 300), (0, 30), (0, 6)]) (ab_u (ab_u (ab_u (ab_u (ab_u (ab_u (ab_u (ab_u I (q + 4) 3 (0 : Int32)) (q + 4) 4 (0 : Int32)) q 4 (0 : Int32)) q 5 (0 : Int32)) q 6 (0 : Int32)) q 7 (-1 : Int32)) q 8 (0 : Int32)) q 9 (0 : Int32)) J (ab_u (ab_u (ab_u (ab_u (ab_u (ab_u (ab_u P q 0 (some (q + 1))) q 1 (some (q + 2))) q 2 (some (q + 3))) (q + 4) 0 (some (q + 5))) (q + 4) 1 (some (q + 6))) (q + 4) 2 (some (q + 7))) q 3 (some (q + 4)))) : ab_Call l G iX9 2 [.ref q] S I J P Q := by
  replace K : Q none (((((S ++ [(0, 6)]) ++ [(0, 5)]) ++ [(0, 30)]) ++ [(7, 0)]) ++ [(0, 300), (0, 30), (0, 6)]) (ab_u (ab_u (ab_u (ab_u (ab_u (ab_u (ab_u (ab_u I (q + 4) 3 (0 : Int32)) (q + 4) 4 (0 : Int32)) q 4 (0 : Int32)) q 5 (0 : Int32)) q 6 (0 : Int32)) q 7 (-1 : Int32)) q 8 (0 : Int32)) q 9 (0 : Int32)) J (ab_u (ab_u (ab_u (ab_u (ab_u (ab_u (ab_u P q 0 (some (q + 1))) q 1 (some (q + 2))) q 2 (some (q + 3))) (q + 4) 0 (some (q + 5))) (q + 4) 1 (some (q + 6))) (q + 4) 2 (some (q + 7))) q 3 (some (q + 4))) := by simpa only [List.append_assoc, List.cons_append, List.nil_append] using K
  refine ab_enter rfl (Nat.le_of_ble_eq_true rfl) (ab_wk (ls' := [some (.ref q)]) (ab_le_some (ab_le_nil)) ?_)
  refine ab_aload_n (z := 0) (by decide +kernel) rfl rfl ?_
  refine ab_objInit (ix := 3) (by decide +kernel) tw_47 tw_24 tw_25 (by decide) (Nat.le_of_ble_eq_true rfl) ?_
  refine ab_aload_n (z := 0) (by decide +kernel) rfl rfl ?_
  refine ab_bipush (z := 6) (v := (6 : Int32)) (by decide +kernel) (by decide) ?_
  refine bz_newi (ln := 6) (by decide +kernel) tw_72 (by decide) (by decide) (by decide) hL hZ (by decide) (by decide) ?_
  have hF1 := bz_last hL (a := (0, 6))
  have hL := bz_len hL (a := (0, 6))
  have hZ := bz_Z_m hZ (Nat.le_succ _)
  refine bz_pP9_0 (ix := 9) (by decide +kernel) tw_73 ⟨rfl, rfl⟩ (bz_app hq) ?_
  have hZ := bz_Z_P (k := 0) (x := some (q + 1)) hZ (by omega : q < (q + 2))
  refine ab_aload_n (z := 0) (by decide +kernel) rfl rfl ?_
  refine ab_iconst (z := 5) (v := (5 : Int32)) (by decide +kernel) (by decide) ?_
  refine bz_newi (ln := 5) (by decide +kernel) tw_72 (by decide) (by decide) (by decide) hL hZ (by decide) (by decide) ?_
  have hF2 := bz_last hL (a := (0, 5))
  have hL := bz_len hL (a := (0, 5))
  have hZ := bz_Z_m hZ (Nat.le_succ _)
  refine bz_pP9_1 (ix := 15) (by decide +kernel) tw_75 ⟨rfl, rfl⟩ (bz_app (bz_app hq)) ?_
  have hZ := bz_Z_P (k := 1) (x := some (q + 2)) hZ (by omega : q < (q + 3))
  refine ab_aload_n (z := 0) (by decide +kernel) rfl rfl ?_
  refine ab_bipush (z := 30) (v := (30 : Int32)) (by decide +kernel) (by decide) ?_
  refine bz_newi (ln := 30) (by decide +kernel) tw_72 (by decide) (by decide) (by decide) hL hZ (by decide) (by decide) ?_
  have hF3 := bz_last hL (a := (0, 30))
  have hL := bz_len hL (a := (0, 30))
  have hZ := bz_Z_m hZ (Nat.le_succ _)
  refine bz_pP9_2 (ix := 18) (by decide +kernel) tw_79 ⟨rfl, rfl⟩ (bz_app (bz_app (bz_app hq))) ?_
  have hZ := bz_Z_P (k := 2) (x := some (q + 3)) hZ (by omega : q < (q + 4))
  refine ab_aload_n (z := 0) (by decide +kernel) rfl rfl ?_
  refine bz_new2 (ix := 21) (by decide +kernel) tw_48 tw_49 tw_4 hL hZ (by decide) (by decide) ?_
  have hF4 := bz_last hL (a := (7, 0))
  have hL := bz_len hL (a := (7, 0))
  have hZ := bz_Z_m hZ (Nat.le_succ _)
  refine ab_dup (by decide +kernel) rfl ?_
  refine ab_callIN (g := iX2) (host := "BellRingers") (ix := 23) (dg := 1) (r := (q + 4)) (as := []) (st := [.ref (q + 4), .ref q]) (by decide +kernel) tn_50 tw_51 tw_4 tw_52 rfl rfl ⟨by decide +kernel, by decide +kernel, (by decide +kernel : (parseMethodDescriptor iX2.1.desc).map (fun d => d.parameters.length) = some 0)⟩ (by decide) rfl (by decide) (by decide) (by decide) (Nat.le_of_ble_eq_true rfl) (iX2_ok hL hF4 hZ ?_)
  have hL := bz_lenL hL (T := [(0, 300), (0, 30), (0, 6)])
  replace hL : (((((S ++ [(0, 6)]) ++ [(0, 5)]) ++ [(0, 30)]) ++ [(7, 0)]) ++ [(0, 300), (0, 30), (0, 6)]).length = q + 8 := hL
  have hZ := bz_Z_m hZ (by omega : (q + 5) ≤ (q + 8))
  replace hZ : bz_Z (q + 8) (ab_u (ab_u I (q + 4) 3 (0 : Int32)) (q + 4) 4 (0 : Int32)) J (ab_u (ab_u (ab_u (ab_u (ab_u (ab_u P q 0 (some (q + 1))) q 1 (some (q + 2))) q 2 (some (q + 3))) (q + 4) 0 (some (q + 5))) (q + 4) 1 (some (q + 6))) (q + 4) 2 (some (q + 7))) := by
    exact (bz_Z_P (bz_Z_P (bz_Z_P (bz_Z_I (bz_Z_I hZ (by omega)) (by omega)) (by omega)) (by omega)) (by omega))
  change ab_WP l G iX9 2 35 [some (.ref q)] [.ref (q + 4), .ref q] (((((S ++ [(0, 6)]) ++ [(0, 5)]) ++ [(0, 30)]) ++ [(7, 0)]) ++ [(0, 300), (0, 30), (0, 6)]) (ab_u (ab_u I (q + 4) 3 (0 : Int32)) (q + 4) 4 (0 : Int32)) J (ab_u (ab_u (ab_u (ab_u (ab_u (ab_u P q 0 (some (q + 1))) q 1 (some (q + 2))) q 2 (some (q + 3))) (q + 4) 0 (some (q + 5))) (q + 4) 1 (some (q + 6))) (q + 4) 2 (some (q + 7))) _ _ Q
  refine bz_pP9_3 (ix := 24) (by decide +kernel) tw_81 ⟨rfl, rfl⟩ (bz_app (bz_app (bz_app (bz_app (bz_app hq))))) ?_
  have hZ := bz_Z_P (k := 3) (x := some (q + 4)) hZ (by omega : q < (q + 8))
  refine ab_aload_n (z := 0) (by decide +kernel) rfl rfl ?_
  refine ab_iconst (z := 0) (v := (0 : Int32)) (by decide +kernel) (by decide) ?_
  refine bz_pI9_4 (ix := 28) (by decide +kernel) tw_85 ⟨rfl, rfl⟩ (bz_app (bz_app (bz_app (bz_app (bz_app hq))))) ?_
  have hZ := bz_Z_I (k := 4) (x := (0 : Int32)) hZ (by omega : q < (q + 8))
  refine ab_aload_n (z := 0) (by decide +kernel) rfl rfl ?_
  refine ab_iconst (z := 0) (v := (0 : Int32)) (by decide +kernel) (by decide) ?_
  refine bz_pI9_5 (ix := 32) (by decide +kernel) tw_92 ⟨rfl, rfl⟩ (bz_app (bz_app (bz_app (bz_app (bz_app hq))))) ?_
  have hZ := bz_Z_I (k := 5) (x := (0 : Int32)) hZ (by omega : q < (q + 8))
  refine ab_aload_n (z := 0) (by decide +kernel) rfl rfl ?_
  refine ab_iconst (z := 0) (v := (0 : Int32)) (by decide +kernel) (by decide) ?_
  refine bz_pI9_6 (ix := 35) (by decide +kernel) tw_99 ⟨rfl, rfl⟩ (bz_app (bz_app (bz_app (bz_app (bz_app hq))))) ?_
  have hZ := bz_Z_I (k := 6) (x := (0 : Int32)) hZ (by omega : q < (q + 8))
  refine ab_aload_n (z := 0) (by decide +kernel) rfl rfl ?_
  refine ab_iconst (z := -1) (v := (-1 : Int32)) (by decide +kernel) (by decide) ?_
  refine bz_pI9_7 (ix := 38) (by decide +kernel) tw_103 ⟨rfl, rfl⟩ (bz_app (bz_app (bz_app (bz_app (bz_app hq))))) ?_
  have hZ := bz_Z_I (k := 7) (x := (-1 : Int32)) hZ (by omega : q < (q + 8))
  refine ab_aload_n (z := 0) (by decide +kernel) rfl rfl ?_
  refine ab_iconst (z := 0) (v := (0 : Int32)) (by decide +kernel) (by decide) ?_
  refine bz_pI9_8 (ix := 41) (by decide +kernel) tw_106 ⟨rfl, rfl⟩ (bz_app (bz_app (bz_app (bz_app (bz_app hq))))) ?_
  have hZ := bz_Z_I (k := 8) (x := (0 : Int32)) hZ (by omega : q < (q + 8))
  refine ab_aload_n (z := 0) (by decide +kernel) rfl rfl ?_
  refine ab_iconst (z := 0) (v := (0 : Int32)) (by decide +kernel) (by decide) ?_
  refine bz_pI9_9 (ix := 44) (by decide +kernel) tw_110 ⟨rfl, rfl⟩ (bz_app (bz_app (bz_app (bz_app (bz_app hq))))) ?_
  have hZ := bz_Z_I (k := 9) (x := (0 : Int32)) hZ (by omega : q < (q + 8))
  exact ab_vret (by decide +kernel) rfl (by decide) (by decide) K
abbrev iX8 : ab_M := (yX8_init, cX8_init, 2, none, 0, 0)
set_option maxRecDepth 100000 in
set_option maxHeartbeats 4000000 in
theorem iX8_ok {l : Launch} {G : ab_G} {S : ab_S} {I : ab_I} {J : ab_J} {P : ab_P} {Q : ab_Q} {q a1 : Nat} (hL : S.length = q + 1) (hq : S[q]? = some (13, 0)) (hZ : bz_Z (q + 1) I J P) (K : Q none S (ab_u (ab_u (ab_u (ab_u I q 1 (0 : Int32)) q 2 (0 : Int32)) q 3 (0 : Int32)) q 4 (0 : Int32)) (ab_u J q 5 (0 : Int64)) (ab_u P q 0 (some a1))) : ab_Call l G iX8 1 [.ref q, .ref a1] S I J P Q := by
  refine ab_enter rfl (Nat.le_of_ble_eq_true rfl) (ab_wk (ls' := [some (.ref q), some (.ref a1)]) (ab_le_some (ab_le_some (ab_le_nil))) ?_)
  refine ab_aload_n (z := 0) (by decide +kernel) rfl rfl ?_
  refine ab_objInit (ix := 3) (by decide +kernel) tw_146 tw_24 tw_25 (by decide) (Nat.le_of_ble_eq_true rfl) ?_
  refine ab_aload_n (z := 0) (by decide +kernel) rfl rfl ?_
  refine ab_iconst (z := 0) (v := (0 : Int32)) (by decide +kernel) (by decide) ?_
  refine bz_pI8_1 (ix := 9) (by decide +kernel) tw_148 ⟨rfl, rfl⟩ hq ?_
  have hZ := bz_Z_I (k := 1) (x := (0 : Int32)) hZ (by omega : q < (q + 1))
  refine ab_aload_n (z := 0) (by decide +kernel) rfl rfl ?_
  refine ab_iconst (z := 0) (v := (0 : Int32)) (by decide +kernel) (by decide) ?_
  refine bz_pI8_2 (ix := 15) (by decide +kernel) tw_149 ⟨rfl, rfl⟩ hq ?_
  have hZ := bz_Z_I (k := 2) (x := (0 : Int32)) hZ (by omega : q < (q + 1))
  refine ab_aload_n (z := 0) (by decide +kernel) rfl rfl ?_
  refine ab_iconst (z := 0) (v := (0 : Int32)) (by decide +kernel) (by decide) ?_
  refine bz_pI8_3 (ix := 18) (by decide +kernel) tw_151 ⟨rfl, rfl⟩ hq ?_
  have hZ := bz_Z_I (k := 3) (x := (0 : Int32)) hZ (by omega : q < (q + 1))
  refine ab_aload_n (z := 0) (by decide +kernel) rfl rfl ?_
  refine ab_iconst (z := 0) (v := (0 : Int32)) (by decide +kernel) (by decide) ?_
  refine bz_pI8_4 (ix := 21) (by decide +kernel) tw_153 ⟨rfl, rfl⟩ hq ?_
  have hZ := bz_Z_I (k := 4) (x := (0 : Int32)) hZ (by omega : q < (q + 1))
  refine ab_aload_n (z := 0) (by decide +kernel) rfl rfl ?_
  refine ab_lconst (z := 0) (v := (0 : Int64)) (by decide +kernel) (by decide) ?_
  refine bz_pJ8_5 (ix := 24) (by decide +kernel) tw_155 ⟨rfl, rfl⟩ hq ?_
  have hZ := bz_Z_J (k := 5) (x := (0 : Int64)) hZ (by omega : q < (q + 1))
  refine ab_aload_n (z := 0) (by decide +kernel) rfl rfl ?_
  refine ab_aload_n (z := 1) (by decide +kernel) rfl rfl ?_
  refine bz_pP8_0 (ix := 28) (by decide +kernel) tw_147 ⟨rfl, rfl⟩ hq ?_
  have hZ := bz_Z_P (k := 0) (x := some a1) hZ (by omega : q < (q + 1))
  exact ab_vret (by decide +kernel) rfl (by decide) (by decide) K
abbrev iX4 : ab_M := (yX4_init, cX4_init, 2, none, 11, 409)
set_option maxRecDepth 100000 in
set_option maxHeartbeats 4000000 in
theorem iX4_ok {l : Launch} {G : ab_G} {S : ab_S} {I : ab_I} {J : ab_J} {P : ab_P} {Q : ab_Q} {q a1 : Nat} (hL : S.length = q + 1) (hq : S[q]? = some (9, 0)) (hZ : bz_Z (q + 1) I J P) (K : Q none (S ++ [(3, 6), (3, 5), (14, 0), (0, 6), (0, 5), (0, 30), (7, 0), (0, 300), (0, 30), (0, 6), (13, 0)]) (ab_u (ab_u (ab_u (ab_u (ab_u (ab_u (ab_u (ab_u (ab_u (ab_u (ab_u (ab_u (ab_u (ab_u (ab_u (ab_u (ab_u (ab_u I q 3 (0 : Int32)) q 4 (0 : Int32)) q 5 (0 : Int32)) q 6 (0 : Int32)) (q + 7) 3 (0 : Int32)) (q + 7) 4 (0 : Int32)) (q + 3) 4 (0 : Int32)) (q + 3) 5 (0 : Int32)) (q + 3) 6 (0 : Int32)) (q + 3) 7 (-1 : Int32)) (q + 3) 8 (0 : Int32)) (q + 3) 9 (0 : Int32)) q 8 (0 : Int32)) q 9 (-1 : Int32)) (q + 11) 1 (0 : Int32)) (q + 11) 2 (0 : Int32)) (q + 11) 3 (0 : Int32)) (q + 11) 4 (0 : Int32)) (ab_u J (q + 11) 5 (0 : Int64)) (ab_u (ab_u (ab_u (ab_u (ab_u (ab_u (ab_u (ab_u (ab_u (ab_u (ab_u (ab_u P q 1 (some (q + 1))) q 2 (some (q + 2))) (q + 3) 0 (some (q + 4))) (q + 3) 1 (some (q + 5))) (q + 3) 2 (some (q + 6))) (q + 7) 0 (some (q + 8))) (q + 7) 1 (some (q + 9))) (q + 7) 2 (some (q + 10))) (q + 3) 3 (some (q + 7))) q 7 (some (q + 3))) (q + 11) 0 (some a1)) q 0 (some (q + 11)))) : ab_Call l G iX4 3 [.ref q, .ref a1] S I J P Q := by
  replace K : Q none (((((S ++ [(3, 6)]) ++ [(3, 5)]) ++ [(14, 0)]) ++ [(0, 6), (0, 5), (0, 30), (7, 0), (0, 300), (0, 30), (0, 6)]) ++ [(13, 0)]) (ab_u (ab_u (ab_u (ab_u (ab_u (ab_u (ab_u (ab_u (ab_u (ab_u (ab_u (ab_u (ab_u (ab_u (ab_u (ab_u (ab_u (ab_u I q 3 (0 : Int32)) q 4 (0 : Int32)) q 5 (0 : Int32)) q 6 (0 : Int32)) (q + 7) 3 (0 : Int32)) (q + 7) 4 (0 : Int32)) (q + 3) 4 (0 : Int32)) (q + 3) 5 (0 : Int32)) (q + 3) 6 (0 : Int32)) (q + 3) 7 (-1 : Int32)) (q + 3) 8 (0 : Int32)) (q + 3) 9 (0 : Int32)) q 8 (0 : Int32)) q 9 (-1 : Int32)) (q + 11) 1 (0 : Int32)) (q + 11) 2 (0 : Int32)) (q + 11) 3 (0 : Int32)) (q + 11) 4 (0 : Int32)) (ab_u J (q + 11) 5 (0 : Int64)) (ab_u (ab_u (ab_u (ab_u (ab_u (ab_u (ab_u (ab_u (ab_u (ab_u (ab_u (ab_u P q 1 (some (q + 1))) q 2 (some (q + 2))) (q + 3) 0 (some (q + 4))) (q + 3) 1 (some (q + 5))) (q + 3) 2 (some (q + 6))) (q + 7) 0 (some (q + 8))) (q + 7) 1 (some (q + 9))) (q + 7) 2 (some (q + 10))) (q + 3) 3 (some (q + 7))) q 7 (some (q + 3))) (q + 11) 0 (some a1)) q 0 (some (q + 11))) := by simpa only [List.append_assoc, List.cons_append, List.nil_append] using K
  refine ab_enter rfl (Nat.le_of_ble_eq_true rfl) (ab_wk (ls' := [some (.ref q), some (.ref a1)]) (ab_le_some (ab_le_some (ab_le_nil))) ?_)
  refine ab_aload_n (z := 0) (by decide +kernel) rfl rfl ?_
  refine ab_objInit (ix := 3) (by decide +kernel) tw_138 tw_24 tw_25 (by decide) (Nat.le_of_ble_eq_true rfl) ?_
  refine ab_aload_n (z := 0) (by decide +kernel) rfl rfl ?_
  refine ab_bipush (z := 6) (v := (6 : Int32)) (by decide +kernel) (by decide) ?_
  refine bz_newl (ln := 6) (by decide +kernel) tw_170 (by decide) (by decide) (by decide) hL hZ (by decide) (by decide) ?_
  have hF1 := bz_last hL (a := (3, 6))
  have hL := bz_len hL (a := (3, 6))
  have hZ := bz_Z_m hZ (Nat.le_succ _)
  refine bz_pP4_1 (ix := 9) (by decide +kernel) tw_172 ⟨rfl, rfl⟩ (bz_app hq) ?_
  have hZ := bz_Z_P (k := 1) (x := some (q + 1)) hZ (by omega : q < (q + 2))
  refine ab_aload_n (z := 0) (by decide +kernel) rfl rfl ?_
  refine ab_iconst (z := 5) (v := (5 : Int32)) (by decide +kernel) (by decide) ?_
  refine bz_newl (ln := 5) (by decide +kernel) tw_170 (by decide) (by decide) (by decide) hL hZ (by decide) (by decide) ?_
  have hF2 := bz_last hL (a := (3, 5))
  have hL := bz_len hL (a := (3, 5))
  have hZ := bz_Z_m hZ (Nat.le_succ _)
  refine bz_pP4_2 (ix := 15) (by decide +kernel) tw_173 ⟨rfl, rfl⟩ (bz_app (bz_app hq)) ?_
  have hZ := bz_Z_P (k := 2) (x := some (q + 2)) hZ (by omega : q < (q + 3))
  refine ab_aload_n (z := 0) (by decide +kernel) rfl rfl ?_
  refine ab_iconst (z := 0) (v := (0 : Int32)) (by decide +kernel) (by decide) ?_
  refine bz_pI4_3 (ix := 18) (by decide +kernel) tw_174 ⟨rfl, rfl⟩ (bz_app (bz_app hq)) (by decide) ?_
  have hZ := bz_Z_I (k := 3) (x := (0 : Int32)) hZ (by omega : q < (q + 3))
  refine ab_aload_n (z := 0) (by decide +kernel) rfl rfl ?_
  refine ab_iconst (z := 0) (v := (0 : Int32)) (by decide +kernel) (by decide) ?_
  refine bz_pI4_4 (ix := 22) (by decide +kernel) tw_175 ⟨rfl, rfl⟩ (bz_app (bz_app hq)) (by decide) ?_
  have hZ := bz_Z_I (k := 4) (x := (0 : Int32)) hZ (by omega : q < (q + 3))
  refine ab_aload_n (z := 0) (by decide +kernel) rfl rfl ?_
  refine ab_iconst (z := 0) (v := (0 : Int32)) (by decide +kernel) (by decide) ?_
  refine bz_pI4_5 (ix := 25) (by decide +kernel) tw_176 ⟨rfl, rfl⟩ (bz_app (bz_app hq)) (by decide) ?_
  have hZ := bz_Z_I (k := 5) (x := (0 : Int32)) hZ (by omega : q < (q + 3))
  refine ab_aload_n (z := 0) (by decide +kernel) rfl rfl ?_
  refine ab_iconst (z := 0) (v := (0 : Int32)) (by decide +kernel) (by decide) ?_
  refine bz_pI4_6 (ix := 28) (by decide +kernel) tw_177 ⟨rfl, rfl⟩ (bz_app (bz_app hq)) ?_
  have hZ := bz_Z_I (k := 6) (x := (0 : Int32)) hZ (by omega : q < (q + 3))
  refine ab_aload_n (z := 0) (by decide +kernel) rfl rfl ?_
  refine bz_new9 (ix := 32) (by decide +kernel) tw_139 tw_43 tw_3 hL hZ (by decide) (by decide) ?_
  have hF3 := bz_last hL (a := (14, 0))
  have hL := bz_len hL (a := (14, 0))
  have hZ := bz_Z_m hZ (Nat.le_succ _)
  refine ab_dup (by decide +kernel) rfl ?_
  refine ab_callIN (g := iX9) (host := "BellRingers") (ix := 34) (dg := 2) (r := (q + 3)) (as := []) (st := [.ref (q + 3), .ref q]) (by decide +kernel) tn_140 tw_45 tw_3 tw_46 rfl rfl ⟨by decide +kernel, by decide +kernel, (by decide +kernel : (parseMethodDescriptor iX9.1.desc).map (fun d => d.parameters.length) = some 0)⟩ (by decide) rfl (by decide) (by decide) (by decide) (Nat.le_of_ble_eq_true rfl) (iX9_ok hL hF3 hZ ?_)
  have hL := bz_lenL hL (T := [(0, 6), (0, 5), (0, 30), (7, 0), (0, 300), (0, 30), (0, 6)])
  replace hL : ((((S ++ [(3, 6)]) ++ [(3, 5)]) ++ [(14, 0)]) ++ [(0, 6), (0, 5), (0, 30), (7, 0), (0, 300), (0, 30), (0, 6)]).length = q + 11 := hL
  have hZ := bz_Z_m hZ (by omega : (q + 4) ≤ (q + 11))
  replace hZ : bz_Z (q + 11) (ab_u (ab_u (ab_u (ab_u (ab_u (ab_u (ab_u (ab_u (ab_u (ab_u (ab_u (ab_u I q 3 (0 : Int32)) q 4 (0 : Int32)) q 5 (0 : Int32)) q 6 (0 : Int32)) (q + 7) 3 (0 : Int32)) (q + 7) 4 (0 : Int32)) (q + 3) 4 (0 : Int32)) (q + 3) 5 (0 : Int32)) (q + 3) 6 (0 : Int32)) (q + 3) 7 (-1 : Int32)) (q + 3) 8 (0 : Int32)) (q + 3) 9 (0 : Int32)) J (ab_u (ab_u (ab_u (ab_u (ab_u (ab_u (ab_u (ab_u (ab_u P q 1 (some (q + 1))) q 2 (some (q + 2))) (q + 3) 0 (some (q + 4))) (q + 3) 1 (some (q + 5))) (q + 3) 2 (some (q + 6))) (q + 7) 0 (some (q + 8))) (q + 7) 1 (some (q + 9))) (q + 7) 2 (some (q + 10))) (q + 3) 3 (some (q + 7))) := by
    exact (bz_Z_P (bz_Z_P (bz_Z_P (bz_Z_P (bz_Z_P (bz_Z_P (bz_Z_P (bz_Z_I (bz_Z_I (bz_Z_I (bz_Z_I (bz_Z_I (bz_Z_I (bz_Z_I (bz_Z_I hZ (by omega)) (by omega)) (by omega)) (by omega)) (by omega)) (by omega)) (by omega)) (by omega)) (by omega)) (by omega)) (by omega)) (by omega)) (by omega)) (by omega)) (by omega))
  change ab_WP l G iX4 3 47 [some (.ref q), some (.ref a1)] [.ref (q + 3), .ref q] ((((S ++ [(3, 6)]) ++ [(3, 5)]) ++ [(14, 0)]) ++ [(0, 6), (0, 5), (0, 30), (7, 0), (0, 300), (0, 30), (0, 6)]) (ab_u (ab_u (ab_u (ab_u (ab_u (ab_u (ab_u (ab_u (ab_u (ab_u (ab_u (ab_u I q 3 (0 : Int32)) q 4 (0 : Int32)) q 5 (0 : Int32)) q 6 (0 : Int32)) (q + 7) 3 (0 : Int32)) (q + 7) 4 (0 : Int32)) (q + 3) 4 (0 : Int32)) (q + 3) 5 (0 : Int32)) (q + 3) 6 (0 : Int32)) (q + 3) 7 (-1 : Int32)) (q + 3) 8 (0 : Int32)) (q + 3) 9 (0 : Int32)) J (ab_u (ab_u (ab_u (ab_u (ab_u (ab_u (ab_u (ab_u (ab_u P q 1 (some (q + 1))) q 2 (some (q + 2))) (q + 3) 0 (some (q + 4))) (q + 3) 1 (some (q + 5))) (q + 3) 2 (some (q + 6))) (q + 7) 0 (some (q + 8))) (q + 7) 1 (some (q + 9))) (q + 7) 2 (some (q + 10))) (q + 3) 3 (some (q + 7))) _ _ Q
  refine bz_pP4_7 (ix := 35) (by decide +kernel) tw_178 ⟨rfl, rfl⟩ (bz_app (bz_app (bz_app (bz_app hq)))) ?_
  have hZ := bz_Z_P (k := 7) (x := some (q + 3)) hZ (by omega : q < (q + 11))
  refine ab_aload_n (z := 0) (by decide +kernel) rfl rfl ?_
  refine ab_iconst (z := 0) (v := (0 : Int32)) (by decide +kernel) (by decide) ?_
  refine bz_pI4_8 (ix := 39) (by decide +kernel) tw_180 ⟨rfl, rfl⟩ (bz_app (bz_app (bz_app (bz_app hq)))) ?_
  have hZ := bz_Z_I (k := 8) (x := (0 : Int32)) hZ (by omega : q < (q + 11))
  refine ab_aload_n (z := 0) (by decide +kernel) rfl rfl ?_
  refine ab_iconst (z := -1) (v := (-1 : Int32)) (by decide +kernel) (by decide) ?_
  refine bz_pI4_9 (ix := 42) (by decide +kernel) tw_182 ⟨rfl, rfl⟩ (bz_app (bz_app (bz_app (bz_app hq)))) ?_
  have hZ := bz_Z_I (k := 9) (x := (-1 : Int32)) hZ (by omega : q < (q + 11))
  refine ab_aload_n (z := 0) (by decide +kernel) rfl rfl ?_
  refine bz_new8 (ix := 45) (by decide +kernel) tw_141 tw_142 tw_6 hL hZ (by decide) (by decide) ?_
  have hF11 := bz_last hL (a := (13, 0))
  have hL := bz_len hL (a := (13, 0))
  have hZ := bz_Z_m hZ (Nat.le_succ _)
  refine ab_dup (by decide +kernel) rfl ?_
  refine ab_aload_n (z := 1) (by decide +kernel) rfl rfl ?_
  refine ab_callI (g := iX8) (ix := 47) (dg := 1) (r := (q + 11)) (as := [.ref a1]) (st := [.ref (q + 11), .ref q]) (by decide +kernel) tw_143 tw_144 tw_6 tw_145 rfl rfl ⟨by decide +kernel, by decide +kernel, (by decide +kernel : (parseMethodDescriptor iX8.1.desc).map (fun d => d.parameters.length) = some 1)⟩ (by decide) rfl (by decide) (by decide) (by decide) (Nat.le_of_ble_eq_true rfl) (iX8_ok hL hF11 hZ ?_)
  have hZ := bz_Z_m hZ (by omega : (q + 12) ≤ (q + 12))
  replace hZ : bz_Z (q + 12) (ab_u (ab_u (ab_u (ab_u (ab_u (ab_u (ab_u (ab_u (ab_u (ab_u (ab_u (ab_u (ab_u (ab_u (ab_u (ab_u (ab_u (ab_u I q 3 (0 : Int32)) q 4 (0 : Int32)) q 5 (0 : Int32)) q 6 (0 : Int32)) (q + 7) 3 (0 : Int32)) (q + 7) 4 (0 : Int32)) (q + 3) 4 (0 : Int32)) (q + 3) 5 (0 : Int32)) (q + 3) 6 (0 : Int32)) (q + 3) 7 (-1 : Int32)) (q + 3) 8 (0 : Int32)) (q + 3) 9 (0 : Int32)) q 8 (0 : Int32)) q 9 (-1 : Int32)) (q + 11) 1 (0 : Int32)) (q + 11) 2 (0 : Int32)) (q + 11) 3 (0 : Int32)) (q + 11) 4 (0 : Int32)) (ab_u J (q + 11) 5 (0 : Int64)) (ab_u (ab_u (ab_u (ab_u (ab_u (ab_u (ab_u (ab_u (ab_u (ab_u (ab_u P q 1 (some (q + 1))) q 2 (some (q + 2))) (q + 3) 0 (some (q + 4))) (q + 3) 1 (some (q + 5))) (q + 3) 2 (some (q + 6))) (q + 7) 0 (some (q + 8))) (q + 7) 1 (some (q + 9))) (q + 7) 2 (some (q + 10))) (q + 3) 3 (some (q + 7))) q 7 (some (q + 3))) (q + 11) 0 (some a1)) := by
    exact (bz_Z_P (bz_Z_J (bz_Z_I (bz_Z_I (bz_Z_I (bz_Z_I hZ (by omega)) (by omega)) (by omega)) (by omega)) (by omega)) (by omega))
  change ab_WP l G iX4 3 69 [some (.ref q), some (.ref a1)] [.ref (q + 11), .ref q] (((((S ++ [(3, 6)]) ++ [(3, 5)]) ++ [(14, 0)]) ++ [(0, 6), (0, 5), (0, 30), (7, 0), (0, 300), (0, 30), (0, 6)]) ++ [(13, 0)]) (ab_u (ab_u (ab_u (ab_u (ab_u (ab_u (ab_u (ab_u (ab_u (ab_u (ab_u (ab_u (ab_u (ab_u (ab_u (ab_u (ab_u (ab_u I q 3 (0 : Int32)) q 4 (0 : Int32)) q 5 (0 : Int32)) q 6 (0 : Int32)) (q + 7) 3 (0 : Int32)) (q + 7) 4 (0 : Int32)) (q + 3) 4 (0 : Int32)) (q + 3) 5 (0 : Int32)) (q + 3) 6 (0 : Int32)) (q + 3) 7 (-1 : Int32)) (q + 3) 8 (0 : Int32)) (q + 3) 9 (0 : Int32)) q 8 (0 : Int32)) q 9 (-1 : Int32)) (q + 11) 1 (0 : Int32)) (q + 11) 2 (0 : Int32)) (q + 11) 3 (0 : Int32)) (q + 11) 4 (0 : Int32)) (ab_u J (q + 11) 5 (0 : Int64)) (ab_u (ab_u (ab_u (ab_u (ab_u (ab_u (ab_u (ab_u (ab_u (ab_u (ab_u P q 1 (some (q + 1))) q 2 (some (q + 2))) (q + 3) 0 (some (q + 4))) (q + 3) 1 (some (q + 5))) (q + 3) 2 (some (q + 6))) (q + 7) 0 (some (q + 8))) (q + 7) 1 (some (q + 9))) (q + 7) 2 (some (q + 10))) (q + 3) 3 (some (q + 7))) q 7 (some (q + 3))) (q + 11) 0 (some a1)) _ _ Q
  refine bz_pP4_0 (ix := 50) (by decide +kernel) tw_171 ⟨rfl, rfl⟩ (bz_app (bz_app (bz_app (bz_app (bz_app hq))))) ?_
  have hZ := bz_Z_P (k := 0) (x := some (q + 11)) hZ (by omega : q < (q + 12))
  exact ab_vret (by decide +kernel) rfl (by decide) (by decide) K
abbrev iX5 : ab_M := (yX5_init, cX5_init, 2, none, 1, 5)
set_option maxRecDepth 100000 in
set_option maxHeartbeats 4000000 in
theorem iX5_ok {l : Launch} {G : ab_G} {S : ab_S} {I : ab_I} {J : ab_J} {P : ab_P} {Q : ab_Q} {q a1 : Nat} (hL : S.length = q + 1) (hq : S[q]? = some (10, 0)) (hZ : bz_Z (q + 1) I J P) (K : Q none (S ++ [(0, 5)]) I J (ab_u (ab_u P q 1 (some (q + 1))) q 0 (some a1))) : ab_Call l G iX5 1 [.ref q, .ref a1] S I J P Q := by
  refine ab_enter rfl (Nat.le_of_ble_eq_true rfl) (ab_wk (ls' := [some (.ref q), some (.ref a1)]) (ab_le_some (ab_le_some (ab_le_nil))) ?_)
  refine ab_aload_n (z := 0) (by decide +kernel) rfl rfl ?_
  refine ab_objInit (ix := 3) (by decide +kernel) tw_210 tw_24 tw_25 (by decide) (Nat.le_of_ble_eq_true rfl) ?_
  refine ab_aload_n (z := 0) (by decide +kernel) rfl rfl ?_
  refine ab_iconst (z := 5) (v := (5 : Int32)) (by decide +kernel) (by decide) ?_
  refine bz_newi (ln := 5) (by decide +kernel) tw_72 (by decide) (by decide) (by decide) hL hZ (by decide) (by decide) ?_
  have hF1 := bz_last hL (a := (0, 5))
  have hL := bz_len hL (a := (0, 5))
  have hZ := bz_Z_m hZ (Nat.le_succ _)
  refine bz_pP5_1 (ix := 9) (by decide +kernel) tw_212 ⟨rfl, rfl⟩ (bz_app hq) ?_
  have hZ := bz_Z_P (k := 1) (x := some (q + 1)) hZ (by omega : q < (q + 2))
  refine ab_aload_n (z := 0) (by decide +kernel) rfl rfl ?_
  refine ab_aload_n (z := 1) (by decide +kernel) rfl rfl ?_
  refine bz_pP5_0 (ix := 15) (by decide +kernel) tw_211 ⟨rfl, rfl⟩ (bz_app hq) ?_
  have hZ := bz_Z_P (k := 0) (x := some a1) hZ (by omega : q < (q + 2))
  exact ab_vret (by decide +kernel) rfl (by decide) (by decide) K
abbrev iX1 : ab_M := (yX1_init, cX1_init, 3, none, 8, 64)
set_option maxRecDepth 100000 in
set_option maxHeartbeats 4000000 in
theorem iX1_ok {l : Launch} {G : ab_G} {S : ab_S} {I : ab_I} {J : ab_J} {P : ab_P} {Q : ab_Q} {q a1 a2 : Nat} (hL : S.length = q + 1) (hq : S[q]? = some (6, 0)) (hZ : bz_Z (q + 1) I J P) (K : Q none (S ++ [(11, 0), (0, 6), (0, 6), (0, 30), (0, 6), (0, 4), (0, 4), (0, 2)]) (ab_u (ab_u (ab_u I (q + 1) 3 (0 : Int32)) (q + 1) 4 (0 : Int32)) (q + 1) 5 (0 : Int32)) J (ab_u (ab_u (ab_u (ab_u (ab_u (ab_u (ab_u (ab_u (ab_u (ab_u P (q + 1) 0 (some (q + 2))) (q + 1) 1 (some (q + 3))) (q + 1) 2 (some (q + 4))) q 2 (some (q + 1))) q 3 (some (q + 5))) q 4 (some (q + 6))) q 5 (some (q + 7))) q 6 (some (q + 8))) q 0 (some a1)) q 1 (some a2))) : ab_Call l G iX1 2 [.ref q, .ref a1, .ref a2] S I J P Q := by
  replace K : Q none ((((((S ++ [(11, 0)]) ++ [(0, 6), (0, 6), (0, 30)]) ++ [(0, 6)]) ++ [(0, 4)]) ++ [(0, 4)]) ++ [(0, 2)]) (ab_u (ab_u (ab_u I (q + 1) 3 (0 : Int32)) (q + 1) 4 (0 : Int32)) (q + 1) 5 (0 : Int32)) J (ab_u (ab_u (ab_u (ab_u (ab_u (ab_u (ab_u (ab_u (ab_u (ab_u P (q + 1) 0 (some (q + 2))) (q + 1) 1 (some (q + 3))) (q + 1) 2 (some (q + 4))) q 2 (some (q + 1))) q 3 (some (q + 5))) q 4 (some (q + 6))) q 5 (some (q + 7))) q 6 (some (q + 8))) q 0 (some a1)) q 1 (some a2)) := by simpa only [List.append_assoc, List.cons_append, List.nil_append] using K
  refine ab_enter rfl (Nat.le_of_ble_eq_true rfl) (ab_wk (ls' := [some (.ref q), some (.ref a1), some (.ref a2)]) (ab_le_some (ab_le_some (ab_le_some (ab_le_nil)))) ?_)
  refine ab_aload_n (z := 0) (by decide +kernel) rfl rfl ?_
  refine ab_objInit (ix := 3) (by decide +kernel) tw_226 tw_24 tw_25 (by decide) (Nat.le_of_ble_eq_true rfl) ?_
  refine ab_aload_n (z := 0) (by decide +kernel) rfl rfl ?_
  refine bz_new6 (ix := 9) (by decide +kernel) tw_227 tw_228 tw_9 hL hZ (by decide) (by decide) ?_
  have hF1 := bz_last hL (a := (11, 0))
  have hL := bz_len hL (a := (11, 0))
  have hZ := bz_Z_m hZ (Nat.le_succ _)
  refine ab_dup (by decide +kernel) rfl ?_
  refine ab_callIN (g := iX6) (host := "BellRingers") (ix := 11) (dg := 1) (r := (q + 1)) (as := []) (st := [.ref (q + 1), .ref q]) (by decide +kernel) tn_229 tw_230 tw_9 tw_231 rfl rfl ⟨by decide +kernel, by decide +kernel, (by decide +kernel : (parseMethodDescriptor iX6.1.desc).map (fun d => d.parameters.length) = some 0)⟩ (by decide) rfl (by decide) (by decide) (by decide) (Nat.le_of_ble_eq_true rfl) (iX6_ok hL hF1 hZ ?_)
  have hL := bz_lenL hL (T := [(0, 6), (0, 6), (0, 30)])
  replace hL : ((S ++ [(11, 0)]) ++ [(0, 6), (0, 6), (0, 30)]).length = q + 5 := hL
  have hZ := bz_Z_m hZ (by omega : (q + 2) ≤ (q + 5))
  replace hZ : bz_Z (q + 5) (ab_u (ab_u (ab_u I (q + 1) 3 (0 : Int32)) (q + 1) 4 (0 : Int32)) (q + 1) 5 (0 : Int32)) J (ab_u (ab_u (ab_u P (q + 1) 0 (some (q + 2))) (q + 1) 1 (some (q + 3))) (q + 1) 2 (some (q + 4))) := by
    exact (bz_Z_P (bz_Z_P (bz_Z_P (bz_Z_I (bz_Z_I (bz_Z_I hZ (by omega)) (by omega)) (by omega)) (by omega)) (by omega)) (by omega))
  change ab_WP l G iX1 2 12 [some (.ref q), some (.ref a1), some (.ref a2)] [.ref (q + 1), .ref q] ((S ++ [(11, 0)]) ++ [(0, 6), (0, 6), (0, 30)]) (ab_u (ab_u (ab_u I (q + 1) 3 (0 : Int32)) (q + 1) 4 (0 : Int32)) (q + 1) 5 (0 : Int32)) J (ab_u (ab_u (ab_u P (q + 1) 0 (some (q + 2))) (q + 1) 1 (some (q + 3))) (q + 1) 2 (some (q + 4))) _ _ Q
  refine bz_pP1_2 (ix := 12) (by decide +kernel) tw_283 ⟨rfl, rfl⟩ (bz_app (bz_app hq)) ?_
  have hZ := bz_Z_P (k := 2) (x := some (q + 1)) hZ (by omega : q < (q + 5))
  refine ab_aload_n (z := 0) (by decide +kernel) rfl rfl ?_
  refine ab_bipush (z := 6) (v := (6 : Int32)) (by decide +kernel) (by decide) ?_
  refine bz_newi (ln := 6) (by decide +kernel) tw_72 (by decide) (by decide) (by decide) hL hZ (by decide) (by decide) ?_
  have hF5 := bz_last hL (a := (0, 6))
  have hL := bz_len hL (a := (0, 6))
  have hZ := bz_Z_m hZ (Nat.le_succ _)
  refine bz_pP1_3 (ix := 18) (by decide +kernel) tw_285 ⟨rfl, rfl⟩ (bz_app (bz_app (bz_app hq))) ?_
  have hZ := bz_Z_P (k := 3) (x := some (q + 5)) hZ (by omega : q < (q + 6))
  refine ab_aload_n (z := 0) (by decide +kernel) rfl rfl ?_
  refine ab_iconst (z := 4) (v := (4 : Int32)) (by decide +kernel) (by decide) ?_
  refine bz_newi (ln := 4) (by decide +kernel) tw_72 (by decide) (by decide) (by decide) hL hZ (by decide) (by decide) ?_
  have hF6 := bz_last hL (a := (0, 4))
  have hL := bz_len hL (a := (0, 4))
  have hZ := bz_Z_m hZ (Nat.le_succ _)
  refine bz_pP1_4 (ix := 22) (by decide +kernel) tw_286 ⟨rfl, rfl⟩ (bz_app (bz_app (bz_app (bz_app hq)))) ?_
  have hZ := bz_Z_P (k := 4) (x := some (q + 6)) hZ (by omega : q < (q + 7))
  refine ab_aload_n (z := 0) (by decide +kernel) rfl rfl ?_
  refine ab_iconst (z := 4) (v := (4 : Int32)) (by decide +kernel) (by decide) ?_
  refine bz_newi (ln := 4) (by decide +kernel) tw_72 (by decide) (by decide) (by decide) hL hZ (by decide) (by decide) ?_
  have hF7 := bz_last hL (a := (0, 4))
  have hL := bz_len hL (a := (0, 4))
  have hZ := bz_Z_m hZ (Nat.le_succ _)
  refine bz_pP1_5 (ix := 25) (by decide +kernel) tw_287 ⟨rfl, rfl⟩ (bz_app (bz_app (bz_app (bz_app (bz_app hq))))) ?_
  have hZ := bz_Z_P (k := 5) (x := some (q + 7)) hZ (by omega : q < (q + 8))
  refine ab_aload_n (z := 0) (by decide +kernel) rfl rfl ?_
  refine ab_iconst (z := 2) (v := (2 : Int32)) (by decide +kernel) (by decide) ?_
  refine bz_newi (ln := 2) (by decide +kernel) tw_72 (by decide) (by decide) (by decide) hL hZ (by decide) (by decide) ?_
  have hF8 := bz_last hL (a := (0, 2))
  have hL := bz_len hL (a := (0, 2))
  have hZ := bz_Z_m hZ (Nat.le_succ _)
  refine bz_pP1_6 (ix := 28) (by decide +kernel) tw_288 ⟨rfl, rfl⟩ (bz_app (bz_app (bz_app (bz_app (bz_app (bz_app hq)))))) ?_
  have hZ := bz_Z_P (k := 6) (x := some (q + 8)) hZ (by omega : q < (q + 9))
  refine ab_aload_n (z := 0) (by decide +kernel) rfl rfl ?_
  refine ab_aload_n (z := 1) (by decide +kernel) rfl rfl ?_
  refine bz_pP1_0 (ix := 31) (by decide +kernel) tw_281 ⟨rfl, rfl⟩ (bz_app (bz_app (bz_app (bz_app (bz_app (bz_app hq)))))) ?_
  have hZ := bz_Z_P (k := 0) (x := some a1) hZ (by omega : q < (q + 9))
  refine ab_aload_n (z := 0) (by decide +kernel) rfl rfl ?_
  refine ab_aload_n (z := 2) (by decide +kernel) rfl rfl ?_
  refine bz_pP1_1 (ix := 35) (by decide +kernel) tw_282 ⟨rfl, rfl⟩ (bz_app (bz_app (bz_app (bz_app (bz_app (bz_app hq)))))) ?_
  have hZ := bz_Z_P (k := 1) (x := some a2) hZ (by omega : q < (q + 9))
  exact ab_vret (by decide +kernel) rfl (by decide) (by decide) K
abbrev iX3 : ab_M := (yX3_init, cX3_init, 3, none, 6, 60)
set_option maxRecDepth 100000 in
set_option maxHeartbeats 4000000 in
theorem iX3_ok {l : Launch} {G : ab_G} {S : ab_S} {I : ab_I} {J : ab_J} {P : ab_P} {Q : ab_Q} {q a1 a2 : Nat} (hL : S.length = q + 1) (hq : S[q]? = some (8, 0)) (hZ : bz_Z (q + 1) I J P) (K : Q none (S ++ [(11, 0), (0, 6), (0, 6), (0, 30), (0, 6), (0, 6)]) (ab_u (ab_u (ab_u (ab_u (ab_u I (q + 1) 3 (0 : Int32)) (q + 1) 4 (0 : Int32)) (q + 1) 5 (0 : Int32)) q 5 (0 : Int32)) q 6 (0 : Int32)) J (ab_u (ab_u (ab_u (ab_u (ab_u (ab_u (ab_u (ab_u P (q + 1) 0 (some (q + 2))) (q + 1) 1 (some (q + 3))) (q + 1) 2 (some (q + 4))) q 2 (some (q + 1))) q 3 (some (q + 5))) q 4 (some (q + 6))) q 0 (some a1)) q 1 (some a2))) : ab_Call l G iX3 2 [.ref q, .ref a1, .ref a2] S I J P Q := by
  replace K : Q none ((((S ++ [(11, 0)]) ++ [(0, 6), (0, 6), (0, 30)]) ++ [(0, 6)]) ++ [(0, 6)]) (ab_u (ab_u (ab_u (ab_u (ab_u I (q + 1) 3 (0 : Int32)) (q + 1) 4 (0 : Int32)) (q + 1) 5 (0 : Int32)) q 5 (0 : Int32)) q 6 (0 : Int32)) J (ab_u (ab_u (ab_u (ab_u (ab_u (ab_u (ab_u (ab_u P (q + 1) 0 (some (q + 2))) (q + 1) 1 (some (q + 3))) (q + 1) 2 (some (q + 4))) q 2 (some (q + 1))) q 3 (some (q + 5))) q 4 (some (q + 6))) q 0 (some a1)) q 1 (some a2)) := by simpa only [List.append_assoc, List.cons_append, List.nil_append] using K
  refine ab_enter rfl (Nat.le_of_ble_eq_true rfl) (ab_wk (ls' := [some (.ref q), some (.ref a1), some (.ref a2)]) (ab_le_some (ab_le_some (ab_le_some (ab_le_nil)))) ?_)
  refine ab_aload_n (z := 0) (by decide +kernel) rfl rfl ?_
  refine ab_objInit (ix := 3) (by decide +kernel) tw_310 tw_24 tw_25 (by decide) (Nat.le_of_ble_eq_true rfl) ?_
  refine ab_aload_n (z := 0) (by decide +kernel) rfl rfl ?_
  refine bz_new6 (ix := 9) (by decide +kernel) tw_311 tw_228 tw_9 hL hZ (by decide) (by decide) ?_
  have hF1 := bz_last hL (a := (11, 0))
  have hL := bz_len hL (a := (11, 0))
  have hZ := bz_Z_m hZ (Nat.le_succ _)
  refine ab_dup (by decide +kernel) rfl ?_
  refine ab_callIN (g := iX6) (host := "BellRingers") (ix := 11) (dg := 1) (r := (q + 1)) (as := []) (st := [.ref (q + 1), .ref q]) (by decide +kernel) tn_312 tw_230 tw_9 tw_231 rfl rfl ⟨by decide +kernel, by decide +kernel, (by decide +kernel : (parseMethodDescriptor iX6.1.desc).map (fun d => d.parameters.length) = some 0)⟩ (by decide) rfl (by decide) (by decide) (by decide) (Nat.le_of_ble_eq_true rfl) (iX6_ok hL hF1 hZ ?_)
  have hL := bz_lenL hL (T := [(0, 6), (0, 6), (0, 30)])
  replace hL : ((S ++ [(11, 0)]) ++ [(0, 6), (0, 6), (0, 30)]).length = q + 5 := hL
  have hZ := bz_Z_m hZ (by omega : (q + 2) ≤ (q + 5))
  replace hZ : bz_Z (q + 5) (ab_u (ab_u (ab_u I (q + 1) 3 (0 : Int32)) (q + 1) 4 (0 : Int32)) (q + 1) 5 (0 : Int32)) J (ab_u (ab_u (ab_u P (q + 1) 0 (some (q + 2))) (q + 1) 1 (some (q + 3))) (q + 1) 2 (some (q + 4))) := by
    exact (bz_Z_P (bz_Z_P (bz_Z_P (bz_Z_I (bz_Z_I (bz_Z_I hZ (by omega)) (by omega)) (by omega)) (by omega)) (by omega)) (by omega))
  change ab_WP l G iX3 2 12 [some (.ref q), some (.ref a1), some (.ref a2)] [.ref (q + 1), .ref q] ((S ++ [(11, 0)]) ++ [(0, 6), (0, 6), (0, 30)]) (ab_u (ab_u (ab_u I (q + 1) 3 (0 : Int32)) (q + 1) 4 (0 : Int32)) (q + 1) 5 (0 : Int32)) J (ab_u (ab_u (ab_u P (q + 1) 0 (some (q + 2))) (q + 1) 1 (some (q + 3))) (q + 1) 2 (some (q + 4))) _ _ Q
  refine bz_pP3_2 (ix := 12) (by decide +kernel) tw_315 ⟨rfl, rfl⟩ (bz_app (bz_app hq)) ?_
  have hZ := bz_Z_P (k := 2) (x := some (q + 1)) hZ (by omega : q < (q + 5))
  refine ab_aload_n (z := 0) (by decide +kernel) rfl rfl ?_
  refine ab_bipush (z := 6) (v := (6 : Int32)) (by decide +kernel) (by decide) ?_
  refine bz_newi (ln := 6) (by decide +kernel) tw_72 (by decide) (by decide) (by decide) hL hZ (by decide) (by decide) ?_
  have hF5 := bz_last hL (a := (0, 6))
  have hL := bz_len hL (a := (0, 6))
  have hZ := bz_Z_m hZ (Nat.le_succ _)
  refine bz_pP3_3 (ix := 18) (by decide +kernel) tw_316 ⟨rfl, rfl⟩ (bz_app (bz_app (bz_app hq))) ?_
  have hZ := bz_Z_P (k := 3) (x := some (q + 5)) hZ (by omega : q < (q + 6))
  refine ab_aload_n (z := 0) (by decide +kernel) rfl rfl ?_
  refine ab_bipush (z := 6) (v := (6 : Int32)) (by decide +kernel) (by decide) ?_
  refine bz_newi (ln := 6) (by decide +kernel) tw_72 (by decide) (by decide) (by decide) hL hZ (by decide) (by decide) ?_
  have hF6 := bz_last hL (a := (0, 6))
  have hL := bz_len hL (a := (0, 6))
  have hZ := bz_Z_m hZ (Nat.le_succ _)
  refine bz_pP3_4 (ix := 22) (by decide +kernel) tw_317 ⟨rfl, rfl⟩ (bz_app (bz_app (bz_app (bz_app hq)))) ?_
  have hZ := bz_Z_P (k := 4) (x := some (q + 6)) hZ (by omega : q < (q + 7))
  refine ab_aload_n (z := 0) (by decide +kernel) rfl rfl ?_
  refine ab_iconst (z := 0) (v := (0 : Int32)) (by decide +kernel) (by decide) ?_
  refine bz_pI3_5 (ix := 25) (by decide +kernel) tw_319 ⟨rfl, rfl⟩ (bz_app (bz_app (bz_app (bz_app hq)))) ?_
  have hZ := bz_Z_I (k := 5) (x := (0 : Int32)) hZ (by omega : q < (q + 7))
  refine ab_aload_n (z := 0) (by decide +kernel) rfl rfl ?_
  refine ab_iconst (z := 0) (v := (0 : Int32)) (by decide +kernel) (by decide) ?_
  refine bz_pI3_6 (ix := 29) (by decide +kernel) tw_321 ⟨rfl, rfl⟩ (bz_app (bz_app (bz_app (bz_app hq)))) ?_
  have hZ := bz_Z_I (k := 6) (x := (0 : Int32)) hZ (by omega : q < (q + 7))
  refine ab_aload_n (z := 0) (by decide +kernel) rfl rfl ?_
  refine ab_aload_n (z := 1) (by decide +kernel) rfl rfl ?_
  refine bz_pP3_0 (ix := 32) (by decide +kernel) tw_313 ⟨rfl, rfl⟩ (bz_app (bz_app (bz_app (bz_app hq)))) ?_
  have hZ := bz_Z_P (k := 0) (x := some a1) hZ (by omega : q < (q + 7))
  refine ab_aload_n (z := 0) (by decide +kernel) rfl rfl ?_
  refine ab_aload_n (z := 2) (by decide +kernel) rfl rfl ?_
  refine bz_pP3_1 (ix := 36) (by decide +kernel) tw_314 ⟨rfl, rfl⟩ (bz_app (bz_app (bz_app (bz_app hq)))) ?_
  have hZ := bz_Z_P (k := 1) (x := some a2) hZ (by omega : q < (q + 7))
  exact ab_vret (by decide +kernel) rfl (by decide) (by decide) K
abbrev iX10 : ab_M := (yX10_init, cX10_init, 3, none, 11, 263)
set_option maxRecDepth 100000 in
set_option maxHeartbeats 4000000 in
theorem iX10_ok {l : Launch} {G : ab_G} {S : ab_S} {I : ab_I} {J : ab_J} {P : ab_P} {Q : ab_Q} {q a1 a2 : Nat} (hL : S.length = q + 1) (hq : S[q]? = some (15, 0)) (hZ : bz_Z (q + 1) I J P) (K : Q none (S ++ [(11, 0), (0, 6), (0, 6), (0, 30), (0, 30), (0, 30), (0, 30), (2, 30), (0, 30), (0, 30), (0, 35)]) (ab_u (ab_u (ab_u (ab_u (ab_u I (q + 1) 3 (0 : Int32)) (q + 1) 4 (0 : Int32)) (q + 1) 5 (0 : Int32)) q 10 (0 : Int32)) q 11 (0 : Int32)) J (ab_u (ab_u (ab_u (ab_u (ab_u (ab_u (ab_u (ab_u (ab_u (ab_u (ab_u (ab_u (ab_u P (q + 1) 0 (some (q + 2))) (q + 1) 1 (some (q + 3))) (q + 1) 2 (some (q + 4))) q 2 (some (q + 1))) q 3 (some (q + 5))) q 4 (some (q + 6))) q 5 (some (q + 7))) q 6 (some (q + 8))) q 7 (some (q + 9))) q 8 (some (q + 10))) q 9 (some (q + 11))) q 0 (some a1)) q 1 (some a2))) : ab_Call l G iX10 2 [.ref q, .ref a1, .ref a2] S I J P Q := by
  replace K : Q none (((((((((S ++ [(11, 0)]) ++ [(0, 6), (0, 6), (0, 30)]) ++ [(0, 30)]) ++ [(0, 30)]) ++ [(0, 30)]) ++ [(2, 30)]) ++ [(0, 30)]) ++ [(0, 30)]) ++ [(0, 35)]) (ab_u (ab_u (ab_u (ab_u (ab_u I (q + 1) 3 (0 : Int32)) (q + 1) 4 (0 : Int32)) (q + 1) 5 (0 : Int32)) q 10 (0 : Int32)) q 11 (0 : Int32)) J (ab_u (ab_u (ab_u (ab_u (ab_u (ab_u (ab_u (ab_u (ab_u (ab_u (ab_u (ab_u (ab_u P (q + 1) 0 (some (q + 2))) (q + 1) 1 (some (q + 3))) (q + 1) 2 (some (q + 4))) q 2 (some (q + 1))) q 3 (some (q + 5))) q 4 (some (q + 6))) q 5 (some (q + 7))) q 6 (some (q + 8))) q 7 (some (q + 9))) q 8 (some (q + 10))) q 9 (some (q + 11))) q 0 (some a1)) q 1 (some a2)) := by simpa only [List.append_assoc, List.cons_append, List.nil_append] using K
  refine ab_enter rfl (Nat.le_of_ble_eq_true rfl) (ab_wk (ls' := [some (.ref q), some (.ref a1), some (.ref a2)]) (ab_le_some (ab_le_some (ab_le_some (ab_le_nil)))) ?_)
  refine ab_aload_n (z := 0) (by decide +kernel) rfl rfl ?_
  refine ab_objInit (ix := 3) (by decide +kernel) tw_343 tw_24 tw_25 (by decide) (Nat.le_of_ble_eq_true rfl) ?_
  refine ab_aload_n (z := 0) (by decide +kernel) rfl rfl ?_
  refine bz_new6 (ix := 9) (by decide +kernel) tw_344 tw_228 tw_9 hL hZ (by decide) (by decide) ?_
  have hF1 := bz_last hL (a := (11, 0))
  have hL := bz_len hL (a := (11, 0))
  have hZ := bz_Z_m hZ (Nat.le_succ _)
  refine ab_dup (by decide +kernel) rfl ?_
  refine ab_callIN (g := iX6) (host := "BellRingers") (ix := 11) (dg := 1) (r := (q + 1)) (as := []) (st := [.ref (q + 1), .ref q]) (by decide +kernel) tn_345 tw_230 tw_9 tw_231 rfl rfl ⟨by decide +kernel, by decide +kernel, (by decide +kernel : (parseMethodDescriptor iX6.1.desc).map (fun d => d.parameters.length) = some 0)⟩ (by decide) rfl (by decide) (by decide) (by decide) (Nat.le_of_ble_eq_true rfl) (iX6_ok hL hF1 hZ ?_)
  have hL := bz_lenL hL (T := [(0, 6), (0, 6), (0, 30)])
  replace hL : ((S ++ [(11, 0)]) ++ [(0, 6), (0, 6), (0, 30)]).length = q + 5 := hL
  have hZ := bz_Z_m hZ (by omega : (q + 2) ≤ (q + 5))
  replace hZ : bz_Z (q + 5) (ab_u (ab_u (ab_u I (q + 1) 3 (0 : Int32)) (q + 1) 4 (0 : Int32)) (q + 1) 5 (0 : Int32)) J (ab_u (ab_u (ab_u P (q + 1) 0 (some (q + 2))) (q + 1) 1 (some (q + 3))) (q + 1) 2 (some (q + 4))) := by
    exact (bz_Z_P (bz_Z_P (bz_Z_P (bz_Z_I (bz_Z_I (bz_Z_I hZ (by omega)) (by omega)) (by omega)) (by omega)) (by omega)) (by omega))
  change ab_WP l G iX10 2 12 [some (.ref q), some (.ref a1), some (.ref a2)] [.ref (q + 1), .ref q] ((S ++ [(11, 0)]) ++ [(0, 6), (0, 6), (0, 30)]) (ab_u (ab_u (ab_u I (q + 1) 3 (0 : Int32)) (q + 1) 4 (0 : Int32)) (q + 1) 5 (0 : Int32)) J (ab_u (ab_u (ab_u P (q + 1) 0 (some (q + 2))) (q + 1) 1 (some (q + 3))) (q + 1) 2 (some (q + 4))) _ _ Q
  refine bz_pP10_2 (ix := 12) (by decide +kernel) tw_348 ⟨rfl, rfl⟩ (bz_app (bz_app hq)) ?_
  have hZ := bz_Z_P (k := 2) (x := some (q + 1)) hZ (by omega : q < (q + 5))
  refine ab_aload_n (z := 0) (by decide +kernel) rfl rfl ?_
  refine ab_bipush (z := 30) (v := (30 : Int32)) (by decide +kernel) (by decide) ?_
  refine bz_newi (ln := 30) (by decide +kernel) tw_72 (by decide) (by decide) (by decide) hL hZ (by decide) (by decide) ?_
  have hF5 := bz_last hL (a := (0, 30))
  have hL := bz_len hL (a := (0, 30))
  have hZ := bz_Z_m hZ (Nat.le_succ _)
  refine bz_pP10_3 (ix := 18) (by decide +kernel) tw_349 ⟨rfl, rfl⟩ (bz_app (bz_app (bz_app hq))) ?_
  have hZ := bz_Z_P (k := 3) (x := some (q + 5)) hZ (by omega : q < (q + 6))
  refine ab_aload_n (z := 0) (by decide +kernel) rfl rfl ?_
  refine ab_bipush (z := 30) (v := (30 : Int32)) (by decide +kernel) (by decide) ?_
  refine bz_newi (ln := 30) (by decide +kernel) tw_72 (by decide) (by decide) (by decide) hL hZ (by decide) (by decide) ?_
  have hF6 := bz_last hL (a := (0, 30))
  have hL := bz_len hL (a := (0, 30))
  have hZ := bz_Z_m hZ (Nat.le_succ _)
  refine bz_pP10_4 (ix := 22) (by decide +kernel) tw_350 ⟨rfl, rfl⟩ (bz_app (bz_app (bz_app (bz_app hq)))) ?_
  have hZ := bz_Z_P (k := 4) (x := some (q + 6)) hZ (by omega : q < (q + 7))
  refine ab_aload_n (z := 0) (by decide +kernel) rfl rfl ?_
  refine ab_bipush (z := 30) (v := (30 : Int32)) (by decide +kernel) (by decide) ?_
  refine bz_newi (ln := 30) (by decide +kernel) tw_72 (by decide) (by decide) (by decide) hL hZ (by decide) (by decide) ?_
  have hF7 := bz_last hL (a := (0, 30))
  have hL := bz_len hL (a := (0, 30))
  have hZ := bz_Z_m hZ (Nat.le_succ _)
  refine bz_pP10_5 (ix := 25) (by decide +kernel) tw_351 ⟨rfl, rfl⟩ (bz_app (bz_app (bz_app (bz_app (bz_app hq))))) ?_
  have hZ := bz_Z_P (k := 5) (x := some (q + 7)) hZ (by omega : q < (q + 8))
  refine ab_aload_n (z := 0) (by decide +kernel) rfl rfl ?_
  refine ab_bipush (z := 30) (v := (30 : Int32)) (by decide +kernel) (by decide) ?_
  refine bz_newz (ln := 30) (by decide +kernel) tw_385 (by decide) (by decide) (by decide) hL hZ (by decide) (by decide) ?_
  have hF8 := bz_last hL (a := (2, 30))
  have hL := bz_len hL (a := (2, 30))
  have hZ := bz_Z_m hZ (Nat.le_succ _)
  refine bz_pP10_6 (ix := 28) (by decide +kernel) tw_352 ⟨rfl, rfl⟩ (bz_app (bz_app (bz_app (bz_app (bz_app (bz_app hq)))))) ?_
  have hZ := bz_Z_P (k := 6) (x := some (q + 8)) hZ (by omega : q < (q + 9))
  refine ab_aload_n (z := 0) (by decide +kernel) rfl rfl ?_
  refine ab_bipush (z := 30) (v := (30 : Int32)) (by decide +kernel) (by decide) ?_
  refine bz_newi (ln := 30) (by decide +kernel) tw_72 (by decide) (by decide) (by decide) hL hZ (by decide) (by decide) ?_
  have hF9 := bz_last hL (a := (0, 30))
  have hL := bz_len hL (a := (0, 30))
  have hZ := bz_Z_m hZ (Nat.le_succ _)
  refine bz_pP10_7 (ix := 32) (by decide +kernel) tw_353 ⟨rfl, rfl⟩ (bz_app (bz_app (bz_app (bz_app (bz_app (bz_app (bz_app hq))))))) ?_
  have hZ := bz_Z_P (k := 7) (x := some (q + 9)) hZ (by omega : q < (q + 10))
  refine ab_aload_n (z := 0) (by decide +kernel) rfl rfl ?_
  refine ab_bipush (z := 30) (v := (30 : Int32)) (by decide +kernel) (by decide) ?_
  refine bz_newi (ln := 30) (by decide +kernel) tw_72 (by decide) (by decide) (by decide) hL hZ (by decide) (by decide) ?_
  have hF10 := bz_last hL (a := (0, 30))
  have hL := bz_len hL (a := (0, 30))
  have hZ := bz_Z_m hZ (Nat.le_succ _)
  refine bz_pP10_8 (ix := 35) (by decide +kernel) tw_354 ⟨rfl, rfl⟩ (bz_app (bz_app (bz_app (bz_app (bz_app (bz_app (bz_app (bz_app hq)))))))) ?_
  have hZ := bz_Z_P (k := 8) (x := some (q + 10)) hZ (by omega : q < (q + 11))
  refine ab_aload_n (z := 0) (by decide +kernel) rfl rfl ?_
  refine ab_bipush (z := 35) (v := (35 : Int32)) (by decide +kernel) (by decide) ?_
  refine bz_newi (ln := 35) (by decide +kernel) tw_72 (by decide) (by decide) (by decide) hL hZ (by decide) (by decide) ?_
  have hF11 := bz_last hL (a := (0, 35))
  have hL := bz_len hL (a := (0, 35))
  have hZ := bz_Z_m hZ (Nat.le_succ _)
  refine bz_pP10_9 (ix := 38) (by decide +kernel) tw_355 ⟨rfl, rfl⟩ (bz_app (bz_app (bz_app (bz_app (bz_app (bz_app (bz_app (bz_app (bz_app hq))))))))) ?_
  have hZ := bz_Z_P (k := 9) (x := some (q + 11)) hZ (by omega : q < (q + 12))
  refine ab_aload_n (z := 0) (by decide +kernel) rfl rfl ?_
  refine ab_iconst (z := 0) (v := (0 : Int32)) (by decide +kernel) (by decide) ?_
  refine bz_pI10_10 (ix := 41) (by decide +kernel) tw_356 ⟨rfl, rfl⟩ (bz_app (bz_app (bz_app (bz_app (bz_app (bz_app (bz_app (bz_app (bz_app hq))))))))) ?_
  have hZ := bz_Z_I (k := 10) (x := (0 : Int32)) hZ (by omega : q < (q + 12))
  refine ab_aload_n (z := 0) (by decide +kernel) rfl rfl ?_
  refine ab_iconst (z := 0) (v := (0 : Int32)) (by decide +kernel) (by decide) ?_
  refine bz_pI10_11 (ix := 45) (by decide +kernel) tw_358 ⟨rfl, rfl⟩ (bz_app (bz_app (bz_app (bz_app (bz_app (bz_app (bz_app (bz_app (bz_app hq))))))))) ?_
  have hZ := bz_Z_I (k := 11) (x := (0 : Int32)) hZ (by omega : q < (q + 12))
  refine ab_aload_n (z := 0) (by decide +kernel) rfl rfl ?_
  refine ab_aload_n (z := 1) (by decide +kernel) rfl rfl ?_
  refine bz_pP10_0 (ix := 48) (by decide +kernel) tw_346 ⟨rfl, rfl⟩ (bz_app (bz_app (bz_app (bz_app (bz_app (bz_app (bz_app (bz_app (bz_app hq))))))))) ?_
  have hZ := bz_Z_P (k := 0) (x := some a1) hZ (by omega : q < (q + 12))
  refine ab_aload_n (z := 0) (by decide +kernel) rfl rfl ?_
  refine ab_aload_n (z := 2) (by decide +kernel) rfl rfl ?_
  refine bz_pP10_1 (ix := 52) (by decide +kernel) tw_347 ⟨rfl, rfl⟩ (bz_app (bz_app (bz_app (bz_app (bz_app (bz_app (bz_app (bz_app (bz_app hq))))))))) ?_
  have hZ := bz_Z_P (k := 1) (x := some a2) hZ (by omega : q < (q + 12))
  exact ab_vret (by decide +kernel) rfl (by decide) (by decide) K
abbrev iX0 : ab_M := (yX0_init, cX0_init, 1, none, 1, 40)
set_option maxRecDepth 100000 in
set_option maxHeartbeats 4000000 in
theorem iX0_ok {l : Launch} {G : ab_G} {S : ab_S} {I : ab_I} {J : ab_J} {P : ab_P} {Q : ab_Q} {q : Nat} (hL : S.length = q + 1) (hq : S[q]? = some (5, 0)) (hZ : bz_Z (q + 1) I J P) (K : Q none (S ++ [(4, 40)]) (ab_u (ab_u I q 1 (0 : Int32)) q 2 (0 : Int32)) J (ab_u P q 0 (some (q + 1)))) : ab_Call l G iX0 1 [.ref q] S I J P Q := by
  refine ab_enter rfl (Nat.le_of_ble_eq_true rfl) (ab_wk (ls' := [some (.ref q)]) (ab_le_some (ab_le_nil)) ?_)
  refine ab_aload_n (z := 0) (by decide +kernel) rfl rfl ?_
  refine ab_objInit (ix := 3) (by decide +kernel) tw_391 tw_24 tw_25 (by decide) (Nat.le_of_ble_eq_true rfl) ?_
  refine ab_aload_n (z := 0) (by decide +kernel) rfl rfl ?_
  refine ab_bipush (z := 40) (v := (40 : Int32)) (by decide +kernel) (by decide) ?_
  refine bz_newq (ix := 9) (ln := 40) (by decide +kernel) tw_392 (by decide) (by decide) (by decide) hL hZ (by decide) (by decide) ?_
  have hF1 := bz_last hL (a := (4, 40))
  have hL := bz_len hL (a := (4, 40))
  have hZ := bz_Z_m hZ (Nat.le_succ _)
  refine bz_pP0_0 (ix := 11) (by decide +kernel) tw_394 ⟨rfl, rfl⟩ (bz_app hq) ?_
  have hZ := bz_Z_P (k := 0) (x := some (q + 1)) hZ (by omega : q < (q + 2))
  refine ab_aload_n (z := 0) (by decide +kernel) rfl rfl ?_
  refine ab_iconst (z := 0) (v := (0 : Int32)) (by decide +kernel) (by decide) ?_
  refine bz_pI0_1 (ix := 17) (by decide +kernel) tw_395 ⟨rfl, rfl⟩ (bz_app hq) ?_
  have hZ := bz_Z_I (k := 1) (x := (0 : Int32)) hZ (by omega : q < (q + 2))
  refine ab_aload_n (z := 0) (by decide +kernel) rfl rfl ?_
  refine ab_iconst (z := 0) (v := (0 : Int32)) (by decide +kernel) (by decide) ?_
  refine bz_pI0_2 (ix := 21) (by decide +kernel) tw_397 ⟨rfl, rfl⟩ (bz_app hq) ?_
  have hZ := bz_Z_I (k := 2) (x := (0 : Int32)) hZ (by omega : q < (q + 2))
  exact ab_vret (by decide +kernel) rfl (by decide) (by decide) K
abbrev iX11 : ab_M := (yX11_init, cX11_init, 2, none, 72, 3077)
set_option maxRecDepth 100000 in
set_option maxHeartbeats 4000000 in
theorem iX11_ok {l : Launch} {G : ab_G} {S : ab_S} {I : ab_I} {J : ab_J} {P : ab_P} {Q : ab_Q} {q : Nat} (hL : S.length = q + 1) (hq : S[q]? = some (16, 0)) (hZ : bz_Z (q + 1) I J P) (K : Q none (S ++ [(12, 0), (1, 1600), (14, 0), (0, 6), (0, 5), (0, 30), (7, 0), (0, 300), (0, 30), (0, 6), (9, 0), (3, 6), (3, 5), (14, 0), (0, 6), (0, 5), (0, 30), (7, 0), (0, 300), (0, 30), (0, 6), (13, 0), (10, 0), (0, 5), (6, 0), (11, 0), (0, 6), (0, 6), (0, 30), (0, 6), (0, 4), (0, 4), (0, 2), (8, 0), (11, 0), (0, 6), (0, 6), (0, 30), (0, 6), (0, 6), (15, 0), (11, 0), (0, 6), (0, 6), (0, 30), (0, 30), (0, 30), (0, 30), (2, 30), (0, 30), (0, 30), (0, 35), (5, 0), (4, 40), (0, 6), (4, 3), (11, 0), (0, 6), (0, 6), (0, 30), (11, 0), (0, 6), (0, 6), (0, 30), (11, 0), (0, 6), (0, 6), (0, 30), (11, 0), (0, 6), (0, 6), (0, 30)]) (ab_u (ab_u (ab_u (ab_u (ab_u (ab_u (ab_u (ab_u (ab_u (ab_u (ab_u (ab_u (ab_u (ab_u (ab_u (ab_u (ab_u (ab_u (ab_u (ab_u (ab_u (ab_u (ab_u (ab_u (ab_u (ab_u (ab_u (ab_u (ab_u (ab_u (ab_u (ab_u (ab_u (ab_u (ab_u (ab_u (ab_u (ab_u (ab_u (ab_u (ab_u (ab_u (ab_u (ab_u (ab_u (ab_u (ab_u (ab_u (ab_u (ab_u (ab_u (ab_u (ab_u (ab_u (ab_u (ab_u (ab_u (ab_u I (q + 1) 1 (0 : Int32)) (q + 7) 3 (0 : Int32)) (q + 7) 4 (0 : Int32)) (q + 3) 4 (0 : Int32)) (q + 3) 5 (0 : Int32)) (q + 3) 6 (0 : Int32)) (q + 3) 7 (-1 : Int32)) (q + 3) 8 (0 : Int32)) (q + 3) 9 (0 : Int32)) (q + 11) 3 (0 : Int32)) (q + 11) 4 (0 : Int32)) (q + 11) 5 (0 : Int32)) (q + 11) 6 (0 : Int32)) (q + 18) 3 (0 : Int32)) (q + 18) 4 (0 : Int32)) (q + 14) 4 (0 : Int32)) (q + 14) 5 (0 : Int32)) (q + 14) 6 (0 : Int32)) (q + 14) 7 (-1 : Int32)) (q + 14) 8 (0 : Int32)) (q + 14) 9 (0 : Int32)) (q + 11) 8 (0 : Int32)) (q + 11) 9 (-1 : Int32)) (q + 22) 1 (0 : Int32)) (q + 22) 2 (0 : Int32)) (q + 22) 3 (0 : Int32)) (q + 22) 4 (0 : Int32)) (q + 26) 3 (0 : Int32)) (q + 26) 4 (0 : Int32)) (q + 26) 5 (0 : Int32)) (q + 35) 3 (0 : Int32)) (q + 35) 4 (0 : Int32)) (q + 35) 5 (0 : Int32)) (q + 34) 5 (0 : Int32)) (q + 34) 6 (0 : Int32)) (q + 42) 3 (0 : Int32)) (q + 42) 4 (0 : Int32)) (q + 42) 5 (0 : Int32)) (q + 41) 10 (0 : Int32)) (q + 41) 11 (0 : Int32)) (q + 53) 1 (0 : Int32)) (q + 53) 2 (0 : Int32)) q 9 (0 : Int32)) q 11 (0 : Int32)) (q + 57) 3 (0 : Int32)) (q + 57) 4 (0 : Int32)) (q + 57) 5 (0 : Int32)) q 13 (0 : Int32)) q 14 (-1 : Int32)) (q + 61) 3 (0 : Int32)) (q + 61) 4 (0 : Int32)) (q + 61) 5 (0 : Int32)) (q + 65) 3 (0 : Int32)) (q + 65) 4 (0 : Int32)) (q + 65) 5 (0 : Int32)) (q + 69) 3 (0 : Int32)) (q + 69) 4 (0 : Int32)) (q + 69) 5 (0 : Int32)) (ab_u J (q + 22) 5 (0 : Int64)) (ab_u (ab_u (ab_u (ab_u (ab_u (ab_u (ab_u (ab_u (ab_u (ab_u (ab_u (ab_u (ab_u (ab_u (ab_u (ab_u (ab_u (ab_u (ab_u (ab_u (ab_u (ab_u (ab_u (ab_u (ab_u (ab_u (ab_u (ab_u (ab_u (ab_u (ab_u (ab_u (ab_u (ab_u (ab_u (ab_u (ab_u (ab_u (ab_u (ab_u (ab_u (ab_u (ab_u (ab_u (ab_u (ab_u (ab_u (ab_u (ab_u (ab_u (ab_u (ab_u (ab_u (ab_u (ab_u (ab_u (ab_u (ab_u (ab_u (ab_u (ab_u (ab_u (ab_u (ab_u (ab_u (ab_u (ab_u (ab_u (ab_u (ab_u (ab_u (ab_u (ab_u (ab_u (ab_u (ab_u (ab_u (ab_u (ab_u (ab_u P (q + 1) 0 (some (q + 2))) q 0 (some (q + 1))) (q + 3) 0 (some (q + 4))) (q + 3) 1 (some (q + 5))) (q + 3) 2 (some (q + 6))) (q + 7) 0 (some (q + 8))) (q + 7) 1 (some (q + 9))) (q + 7) 2 (some (q + 10))) (q + 3) 3 (some (q + 7))) q 1 (some (q + 3))) (q + 11) 1 (some (q + 12))) (q + 11) 2 (some (q + 13))) (q + 14) 0 (some (q + 15))) (q + 14) 1 (some (q + 16))) (q + 14) 2 (some (q + 17))) (q + 18) 0 (some (q + 19))) (q + 18) 1 (some (q + 20))) (q + 18) 2 (some (q + 21))) (q + 14) 3 (some (q + 18))) (q + 11) 7 (some (q + 14))) (q + 22) 0 (some (q + 1))) (q + 11) 0 (some (q + 22))) q 2 (some (q + 11))) (q + 23) 1 (some (q + 24))) (q + 23) 0 (some (q + 3))) q 3 (some (q + 23))) (q + 26) 0 (some (q + 27))) (q + 26) 1 (some (q + 28))) (q + 26) 2 (some (q + 29))) (q + 25) 2 (some (q + 26))) (q + 25) 3 (some (q + 30))) (q + 25) 4 (some (q + 31))) (q + 25) 5 (some (q + 32))) (q + 25) 6 (some (q + 33))) (q + 25) 0 (some (q + 3))) (q + 25) 1 (some (q + 23))) q 4 (some (q + 25))) (q + 35) 0 (some (q + 36))) (q + 35) 1 (some (q + 37))) (q + 35) 2 (some (q + 38))) (q + 34) 2 (some (q + 35))) (q + 34) 3 (some (q + 39))) (q + 34) 4 (some (q + 40))) (q + 34) 0 (some (q + 3))) (q + 34) 1 (some (q + 23))) q 5 (some (q + 34))) (q + 42) 0 (some (q + 43))) (q + 42) 1 (some (q + 44))) (q + 42) 2 (some (q + 45))) (q + 41) 2 (some (q + 42))) (q + 41) 3 (some (q + 46))) (q + 41) 4 (some (q + 47))) (q + 41) 5 (some (q + 48))) (q + 41) 6 (some (q + 49))) (q + 41) 7 (some (q + 50))) (q + 41) 8 (some (q + 51))) (q + 41) 9 (some (q + 52))) (q + 41) 0 (some (q + 3))) (q + 41) 1 (some (q + 23))) q 6 (some (q + 41))) (q + 53) 0 (some (q + 54))) q 7 (some (q + 53))) q 8 (some (q + 55))) q 10 (some (q + 56))) (q + 57) 0 (some (q + 58))) (q + 57) 1 (some (q + 59))) (q + 57) 2 (some (q + 60))) q 12 (some (q + 57))) (q + 61) 0 (some (q + 62))) (q + 61) 1 (some (q + 63))) (q + 61) 2 (some (q + 64))) (q + 56) (0 : Int32).toNatClampNeg (some (q + 61))) (q + 65) 0 (some (q + 66))) (q + 65) 1 (some (q + 67))) (q + 65) 2 (some (q + 68))) (q + 56) (1 : Int32).toNatClampNeg (some (q + 65))) (q + 69) 0 (some (q + 70))) (q + 69) 1 (some (q + 71))) (q + 69) 2 (some (q + 72))) (q + 56) (2 : Int32).toNatClampNeg (some (q + 69)))) : ab_Call l G iX11 4 [.ref q] S I J P Q := by
  replace K : Q none ((((((((((((((((((((((((((S ++ [(12, 0)]) ++ [(1, 1600)]) ++ [(14, 0)]) ++ [(0, 6), (0, 5), (0, 30), (7, 0), (0, 300), (0, 30), (0, 6)]) ++ [(9, 0)]) ++ [(3, 6), (3, 5), (14, 0), (0, 6), (0, 5), (0, 30), (7, 0), (0, 300), (0, 30), (0, 6), (13, 0)]) ++ [(10, 0)]) ++ [(0, 5)]) ++ [(6, 0)]) ++ [(11, 0), (0, 6), (0, 6), (0, 30), (0, 6), (0, 4), (0, 4), (0, 2)]) ++ [(8, 0)]) ++ [(11, 0), (0, 6), (0, 6), (0, 30), (0, 6), (0, 6)]) ++ [(15, 0)]) ++ [(11, 0), (0, 6), (0, 6), (0, 30), (0, 30), (0, 30), (0, 30), (2, 30), (0, 30), (0, 30), (0, 35)]) ++ [(5, 0)]) ++ [(4, 40)]) ++ [(0, 6)]) ++ [(4, 3)]) ++ [(11, 0)]) ++ [(0, 6), (0, 6), (0, 30)]) ++ [(11, 0)]) ++ [(0, 6), (0, 6), (0, 30)]) ++ [(11, 0)]) ++ [(0, 6), (0, 6), (0, 30)]) ++ [(11, 0)]) ++ [(0, 6), (0, 6), (0, 30)]) (ab_u (ab_u (ab_u (ab_u (ab_u (ab_u (ab_u (ab_u (ab_u (ab_u (ab_u (ab_u (ab_u (ab_u (ab_u (ab_u (ab_u (ab_u (ab_u (ab_u (ab_u (ab_u (ab_u (ab_u (ab_u (ab_u (ab_u (ab_u (ab_u (ab_u (ab_u (ab_u (ab_u (ab_u (ab_u (ab_u (ab_u (ab_u (ab_u (ab_u (ab_u (ab_u (ab_u (ab_u (ab_u (ab_u (ab_u (ab_u (ab_u (ab_u (ab_u (ab_u (ab_u (ab_u (ab_u (ab_u (ab_u (ab_u I (q + 1) 1 (0 : Int32)) (q + 7) 3 (0 : Int32)) (q + 7) 4 (0 : Int32)) (q + 3) 4 (0 : Int32)) (q + 3) 5 (0 : Int32)) (q + 3) 6 (0 : Int32)) (q + 3) 7 (-1 : Int32)) (q + 3) 8 (0 : Int32)) (q + 3) 9 (0 : Int32)) (q + 11) 3 (0 : Int32)) (q + 11) 4 (0 : Int32)) (q + 11) 5 (0 : Int32)) (q + 11) 6 (0 : Int32)) (q + 18) 3 (0 : Int32)) (q + 18) 4 (0 : Int32)) (q + 14) 4 (0 : Int32)) (q + 14) 5 (0 : Int32)) (q + 14) 6 (0 : Int32)) (q + 14) 7 (-1 : Int32)) (q + 14) 8 (0 : Int32)) (q + 14) 9 (0 : Int32)) (q + 11) 8 (0 : Int32)) (q + 11) 9 (-1 : Int32)) (q + 22) 1 (0 : Int32)) (q + 22) 2 (0 : Int32)) (q + 22) 3 (0 : Int32)) (q + 22) 4 (0 : Int32)) (q + 26) 3 (0 : Int32)) (q + 26) 4 (0 : Int32)) (q + 26) 5 (0 : Int32)) (q + 35) 3 (0 : Int32)) (q + 35) 4 (0 : Int32)) (q + 35) 5 (0 : Int32)) (q + 34) 5 (0 : Int32)) (q + 34) 6 (0 : Int32)) (q + 42) 3 (0 : Int32)) (q + 42) 4 (0 : Int32)) (q + 42) 5 (0 : Int32)) (q + 41) 10 (0 : Int32)) (q + 41) 11 (0 : Int32)) (q + 53) 1 (0 : Int32)) (q + 53) 2 (0 : Int32)) q 9 (0 : Int32)) q 11 (0 : Int32)) (q + 57) 3 (0 : Int32)) (q + 57) 4 (0 : Int32)) (q + 57) 5 (0 : Int32)) q 13 (0 : Int32)) q 14 (-1 : Int32)) (q + 61) 3 (0 : Int32)) (q + 61) 4 (0 : Int32)) (q + 61) 5 (0 : Int32)) (q + 65) 3 (0 : Int32)) (q + 65) 4 (0 : Int32)) (q + 65) 5 (0 : Int32)) (q + 69) 3 (0 : Int32)) (q + 69) 4 (0 : Int32)) (q + 69) 5 (0 : Int32)) (ab_u J (q + 22) 5 (0 : Int64)) (ab_u (ab_u (ab_u (ab_u (ab_u (ab_u (ab_u (ab_u (ab_u (ab_u (ab_u (ab_u (ab_u (ab_u (ab_u (ab_u (ab_u (ab_u (ab_u (ab_u (ab_u (ab_u (ab_u (ab_u (ab_u (ab_u (ab_u (ab_u (ab_u (ab_u (ab_u (ab_u (ab_u (ab_u (ab_u (ab_u (ab_u (ab_u (ab_u (ab_u (ab_u (ab_u (ab_u (ab_u (ab_u (ab_u (ab_u (ab_u (ab_u (ab_u (ab_u (ab_u (ab_u (ab_u (ab_u (ab_u (ab_u (ab_u (ab_u (ab_u (ab_u (ab_u (ab_u (ab_u (ab_u (ab_u (ab_u (ab_u (ab_u (ab_u (ab_u (ab_u (ab_u (ab_u (ab_u (ab_u (ab_u (ab_u (ab_u (ab_u P (q + 1) 0 (some (q + 2))) q 0 (some (q + 1))) (q + 3) 0 (some (q + 4))) (q + 3) 1 (some (q + 5))) (q + 3) 2 (some (q + 6))) (q + 7) 0 (some (q + 8))) (q + 7) 1 (some (q + 9))) (q + 7) 2 (some (q + 10))) (q + 3) 3 (some (q + 7))) q 1 (some (q + 3))) (q + 11) 1 (some (q + 12))) (q + 11) 2 (some (q + 13))) (q + 14) 0 (some (q + 15))) (q + 14) 1 (some (q + 16))) (q + 14) 2 (some (q + 17))) (q + 18) 0 (some (q + 19))) (q + 18) 1 (some (q + 20))) (q + 18) 2 (some (q + 21))) (q + 14) 3 (some (q + 18))) (q + 11) 7 (some (q + 14))) (q + 22) 0 (some (q + 1))) (q + 11) 0 (some (q + 22))) q 2 (some (q + 11))) (q + 23) 1 (some (q + 24))) (q + 23) 0 (some (q + 3))) q 3 (some (q + 23))) (q + 26) 0 (some (q + 27))) (q + 26) 1 (some (q + 28))) (q + 26) 2 (some (q + 29))) (q + 25) 2 (some (q + 26))) (q + 25) 3 (some (q + 30))) (q + 25) 4 (some (q + 31))) (q + 25) 5 (some (q + 32))) (q + 25) 6 (some (q + 33))) (q + 25) 0 (some (q + 3))) (q + 25) 1 (some (q + 23))) q 4 (some (q + 25))) (q + 35) 0 (some (q + 36))) (q + 35) 1 (some (q + 37))) (q + 35) 2 (some (q + 38))) (q + 34) 2 (some (q + 35))) (q + 34) 3 (some (q + 39))) (q + 34) 4 (some (q + 40))) (q + 34) 0 (some (q + 3))) (q + 34) 1 (some (q + 23))) q 5 (some (q + 34))) (q + 42) 0 (some (q + 43))) (q + 42) 1 (some (q + 44))) (q + 42) 2 (some (q + 45))) (q + 41) 2 (some (q + 42))) (q + 41) 3 (some (q + 46))) (q + 41) 4 (some (q + 47))) (q + 41) 5 (some (q + 48))) (q + 41) 6 (some (q + 49))) (q + 41) 7 (some (q + 50))) (q + 41) 8 (some (q + 51))) (q + 41) 9 (some (q + 52))) (q + 41) 0 (some (q + 3))) (q + 41) 1 (some (q + 23))) q 6 (some (q + 41))) (q + 53) 0 (some (q + 54))) q 7 (some (q + 53))) q 8 (some (q + 55))) q 10 (some (q + 56))) (q + 57) 0 (some (q + 58))) (q + 57) 1 (some (q + 59))) (q + 57) 2 (some (q + 60))) q 12 (some (q + 57))) (q + 61) 0 (some (q + 62))) (q + 61) 1 (some (q + 63))) (q + 61) 2 (some (q + 64))) (q + 56) (0 : Int32).toNatClampNeg (some (q + 61))) (q + 65) 0 (some (q + 66))) (q + 65) 1 (some (q + 67))) (q + 65) 2 (some (q + 68))) (q + 56) (1 : Int32).toNatClampNeg (some (q + 65))) (q + 69) 0 (some (q + 70))) (q + 69) 1 (some (q + 71))) (q + 69) 2 (some (q + 72))) (q + 56) (2 : Int32).toNatClampNeg (some (q + 69))) := by simpa only [List.append_assoc, List.cons_append, List.nil_append] using K
  refine ab_enter rfl (Nat.le_of_ble_eq_true rfl) (ab_wk (ls' := [some (.ref q), none]) (ab_le_some (ab_le_non0 (ab_le_nil))) ?_)
  refine ab_aload_n (z := 0) (by decide +kernel) rfl rfl ?_
  refine ab_objInit (ix := 3) (by decide +kernel) tw_23 tw_24 tw_25 (by decide) (Nat.le_of_ble_eq_true rfl) ?_
  refine ab_aload_n (z := 0) (by decide +kernel) rfl rfl ?_
  refine bz_new7 (ix := 9) (by decide +kernel) tw_26 tw_27 tw_2 hL hZ (by decide) (by decide) ?_
  have hF1 := bz_last hL (a := (12, 0))
  have hL := bz_len hL (a := (12, 0))
  have hZ := bz_Z_m hZ (Nat.le_succ _)
  refine ab_dup (by decide +kernel) rfl ?_
  refine ab_callIN (g := iX7) (host := "BellRingers") (ix := 11) (dg := 1) (r := (q + 1)) (as := []) (st := [.ref (q + 1), .ref q]) (by decide +kernel) tn_28 tw_29 tw_2 tw_30 rfl rfl ⟨by decide +kernel, by decide +kernel, (by decide +kernel : (parseMethodDescriptor iX7.1.desc).map (fun d => d.parameters.length) = some 0)⟩ (by decide) rfl (by decide) (by decide) (by decide) (Nat.le_of_ble_eq_true rfl) (iX7_ok hL hF1 hZ ?_)
  have hL := bz_lenL hL (T := [(1, 1600)])
  replace hL : ((S ++ [(12, 0)]) ++ [(1, 1600)]).length = q + 3 := hL
  have hZ := bz_Z_m hZ (by omega : (q + 2) ≤ (q + 3))
  replace hZ : bz_Z (q + 3) (ab_u I (q + 1) 1 (0 : Int32)) J (ab_u P (q + 1) 0 (some (q + 2))) := by
    exact (bz_Z_P (bz_Z_I hZ (by omega)) (by omega))
  change ab_WP l G iX11 4 12 [some (.ref q), none] [.ref (q + 1), .ref q] ((S ++ [(12, 0)]) ++ [(1, 1600)]) (ab_u I (q + 1) 1 (0 : Int32)) J (ab_u P (q + 1) 0 (some (q + 2))) _ _ Q
  refine bz_pP11_0 (ix := 12) (by decide +kernel) tw_408 ⟨rfl, rfl⟩ (bz_app (bz_app hq)) ?_
  have hZ := bz_Z_P (k := 0) (x := some (q + 1)) hZ (by omega : q < (q + 3))
  refine ab_aload_n (z := 0) (by decide +kernel) rfl rfl ?_
  refine bz_new9 (ix := 16) (by decide +kernel) tw_42 tw_43 tw_3 hL hZ (by decide) (by decide) ?_
  have hF3 := bz_last hL (a := (14, 0))
  have hL := bz_len hL (a := (14, 0))
  have hZ := bz_Z_m hZ (Nat.le_succ _)
  refine ab_dup (by decide +kernel) rfl ?_
  refine ab_callIN (g := iX9) (host := "BellRingers") (ix := 18) (dg := 2) (r := (q + 3)) (as := []) (st := [.ref (q + 3), .ref q]) (by decide +kernel) tn_44 tw_45 tw_3 tw_46 rfl rfl ⟨by decide +kernel, by decide +kernel, (by decide +kernel : (parseMethodDescriptor iX9.1.desc).map (fun d => d.parameters.length) = some 0)⟩ (by decide) rfl (by decide) (by decide) (by decide) (Nat.le_of_ble_eq_true rfl) (iX9_ok hL hF3 hZ ?_)
  have hL := bz_lenL hL (T := [(0, 6), (0, 5), (0, 30), (7, 0), (0, 300), (0, 30), (0, 6)])
  replace hL : ((((S ++ [(12, 0)]) ++ [(1, 1600)]) ++ [(14, 0)]) ++ [(0, 6), (0, 5), (0, 30), (7, 0), (0, 300), (0, 30), (0, 6)]).length = q + 11 := hL
  have hZ := bz_Z_m hZ (by omega : (q + 4) ≤ (q + 11))
  replace hZ : bz_Z (q + 11) (ab_u (ab_u (ab_u (ab_u (ab_u (ab_u (ab_u (ab_u (ab_u I (q + 1) 1 (0 : Int32)) (q + 7) 3 (0 : Int32)) (q + 7) 4 (0 : Int32)) (q + 3) 4 (0 : Int32)) (q + 3) 5 (0 : Int32)) (q + 3) 6 (0 : Int32)) (q + 3) 7 (-1 : Int32)) (q + 3) 8 (0 : Int32)) (q + 3) 9 (0 : Int32)) J (ab_u (ab_u (ab_u (ab_u (ab_u (ab_u (ab_u (ab_u (ab_u P (q + 1) 0 (some (q + 2))) q 0 (some (q + 1))) (q + 3) 0 (some (q + 4))) (q + 3) 1 (some (q + 5))) (q + 3) 2 (some (q + 6))) (q + 7) 0 (some (q + 8))) (q + 7) 1 (some (q + 9))) (q + 7) 2 (some (q + 10))) (q + 3) 3 (some (q + 7))) := by
    exact (bz_Z_P (bz_Z_P (bz_Z_P (bz_Z_P (bz_Z_P (bz_Z_P (bz_Z_P (bz_Z_I (bz_Z_I (bz_Z_I (bz_Z_I (bz_Z_I (bz_Z_I (bz_Z_I (bz_Z_I hZ (by omega)) (by omega)) (by omega)) (by omega)) (by omega)) (by omega)) (by omega)) (by omega)) (by omega)) (by omega)) (by omega)) (by omega)) (by omega)) (by omega)) (by omega))
  change ab_WP l G iX11 4 23 [some (.ref q), none] [.ref (q + 3), .ref q] ((((S ++ [(12, 0)]) ++ [(1, 1600)]) ++ [(14, 0)]) ++ [(0, 6), (0, 5), (0, 30), (7, 0), (0, 300), (0, 30), (0, 6)]) (ab_u (ab_u (ab_u (ab_u (ab_u (ab_u (ab_u (ab_u (ab_u I (q + 1) 1 (0 : Int32)) (q + 7) 3 (0 : Int32)) (q + 7) 4 (0 : Int32)) (q + 3) 4 (0 : Int32)) (q + 3) 5 (0 : Int32)) (q + 3) 6 (0 : Int32)) (q + 3) 7 (-1 : Int32)) (q + 3) 8 (0 : Int32)) (q + 3) 9 (0 : Int32)) J (ab_u (ab_u (ab_u (ab_u (ab_u (ab_u (ab_u (ab_u (ab_u P (q + 1) 0 (some (q + 2))) q 0 (some (q + 1))) (q + 3) 0 (some (q + 4))) (q + 3) 1 (some (q + 5))) (q + 3) 2 (some (q + 6))) (q + 7) 0 (some (q + 8))) (q + 7) 1 (some (q + 9))) (q + 7) 2 (some (q + 10))) (q + 3) 3 (some (q + 7))) _ _ Q
  refine bz_pP11_1 (ix := 19) (by decide +kernel) tw_409 ⟨rfl, rfl⟩ (bz_app (bz_app (bz_app (bz_app hq)))) ?_
  have hZ := bz_Z_P (k := 1) (x := some (q + 3)) hZ (by omega : q < (q + 11))
  refine ab_aload_n (z := 0) (by decide +kernel) rfl rfl ?_
  refine bz_new4 (ix := 23) (by decide +kernel) tw_133 tw_134 tw_5 hL hZ (by decide) (by decide) ?_
  have hF11 := bz_last hL (a := (9, 0))
  have hL := bz_len hL (a := (9, 0))
  have hZ := bz_Z_m hZ (Nat.le_succ _)
  refine ab_dup (by decide +kernel) rfl ?_
  refine ab_aload_n (z := 0) (by decide +kernel) rfl rfl ?_
  refine bz_gP11_0 (ix := 12) (a := (q + 1)) (by decide +kernel) tw_408 (bz_app (bz_app (bz_app (bz_app (bz_app hq))))) (by simp [ab_u]) ?_
  refine ab_callI (g := iX4) (ix := 25) (dg := 3) (r := (q + 11)) (as := [.ref (q + 1)]) (st := [.ref (q + 11), .ref q]) (by decide +kernel) tw_135 tw_136 tw_5 tw_137 rfl rfl ⟨by decide +kernel, by decide +kernel, (by decide +kernel : (parseMethodDescriptor iX4.1.desc).map (fun d => d.parameters.length) = some 1)⟩ (by decide) rfl (by decide) (by decide) (by decide) (Nat.le_of_ble_eq_true rfl) (iX4_ok hL hF11 hZ ?_)
  have hL := bz_lenL hL (T := [(3, 6), (3, 5), (14, 0), (0, 6), (0, 5), (0, 30), (7, 0), (0, 300), (0, 30), (0, 6), (13, 0)])
  replace hL : ((((((S ++ [(12, 0)]) ++ [(1, 1600)]) ++ [(14, 0)]) ++ [(0, 6), (0, 5), (0, 30), (7, 0), (0, 300), (0, 30), (0, 6)]) ++ [(9, 0)]) ++ [(3, 6), (3, 5), (14, 0), (0, 6), (0, 5), (0, 30), (7, 0), (0, 300), (0, 30), (0, 6), (13, 0)]).length = q + 23 := hL
  have hZ := bz_Z_m hZ (by omega : (q + 12) ≤ (q + 23))
  replace hZ : bz_Z (q + 23) (ab_u (ab_u (ab_u (ab_u (ab_u (ab_u (ab_u (ab_u (ab_u (ab_u (ab_u (ab_u (ab_u (ab_u (ab_u (ab_u (ab_u (ab_u (ab_u (ab_u (ab_u (ab_u (ab_u (ab_u (ab_u (ab_u (ab_u I (q + 1) 1 (0 : Int32)) (q + 7) 3 (0 : Int32)) (q + 7) 4 (0 : Int32)) (q + 3) 4 (0 : Int32)) (q + 3) 5 (0 : Int32)) (q + 3) 6 (0 : Int32)) (q + 3) 7 (-1 : Int32)) (q + 3) 8 (0 : Int32)) (q + 3) 9 (0 : Int32)) (q + 11) 3 (0 : Int32)) (q + 11) 4 (0 : Int32)) (q + 11) 5 (0 : Int32)) (q + 11) 6 (0 : Int32)) (q + 18) 3 (0 : Int32)) (q + 18) 4 (0 : Int32)) (q + 14) 4 (0 : Int32)) (q + 14) 5 (0 : Int32)) (q + 14) 6 (0 : Int32)) (q + 14) 7 (-1 : Int32)) (q + 14) 8 (0 : Int32)) (q + 14) 9 (0 : Int32)) (q + 11) 8 (0 : Int32)) (q + 11) 9 (-1 : Int32)) (q + 22) 1 (0 : Int32)) (q + 22) 2 (0 : Int32)) (q + 22) 3 (0 : Int32)) (q + 22) 4 (0 : Int32)) (ab_u J (q + 22) 5 (0 : Int64)) (ab_u (ab_u (ab_u (ab_u (ab_u (ab_u (ab_u (ab_u (ab_u (ab_u (ab_u (ab_u (ab_u (ab_u (ab_u (ab_u (ab_u (ab_u (ab_u (ab_u (ab_u (ab_u P (q + 1) 0 (some (q + 2))) q 0 (some (q + 1))) (q + 3) 0 (some (q + 4))) (q + 3) 1 (some (q + 5))) (q + 3) 2 (some (q + 6))) (q + 7) 0 (some (q + 8))) (q + 7) 1 (some (q + 9))) (q + 7) 2 (some (q + 10))) (q + 3) 3 (some (q + 7))) q 1 (some (q + 3))) (q + 11) 1 (some (q + 12))) (q + 11) 2 (some (q + 13))) (q + 14) 0 (some (q + 15))) (q + 14) 1 (some (q + 16))) (q + 14) 2 (some (q + 17))) (q + 18) 0 (some (q + 19))) (q + 18) 1 (some (q + 20))) (q + 18) 2 (some (q + 21))) (q + 14) 3 (some (q + 18))) (q + 11) 7 (some (q + 14))) (q + 22) 0 (some (q + 1))) (q + 11) 0 (some (q + 22))) := by
    exact (bz_Z_P (bz_Z_P (bz_Z_P (bz_Z_P (bz_Z_P (bz_Z_P (bz_Z_P (bz_Z_P (bz_Z_P (bz_Z_P (bz_Z_P (bz_Z_P (bz_Z_J (bz_Z_I (bz_Z_I (bz_Z_I (bz_Z_I (bz_Z_I (bz_Z_I (bz_Z_I (bz_Z_I (bz_Z_I (bz_Z_I (bz_Z_I (bz_Z_I (bz_Z_I (bz_Z_I (bz_Z_I (bz_Z_I (bz_Z_I (bz_Z_I hZ (by omega)) (by omega)) (by omega)) (by omega)) (by omega)) (by omega)) (by omega)) (by omega)) (by omega)) (by omega)) (by omega)) (by omega)) (by omega)) (by omega)) (by omega)) (by omega)) (by omega)) (by omega)) (by omega)) (by omega)) (by omega)) (by omega)) (by omega)) (by omega)) (by omega)) (by omega)) (by omega)) (by omega)) (by omega)) (by omega)) (by omega))
  change ab_WP l G iX11 4 38 [some (.ref q), none] [.ref (q + 11), .ref q] ((((((S ++ [(12, 0)]) ++ [(1, 1600)]) ++ [(14, 0)]) ++ [(0, 6), (0, 5), (0, 30), (7, 0), (0, 300), (0, 30), (0, 6)]) ++ [(9, 0)]) ++ [(3, 6), (3, 5), (14, 0), (0, 6), (0, 5), (0, 30), (7, 0), (0, 300), (0, 30), (0, 6), (13, 0)]) (ab_u (ab_u (ab_u (ab_u (ab_u (ab_u (ab_u (ab_u (ab_u (ab_u (ab_u (ab_u (ab_u (ab_u (ab_u (ab_u (ab_u (ab_u (ab_u (ab_u (ab_u (ab_u (ab_u (ab_u (ab_u (ab_u (ab_u I (q + 1) 1 (0 : Int32)) (q + 7) 3 (0 : Int32)) (q + 7) 4 (0 : Int32)) (q + 3) 4 (0 : Int32)) (q + 3) 5 (0 : Int32)) (q + 3) 6 (0 : Int32)) (q + 3) 7 (-1 : Int32)) (q + 3) 8 (0 : Int32)) (q + 3) 9 (0 : Int32)) (q + 11) 3 (0 : Int32)) (q + 11) 4 (0 : Int32)) (q + 11) 5 (0 : Int32)) (q + 11) 6 (0 : Int32)) (q + 18) 3 (0 : Int32)) (q + 18) 4 (0 : Int32)) (q + 14) 4 (0 : Int32)) (q + 14) 5 (0 : Int32)) (q + 14) 6 (0 : Int32)) (q + 14) 7 (-1 : Int32)) (q + 14) 8 (0 : Int32)) (q + 14) 9 (0 : Int32)) (q + 11) 8 (0 : Int32)) (q + 11) 9 (-1 : Int32)) (q + 22) 1 (0 : Int32)) (q + 22) 2 (0 : Int32)) (q + 22) 3 (0 : Int32)) (q + 22) 4 (0 : Int32)) (ab_u J (q + 22) 5 (0 : Int64)) (ab_u (ab_u (ab_u (ab_u (ab_u (ab_u (ab_u (ab_u (ab_u (ab_u (ab_u (ab_u (ab_u (ab_u (ab_u (ab_u (ab_u (ab_u (ab_u (ab_u (ab_u (ab_u P (q + 1) 0 (some (q + 2))) q 0 (some (q + 1))) (q + 3) 0 (some (q + 4))) (q + 3) 1 (some (q + 5))) (q + 3) 2 (some (q + 6))) (q + 7) 0 (some (q + 8))) (q + 7) 1 (some (q + 9))) (q + 7) 2 (some (q + 10))) (q + 3) 3 (some (q + 7))) q 1 (some (q + 3))) (q + 11) 1 (some (q + 12))) (q + 11) 2 (some (q + 13))) (q + 14) 0 (some (q + 15))) (q + 14) 1 (some (q + 16))) (q + 14) 2 (some (q + 17))) (q + 18) 0 (some (q + 19))) (q + 18) 1 (some (q + 20))) (q + 18) 2 (some (q + 21))) (q + 14) 3 (some (q + 18))) (q + 11) 7 (some (q + 14))) (q + 22) 0 (some (q + 1))) (q + 11) 0 (some (q + 22))) _ _ Q
  refine bz_pP11_2 (ix := 28) (by decide +kernel) tw_410 ⟨rfl, rfl⟩ (bz_app (bz_app (bz_app (bz_app (bz_app (bz_app hq)))))) ?_
  have hZ := bz_Z_P (k := 2) (x := some (q + 11)) hZ (by omega : q < (q + 23))
  refine ab_aload_n (z := 0) (by decide +kernel) rfl rfl ?_
  refine bz_new5 (ix := 32) (by decide +kernel) tw_205 tw_206 tw_7 hL hZ (by decide) (by decide) ?_
  have hF23 := bz_last hL (a := (10, 0))
  have hL := bz_len hL (a := (10, 0))
  have hZ := bz_Z_m hZ (Nat.le_succ _)
  refine ab_dup (by decide +kernel) rfl ?_
  refine ab_aload_n (z := 0) (by decide +kernel) rfl rfl ?_
  refine bz_gP11_1 (ix := 19) (a := (q + 3)) (by decide +kernel) tw_409 (bz_app (bz_app (bz_app (bz_app (bz_app (bz_app (bz_app hq))))))) (by simp [ab_u]) ?_
  refine ab_callI (g := iX5) (ix := 34) (dg := 1) (r := (q + 23)) (as := [.ref (q + 3)]) (st := [.ref (q + 23), .ref q]) (by decide +kernel) tw_207 tw_208 tw_7 tw_209 rfl rfl ⟨by decide +kernel, by decide +kernel, (by decide +kernel : (parseMethodDescriptor iX5.1.desc).map (fun d => d.parameters.length) = some 1)⟩ (by decide) rfl (by decide) (by decide) (by decide) (Nat.le_of_ble_eq_true rfl) (iX5_ok hL hF23 hZ ?_)
  have hL := bz_lenL hL (T := [(0, 5)])
  replace hL : ((((((((S ++ [(12, 0)]) ++ [(1, 1600)]) ++ [(14, 0)]) ++ [(0, 6), (0, 5), (0, 30), (7, 0), (0, 300), (0, 30), (0, 6)]) ++ [(9, 0)]) ++ [(3, 6), (3, 5), (14, 0), (0, 6), (0, 5), (0, 30), (7, 0), (0, 300), (0, 30), (0, 6), (13, 0)]) ++ [(10, 0)]) ++ [(0, 5)]).length = q + 25 := hL
  have hZ := bz_Z_m hZ (by omega : (q + 24) ≤ (q + 25))
  replace hZ : bz_Z (q + 25) (ab_u (ab_u (ab_u (ab_u (ab_u (ab_u (ab_u (ab_u (ab_u (ab_u (ab_u (ab_u (ab_u (ab_u (ab_u (ab_u (ab_u (ab_u (ab_u (ab_u (ab_u (ab_u (ab_u (ab_u (ab_u (ab_u (ab_u I (q + 1) 1 (0 : Int32)) (q + 7) 3 (0 : Int32)) (q + 7) 4 (0 : Int32)) (q + 3) 4 (0 : Int32)) (q + 3) 5 (0 : Int32)) (q + 3) 6 (0 : Int32)) (q + 3) 7 (-1 : Int32)) (q + 3) 8 (0 : Int32)) (q + 3) 9 (0 : Int32)) (q + 11) 3 (0 : Int32)) (q + 11) 4 (0 : Int32)) (q + 11) 5 (0 : Int32)) (q + 11) 6 (0 : Int32)) (q + 18) 3 (0 : Int32)) (q + 18) 4 (0 : Int32)) (q + 14) 4 (0 : Int32)) (q + 14) 5 (0 : Int32)) (q + 14) 6 (0 : Int32)) (q + 14) 7 (-1 : Int32)) (q + 14) 8 (0 : Int32)) (q + 14) 9 (0 : Int32)) (q + 11) 8 (0 : Int32)) (q + 11) 9 (-1 : Int32)) (q + 22) 1 (0 : Int32)) (q + 22) 2 (0 : Int32)) (q + 22) 3 (0 : Int32)) (q + 22) 4 (0 : Int32)) (ab_u J (q + 22) 5 (0 : Int64)) (ab_u (ab_u (ab_u (ab_u (ab_u (ab_u (ab_u (ab_u (ab_u (ab_u (ab_u (ab_u (ab_u (ab_u (ab_u (ab_u (ab_u (ab_u (ab_u (ab_u (ab_u (ab_u (ab_u (ab_u (ab_u P (q + 1) 0 (some (q + 2))) q 0 (some (q + 1))) (q + 3) 0 (some (q + 4))) (q + 3) 1 (some (q + 5))) (q + 3) 2 (some (q + 6))) (q + 7) 0 (some (q + 8))) (q + 7) 1 (some (q + 9))) (q + 7) 2 (some (q + 10))) (q + 3) 3 (some (q + 7))) q 1 (some (q + 3))) (q + 11) 1 (some (q + 12))) (q + 11) 2 (some (q + 13))) (q + 14) 0 (some (q + 15))) (q + 14) 1 (some (q + 16))) (q + 14) 2 (some (q + 17))) (q + 18) 0 (some (q + 19))) (q + 18) 1 (some (q + 20))) (q + 18) 2 (some (q + 21))) (q + 14) 3 (some (q + 18))) (q + 11) 7 (some (q + 14))) (q + 22) 0 (some (q + 1))) (q + 11) 0 (some (q + 22))) q 2 (some (q + 11))) (q + 23) 1 (some (q + 24))) (q + 23) 0 (some (q + 3))) := by
    exact (bz_Z_P (bz_Z_P hZ (by omega)) (by omega))
  change ab_WP l G iX11 4 53 [some (.ref q), none] [.ref (q + 23), .ref q] ((((((((S ++ [(12, 0)]) ++ [(1, 1600)]) ++ [(14, 0)]) ++ [(0, 6), (0, 5), (0, 30), (7, 0), (0, 300), (0, 30), (0, 6)]) ++ [(9, 0)]) ++ [(3, 6), (3, 5), (14, 0), (0, 6), (0, 5), (0, 30), (7, 0), (0, 300), (0, 30), (0, 6), (13, 0)]) ++ [(10, 0)]) ++ [(0, 5)]) (ab_u (ab_u (ab_u (ab_u (ab_u (ab_u (ab_u (ab_u (ab_u (ab_u (ab_u (ab_u (ab_u (ab_u (ab_u (ab_u (ab_u (ab_u (ab_u (ab_u (ab_u (ab_u (ab_u (ab_u (ab_u (ab_u (ab_u I (q + 1) 1 (0 : Int32)) (q + 7) 3 (0 : Int32)) (q + 7) 4 (0 : Int32)) (q + 3) 4 (0 : Int32)) (q + 3) 5 (0 : Int32)) (q + 3) 6 (0 : Int32)) (q + 3) 7 (-1 : Int32)) (q + 3) 8 (0 : Int32)) (q + 3) 9 (0 : Int32)) (q + 11) 3 (0 : Int32)) (q + 11) 4 (0 : Int32)) (q + 11) 5 (0 : Int32)) (q + 11) 6 (0 : Int32)) (q + 18) 3 (0 : Int32)) (q + 18) 4 (0 : Int32)) (q + 14) 4 (0 : Int32)) (q + 14) 5 (0 : Int32)) (q + 14) 6 (0 : Int32)) (q + 14) 7 (-1 : Int32)) (q + 14) 8 (0 : Int32)) (q + 14) 9 (0 : Int32)) (q + 11) 8 (0 : Int32)) (q + 11) 9 (-1 : Int32)) (q + 22) 1 (0 : Int32)) (q + 22) 2 (0 : Int32)) (q + 22) 3 (0 : Int32)) (q + 22) 4 (0 : Int32)) (ab_u J (q + 22) 5 (0 : Int64)) (ab_u (ab_u (ab_u (ab_u (ab_u (ab_u (ab_u (ab_u (ab_u (ab_u (ab_u (ab_u (ab_u (ab_u (ab_u (ab_u (ab_u (ab_u (ab_u (ab_u (ab_u (ab_u (ab_u (ab_u (ab_u P (q + 1) 0 (some (q + 2))) q 0 (some (q + 1))) (q + 3) 0 (some (q + 4))) (q + 3) 1 (some (q + 5))) (q + 3) 2 (some (q + 6))) (q + 7) 0 (some (q + 8))) (q + 7) 1 (some (q + 9))) (q + 7) 2 (some (q + 10))) (q + 3) 3 (some (q + 7))) q 1 (some (q + 3))) (q + 11) 1 (some (q + 12))) (q + 11) 2 (some (q + 13))) (q + 14) 0 (some (q + 15))) (q + 14) 1 (some (q + 16))) (q + 14) 2 (some (q + 17))) (q + 18) 0 (some (q + 19))) (q + 18) 1 (some (q + 20))) (q + 18) 2 (some (q + 21))) (q + 14) 3 (some (q + 18))) (q + 11) 7 (some (q + 14))) (q + 22) 0 (some (q + 1))) (q + 11) 0 (some (q + 22))) q 2 (some (q + 11))) (q + 23) 1 (some (q + 24))) (q + 23) 0 (some (q + 3))) _ _ Q
  refine bz_pP11_3 (ix := 37) (by decide +kernel) tw_411 ⟨rfl, rfl⟩ (bz_app (bz_app (bz_app (bz_app (bz_app (bz_app (bz_app (bz_app hq)))))))) ?_
  have hZ := bz_Z_P (k := 3) (x := some (q + 23)) hZ (by omega : q < (q + 25))
  refine ab_aload_n (z := 0) (by decide +kernel) rfl rfl ?_
  refine bz_new1 (ix := 41) (by decide +kernel) tw_221 tw_222 tw_8 hL hZ (by decide) (by decide) ?_
  have hF25 := bz_last hL (a := (6, 0))
  have hL := bz_len hL (a := (6, 0))
  have hZ := bz_Z_m hZ (Nat.le_succ _)
  refine ab_dup (by decide +kernel) rfl ?_
  refine ab_aload_n (z := 0) (by decide +kernel) rfl rfl ?_
  refine bz_gP11_1 (ix := 19) (a := (q + 3)) (by decide +kernel) tw_409 (bz_app (bz_app (bz_app (bz_app (bz_app (bz_app (bz_app (bz_app (bz_app hq))))))))) (by simp [ab_u]) ?_
  refine ab_aload_n (z := 0) (by decide +kernel) rfl rfl ?_
  refine bz_gP11_3 (ix := 37) (a := (q + 23)) (by decide +kernel) tw_411 (bz_app (bz_app (bz_app (bz_app (bz_app (bz_app (bz_app (bz_app (bz_app hq))))))))) (by simp [ab_u]) ?_
  refine ab_callI (g := iX1) (ix := 43) (dg := 2) (r := (q + 25)) (as := [.ref (q + 3), .ref (q + 23)]) (st := [.ref (q + 25), .ref q]) (by decide +kernel) tw_223 tw_224 tw_8 tw_225 rfl rfl ⟨by decide +kernel, by decide +kernel, (by decide +kernel : (parseMethodDescriptor iX1.1.desc).map (fun d => d.parameters.length) = some 2)⟩ (by decide) rfl (by decide) (by decide) (by decide) (Nat.le_of_ble_eq_true rfl) (iX1_ok hL hF25 hZ ?_)
  have hL := bz_lenL hL (T := [(11, 0), (0, 6), (0, 6), (0, 30), (0, 6), (0, 4), (0, 4), (0, 2)])
  replace hL : ((((((((((S ++ [(12, 0)]) ++ [(1, 1600)]) ++ [(14, 0)]) ++ [(0, 6), (0, 5), (0, 30), (7, 0), (0, 300), (0, 30), (0, 6)]) ++ [(9, 0)]) ++ [(3, 6), (3, 5), (14, 0), (0, 6), (0, 5), (0, 30), (7, 0), (0, 300), (0, 30), (0, 6), (13, 0)]) ++ [(10, 0)]) ++ [(0, 5)]) ++ [(6, 0)]) ++ [(11, 0), (0, 6), (0, 6), (0, 30), (0, 6), (0, 4), (0, 4), (0, 2)]).length = q + 34 := hL
  have hZ := bz_Z_m hZ (by omega : (q + 26) ≤ (q + 34))
  replace hZ : bz_Z (q + 34) (ab_u (ab_u (ab_u (ab_u (ab_u (ab_u (ab_u (ab_u (ab_u (ab_u (ab_u (ab_u (ab_u (ab_u (ab_u (ab_u (ab_u (ab_u (ab_u (ab_u (ab_u (ab_u (ab_u (ab_u (ab_u (ab_u (ab_u (ab_u (ab_u (ab_u I (q + 1) 1 (0 : Int32)) (q + 7) 3 (0 : Int32)) (q + 7) 4 (0 : Int32)) (q + 3) 4 (0 : Int32)) (q + 3) 5 (0 : Int32)) (q + 3) 6 (0 : Int32)) (q + 3) 7 (-1 : Int32)) (q + 3) 8 (0 : Int32)) (q + 3) 9 (0 : Int32)) (q + 11) 3 (0 : Int32)) (q + 11) 4 (0 : Int32)) (q + 11) 5 (0 : Int32)) (q + 11) 6 (0 : Int32)) (q + 18) 3 (0 : Int32)) (q + 18) 4 (0 : Int32)) (q + 14) 4 (0 : Int32)) (q + 14) 5 (0 : Int32)) (q + 14) 6 (0 : Int32)) (q + 14) 7 (-1 : Int32)) (q + 14) 8 (0 : Int32)) (q + 14) 9 (0 : Int32)) (q + 11) 8 (0 : Int32)) (q + 11) 9 (-1 : Int32)) (q + 22) 1 (0 : Int32)) (q + 22) 2 (0 : Int32)) (q + 22) 3 (0 : Int32)) (q + 22) 4 (0 : Int32)) (q + 26) 3 (0 : Int32)) (q + 26) 4 (0 : Int32)) (q + 26) 5 (0 : Int32)) (ab_u J (q + 22) 5 (0 : Int64)) (ab_u (ab_u (ab_u (ab_u (ab_u (ab_u (ab_u (ab_u (ab_u (ab_u (ab_u (ab_u (ab_u (ab_u (ab_u (ab_u (ab_u (ab_u (ab_u (ab_u (ab_u (ab_u (ab_u (ab_u (ab_u (ab_u (ab_u (ab_u (ab_u (ab_u (ab_u (ab_u (ab_u (ab_u (ab_u (ab_u P (q + 1) 0 (some (q + 2))) q 0 (some (q + 1))) (q + 3) 0 (some (q + 4))) (q + 3) 1 (some (q + 5))) (q + 3) 2 (some (q + 6))) (q + 7) 0 (some (q + 8))) (q + 7) 1 (some (q + 9))) (q + 7) 2 (some (q + 10))) (q + 3) 3 (some (q + 7))) q 1 (some (q + 3))) (q + 11) 1 (some (q + 12))) (q + 11) 2 (some (q + 13))) (q + 14) 0 (some (q + 15))) (q + 14) 1 (some (q + 16))) (q + 14) 2 (some (q + 17))) (q + 18) 0 (some (q + 19))) (q + 18) 1 (some (q + 20))) (q + 18) 2 (some (q + 21))) (q + 14) 3 (some (q + 18))) (q + 11) 7 (some (q + 14))) (q + 22) 0 (some (q + 1))) (q + 11) 0 (some (q + 22))) q 2 (some (q + 11))) (q + 23) 1 (some (q + 24))) (q + 23) 0 (some (q + 3))) q 3 (some (q + 23))) (q + 26) 0 (some (q + 27))) (q + 26) 1 (some (q + 28))) (q + 26) 2 (some (q + 29))) (q + 25) 2 (some (q + 26))) (q + 25) 3 (some (q + 30))) (q + 25) 4 (some (q + 31))) (q + 25) 5 (some (q + 32))) (q + 25) 6 (some (q + 33))) (q + 25) 0 (some (q + 3))) (q + 25) 1 (some (q + 23))) := by
    exact (bz_Z_P (bz_Z_P (bz_Z_P (bz_Z_P (bz_Z_P (bz_Z_P (bz_Z_P (bz_Z_P (bz_Z_P (bz_Z_P (bz_Z_I (bz_Z_I (bz_Z_I hZ (by omega)) (by omega)) (by omega)) (by omega)) (by omega)) (by omega)) (by omega)) (by omega)) (by omega)) (by omega)) (by omega)) (by omega)) (by omega))
  change ab_WP l G iX11 4 72 [some (.ref q), none] [.ref (q + 25), .ref q] ((((((((((S ++ [(12, 0)]) ++ [(1, 1600)]) ++ [(14, 0)]) ++ [(0, 6), (0, 5), (0, 30), (7, 0), (0, 300), (0, 30), (0, 6)]) ++ [(9, 0)]) ++ [(3, 6), (3, 5), (14, 0), (0, 6), (0, 5), (0, 30), (7, 0), (0, 300), (0, 30), (0, 6), (13, 0)]) ++ [(10, 0)]) ++ [(0, 5)]) ++ [(6, 0)]) ++ [(11, 0), (0, 6), (0, 6), (0, 30), (0, 6), (0, 4), (0, 4), (0, 2)]) (ab_u (ab_u (ab_u (ab_u (ab_u (ab_u (ab_u (ab_u (ab_u (ab_u (ab_u (ab_u (ab_u (ab_u (ab_u (ab_u (ab_u (ab_u (ab_u (ab_u (ab_u (ab_u (ab_u (ab_u (ab_u (ab_u (ab_u (ab_u (ab_u (ab_u I (q + 1) 1 (0 : Int32)) (q + 7) 3 (0 : Int32)) (q + 7) 4 (0 : Int32)) (q + 3) 4 (0 : Int32)) (q + 3) 5 (0 : Int32)) (q + 3) 6 (0 : Int32)) (q + 3) 7 (-1 : Int32)) (q + 3) 8 (0 : Int32)) (q + 3) 9 (0 : Int32)) (q + 11) 3 (0 : Int32)) (q + 11) 4 (0 : Int32)) (q + 11) 5 (0 : Int32)) (q + 11) 6 (0 : Int32)) (q + 18) 3 (0 : Int32)) (q + 18) 4 (0 : Int32)) (q + 14) 4 (0 : Int32)) (q + 14) 5 (0 : Int32)) (q + 14) 6 (0 : Int32)) (q + 14) 7 (-1 : Int32)) (q + 14) 8 (0 : Int32)) (q + 14) 9 (0 : Int32)) (q + 11) 8 (0 : Int32)) (q + 11) 9 (-1 : Int32)) (q + 22) 1 (0 : Int32)) (q + 22) 2 (0 : Int32)) (q + 22) 3 (0 : Int32)) (q + 22) 4 (0 : Int32)) (q + 26) 3 (0 : Int32)) (q + 26) 4 (0 : Int32)) (q + 26) 5 (0 : Int32)) (ab_u J (q + 22) 5 (0 : Int64)) (ab_u (ab_u (ab_u (ab_u (ab_u (ab_u (ab_u (ab_u (ab_u (ab_u (ab_u (ab_u (ab_u (ab_u (ab_u (ab_u (ab_u (ab_u (ab_u (ab_u (ab_u (ab_u (ab_u (ab_u (ab_u (ab_u (ab_u (ab_u (ab_u (ab_u (ab_u (ab_u (ab_u (ab_u (ab_u (ab_u P (q + 1) 0 (some (q + 2))) q 0 (some (q + 1))) (q + 3) 0 (some (q + 4))) (q + 3) 1 (some (q + 5))) (q + 3) 2 (some (q + 6))) (q + 7) 0 (some (q + 8))) (q + 7) 1 (some (q + 9))) (q + 7) 2 (some (q + 10))) (q + 3) 3 (some (q + 7))) q 1 (some (q + 3))) (q + 11) 1 (some (q + 12))) (q + 11) 2 (some (q + 13))) (q + 14) 0 (some (q + 15))) (q + 14) 1 (some (q + 16))) (q + 14) 2 (some (q + 17))) (q + 18) 0 (some (q + 19))) (q + 18) 1 (some (q + 20))) (q + 18) 2 (some (q + 21))) (q + 14) 3 (some (q + 18))) (q + 11) 7 (some (q + 14))) (q + 22) 0 (some (q + 1))) (q + 11) 0 (some (q + 22))) q 2 (some (q + 11))) (q + 23) 1 (some (q + 24))) (q + 23) 0 (some (q + 3))) q 3 (some (q + 23))) (q + 26) 0 (some (q + 27))) (q + 26) 1 (some (q + 28))) (q + 26) 2 (some (q + 29))) (q + 25) 2 (some (q + 26))) (q + 25) 3 (some (q + 30))) (q + 25) 4 (some (q + 31))) (q + 25) 5 (some (q + 32))) (q + 25) 6 (some (q + 33))) (q + 25) 0 (some (q + 3))) (q + 25) 1 (some (q + 23))) _ _ Q
  refine bz_pP11_4 (ix := 46) (by decide +kernel) tw_412 ⟨rfl, rfl⟩ (bz_app (bz_app (bz_app (bz_app (bz_app (bz_app (bz_app (bz_app (bz_app (bz_app hq)))))))))) ?_
  have hZ := bz_Z_P (k := 4) (x := some (q + 25)) hZ (by omega : q < (q + 34))
  refine ab_aload_n (z := 0) (by decide +kernel) rfl rfl ?_
  refine bz_new3 (ix := 50) (by decide +kernel) tw_305 tw_306 tw_10 hL hZ (by decide) (by decide) ?_
  have hF34 := bz_last hL (a := (8, 0))
  have hL := bz_len hL (a := (8, 0))
  have hZ := bz_Z_m hZ (Nat.le_succ _)
  refine ab_dup (by decide +kernel) rfl ?_
  refine ab_aload_n (z := 0) (by decide +kernel) rfl rfl ?_
  refine bz_gP11_1 (ix := 19) (a := (q + 3)) (by decide +kernel) tw_409 (bz_app (bz_app (bz_app (bz_app (bz_app (bz_app (bz_app (bz_app (bz_app (bz_app (bz_app hq))))))))))) (by simp [ab_u]) ?_
  refine ab_aload_n (z := 0) (by decide +kernel) rfl rfl ?_
  refine bz_gP11_3 (ix := 37) (a := (q + 23)) (by decide +kernel) tw_411 (bz_app (bz_app (bz_app (bz_app (bz_app (bz_app (bz_app (bz_app (bz_app (bz_app (bz_app hq))))))))))) (by simp [ab_u]) ?_
  refine ab_callI (g := iX3) (ix := 52) (dg := 2) (r := (q + 34)) (as := [.ref (q + 3), .ref (q + 23)]) (st := [.ref (q + 34), .ref q]) (by decide +kernel) tw_307 tw_308 tw_10 tw_309 rfl rfl ⟨by decide +kernel, by decide +kernel, (by decide +kernel : (parseMethodDescriptor iX3.1.desc).map (fun d => d.parameters.length) = some 2)⟩ (by decide) rfl (by decide) (by decide) (by decide) (Nat.le_of_ble_eq_true rfl) (iX3_ok hL hF34 hZ ?_)
  have hL := bz_lenL hL (T := [(11, 0), (0, 6), (0, 6), (0, 30), (0, 6), (0, 6)])
  replace hL : ((((((((((((S ++ [(12, 0)]) ++ [(1, 1600)]) ++ [(14, 0)]) ++ [(0, 6), (0, 5), (0, 30), (7, 0), (0, 300), (0, 30), (0, 6)]) ++ [(9, 0)]) ++ [(3, 6), (3, 5), (14, 0), (0, 6), (0, 5), (0, 30), (7, 0), (0, 300), (0, 30), (0, 6), (13, 0)]) ++ [(10, 0)]) ++ [(0, 5)]) ++ [(6, 0)]) ++ [(11, 0), (0, 6), (0, 6), (0, 30), (0, 6), (0, 4), (0, 4), (0, 2)]) ++ [(8, 0)]) ++ [(11, 0), (0, 6), (0, 6), (0, 30), (0, 6), (0, 6)]).length = q + 41 := hL
  have hZ := bz_Z_m hZ (by omega : (q + 35) ≤ (q + 41))
  replace hZ : bz_Z (q + 41) (ab_u (ab_u (ab_u (ab_u (ab_u (ab_u (ab_u (ab_u (ab_u (ab_u (ab_u (ab_u (ab_u (ab_u (ab_u (ab_u (ab_u (ab_u (ab_u (ab_u (ab_u (ab_u (ab_u (ab_u (ab_u (ab_u (ab_u (ab_u (ab_u (ab_u (ab_u (ab_u (ab_u (ab_u (ab_u I (q + 1) 1 (0 : Int32)) (q + 7) 3 (0 : Int32)) (q + 7) 4 (0 : Int32)) (q + 3) 4 (0 : Int32)) (q + 3) 5 (0 : Int32)) (q + 3) 6 (0 : Int32)) (q + 3) 7 (-1 : Int32)) (q + 3) 8 (0 : Int32)) (q + 3) 9 (0 : Int32)) (q + 11) 3 (0 : Int32)) (q + 11) 4 (0 : Int32)) (q + 11) 5 (0 : Int32)) (q + 11) 6 (0 : Int32)) (q + 18) 3 (0 : Int32)) (q + 18) 4 (0 : Int32)) (q + 14) 4 (0 : Int32)) (q + 14) 5 (0 : Int32)) (q + 14) 6 (0 : Int32)) (q + 14) 7 (-1 : Int32)) (q + 14) 8 (0 : Int32)) (q + 14) 9 (0 : Int32)) (q + 11) 8 (0 : Int32)) (q + 11) 9 (-1 : Int32)) (q + 22) 1 (0 : Int32)) (q + 22) 2 (0 : Int32)) (q + 22) 3 (0 : Int32)) (q + 22) 4 (0 : Int32)) (q + 26) 3 (0 : Int32)) (q + 26) 4 (0 : Int32)) (q + 26) 5 (0 : Int32)) (q + 35) 3 (0 : Int32)) (q + 35) 4 (0 : Int32)) (q + 35) 5 (0 : Int32)) (q + 34) 5 (0 : Int32)) (q + 34) 6 (0 : Int32)) (ab_u J (q + 22) 5 (0 : Int64)) (ab_u (ab_u (ab_u (ab_u (ab_u (ab_u (ab_u (ab_u (ab_u (ab_u (ab_u (ab_u (ab_u (ab_u (ab_u (ab_u (ab_u (ab_u (ab_u (ab_u (ab_u (ab_u (ab_u (ab_u (ab_u (ab_u (ab_u (ab_u (ab_u (ab_u (ab_u (ab_u (ab_u (ab_u (ab_u (ab_u (ab_u (ab_u (ab_u (ab_u (ab_u (ab_u (ab_u (ab_u (ab_u P (q + 1) 0 (some (q + 2))) q 0 (some (q + 1))) (q + 3) 0 (some (q + 4))) (q + 3) 1 (some (q + 5))) (q + 3) 2 (some (q + 6))) (q + 7) 0 (some (q + 8))) (q + 7) 1 (some (q + 9))) (q + 7) 2 (some (q + 10))) (q + 3) 3 (some (q + 7))) q 1 (some (q + 3))) (q + 11) 1 (some (q + 12))) (q + 11) 2 (some (q + 13))) (q + 14) 0 (some (q + 15))) (q + 14) 1 (some (q + 16))) (q + 14) 2 (some (q + 17))) (q + 18) 0 (some (q + 19))) (q + 18) 1 (some (q + 20))) (q + 18) 2 (some (q + 21))) (q + 14) 3 (some (q + 18))) (q + 11) 7 (some (q + 14))) (q + 22) 0 (some (q + 1))) (q + 11) 0 (some (q + 22))) q 2 (some (q + 11))) (q + 23) 1 (some (q + 24))) (q + 23) 0 (some (q + 3))) q 3 (some (q + 23))) (q + 26) 0 (some (q + 27))) (q + 26) 1 (some (q + 28))) (q + 26) 2 (some (q + 29))) (q + 25) 2 (some (q + 26))) (q + 25) 3 (some (q + 30))) (q + 25) 4 (some (q + 31))) (q + 25) 5 (some (q + 32))) (q + 25) 6 (some (q + 33))) (q + 25) 0 (some (q + 3))) (q + 25) 1 (some (q + 23))) q 4 (some (q + 25))) (q + 35) 0 (some (q + 36))) (q + 35) 1 (some (q + 37))) (q + 35) 2 (some (q + 38))) (q + 34) 2 (some (q + 35))) (q + 34) 3 (some (q + 39))) (q + 34) 4 (some (q + 40))) (q + 34) 0 (some (q + 3))) (q + 34) 1 (some (q + 23))) := by
    exact (bz_Z_P (bz_Z_P (bz_Z_P (bz_Z_P (bz_Z_P (bz_Z_P (bz_Z_P (bz_Z_P (bz_Z_I (bz_Z_I (bz_Z_I (bz_Z_I (bz_Z_I hZ (by omega)) (by omega)) (by omega)) (by omega)) (by omega)) (by omega)) (by omega)) (by omega)) (by omega)) (by omega)) (by omega)) (by omega)) (by omega))
  change ab_WP l G iX11 4 91 [some (.ref q), none] [.ref (q + 34), .ref q] ((((((((((((S ++ [(12, 0)]) ++ [(1, 1600)]) ++ [(14, 0)]) ++ [(0, 6), (0, 5), (0, 30), (7, 0), (0, 300), (0, 30), (0, 6)]) ++ [(9, 0)]) ++ [(3, 6), (3, 5), (14, 0), (0, 6), (0, 5), (0, 30), (7, 0), (0, 300), (0, 30), (0, 6), (13, 0)]) ++ [(10, 0)]) ++ [(0, 5)]) ++ [(6, 0)]) ++ [(11, 0), (0, 6), (0, 6), (0, 30), (0, 6), (0, 4), (0, 4), (0, 2)]) ++ [(8, 0)]) ++ [(11, 0), (0, 6), (0, 6), (0, 30), (0, 6), (0, 6)]) (ab_u (ab_u (ab_u (ab_u (ab_u (ab_u (ab_u (ab_u (ab_u (ab_u (ab_u (ab_u (ab_u (ab_u (ab_u (ab_u (ab_u (ab_u (ab_u (ab_u (ab_u (ab_u (ab_u (ab_u (ab_u (ab_u (ab_u (ab_u (ab_u (ab_u (ab_u (ab_u (ab_u (ab_u (ab_u I (q + 1) 1 (0 : Int32)) (q + 7) 3 (0 : Int32)) (q + 7) 4 (0 : Int32)) (q + 3) 4 (0 : Int32)) (q + 3) 5 (0 : Int32)) (q + 3) 6 (0 : Int32)) (q + 3) 7 (-1 : Int32)) (q + 3) 8 (0 : Int32)) (q + 3) 9 (0 : Int32)) (q + 11) 3 (0 : Int32)) (q + 11) 4 (0 : Int32)) (q + 11) 5 (0 : Int32)) (q + 11) 6 (0 : Int32)) (q + 18) 3 (0 : Int32)) (q + 18) 4 (0 : Int32)) (q + 14) 4 (0 : Int32)) (q + 14) 5 (0 : Int32)) (q + 14) 6 (0 : Int32)) (q + 14) 7 (-1 : Int32)) (q + 14) 8 (0 : Int32)) (q + 14) 9 (0 : Int32)) (q + 11) 8 (0 : Int32)) (q + 11) 9 (-1 : Int32)) (q + 22) 1 (0 : Int32)) (q + 22) 2 (0 : Int32)) (q + 22) 3 (0 : Int32)) (q + 22) 4 (0 : Int32)) (q + 26) 3 (0 : Int32)) (q + 26) 4 (0 : Int32)) (q + 26) 5 (0 : Int32)) (q + 35) 3 (0 : Int32)) (q + 35) 4 (0 : Int32)) (q + 35) 5 (0 : Int32)) (q + 34) 5 (0 : Int32)) (q + 34) 6 (0 : Int32)) (ab_u J (q + 22) 5 (0 : Int64)) (ab_u (ab_u (ab_u (ab_u (ab_u (ab_u (ab_u (ab_u (ab_u (ab_u (ab_u (ab_u (ab_u (ab_u (ab_u (ab_u (ab_u (ab_u (ab_u (ab_u (ab_u (ab_u (ab_u (ab_u (ab_u (ab_u (ab_u (ab_u (ab_u (ab_u (ab_u (ab_u (ab_u (ab_u (ab_u (ab_u (ab_u (ab_u (ab_u (ab_u (ab_u (ab_u (ab_u (ab_u (ab_u P (q + 1) 0 (some (q + 2))) q 0 (some (q + 1))) (q + 3) 0 (some (q + 4))) (q + 3) 1 (some (q + 5))) (q + 3) 2 (some (q + 6))) (q + 7) 0 (some (q + 8))) (q + 7) 1 (some (q + 9))) (q + 7) 2 (some (q + 10))) (q + 3) 3 (some (q + 7))) q 1 (some (q + 3))) (q + 11) 1 (some (q + 12))) (q + 11) 2 (some (q + 13))) (q + 14) 0 (some (q + 15))) (q + 14) 1 (some (q + 16))) (q + 14) 2 (some (q + 17))) (q + 18) 0 (some (q + 19))) (q + 18) 1 (some (q + 20))) (q + 18) 2 (some (q + 21))) (q + 14) 3 (some (q + 18))) (q + 11) 7 (some (q + 14))) (q + 22) 0 (some (q + 1))) (q + 11) 0 (some (q + 22))) q 2 (some (q + 11))) (q + 23) 1 (some (q + 24))) (q + 23) 0 (some (q + 3))) q 3 (some (q + 23))) (q + 26) 0 (some (q + 27))) (q + 26) 1 (some (q + 28))) (q + 26) 2 (some (q + 29))) (q + 25) 2 (some (q + 26))) (q + 25) 3 (some (q + 30))) (q + 25) 4 (some (q + 31))) (q + 25) 5 (some (q + 32))) (q + 25) 6 (some (q + 33))) (q + 25) 0 (some (q + 3))) (q + 25) 1 (some (q + 23))) q 4 (some (q + 25))) (q + 35) 0 (some (q + 36))) (q + 35) 1 (some (q + 37))) (q + 35) 2 (some (q + 38))) (q + 34) 2 (some (q + 35))) (q + 34) 3 (some (q + 39))) (q + 34) 4 (some (q + 40))) (q + 34) 0 (some (q + 3))) (q + 34) 1 (some (q + 23))) _ _ Q
  refine bz_pP11_5 (ix := 53) (by decide +kernel) tw_413 ⟨rfl, rfl⟩ (bz_app (bz_app (bz_app (bz_app (bz_app (bz_app (bz_app (bz_app (bz_app (bz_app (bz_app (bz_app hq)))))))))))) ?_
  have hZ := bz_Z_P (k := 5) (x := some (q + 34)) hZ (by omega : q < (q + 41))
  refine ab_aload_n (z := 0) (by decide +kernel) rfl rfl ?_
  refine bz_new10 (ix := 57) (by decide +kernel) tw_338 tw_339 tw_11 hL hZ (by decide) (by decide) ?_
  have hF41 := bz_last hL (a := (15, 0))
  have hL := bz_len hL (a := (15, 0))
  have hZ := bz_Z_m hZ (Nat.le_succ _)
  refine ab_dup (by decide +kernel) rfl ?_
  refine ab_aload_n (z := 0) (by decide +kernel) rfl rfl ?_
  refine bz_gP11_1 (ix := 19) (a := (q + 3)) (by decide +kernel) tw_409 (bz_app (bz_app (bz_app (bz_app (bz_app (bz_app (bz_app (bz_app (bz_app (bz_app (bz_app (bz_app (bz_app hq))))))))))))) (by simp [ab_u]) ?_
  refine ab_aload_n (z := 0) (by decide +kernel) rfl rfl ?_
  refine bz_gP11_3 (ix := 37) (a := (q + 23)) (by decide +kernel) tw_411 (bz_app (bz_app (bz_app (bz_app (bz_app (bz_app (bz_app (bz_app (bz_app (bz_app (bz_app (bz_app (bz_app hq))))))))))))) (by simp [ab_u]) ?_
  refine ab_callI (g := iX10) (ix := 59) (dg := 2) (r := (q + 41)) (as := [.ref (q + 3), .ref (q + 23)]) (st := [.ref (q + 41), .ref q]) (by decide +kernel) tw_340 tw_341 tw_11 tw_342 rfl rfl ⟨by decide +kernel, by decide +kernel, (by decide +kernel : (parseMethodDescriptor iX10.1.desc).map (fun d => d.parameters.length) = some 2)⟩ (by decide) rfl (by decide) (by decide) (by decide) (Nat.le_of_ble_eq_true rfl) (iX10_ok hL hF41 hZ ?_)
  have hL := bz_lenL hL (T := [(11, 0), (0, 6), (0, 6), (0, 30), (0, 30), (0, 30), (0, 30), (2, 30), (0, 30), (0, 30), (0, 35)])
  replace hL : ((((((((((((((S ++ [(12, 0)]) ++ [(1, 1600)]) ++ [(14, 0)]) ++ [(0, 6), (0, 5), (0, 30), (7, 0), (0, 300), (0, 30), (0, 6)]) ++ [(9, 0)]) ++ [(3, 6), (3, 5), (14, 0), (0, 6), (0, 5), (0, 30), (7, 0), (0, 300), (0, 30), (0, 6), (13, 0)]) ++ [(10, 0)]) ++ [(0, 5)]) ++ [(6, 0)]) ++ [(11, 0), (0, 6), (0, 6), (0, 30), (0, 6), (0, 4), (0, 4), (0, 2)]) ++ [(8, 0)]) ++ [(11, 0), (0, 6), (0, 6), (0, 30), (0, 6), (0, 6)]) ++ [(15, 0)]) ++ [(11, 0), (0, 6), (0, 6), (0, 30), (0, 30), (0, 30), (0, 30), (2, 30), (0, 30), (0, 30), (0, 35)]).length = q + 53 := hL
  have hZ := bz_Z_m hZ (by omega : (q + 42) ≤ (q + 53))
  replace hZ : bz_Z (q + 53) (ab_u (ab_u (ab_u (ab_u (ab_u (ab_u (ab_u (ab_u (ab_u (ab_u (ab_u (ab_u (ab_u (ab_u (ab_u (ab_u (ab_u (ab_u (ab_u (ab_u (ab_u (ab_u (ab_u (ab_u (ab_u (ab_u (ab_u (ab_u (ab_u (ab_u (ab_u (ab_u (ab_u (ab_u (ab_u (ab_u (ab_u (ab_u (ab_u (ab_u I (q + 1) 1 (0 : Int32)) (q + 7) 3 (0 : Int32)) (q + 7) 4 (0 : Int32)) (q + 3) 4 (0 : Int32)) (q + 3) 5 (0 : Int32)) (q + 3) 6 (0 : Int32)) (q + 3) 7 (-1 : Int32)) (q + 3) 8 (0 : Int32)) (q + 3) 9 (0 : Int32)) (q + 11) 3 (0 : Int32)) (q + 11) 4 (0 : Int32)) (q + 11) 5 (0 : Int32)) (q + 11) 6 (0 : Int32)) (q + 18) 3 (0 : Int32)) (q + 18) 4 (0 : Int32)) (q + 14) 4 (0 : Int32)) (q + 14) 5 (0 : Int32)) (q + 14) 6 (0 : Int32)) (q + 14) 7 (-1 : Int32)) (q + 14) 8 (0 : Int32)) (q + 14) 9 (0 : Int32)) (q + 11) 8 (0 : Int32)) (q + 11) 9 (-1 : Int32)) (q + 22) 1 (0 : Int32)) (q + 22) 2 (0 : Int32)) (q + 22) 3 (0 : Int32)) (q + 22) 4 (0 : Int32)) (q + 26) 3 (0 : Int32)) (q + 26) 4 (0 : Int32)) (q + 26) 5 (0 : Int32)) (q + 35) 3 (0 : Int32)) (q + 35) 4 (0 : Int32)) (q + 35) 5 (0 : Int32)) (q + 34) 5 (0 : Int32)) (q + 34) 6 (0 : Int32)) (q + 42) 3 (0 : Int32)) (q + 42) 4 (0 : Int32)) (q + 42) 5 (0 : Int32)) (q + 41) 10 (0 : Int32)) (q + 41) 11 (0 : Int32)) (ab_u J (q + 22) 5 (0 : Int64)) (ab_u (ab_u (ab_u (ab_u (ab_u (ab_u (ab_u (ab_u (ab_u (ab_u (ab_u (ab_u (ab_u (ab_u (ab_u (ab_u (ab_u (ab_u (ab_u (ab_u (ab_u (ab_u (ab_u (ab_u (ab_u (ab_u (ab_u (ab_u (ab_u (ab_u (ab_u (ab_u (ab_u (ab_u (ab_u (ab_u (ab_u (ab_u (ab_u (ab_u (ab_u (ab_u (ab_u (ab_u (ab_u (ab_u (ab_u (ab_u (ab_u (ab_u (ab_u (ab_u (ab_u (ab_u (ab_u (ab_u (ab_u (ab_u (ab_u P (q + 1) 0 (some (q + 2))) q 0 (some (q + 1))) (q + 3) 0 (some (q + 4))) (q + 3) 1 (some (q + 5))) (q + 3) 2 (some (q + 6))) (q + 7) 0 (some (q + 8))) (q + 7) 1 (some (q + 9))) (q + 7) 2 (some (q + 10))) (q + 3) 3 (some (q + 7))) q 1 (some (q + 3))) (q + 11) 1 (some (q + 12))) (q + 11) 2 (some (q + 13))) (q + 14) 0 (some (q + 15))) (q + 14) 1 (some (q + 16))) (q + 14) 2 (some (q + 17))) (q + 18) 0 (some (q + 19))) (q + 18) 1 (some (q + 20))) (q + 18) 2 (some (q + 21))) (q + 14) 3 (some (q + 18))) (q + 11) 7 (some (q + 14))) (q + 22) 0 (some (q + 1))) (q + 11) 0 (some (q + 22))) q 2 (some (q + 11))) (q + 23) 1 (some (q + 24))) (q + 23) 0 (some (q + 3))) q 3 (some (q + 23))) (q + 26) 0 (some (q + 27))) (q + 26) 1 (some (q + 28))) (q + 26) 2 (some (q + 29))) (q + 25) 2 (some (q + 26))) (q + 25) 3 (some (q + 30))) (q + 25) 4 (some (q + 31))) (q + 25) 5 (some (q + 32))) (q + 25) 6 (some (q + 33))) (q + 25) 0 (some (q + 3))) (q + 25) 1 (some (q + 23))) q 4 (some (q + 25))) (q + 35) 0 (some (q + 36))) (q + 35) 1 (some (q + 37))) (q + 35) 2 (some (q + 38))) (q + 34) 2 (some (q + 35))) (q + 34) 3 (some (q + 39))) (q + 34) 4 (some (q + 40))) (q + 34) 0 (some (q + 3))) (q + 34) 1 (some (q + 23))) q 5 (some (q + 34))) (q + 42) 0 (some (q + 43))) (q + 42) 1 (some (q + 44))) (q + 42) 2 (some (q + 45))) (q + 41) 2 (some (q + 42))) (q + 41) 3 (some (q + 46))) (q + 41) 4 (some (q + 47))) (q + 41) 5 (some (q + 48))) (q + 41) 6 (some (q + 49))) (q + 41) 7 (some (q + 50))) (q + 41) 8 (some (q + 51))) (q + 41) 9 (some (q + 52))) (q + 41) 0 (some (q + 3))) (q + 41) 1 (some (q + 23))) := by
    exact (bz_Z_P (bz_Z_P (bz_Z_P (bz_Z_P (bz_Z_P (bz_Z_P (bz_Z_P (bz_Z_P (bz_Z_P (bz_Z_P (bz_Z_P (bz_Z_P (bz_Z_P (bz_Z_I (bz_Z_I (bz_Z_I (bz_Z_I (bz_Z_I hZ (by omega)) (by omega)) (by omega)) (by omega)) (by omega)) (by omega)) (by omega)) (by omega)) (by omega)) (by omega)) (by omega)) (by omega)) (by omega)) (by omega)) (by omega)) (by omega)) (by omega)) (by omega))
  change ab_WP l G iX11 4 110 [some (.ref q), none] [.ref (q + 41), .ref q] ((((((((((((((S ++ [(12, 0)]) ++ [(1, 1600)]) ++ [(14, 0)]) ++ [(0, 6), (0, 5), (0, 30), (7, 0), (0, 300), (0, 30), (0, 6)]) ++ [(9, 0)]) ++ [(3, 6), (3, 5), (14, 0), (0, 6), (0, 5), (0, 30), (7, 0), (0, 300), (0, 30), (0, 6), (13, 0)]) ++ [(10, 0)]) ++ [(0, 5)]) ++ [(6, 0)]) ++ [(11, 0), (0, 6), (0, 6), (0, 30), (0, 6), (0, 4), (0, 4), (0, 2)]) ++ [(8, 0)]) ++ [(11, 0), (0, 6), (0, 6), (0, 30), (0, 6), (0, 6)]) ++ [(15, 0)]) ++ [(11, 0), (0, 6), (0, 6), (0, 30), (0, 30), (0, 30), (0, 30), (2, 30), (0, 30), (0, 30), (0, 35)]) (ab_u (ab_u (ab_u (ab_u (ab_u (ab_u (ab_u (ab_u (ab_u (ab_u (ab_u (ab_u (ab_u (ab_u (ab_u (ab_u (ab_u (ab_u (ab_u (ab_u (ab_u (ab_u (ab_u (ab_u (ab_u (ab_u (ab_u (ab_u (ab_u (ab_u (ab_u (ab_u (ab_u (ab_u (ab_u (ab_u (ab_u (ab_u (ab_u (ab_u I (q + 1) 1 (0 : Int32)) (q + 7) 3 (0 : Int32)) (q + 7) 4 (0 : Int32)) (q + 3) 4 (0 : Int32)) (q + 3) 5 (0 : Int32)) (q + 3) 6 (0 : Int32)) (q + 3) 7 (-1 : Int32)) (q + 3) 8 (0 : Int32)) (q + 3) 9 (0 : Int32)) (q + 11) 3 (0 : Int32)) (q + 11) 4 (0 : Int32)) (q + 11) 5 (0 : Int32)) (q + 11) 6 (0 : Int32)) (q + 18) 3 (0 : Int32)) (q + 18) 4 (0 : Int32)) (q + 14) 4 (0 : Int32)) (q + 14) 5 (0 : Int32)) (q + 14) 6 (0 : Int32)) (q + 14) 7 (-1 : Int32)) (q + 14) 8 (0 : Int32)) (q + 14) 9 (0 : Int32)) (q + 11) 8 (0 : Int32)) (q + 11) 9 (-1 : Int32)) (q + 22) 1 (0 : Int32)) (q + 22) 2 (0 : Int32)) (q + 22) 3 (0 : Int32)) (q + 22) 4 (0 : Int32)) (q + 26) 3 (0 : Int32)) (q + 26) 4 (0 : Int32)) (q + 26) 5 (0 : Int32)) (q + 35) 3 (0 : Int32)) (q + 35) 4 (0 : Int32)) (q + 35) 5 (0 : Int32)) (q + 34) 5 (0 : Int32)) (q + 34) 6 (0 : Int32)) (q + 42) 3 (0 : Int32)) (q + 42) 4 (0 : Int32)) (q + 42) 5 (0 : Int32)) (q + 41) 10 (0 : Int32)) (q + 41) 11 (0 : Int32)) (ab_u J (q + 22) 5 (0 : Int64)) (ab_u (ab_u (ab_u (ab_u (ab_u (ab_u (ab_u (ab_u (ab_u (ab_u (ab_u (ab_u (ab_u (ab_u (ab_u (ab_u (ab_u (ab_u (ab_u (ab_u (ab_u (ab_u (ab_u (ab_u (ab_u (ab_u (ab_u (ab_u (ab_u (ab_u (ab_u (ab_u (ab_u (ab_u (ab_u (ab_u (ab_u (ab_u (ab_u (ab_u (ab_u (ab_u (ab_u (ab_u (ab_u (ab_u (ab_u (ab_u (ab_u (ab_u (ab_u (ab_u (ab_u (ab_u (ab_u (ab_u (ab_u (ab_u (ab_u P (q + 1) 0 (some (q + 2))) q 0 (some (q + 1))) (q + 3) 0 (some (q + 4))) (q + 3) 1 (some (q + 5))) (q + 3) 2 (some (q + 6))) (q + 7) 0 (some (q + 8))) (q + 7) 1 (some (q + 9))) (q + 7) 2 (some (q + 10))) (q + 3) 3 (some (q + 7))) q 1 (some (q + 3))) (q + 11) 1 (some (q + 12))) (q + 11) 2 (some (q + 13))) (q + 14) 0 (some (q + 15))) (q + 14) 1 (some (q + 16))) (q + 14) 2 (some (q + 17))) (q + 18) 0 (some (q + 19))) (q + 18) 1 (some (q + 20))) (q + 18) 2 (some (q + 21))) (q + 14) 3 (some (q + 18))) (q + 11) 7 (some (q + 14))) (q + 22) 0 (some (q + 1))) (q + 11) 0 (some (q + 22))) q 2 (some (q + 11))) (q + 23) 1 (some (q + 24))) (q + 23) 0 (some (q + 3))) q 3 (some (q + 23))) (q + 26) 0 (some (q + 27))) (q + 26) 1 (some (q + 28))) (q + 26) 2 (some (q + 29))) (q + 25) 2 (some (q + 26))) (q + 25) 3 (some (q + 30))) (q + 25) 4 (some (q + 31))) (q + 25) 5 (some (q + 32))) (q + 25) 6 (some (q + 33))) (q + 25) 0 (some (q + 3))) (q + 25) 1 (some (q + 23))) q 4 (some (q + 25))) (q + 35) 0 (some (q + 36))) (q + 35) 1 (some (q + 37))) (q + 35) 2 (some (q + 38))) (q + 34) 2 (some (q + 35))) (q + 34) 3 (some (q + 39))) (q + 34) 4 (some (q + 40))) (q + 34) 0 (some (q + 3))) (q + 34) 1 (some (q + 23))) q 5 (some (q + 34))) (q + 42) 0 (some (q + 43))) (q + 42) 1 (some (q + 44))) (q + 42) 2 (some (q + 45))) (q + 41) 2 (some (q + 42))) (q + 41) 3 (some (q + 46))) (q + 41) 4 (some (q + 47))) (q + 41) 5 (some (q + 48))) (q + 41) 6 (some (q + 49))) (q + 41) 7 (some (q + 50))) (q + 41) 8 (some (q + 51))) (q + 41) 9 (some (q + 52))) (q + 41) 0 (some (q + 3))) (q + 41) 1 (some (q + 23))) _ _ Q
  refine bz_pP11_6 (ix := 60) (by decide +kernel) tw_414 ⟨rfl, rfl⟩ (bz_app (bz_app (bz_app (bz_app (bz_app (bz_app (bz_app (bz_app (bz_app (bz_app (bz_app (bz_app (bz_app (bz_app hq)))))))))))))) ?_
  have hZ := bz_Z_P (k := 6) (x := some (q + 41)) hZ (by omega : q < (q + 53))
  refine ab_aload_n (z := 0) (by decide +kernel) rfl rfl ?_
  refine bz_new0 (ix := 64) (by decide +kernel) tw_386 tw_387 tw_12 hL hZ (by decide) (by decide) ?_
  have hF53 := bz_last hL (a := (5, 0))
  have hL := bz_len hL (a := (5, 0))
  have hZ := bz_Z_m hZ (Nat.le_succ _)
  refine ab_dup (by decide +kernel) rfl ?_
  refine ab_callIN (g := iX0) (host := "BellRingers") (ix := 66) (dg := 1) (r := (q + 53)) (as := []) (st := [.ref (q + 53), .ref q]) (by decide +kernel) tn_388 tw_389 tw_12 tw_390 rfl rfl ⟨by decide +kernel, by decide +kernel, (by decide +kernel : (parseMethodDescriptor iX0.1.desc).map (fun d => d.parameters.length) = some 0)⟩ (by decide) rfl (by decide) (by decide) (by decide) (Nat.le_of_ble_eq_true rfl) (iX0_ok hL hF53 hZ ?_)
  have hL := bz_lenL hL (T := [(4, 40)])
  replace hL : ((((((((((((((((S ++ [(12, 0)]) ++ [(1, 1600)]) ++ [(14, 0)]) ++ [(0, 6), (0, 5), (0, 30), (7, 0), (0, 300), (0, 30), (0, 6)]) ++ [(9, 0)]) ++ [(3, 6), (3, 5), (14, 0), (0, 6), (0, 5), (0, 30), (7, 0), (0, 300), (0, 30), (0, 6), (13, 0)]) ++ [(10, 0)]) ++ [(0, 5)]) ++ [(6, 0)]) ++ [(11, 0), (0, 6), (0, 6), (0, 30), (0, 6), (0, 4), (0, 4), (0, 2)]) ++ [(8, 0)]) ++ [(11, 0), (0, 6), (0, 6), (0, 30), (0, 6), (0, 6)]) ++ [(15, 0)]) ++ [(11, 0), (0, 6), (0, 6), (0, 30), (0, 30), (0, 30), (0, 30), (2, 30), (0, 30), (0, 30), (0, 35)]) ++ [(5, 0)]) ++ [(4, 40)]).length = q + 55 := hL
  have hZ := bz_Z_m hZ (by omega : (q + 54) ≤ (q + 55))
  replace hZ : bz_Z (q + 55) (ab_u (ab_u (ab_u (ab_u (ab_u (ab_u (ab_u (ab_u (ab_u (ab_u (ab_u (ab_u (ab_u (ab_u (ab_u (ab_u (ab_u (ab_u (ab_u (ab_u (ab_u (ab_u (ab_u (ab_u (ab_u (ab_u (ab_u (ab_u (ab_u (ab_u (ab_u (ab_u (ab_u (ab_u (ab_u (ab_u (ab_u (ab_u (ab_u (ab_u (ab_u (ab_u I (q + 1) 1 (0 : Int32)) (q + 7) 3 (0 : Int32)) (q + 7) 4 (0 : Int32)) (q + 3) 4 (0 : Int32)) (q + 3) 5 (0 : Int32)) (q + 3) 6 (0 : Int32)) (q + 3) 7 (-1 : Int32)) (q + 3) 8 (0 : Int32)) (q + 3) 9 (0 : Int32)) (q + 11) 3 (0 : Int32)) (q + 11) 4 (0 : Int32)) (q + 11) 5 (0 : Int32)) (q + 11) 6 (0 : Int32)) (q + 18) 3 (0 : Int32)) (q + 18) 4 (0 : Int32)) (q + 14) 4 (0 : Int32)) (q + 14) 5 (0 : Int32)) (q + 14) 6 (0 : Int32)) (q + 14) 7 (-1 : Int32)) (q + 14) 8 (0 : Int32)) (q + 14) 9 (0 : Int32)) (q + 11) 8 (0 : Int32)) (q + 11) 9 (-1 : Int32)) (q + 22) 1 (0 : Int32)) (q + 22) 2 (0 : Int32)) (q + 22) 3 (0 : Int32)) (q + 22) 4 (0 : Int32)) (q + 26) 3 (0 : Int32)) (q + 26) 4 (0 : Int32)) (q + 26) 5 (0 : Int32)) (q + 35) 3 (0 : Int32)) (q + 35) 4 (0 : Int32)) (q + 35) 5 (0 : Int32)) (q + 34) 5 (0 : Int32)) (q + 34) 6 (0 : Int32)) (q + 42) 3 (0 : Int32)) (q + 42) 4 (0 : Int32)) (q + 42) 5 (0 : Int32)) (q + 41) 10 (0 : Int32)) (q + 41) 11 (0 : Int32)) (q + 53) 1 (0 : Int32)) (q + 53) 2 (0 : Int32)) (ab_u J (q + 22) 5 (0 : Int64)) (ab_u (ab_u (ab_u (ab_u (ab_u (ab_u (ab_u (ab_u (ab_u (ab_u (ab_u (ab_u (ab_u (ab_u (ab_u (ab_u (ab_u (ab_u (ab_u (ab_u (ab_u (ab_u (ab_u (ab_u (ab_u (ab_u (ab_u (ab_u (ab_u (ab_u (ab_u (ab_u (ab_u (ab_u (ab_u (ab_u (ab_u (ab_u (ab_u (ab_u (ab_u (ab_u (ab_u (ab_u (ab_u (ab_u (ab_u (ab_u (ab_u (ab_u (ab_u (ab_u (ab_u (ab_u (ab_u (ab_u (ab_u (ab_u (ab_u (ab_u (ab_u P (q + 1) 0 (some (q + 2))) q 0 (some (q + 1))) (q + 3) 0 (some (q + 4))) (q + 3) 1 (some (q + 5))) (q + 3) 2 (some (q + 6))) (q + 7) 0 (some (q + 8))) (q + 7) 1 (some (q + 9))) (q + 7) 2 (some (q + 10))) (q + 3) 3 (some (q + 7))) q 1 (some (q + 3))) (q + 11) 1 (some (q + 12))) (q + 11) 2 (some (q + 13))) (q + 14) 0 (some (q + 15))) (q + 14) 1 (some (q + 16))) (q + 14) 2 (some (q + 17))) (q + 18) 0 (some (q + 19))) (q + 18) 1 (some (q + 20))) (q + 18) 2 (some (q + 21))) (q + 14) 3 (some (q + 18))) (q + 11) 7 (some (q + 14))) (q + 22) 0 (some (q + 1))) (q + 11) 0 (some (q + 22))) q 2 (some (q + 11))) (q + 23) 1 (some (q + 24))) (q + 23) 0 (some (q + 3))) q 3 (some (q + 23))) (q + 26) 0 (some (q + 27))) (q + 26) 1 (some (q + 28))) (q + 26) 2 (some (q + 29))) (q + 25) 2 (some (q + 26))) (q + 25) 3 (some (q + 30))) (q + 25) 4 (some (q + 31))) (q + 25) 5 (some (q + 32))) (q + 25) 6 (some (q + 33))) (q + 25) 0 (some (q + 3))) (q + 25) 1 (some (q + 23))) q 4 (some (q + 25))) (q + 35) 0 (some (q + 36))) (q + 35) 1 (some (q + 37))) (q + 35) 2 (some (q + 38))) (q + 34) 2 (some (q + 35))) (q + 34) 3 (some (q + 39))) (q + 34) 4 (some (q + 40))) (q + 34) 0 (some (q + 3))) (q + 34) 1 (some (q + 23))) q 5 (some (q + 34))) (q + 42) 0 (some (q + 43))) (q + 42) 1 (some (q + 44))) (q + 42) 2 (some (q + 45))) (q + 41) 2 (some (q + 42))) (q + 41) 3 (some (q + 46))) (q + 41) 4 (some (q + 47))) (q + 41) 5 (some (q + 48))) (q + 41) 6 (some (q + 49))) (q + 41) 7 (some (q + 50))) (q + 41) 8 (some (q + 51))) (q + 41) 9 (some (q + 52))) (q + 41) 0 (some (q + 3))) (q + 41) 1 (some (q + 23))) q 6 (some (q + 41))) (q + 53) 0 (some (q + 54))) := by
    exact (bz_Z_P (bz_Z_I (bz_Z_I hZ (by omega)) (by omega)) (by omega))
  change ab_WP l G iX11 4 121 [some (.ref q), none] [.ref (q + 53), .ref q] ((((((((((((((((S ++ [(12, 0)]) ++ [(1, 1600)]) ++ [(14, 0)]) ++ [(0, 6), (0, 5), (0, 30), (7, 0), (0, 300), (0, 30), (0, 6)]) ++ [(9, 0)]) ++ [(3, 6), (3, 5), (14, 0), (0, 6), (0, 5), (0, 30), (7, 0), (0, 300), (0, 30), (0, 6), (13, 0)]) ++ [(10, 0)]) ++ [(0, 5)]) ++ [(6, 0)]) ++ [(11, 0), (0, 6), (0, 6), (0, 30), (0, 6), (0, 4), (0, 4), (0, 2)]) ++ [(8, 0)]) ++ [(11, 0), (0, 6), (0, 6), (0, 30), (0, 6), (0, 6)]) ++ [(15, 0)]) ++ [(11, 0), (0, 6), (0, 6), (0, 30), (0, 30), (0, 30), (0, 30), (2, 30), (0, 30), (0, 30), (0, 35)]) ++ [(5, 0)]) ++ [(4, 40)]) (ab_u (ab_u (ab_u (ab_u (ab_u (ab_u (ab_u (ab_u (ab_u (ab_u (ab_u (ab_u (ab_u (ab_u (ab_u (ab_u (ab_u (ab_u (ab_u (ab_u (ab_u (ab_u (ab_u (ab_u (ab_u (ab_u (ab_u (ab_u (ab_u (ab_u (ab_u (ab_u (ab_u (ab_u (ab_u (ab_u (ab_u (ab_u (ab_u (ab_u (ab_u (ab_u I (q + 1) 1 (0 : Int32)) (q + 7) 3 (0 : Int32)) (q + 7) 4 (0 : Int32)) (q + 3) 4 (0 : Int32)) (q + 3) 5 (0 : Int32)) (q + 3) 6 (0 : Int32)) (q + 3) 7 (-1 : Int32)) (q + 3) 8 (0 : Int32)) (q + 3) 9 (0 : Int32)) (q + 11) 3 (0 : Int32)) (q + 11) 4 (0 : Int32)) (q + 11) 5 (0 : Int32)) (q + 11) 6 (0 : Int32)) (q + 18) 3 (0 : Int32)) (q + 18) 4 (0 : Int32)) (q + 14) 4 (0 : Int32)) (q + 14) 5 (0 : Int32)) (q + 14) 6 (0 : Int32)) (q + 14) 7 (-1 : Int32)) (q + 14) 8 (0 : Int32)) (q + 14) 9 (0 : Int32)) (q + 11) 8 (0 : Int32)) (q + 11) 9 (-1 : Int32)) (q + 22) 1 (0 : Int32)) (q + 22) 2 (0 : Int32)) (q + 22) 3 (0 : Int32)) (q + 22) 4 (0 : Int32)) (q + 26) 3 (0 : Int32)) (q + 26) 4 (0 : Int32)) (q + 26) 5 (0 : Int32)) (q + 35) 3 (0 : Int32)) (q + 35) 4 (0 : Int32)) (q + 35) 5 (0 : Int32)) (q + 34) 5 (0 : Int32)) (q + 34) 6 (0 : Int32)) (q + 42) 3 (0 : Int32)) (q + 42) 4 (0 : Int32)) (q + 42) 5 (0 : Int32)) (q + 41) 10 (0 : Int32)) (q + 41) 11 (0 : Int32)) (q + 53) 1 (0 : Int32)) (q + 53) 2 (0 : Int32)) (ab_u J (q + 22) 5 (0 : Int64)) (ab_u (ab_u (ab_u (ab_u (ab_u (ab_u (ab_u (ab_u (ab_u (ab_u (ab_u (ab_u (ab_u (ab_u (ab_u (ab_u (ab_u (ab_u (ab_u (ab_u (ab_u (ab_u (ab_u (ab_u (ab_u (ab_u (ab_u (ab_u (ab_u (ab_u (ab_u (ab_u (ab_u (ab_u (ab_u (ab_u (ab_u (ab_u (ab_u (ab_u (ab_u (ab_u (ab_u (ab_u (ab_u (ab_u (ab_u (ab_u (ab_u (ab_u (ab_u (ab_u (ab_u (ab_u (ab_u (ab_u (ab_u (ab_u (ab_u (ab_u (ab_u P (q + 1) 0 (some (q + 2))) q 0 (some (q + 1))) (q + 3) 0 (some (q + 4))) (q + 3) 1 (some (q + 5))) (q + 3) 2 (some (q + 6))) (q + 7) 0 (some (q + 8))) (q + 7) 1 (some (q + 9))) (q + 7) 2 (some (q + 10))) (q + 3) 3 (some (q + 7))) q 1 (some (q + 3))) (q + 11) 1 (some (q + 12))) (q + 11) 2 (some (q + 13))) (q + 14) 0 (some (q + 15))) (q + 14) 1 (some (q + 16))) (q + 14) 2 (some (q + 17))) (q + 18) 0 (some (q + 19))) (q + 18) 1 (some (q + 20))) (q + 18) 2 (some (q + 21))) (q + 14) 3 (some (q + 18))) (q + 11) 7 (some (q + 14))) (q + 22) 0 (some (q + 1))) (q + 11) 0 (some (q + 22))) q 2 (some (q + 11))) (q + 23) 1 (some (q + 24))) (q + 23) 0 (some (q + 3))) q 3 (some (q + 23))) (q + 26) 0 (some (q + 27))) (q + 26) 1 (some (q + 28))) (q + 26) 2 (some (q + 29))) (q + 25) 2 (some (q + 26))) (q + 25) 3 (some (q + 30))) (q + 25) 4 (some (q + 31))) (q + 25) 5 (some (q + 32))) (q + 25) 6 (some (q + 33))) (q + 25) 0 (some (q + 3))) (q + 25) 1 (some (q + 23))) q 4 (some (q + 25))) (q + 35) 0 (some (q + 36))) (q + 35) 1 (some (q + 37))) (q + 35) 2 (some (q + 38))) (q + 34) 2 (some (q + 35))) (q + 34) 3 (some (q + 39))) (q + 34) 4 (some (q + 40))) (q + 34) 0 (some (q + 3))) (q + 34) 1 (some (q + 23))) q 5 (some (q + 34))) (q + 42) 0 (some (q + 43))) (q + 42) 1 (some (q + 44))) (q + 42) 2 (some (q + 45))) (q + 41) 2 (some (q + 42))) (q + 41) 3 (some (q + 46))) (q + 41) 4 (some (q + 47))) (q + 41) 5 (some (q + 48))) (q + 41) 6 (some (q + 49))) (q + 41) 7 (some (q + 50))) (q + 41) 8 (some (q + 51))) (q + 41) 9 (some (q + 52))) (q + 41) 0 (some (q + 3))) (q + 41) 1 (some (q + 23))) q 6 (some (q + 41))) (q + 53) 0 (some (q + 54))) _ _ Q
  refine bz_pP11_7 (ix := 67) (by decide +kernel) tw_415 ⟨rfl, rfl⟩ (bz_app (bz_app (bz_app (bz_app (bz_app (bz_app (bz_app (bz_app (bz_app (bz_app (bz_app (bz_app (bz_app (bz_app (bz_app (bz_app hq)))))))))))))))) ?_
  have hZ := bz_Z_P (k := 7) (x := some (q + 53)) hZ (by omega : q < (q + 55))
  refine ab_aload_n (z := 0) (by decide +kernel) rfl rfl ?_
  refine ab_bipush (z := 6) (v := (6 : Int32)) (by decide +kernel) (by decide) ?_
  refine bz_newi (ln := 6) (by decide +kernel) tw_72 (by decide) (by decide) (by decide) hL hZ (by decide) (by decide) ?_
  have hF55 := bz_last hL (a := (0, 6))
  have hL := bz_len hL (a := (0, 6))
  have hZ := bz_Z_m hZ (Nat.le_succ _)
  refine bz_pP11_8 (ix := 71) (by decide +kernel) tw_416 ⟨rfl, rfl⟩ (bz_app (bz_app (bz_app (bz_app (bz_app (bz_app (bz_app (bz_app (bz_app (bz_app (bz_app (bz_app (bz_app (bz_app (bz_app (bz_app (bz_app hq))))))))))))))))) ?_
  have hZ := bz_Z_P (k := 8) (x := some (q + 55)) hZ (by omega : q < (q + 56))
  refine ab_aload_n (z := 0) (by decide +kernel) rfl rfl ?_
  refine ab_iconst (z := 0) (v := (0 : Int32)) (by decide +kernel) (by decide) ?_
  refine bz_pI11_9 (ix := 75) (by decide +kernel) tw_417 ⟨rfl, rfl⟩ (bz_app (bz_app (bz_app (bz_app (bz_app (bz_app (bz_app (bz_app (bz_app (bz_app (bz_app (bz_app (bz_app (bz_app (bz_app (bz_app (bz_app hq))))))))))))))))) ?_
  have hZ := bz_Z_I (k := 9) (x := (0 : Int32)) hZ (by omega : q < (q + 56))
  refine ab_aload_n (z := 0) (by decide +kernel) rfl rfl ?_
  refine ab_iconst (z := 3) (v := (3 : Int32)) (by decide +kernel) (by decide) ?_
  refine bz_newq (ix := 79) (ln := 3) (by decide +kernel) tw_406 (by decide) (by decide) (by decide) hL hZ (by decide) (by decide) ?_
  have hF56 := bz_last hL (a := (4, 3))
  have hL := bz_len hL (a := (4, 3))
  have hZ := bz_Z_m hZ (Nat.le_succ _)
  refine bz_pP11_10 (ix := 81) (by decide +kernel) tw_418 ⟨rfl, rfl⟩ (bz_app (bz_app (bz_app (bz_app (bz_app (bz_app (bz_app (bz_app (bz_app (bz_app (bz_app (bz_app (bz_app (bz_app (bz_app (bz_app (bz_app (bz_app hq)))))))))))))))))) ?_
  have hZ := bz_Z_P (k := 10) (x := some (q + 56)) hZ (by omega : q < (q + 57))
  refine ab_aload_n (z := 0) (by decide +kernel) rfl rfl ?_
  refine ab_iconst (z := 0) (v := (0 : Int32)) (by decide +kernel) (by decide) ?_
  refine bz_pI11_11 (ix := 85) (by decide +kernel) tw_419 ⟨rfl, rfl⟩ (bz_app (bz_app (bz_app (bz_app (bz_app (bz_app (bz_app (bz_app (bz_app (bz_app (bz_app (bz_app (bz_app (bz_app (bz_app (bz_app (bz_app (bz_app hq)))))))))))))))))) ?_
  have hZ := bz_Z_I (k := 11) (x := (0 : Int32)) hZ (by omega : q < (q + 57))
  refine ab_aload_n (z := 0) (by decide +kernel) rfl rfl ?_
  refine bz_new6 (ix := 79) (by decide +kernel) tw_406 tw_228 tw_9 hL hZ (by decide) (by decide) ?_
  have hF57 := bz_last hL (a := (11, 0))
  have hL := bz_len hL (a := (11, 0))
  have hZ := bz_Z_m hZ (Nat.le_succ _)
  refine ab_dup (by decide +kernel) rfl ?_
  refine ab_callIN (g := iX6) (host := "BellRingers") (ix := 88) (dg := 1) (r := (q + 57)) (as := []) (st := [.ref (q + 57), .ref q]) (by decide +kernel) tn_407 tw_230 tw_9 tw_231 rfl rfl ⟨by decide +kernel, by decide +kernel, (by decide +kernel : (parseMethodDescriptor iX6.1.desc).map (fun d => d.parameters.length) = some 0)⟩ (by decide) rfl (by decide) (by decide) (by decide) (Nat.le_of_ble_eq_true rfl) (iX6_ok hL hF57 hZ ?_)
  have hL := bz_lenL hL (T := [(0, 6), (0, 6), (0, 30)])
  replace hL : ((((((((((((((((((((S ++ [(12, 0)]) ++ [(1, 1600)]) ++ [(14, 0)]) ++ [(0, 6), (0, 5), (0, 30), (7, 0), (0, 300), (0, 30), (0, 6)]) ++ [(9, 0)]) ++ [(3, 6), (3, 5), (14, 0), (0, 6), (0, 5), (0, 30), (7, 0), (0, 300), (0, 30), (0, 6), (13, 0)]) ++ [(10, 0)]) ++ [(0, 5)]) ++ [(6, 0)]) ++ [(11, 0), (0, 6), (0, 6), (0, 30), (0, 6), (0, 4), (0, 4), (0, 2)]) ++ [(8, 0)]) ++ [(11, 0), (0, 6), (0, 6), (0, 30), (0, 6), (0, 6)]) ++ [(15, 0)]) ++ [(11, 0), (0, 6), (0, 6), (0, 30), (0, 30), (0, 30), (0, 30), (2, 30), (0, 30), (0, 30), (0, 35)]) ++ [(5, 0)]) ++ [(4, 40)]) ++ [(0, 6)]) ++ [(4, 3)]) ++ [(11, 0)]) ++ [(0, 6), (0, 6), (0, 30)]).length = q + 61 := hL
  have hZ := bz_Z_m hZ (by omega : (q + 58) ≤ (q + 61))
  replace hZ : bz_Z (q + 61) (ab_u (ab_u (ab_u (ab_u (ab_u (ab_u (ab_u (ab_u (ab_u (ab_u (ab_u (ab_u (ab_u (ab_u (ab_u (ab_u (ab_u (ab_u (ab_u (ab_u (ab_u (ab_u (ab_u (ab_u (ab_u (ab_u (ab_u (ab_u (ab_u (ab_u (ab_u (ab_u (ab_u (ab_u (ab_u (ab_u (ab_u (ab_u (ab_u (ab_u (ab_u (ab_u (ab_u (ab_u (ab_u (ab_u (ab_u I (q + 1) 1 (0 : Int32)) (q + 7) 3 (0 : Int32)) (q + 7) 4 (0 : Int32)) (q + 3) 4 (0 : Int32)) (q + 3) 5 (0 : Int32)) (q + 3) 6 (0 : Int32)) (q + 3) 7 (-1 : Int32)) (q + 3) 8 (0 : Int32)) (q + 3) 9 (0 : Int32)) (q + 11) 3 (0 : Int32)) (q + 11) 4 (0 : Int32)) (q + 11) 5 (0 : Int32)) (q + 11) 6 (0 : Int32)) (q + 18) 3 (0 : Int32)) (q + 18) 4 (0 : Int32)) (q + 14) 4 (0 : Int32)) (q + 14) 5 (0 : Int32)) (q + 14) 6 (0 : Int32)) (q + 14) 7 (-1 : Int32)) (q + 14) 8 (0 : Int32)) (q + 14) 9 (0 : Int32)) (q + 11) 8 (0 : Int32)) (q + 11) 9 (-1 : Int32)) (q + 22) 1 (0 : Int32)) (q + 22) 2 (0 : Int32)) (q + 22) 3 (0 : Int32)) (q + 22) 4 (0 : Int32)) (q + 26) 3 (0 : Int32)) (q + 26) 4 (0 : Int32)) (q + 26) 5 (0 : Int32)) (q + 35) 3 (0 : Int32)) (q + 35) 4 (0 : Int32)) (q + 35) 5 (0 : Int32)) (q + 34) 5 (0 : Int32)) (q + 34) 6 (0 : Int32)) (q + 42) 3 (0 : Int32)) (q + 42) 4 (0 : Int32)) (q + 42) 5 (0 : Int32)) (q + 41) 10 (0 : Int32)) (q + 41) 11 (0 : Int32)) (q + 53) 1 (0 : Int32)) (q + 53) 2 (0 : Int32)) q 9 (0 : Int32)) q 11 (0 : Int32)) (q + 57) 3 (0 : Int32)) (q + 57) 4 (0 : Int32)) (q + 57) 5 (0 : Int32)) (ab_u J (q + 22) 5 (0 : Int64)) (ab_u (ab_u (ab_u (ab_u (ab_u (ab_u (ab_u (ab_u (ab_u (ab_u (ab_u (ab_u (ab_u (ab_u (ab_u (ab_u (ab_u (ab_u (ab_u (ab_u (ab_u (ab_u (ab_u (ab_u (ab_u (ab_u (ab_u (ab_u (ab_u (ab_u (ab_u (ab_u (ab_u (ab_u (ab_u (ab_u (ab_u (ab_u (ab_u (ab_u (ab_u (ab_u (ab_u (ab_u (ab_u (ab_u (ab_u (ab_u (ab_u (ab_u (ab_u (ab_u (ab_u (ab_u (ab_u (ab_u (ab_u (ab_u (ab_u (ab_u (ab_u (ab_u (ab_u (ab_u (ab_u (ab_u (ab_u P (q + 1) 0 (some (q + 2))) q 0 (some (q + 1))) (q + 3) 0 (some (q + 4))) (q + 3) 1 (some (q + 5))) (q + 3) 2 (some (q + 6))) (q + 7) 0 (some (q + 8))) (q + 7) 1 (some (q + 9))) (q + 7) 2 (some (q + 10))) (q + 3) 3 (some (q + 7))) q 1 (some (q + 3))) (q + 11) 1 (some (q + 12))) (q + 11) 2 (some (q + 13))) (q + 14) 0 (some (q + 15))) (q + 14) 1 (some (q + 16))) (q + 14) 2 (some (q + 17))) (q + 18) 0 (some (q + 19))) (q + 18) 1 (some (q + 20))) (q + 18) 2 (some (q + 21))) (q + 14) 3 (some (q + 18))) (q + 11) 7 (some (q + 14))) (q + 22) 0 (some (q + 1))) (q + 11) 0 (some (q + 22))) q 2 (some (q + 11))) (q + 23) 1 (some (q + 24))) (q + 23) 0 (some (q + 3))) q 3 (some (q + 23))) (q + 26) 0 (some (q + 27))) (q + 26) 1 (some (q + 28))) (q + 26) 2 (some (q + 29))) (q + 25) 2 (some (q + 26))) (q + 25) 3 (some (q + 30))) (q + 25) 4 (some (q + 31))) (q + 25) 5 (some (q + 32))) (q + 25) 6 (some (q + 33))) (q + 25) 0 (some (q + 3))) (q + 25) 1 (some (q + 23))) q 4 (some (q + 25))) (q + 35) 0 (some (q + 36))) (q + 35) 1 (some (q + 37))) (q + 35) 2 (some (q + 38))) (q + 34) 2 (some (q + 35))) (q + 34) 3 (some (q + 39))) (q + 34) 4 (some (q + 40))) (q + 34) 0 (some (q + 3))) (q + 34) 1 (some (q + 23))) q 5 (some (q + 34))) (q + 42) 0 (some (q + 43))) (q + 42) 1 (some (q + 44))) (q + 42) 2 (some (q + 45))) (q + 41) 2 (some (q + 42))) (q + 41) 3 (some (q + 46))) (q + 41) 4 (some (q + 47))) (q + 41) 5 (some (q + 48))) (q + 41) 6 (some (q + 49))) (q + 41) 7 (some (q + 50))) (q + 41) 8 (some (q + 51))) (q + 41) 9 (some (q + 52))) (q + 41) 0 (some (q + 3))) (q + 41) 1 (some (q + 23))) q 6 (some (q + 41))) (q + 53) 0 (some (q + 54))) q 7 (some (q + 53))) q 8 (some (q + 55))) q 10 (some (q + 56))) (q + 57) 0 (some (q + 58))) (q + 57) 1 (some (q + 59))) (q + 57) 2 (some (q + 60))) := by
    exact (bz_Z_P (bz_Z_P (bz_Z_P (bz_Z_I (bz_Z_I (bz_Z_I hZ (by omega)) (by omega)) (by omega)) (by omega)) (by omega)) (by omega))
  change ab_WP l G iX11 4 158 [some (.ref q), none] [.ref (q + 57), .ref q] ((((((((((((((((((((S ++ [(12, 0)]) ++ [(1, 1600)]) ++ [(14, 0)]) ++ [(0, 6), (0, 5), (0, 30), (7, 0), (0, 300), (0, 30), (0, 6)]) ++ [(9, 0)]) ++ [(3, 6), (3, 5), (14, 0), (0, 6), (0, 5), (0, 30), (7, 0), (0, 300), (0, 30), (0, 6), (13, 0)]) ++ [(10, 0)]) ++ [(0, 5)]) ++ [(6, 0)]) ++ [(11, 0), (0, 6), (0, 6), (0, 30), (0, 6), (0, 4), (0, 4), (0, 2)]) ++ [(8, 0)]) ++ [(11, 0), (0, 6), (0, 6), (0, 30), (0, 6), (0, 6)]) ++ [(15, 0)]) ++ [(11, 0), (0, 6), (0, 6), (0, 30), (0, 30), (0, 30), (0, 30), (2, 30), (0, 30), (0, 30), (0, 35)]) ++ [(5, 0)]) ++ [(4, 40)]) ++ [(0, 6)]) ++ [(4, 3)]) ++ [(11, 0)]) ++ [(0, 6), (0, 6), (0, 30)]) (ab_u (ab_u (ab_u (ab_u (ab_u (ab_u (ab_u (ab_u (ab_u (ab_u (ab_u (ab_u (ab_u (ab_u (ab_u (ab_u (ab_u (ab_u (ab_u (ab_u (ab_u (ab_u (ab_u (ab_u (ab_u (ab_u (ab_u (ab_u (ab_u (ab_u (ab_u (ab_u (ab_u (ab_u (ab_u (ab_u (ab_u (ab_u (ab_u (ab_u (ab_u (ab_u (ab_u (ab_u (ab_u (ab_u (ab_u I (q + 1) 1 (0 : Int32)) (q + 7) 3 (0 : Int32)) (q + 7) 4 (0 : Int32)) (q + 3) 4 (0 : Int32)) (q + 3) 5 (0 : Int32)) (q + 3) 6 (0 : Int32)) (q + 3) 7 (-1 : Int32)) (q + 3) 8 (0 : Int32)) (q + 3) 9 (0 : Int32)) (q + 11) 3 (0 : Int32)) (q + 11) 4 (0 : Int32)) (q + 11) 5 (0 : Int32)) (q + 11) 6 (0 : Int32)) (q + 18) 3 (0 : Int32)) (q + 18) 4 (0 : Int32)) (q + 14) 4 (0 : Int32)) (q + 14) 5 (0 : Int32)) (q + 14) 6 (0 : Int32)) (q + 14) 7 (-1 : Int32)) (q + 14) 8 (0 : Int32)) (q + 14) 9 (0 : Int32)) (q + 11) 8 (0 : Int32)) (q + 11) 9 (-1 : Int32)) (q + 22) 1 (0 : Int32)) (q + 22) 2 (0 : Int32)) (q + 22) 3 (0 : Int32)) (q + 22) 4 (0 : Int32)) (q + 26) 3 (0 : Int32)) (q + 26) 4 (0 : Int32)) (q + 26) 5 (0 : Int32)) (q + 35) 3 (0 : Int32)) (q + 35) 4 (0 : Int32)) (q + 35) 5 (0 : Int32)) (q + 34) 5 (0 : Int32)) (q + 34) 6 (0 : Int32)) (q + 42) 3 (0 : Int32)) (q + 42) 4 (0 : Int32)) (q + 42) 5 (0 : Int32)) (q + 41) 10 (0 : Int32)) (q + 41) 11 (0 : Int32)) (q + 53) 1 (0 : Int32)) (q + 53) 2 (0 : Int32)) q 9 (0 : Int32)) q 11 (0 : Int32)) (q + 57) 3 (0 : Int32)) (q + 57) 4 (0 : Int32)) (q + 57) 5 (0 : Int32)) (ab_u J (q + 22) 5 (0 : Int64)) (ab_u (ab_u (ab_u (ab_u (ab_u (ab_u (ab_u (ab_u (ab_u (ab_u (ab_u (ab_u (ab_u (ab_u (ab_u (ab_u (ab_u (ab_u (ab_u (ab_u (ab_u (ab_u (ab_u (ab_u (ab_u (ab_u (ab_u (ab_u (ab_u (ab_u (ab_u (ab_u (ab_u (ab_u (ab_u (ab_u (ab_u (ab_u (ab_u (ab_u (ab_u (ab_u (ab_u (ab_u (ab_u (ab_u (ab_u (ab_u (ab_u (ab_u (ab_u (ab_u (ab_u (ab_u (ab_u (ab_u (ab_u (ab_u (ab_u (ab_u (ab_u (ab_u (ab_u (ab_u (ab_u (ab_u (ab_u P (q + 1) 0 (some (q + 2))) q 0 (some (q + 1))) (q + 3) 0 (some (q + 4))) (q + 3) 1 (some (q + 5))) (q + 3) 2 (some (q + 6))) (q + 7) 0 (some (q + 8))) (q + 7) 1 (some (q + 9))) (q + 7) 2 (some (q + 10))) (q + 3) 3 (some (q + 7))) q 1 (some (q + 3))) (q + 11) 1 (some (q + 12))) (q + 11) 2 (some (q + 13))) (q + 14) 0 (some (q + 15))) (q + 14) 1 (some (q + 16))) (q + 14) 2 (some (q + 17))) (q + 18) 0 (some (q + 19))) (q + 18) 1 (some (q + 20))) (q + 18) 2 (some (q + 21))) (q + 14) 3 (some (q + 18))) (q + 11) 7 (some (q + 14))) (q + 22) 0 (some (q + 1))) (q + 11) 0 (some (q + 22))) q 2 (some (q + 11))) (q + 23) 1 (some (q + 24))) (q + 23) 0 (some (q + 3))) q 3 (some (q + 23))) (q + 26) 0 (some (q + 27))) (q + 26) 1 (some (q + 28))) (q + 26) 2 (some (q + 29))) (q + 25) 2 (some (q + 26))) (q + 25) 3 (some (q + 30))) (q + 25) 4 (some (q + 31))) (q + 25) 5 (some (q + 32))) (q + 25) 6 (some (q + 33))) (q + 25) 0 (some (q + 3))) (q + 25) 1 (some (q + 23))) q 4 (some (q + 25))) (q + 35) 0 (some (q + 36))) (q + 35) 1 (some (q + 37))) (q + 35) 2 (some (q + 38))) (q + 34) 2 (some (q + 35))) (q + 34) 3 (some (q + 39))) (q + 34) 4 (some (q + 40))) (q + 34) 0 (some (q + 3))) (q + 34) 1 (some (q + 23))) q 5 (some (q + 34))) (q + 42) 0 (some (q + 43))) (q + 42) 1 (some (q + 44))) (q + 42) 2 (some (q + 45))) (q + 41) 2 (some (q + 42))) (q + 41) 3 (some (q + 46))) (q + 41) 4 (some (q + 47))) (q + 41) 5 (some (q + 48))) (q + 41) 6 (some (q + 49))) (q + 41) 7 (some (q + 50))) (q + 41) 8 (some (q + 51))) (q + 41) 9 (some (q + 52))) (q + 41) 0 (some (q + 3))) (q + 41) 1 (some (q + 23))) q 6 (some (q + 41))) (q + 53) 0 (some (q + 54))) q 7 (some (q + 53))) q 8 (some (q + 55))) q 10 (some (q + 56))) (q + 57) 0 (some (q + 58))) (q + 57) 1 (some (q + 59))) (q + 57) 2 (some (q + 60))) _ _ Q
  refine bz_pP11_12 (ix := 89) (by decide +kernel) tw_420 ⟨rfl, rfl⟩ (bz_app (bz_app (bz_app (bz_app (bz_app (bz_app (bz_app (bz_app (bz_app (bz_app (bz_app (bz_app (bz_app (bz_app (bz_app (bz_app (bz_app (bz_app (bz_app (bz_app hq)))))))))))))))))))) ?_
  have hZ := bz_Z_P (k := 12) (x := some (q + 57)) hZ (by omega : q < (q + 61))
  refine ab_aload_n (z := 0) (by decide +kernel) rfl rfl ?_
  refine ab_iconst (z := 0) (v := (0 : Int32)) (by decide +kernel) (by decide) ?_
  refine bz_pI11_13 (ix := 93) (by decide +kernel) tw_421 ⟨rfl, rfl⟩ (bz_app (bz_app (bz_app (bz_app (bz_app (bz_app (bz_app (bz_app (bz_app (bz_app (bz_app (bz_app (bz_app (bz_app (bz_app (bz_app (bz_app (bz_app (bz_app (bz_app hq)))))))))))))))))))) ?_
  have hZ := bz_Z_I (k := 13) (x := (0 : Int32)) hZ (by omega : q < (q + 61))
  refine ab_aload_n (z := 0) (by decide +kernel) rfl rfl ?_
  refine ab_iconst (z := -1) (v := (-1 : Int32)) (by decide +kernel) (by decide) ?_
  refine bz_pI11_14 (ix := 96) (by decide +kernel) tw_422 ⟨rfl, rfl⟩ (bz_app (bz_app (bz_app (bz_app (bz_app (bz_app (bz_app (bz_app (bz_app (bz_app (bz_app (bz_app (bz_app (bz_app (bz_app (bz_app (bz_app (bz_app (bz_app (bz_app hq)))))))))))))))))))) ?_
  have hZ := bz_Z_I (k := 14) (x := (-1 : Int32)) hZ (by omega : q < (q + 61))
  refine ab_iconst (z := 0) (v := (0 : Int32)) (by decide +kernel) (by decide) ?_
  refine ab_istore_n (z := 1) (by decide +kernel) rfl (by decide) rfl ?_
  refine ab_ls (ls' := [some (.ref q), some (.int (0 : Int32))]) rfl ?_
  refine ab_iload_n (z := 1) (by decide +kernel) rfl rfl ?_
  refine ab_iconst (z := 3) (v := (3 : Int32)) (by decide +kernel) (by decide) ?_
  refine ab_icmp_ge (off := 22) (tgt := 197) (by decide +kernel) rfl (fun hc => absurd hc (by decide)) (fun _ => ?_)
  refine ab_aload_n (z := 0) (by decide +kernel) rfl rfl ?_
  refine bz_gP11_10 (ix := 81) (a := (q + 56)) (by decide +kernel) tw_418 (bz_app (bz_app (bz_app (bz_app (bz_app (bz_app (bz_app (bz_app (bz_app (bz_app (bz_app (bz_app (bz_app (bz_app (bz_app (bz_app (bz_app (bz_app (bz_app (bz_app hq)))))))))))))))))))) (by simp [ab_u]) ?_
  refine ab_iload_n (z := 1) (by decide +kernel) rfl rfl ?_
  refine bz_new6 (ix := 79) (by decide +kernel) tw_406 tw_228 tw_9 hL hZ (by decide) (by decide) ?_
  have hF61 := bz_last hL (a := (11, 0))
  have hL := bz_len hL (a := (11, 0))
  have hZ := bz_Z_m hZ (Nat.le_succ _)
  refine ab_dup (by decide +kernel) rfl ?_
  refine ab_callIN (g := iX6) (host := "BellRingers") (ix := 88) (dg := 1) (r := (q + 61)) (as := []) (st := [.ref (q + 61), .int (0 : Int32), .ref (q + 56)]) (by decide +kernel) tn_407 tw_230 tw_9 tw_231 rfl rfl ⟨by decide +kernel, by decide +kernel, (by decide +kernel : (parseMethodDescriptor iX6.1.desc).map (fun d => d.parameters.length) = some 0)⟩ (by decide) rfl (by decide) (by decide) (by decide) (Nat.le_of_ble_eq_true rfl) (iX6_ok hL hF61 hZ ?_)
  have hL := bz_lenL hL (T := [(0, 6), (0, 6), (0, 30)])
  replace hL : ((((((((((((((((((((((S ++ [(12, 0)]) ++ [(1, 1600)]) ++ [(14, 0)]) ++ [(0, 6), (0, 5), (0, 30), (7, 0), (0, 300), (0, 30), (0, 6)]) ++ [(9, 0)]) ++ [(3, 6), (3, 5), (14, 0), (0, 6), (0, 5), (0, 30), (7, 0), (0, 300), (0, 30), (0, 6), (13, 0)]) ++ [(10, 0)]) ++ [(0, 5)]) ++ [(6, 0)]) ++ [(11, 0), (0, 6), (0, 6), (0, 30), (0, 6), (0, 4), (0, 4), (0, 2)]) ++ [(8, 0)]) ++ [(11, 0), (0, 6), (0, 6), (0, 30), (0, 6), (0, 6)]) ++ [(15, 0)]) ++ [(11, 0), (0, 6), (0, 6), (0, 30), (0, 30), (0, 30), (0, 30), (2, 30), (0, 30), (0, 30), (0, 35)]) ++ [(5, 0)]) ++ [(4, 40)]) ++ [(0, 6)]) ++ [(4, 3)]) ++ [(11, 0)]) ++ [(0, 6), (0, 6), (0, 30)]) ++ [(11, 0)]) ++ [(0, 6), (0, 6), (0, 30)]).length = q + 65 := hL
  have hZ := bz_Z_m hZ (by omega : (q + 62) ≤ (q + 65))
  replace hZ : bz_Z (q + 65) (ab_u (ab_u (ab_u (ab_u (ab_u (ab_u (ab_u (ab_u (ab_u (ab_u (ab_u (ab_u (ab_u (ab_u (ab_u (ab_u (ab_u (ab_u (ab_u (ab_u (ab_u (ab_u (ab_u (ab_u (ab_u (ab_u (ab_u (ab_u (ab_u (ab_u (ab_u (ab_u (ab_u (ab_u (ab_u (ab_u (ab_u (ab_u (ab_u (ab_u (ab_u (ab_u (ab_u (ab_u (ab_u (ab_u (ab_u (ab_u (ab_u (ab_u (ab_u (ab_u I (q + 1) 1 (0 : Int32)) (q + 7) 3 (0 : Int32)) (q + 7) 4 (0 : Int32)) (q + 3) 4 (0 : Int32)) (q + 3) 5 (0 : Int32)) (q + 3) 6 (0 : Int32)) (q + 3) 7 (-1 : Int32)) (q + 3) 8 (0 : Int32)) (q + 3) 9 (0 : Int32)) (q + 11) 3 (0 : Int32)) (q + 11) 4 (0 : Int32)) (q + 11) 5 (0 : Int32)) (q + 11) 6 (0 : Int32)) (q + 18) 3 (0 : Int32)) (q + 18) 4 (0 : Int32)) (q + 14) 4 (0 : Int32)) (q + 14) 5 (0 : Int32)) (q + 14) 6 (0 : Int32)) (q + 14) 7 (-1 : Int32)) (q + 14) 8 (0 : Int32)) (q + 14) 9 (0 : Int32)) (q + 11) 8 (0 : Int32)) (q + 11) 9 (-1 : Int32)) (q + 22) 1 (0 : Int32)) (q + 22) 2 (0 : Int32)) (q + 22) 3 (0 : Int32)) (q + 22) 4 (0 : Int32)) (q + 26) 3 (0 : Int32)) (q + 26) 4 (0 : Int32)) (q + 26) 5 (0 : Int32)) (q + 35) 3 (0 : Int32)) (q + 35) 4 (0 : Int32)) (q + 35) 5 (0 : Int32)) (q + 34) 5 (0 : Int32)) (q + 34) 6 (0 : Int32)) (q + 42) 3 (0 : Int32)) (q + 42) 4 (0 : Int32)) (q + 42) 5 (0 : Int32)) (q + 41) 10 (0 : Int32)) (q + 41) 11 (0 : Int32)) (q + 53) 1 (0 : Int32)) (q + 53) 2 (0 : Int32)) q 9 (0 : Int32)) q 11 (0 : Int32)) (q + 57) 3 (0 : Int32)) (q + 57) 4 (0 : Int32)) (q + 57) 5 (0 : Int32)) q 13 (0 : Int32)) q 14 (-1 : Int32)) (q + 61) 3 (0 : Int32)) (q + 61) 4 (0 : Int32)) (q + 61) 5 (0 : Int32)) (ab_u J (q + 22) 5 (0 : Int64)) (ab_u (ab_u (ab_u (ab_u (ab_u (ab_u (ab_u (ab_u (ab_u (ab_u (ab_u (ab_u (ab_u (ab_u (ab_u (ab_u (ab_u (ab_u (ab_u (ab_u (ab_u (ab_u (ab_u (ab_u (ab_u (ab_u (ab_u (ab_u (ab_u (ab_u (ab_u (ab_u (ab_u (ab_u (ab_u (ab_u (ab_u (ab_u (ab_u (ab_u (ab_u (ab_u (ab_u (ab_u (ab_u (ab_u (ab_u (ab_u (ab_u (ab_u (ab_u (ab_u (ab_u (ab_u (ab_u (ab_u (ab_u (ab_u (ab_u (ab_u (ab_u (ab_u (ab_u (ab_u (ab_u (ab_u (ab_u (ab_u (ab_u (ab_u (ab_u P (q + 1) 0 (some (q + 2))) q 0 (some (q + 1))) (q + 3) 0 (some (q + 4))) (q + 3) 1 (some (q + 5))) (q + 3) 2 (some (q + 6))) (q + 7) 0 (some (q + 8))) (q + 7) 1 (some (q + 9))) (q + 7) 2 (some (q + 10))) (q + 3) 3 (some (q + 7))) q 1 (some (q + 3))) (q + 11) 1 (some (q + 12))) (q + 11) 2 (some (q + 13))) (q + 14) 0 (some (q + 15))) (q + 14) 1 (some (q + 16))) (q + 14) 2 (some (q + 17))) (q + 18) 0 (some (q + 19))) (q + 18) 1 (some (q + 20))) (q + 18) 2 (some (q + 21))) (q + 14) 3 (some (q + 18))) (q + 11) 7 (some (q + 14))) (q + 22) 0 (some (q + 1))) (q + 11) 0 (some (q + 22))) q 2 (some (q + 11))) (q + 23) 1 (some (q + 24))) (q + 23) 0 (some (q + 3))) q 3 (some (q + 23))) (q + 26) 0 (some (q + 27))) (q + 26) 1 (some (q + 28))) (q + 26) 2 (some (q + 29))) (q + 25) 2 (some (q + 26))) (q + 25) 3 (some (q + 30))) (q + 25) 4 (some (q + 31))) (q + 25) 5 (some (q + 32))) (q + 25) 6 (some (q + 33))) (q + 25) 0 (some (q + 3))) (q + 25) 1 (some (q + 23))) q 4 (some (q + 25))) (q + 35) 0 (some (q + 36))) (q + 35) 1 (some (q + 37))) (q + 35) 2 (some (q + 38))) (q + 34) 2 (some (q + 35))) (q + 34) 3 (some (q + 39))) (q + 34) 4 (some (q + 40))) (q + 34) 0 (some (q + 3))) (q + 34) 1 (some (q + 23))) q 5 (some (q + 34))) (q + 42) 0 (some (q + 43))) (q + 42) 1 (some (q + 44))) (q + 42) 2 (some (q + 45))) (q + 41) 2 (some (q + 42))) (q + 41) 3 (some (q + 46))) (q + 41) 4 (some (q + 47))) (q + 41) 5 (some (q + 48))) (q + 41) 6 (some (q + 49))) (q + 41) 7 (some (q + 50))) (q + 41) 8 (some (q + 51))) (q + 41) 9 (some (q + 52))) (q + 41) 0 (some (q + 3))) (q + 41) 1 (some (q + 23))) q 6 (some (q + 41))) (q + 53) 0 (some (q + 54))) q 7 (some (q + 53))) q 8 (some (q + 55))) q 10 (some (q + 56))) (q + 57) 0 (some (q + 58))) (q + 57) 1 (some (q + 59))) (q + 57) 2 (some (q + 60))) q 12 (some (q + 57))) (q + 61) 0 (some (q + 62))) (q + 61) 1 (some (q + 63))) (q + 61) 2 (some (q + 64))) := by
    exact (bz_Z_P (bz_Z_P (bz_Z_P (bz_Z_I (bz_Z_I (bz_Z_I hZ (by omega)) (by omega)) (by omega)) (by omega)) (by omega)) (by omega))
  change ab_WP l G iX11 4 190 [some (.ref q), some (.int (0 : Int32))] [.ref (q + 61), .int (0 : Int32), .ref (q + 56)] ((((((((((((((((((((((S ++ [(12, 0)]) ++ [(1, 1600)]) ++ [(14, 0)]) ++ [(0, 6), (0, 5), (0, 30), (7, 0), (0, 300), (0, 30), (0, 6)]) ++ [(9, 0)]) ++ [(3, 6), (3, 5), (14, 0), (0, 6), (0, 5), (0, 30), (7, 0), (0, 300), (0, 30), (0, 6), (13, 0)]) ++ [(10, 0)]) ++ [(0, 5)]) ++ [(6, 0)]) ++ [(11, 0), (0, 6), (0, 6), (0, 30), (0, 6), (0, 4), (0, 4), (0, 2)]) ++ [(8, 0)]) ++ [(11, 0), (0, 6), (0, 6), (0, 30), (0, 6), (0, 6)]) ++ [(15, 0)]) ++ [(11, 0), (0, 6), (0, 6), (0, 30), (0, 30), (0, 30), (0, 30), (2, 30), (0, 30), (0, 30), (0, 35)]) ++ [(5, 0)]) ++ [(4, 40)]) ++ [(0, 6)]) ++ [(4, 3)]) ++ [(11, 0)]) ++ [(0, 6), (0, 6), (0, 30)]) ++ [(11, 0)]) ++ [(0, 6), (0, 6), (0, 30)]) (ab_u (ab_u (ab_u (ab_u (ab_u (ab_u (ab_u (ab_u (ab_u (ab_u (ab_u (ab_u (ab_u (ab_u (ab_u (ab_u (ab_u (ab_u (ab_u (ab_u (ab_u (ab_u (ab_u (ab_u (ab_u (ab_u (ab_u (ab_u (ab_u (ab_u (ab_u (ab_u (ab_u (ab_u (ab_u (ab_u (ab_u (ab_u (ab_u (ab_u (ab_u (ab_u (ab_u (ab_u (ab_u (ab_u (ab_u (ab_u (ab_u (ab_u (ab_u (ab_u I (q + 1) 1 (0 : Int32)) (q + 7) 3 (0 : Int32)) (q + 7) 4 (0 : Int32)) (q + 3) 4 (0 : Int32)) (q + 3) 5 (0 : Int32)) (q + 3) 6 (0 : Int32)) (q + 3) 7 (-1 : Int32)) (q + 3) 8 (0 : Int32)) (q + 3) 9 (0 : Int32)) (q + 11) 3 (0 : Int32)) (q + 11) 4 (0 : Int32)) (q + 11) 5 (0 : Int32)) (q + 11) 6 (0 : Int32)) (q + 18) 3 (0 : Int32)) (q + 18) 4 (0 : Int32)) (q + 14) 4 (0 : Int32)) (q + 14) 5 (0 : Int32)) (q + 14) 6 (0 : Int32)) (q + 14) 7 (-1 : Int32)) (q + 14) 8 (0 : Int32)) (q + 14) 9 (0 : Int32)) (q + 11) 8 (0 : Int32)) (q + 11) 9 (-1 : Int32)) (q + 22) 1 (0 : Int32)) (q + 22) 2 (0 : Int32)) (q + 22) 3 (0 : Int32)) (q + 22) 4 (0 : Int32)) (q + 26) 3 (0 : Int32)) (q + 26) 4 (0 : Int32)) (q + 26) 5 (0 : Int32)) (q + 35) 3 (0 : Int32)) (q + 35) 4 (0 : Int32)) (q + 35) 5 (0 : Int32)) (q + 34) 5 (0 : Int32)) (q + 34) 6 (0 : Int32)) (q + 42) 3 (0 : Int32)) (q + 42) 4 (0 : Int32)) (q + 42) 5 (0 : Int32)) (q + 41) 10 (0 : Int32)) (q + 41) 11 (0 : Int32)) (q + 53) 1 (0 : Int32)) (q + 53) 2 (0 : Int32)) q 9 (0 : Int32)) q 11 (0 : Int32)) (q + 57) 3 (0 : Int32)) (q + 57) 4 (0 : Int32)) (q + 57) 5 (0 : Int32)) q 13 (0 : Int32)) q 14 (-1 : Int32)) (q + 61) 3 (0 : Int32)) (q + 61) 4 (0 : Int32)) (q + 61) 5 (0 : Int32)) (ab_u J (q + 22) 5 (0 : Int64)) (ab_u (ab_u (ab_u (ab_u (ab_u (ab_u (ab_u (ab_u (ab_u (ab_u (ab_u (ab_u (ab_u (ab_u (ab_u (ab_u (ab_u (ab_u (ab_u (ab_u (ab_u (ab_u (ab_u (ab_u (ab_u (ab_u (ab_u (ab_u (ab_u (ab_u (ab_u (ab_u (ab_u (ab_u (ab_u (ab_u (ab_u (ab_u (ab_u (ab_u (ab_u (ab_u (ab_u (ab_u (ab_u (ab_u (ab_u (ab_u (ab_u (ab_u (ab_u (ab_u (ab_u (ab_u (ab_u (ab_u (ab_u (ab_u (ab_u (ab_u (ab_u (ab_u (ab_u (ab_u (ab_u (ab_u (ab_u (ab_u (ab_u (ab_u (ab_u P (q + 1) 0 (some (q + 2))) q 0 (some (q + 1))) (q + 3) 0 (some (q + 4))) (q + 3) 1 (some (q + 5))) (q + 3) 2 (some (q + 6))) (q + 7) 0 (some (q + 8))) (q + 7) 1 (some (q + 9))) (q + 7) 2 (some (q + 10))) (q + 3) 3 (some (q + 7))) q 1 (some (q + 3))) (q + 11) 1 (some (q + 12))) (q + 11) 2 (some (q + 13))) (q + 14) 0 (some (q + 15))) (q + 14) 1 (some (q + 16))) (q + 14) 2 (some (q + 17))) (q + 18) 0 (some (q + 19))) (q + 18) 1 (some (q + 20))) (q + 18) 2 (some (q + 21))) (q + 14) 3 (some (q + 18))) (q + 11) 7 (some (q + 14))) (q + 22) 0 (some (q + 1))) (q + 11) 0 (some (q + 22))) q 2 (some (q + 11))) (q + 23) 1 (some (q + 24))) (q + 23) 0 (some (q + 3))) q 3 (some (q + 23))) (q + 26) 0 (some (q + 27))) (q + 26) 1 (some (q + 28))) (q + 26) 2 (some (q + 29))) (q + 25) 2 (some (q + 26))) (q + 25) 3 (some (q + 30))) (q + 25) 4 (some (q + 31))) (q + 25) 5 (some (q + 32))) (q + 25) 6 (some (q + 33))) (q + 25) 0 (some (q + 3))) (q + 25) 1 (some (q + 23))) q 4 (some (q + 25))) (q + 35) 0 (some (q + 36))) (q + 35) 1 (some (q + 37))) (q + 35) 2 (some (q + 38))) (q + 34) 2 (some (q + 35))) (q + 34) 3 (some (q + 39))) (q + 34) 4 (some (q + 40))) (q + 34) 0 (some (q + 3))) (q + 34) 1 (some (q + 23))) q 5 (some (q + 34))) (q + 42) 0 (some (q + 43))) (q + 42) 1 (some (q + 44))) (q + 42) 2 (some (q + 45))) (q + 41) 2 (some (q + 42))) (q + 41) 3 (some (q + 46))) (q + 41) 4 (some (q + 47))) (q + 41) 5 (some (q + 48))) (q + 41) 6 (some (q + 49))) (q + 41) 7 (some (q + 50))) (q + 41) 8 (some (q + 51))) (q + 41) 9 (some (q + 52))) (q + 41) 0 (some (q + 3))) (q + 41) 1 (some (q + 23))) q 6 (some (q + 41))) (q + 53) 0 (some (q + 54))) q 7 (some (q + 53))) q 8 (some (q + 55))) q 10 (some (q + 56))) (q + 57) 0 (some (q + 58))) (q + 57) 1 (some (q + 59))) (q + 57) 2 (some (q + 60))) q 12 (some (q + 57))) (q + 61) 0 (some (q + 62))) (q + 61) 1 (some (q + 63))) (q + 61) 2 (some (q + 64))) _ _ Q
  refine ab_aast (ln := 3) (la := 0) (by decide +kernel) (bz_app (bz_app (bz_app (bz_app hF56)))) (bz_app hF61) (ab_ix_in (by decide)) ?_
  have hZ := bz_Z_P (k := (0 : Int32).toNatClampNeg) (x := some (q + 61)) hZ (by omega : (q + 56) < (q + 65))
  refine ab_iinc (i := 1) (z := 1) (v := (1 : Int32)) (by decide +kernel) rfl (by decide) (by decide) rfl ?_
  refine ab_ls (ls' := [some (.ref q), some (.int (1 : Int32))]) rfl ?_
  refine ab_goto (off := -21) (tgt := 173) (by decide +kernel) rfl ?_
  refine ab_iload_n (z := 1) (by decide +kernel) rfl rfl ?_
  refine ab_iconst (z := 3) (v := (3 : Int32)) (by decide +kernel) (by decide) ?_
  refine ab_icmp_ge (off := 22) (tgt := 197) (by decide +kernel) rfl (fun hc => absurd hc (by decide)) (fun _ => ?_)
  refine ab_aload_n (z := 0) (by decide +kernel) rfl rfl ?_
  refine bz_gP11_10 (ix := 81) (a := (q + 56)) (by decide +kernel) tw_418 (bz_app (bz_app (bz_app (bz_app (bz_app (bz_app (bz_app (bz_app (bz_app (bz_app (bz_app (bz_app (bz_app (bz_app (bz_app (bz_app (bz_app (bz_app (bz_app (bz_app (bz_app (bz_app hq)))))))))))))))))))))) (by simp [ab_u]) ?_
  refine ab_iload_n (z := 1) (by decide +kernel) rfl rfl ?_
  refine bz_new6 (ix := 79) (by decide +kernel) tw_406 tw_228 tw_9 hL hZ (by decide) (by decide) ?_
  have hF65 := bz_last hL (a := (11, 0))
  have hL := bz_len hL (a := (11, 0))
  have hZ := bz_Z_m hZ (Nat.le_succ _)
  refine ab_dup (by decide +kernel) rfl ?_
  refine ab_callIN (g := iX6) (host := "BellRingers") (ix := 88) (dg := 1) (r := (q + 65)) (as := []) (st := [.ref (q + 65), .int (1 : Int32), .ref (q + 56)]) (by decide +kernel) tn_407 tw_230 tw_9 tw_231 rfl rfl ⟨by decide +kernel, by decide +kernel, (by decide +kernel : (parseMethodDescriptor iX6.1.desc).map (fun d => d.parameters.length) = some 0)⟩ (by decide) rfl (by decide) (by decide) (by decide) (Nat.le_of_ble_eq_true rfl) (iX6_ok hL hF65 hZ ?_)
  have hL := bz_lenL hL (T := [(0, 6), (0, 6), (0, 30)])
  replace hL : ((((((((((((((((((((((((S ++ [(12, 0)]) ++ [(1, 1600)]) ++ [(14, 0)]) ++ [(0, 6), (0, 5), (0, 30), (7, 0), (0, 300), (0, 30), (0, 6)]) ++ [(9, 0)]) ++ [(3, 6), (3, 5), (14, 0), (0, 6), (0, 5), (0, 30), (7, 0), (0, 300), (0, 30), (0, 6), (13, 0)]) ++ [(10, 0)]) ++ [(0, 5)]) ++ [(6, 0)]) ++ [(11, 0), (0, 6), (0, 6), (0, 30), (0, 6), (0, 4), (0, 4), (0, 2)]) ++ [(8, 0)]) ++ [(11, 0), (0, 6), (0, 6), (0, 30), (0, 6), (0, 6)]) ++ [(15, 0)]) ++ [(11, 0), (0, 6), (0, 6), (0, 30), (0, 30), (0, 30), (0, 30), (2, 30), (0, 30), (0, 30), (0, 35)]) ++ [(5, 0)]) ++ [(4, 40)]) ++ [(0, 6)]) ++ [(4, 3)]) ++ [(11, 0)]) ++ [(0, 6), (0, 6), (0, 30)]) ++ [(11, 0)]) ++ [(0, 6), (0, 6), (0, 30)]) ++ [(11, 0)]) ++ [(0, 6), (0, 6), (0, 30)]).length = q + 69 := hL
  have hZ := bz_Z_m hZ (by omega : (q + 66) ≤ (q + 69))
  replace hZ : bz_Z (q + 69) (ab_u (ab_u (ab_u (ab_u (ab_u (ab_u (ab_u (ab_u (ab_u (ab_u (ab_u (ab_u (ab_u (ab_u (ab_u (ab_u (ab_u (ab_u (ab_u (ab_u (ab_u (ab_u (ab_u (ab_u (ab_u (ab_u (ab_u (ab_u (ab_u (ab_u (ab_u (ab_u (ab_u (ab_u (ab_u (ab_u (ab_u (ab_u (ab_u (ab_u (ab_u (ab_u (ab_u (ab_u (ab_u (ab_u (ab_u (ab_u (ab_u (ab_u (ab_u (ab_u (ab_u (ab_u (ab_u I (q + 1) 1 (0 : Int32)) (q + 7) 3 (0 : Int32)) (q + 7) 4 (0 : Int32)) (q + 3) 4 (0 : Int32)) (q + 3) 5 (0 : Int32)) (q + 3) 6 (0 : Int32)) (q + 3) 7 (-1 : Int32)) (q + 3) 8 (0 : Int32)) (q + 3) 9 (0 : Int32)) (q + 11) 3 (0 : Int32)) (q + 11) 4 (0 : Int32)) (q + 11) 5 (0 : Int32)) (q + 11) 6 (0 : Int32)) (q + 18) 3 (0 : Int32)) (q + 18) 4 (0 : Int32)) (q + 14) 4 (0 : Int32)) (q + 14) 5 (0 : Int32)) (q + 14) 6 (0 : Int32)) (q + 14) 7 (-1 : Int32)) (q + 14) 8 (0 : Int32)) (q + 14) 9 (0 : Int32)) (q + 11) 8 (0 : Int32)) (q + 11) 9 (-1 : Int32)) (q + 22) 1 (0 : Int32)) (q + 22) 2 (0 : Int32)) (q + 22) 3 (0 : Int32)) (q + 22) 4 (0 : Int32)) (q + 26) 3 (0 : Int32)) (q + 26) 4 (0 : Int32)) (q + 26) 5 (0 : Int32)) (q + 35) 3 (0 : Int32)) (q + 35) 4 (0 : Int32)) (q + 35) 5 (0 : Int32)) (q + 34) 5 (0 : Int32)) (q + 34) 6 (0 : Int32)) (q + 42) 3 (0 : Int32)) (q + 42) 4 (0 : Int32)) (q + 42) 5 (0 : Int32)) (q + 41) 10 (0 : Int32)) (q + 41) 11 (0 : Int32)) (q + 53) 1 (0 : Int32)) (q + 53) 2 (0 : Int32)) q 9 (0 : Int32)) q 11 (0 : Int32)) (q + 57) 3 (0 : Int32)) (q + 57) 4 (0 : Int32)) (q + 57) 5 (0 : Int32)) q 13 (0 : Int32)) q 14 (-1 : Int32)) (q + 61) 3 (0 : Int32)) (q + 61) 4 (0 : Int32)) (q + 61) 5 (0 : Int32)) (q + 65) 3 (0 : Int32)) (q + 65) 4 (0 : Int32)) (q + 65) 5 (0 : Int32)) (ab_u J (q + 22) 5 (0 : Int64)) (ab_u (ab_u (ab_u (ab_u (ab_u (ab_u (ab_u (ab_u (ab_u (ab_u (ab_u (ab_u (ab_u (ab_u (ab_u (ab_u (ab_u (ab_u (ab_u (ab_u (ab_u (ab_u (ab_u (ab_u (ab_u (ab_u (ab_u (ab_u (ab_u (ab_u (ab_u (ab_u (ab_u (ab_u (ab_u (ab_u (ab_u (ab_u (ab_u (ab_u (ab_u (ab_u (ab_u (ab_u (ab_u (ab_u (ab_u (ab_u (ab_u (ab_u (ab_u (ab_u (ab_u (ab_u (ab_u (ab_u (ab_u (ab_u (ab_u (ab_u (ab_u (ab_u (ab_u (ab_u (ab_u (ab_u (ab_u (ab_u (ab_u (ab_u (ab_u (ab_u (ab_u (ab_u (ab_u P (q + 1) 0 (some (q + 2))) q 0 (some (q + 1))) (q + 3) 0 (some (q + 4))) (q + 3) 1 (some (q + 5))) (q + 3) 2 (some (q + 6))) (q + 7) 0 (some (q + 8))) (q + 7) 1 (some (q + 9))) (q + 7) 2 (some (q + 10))) (q + 3) 3 (some (q + 7))) q 1 (some (q + 3))) (q + 11) 1 (some (q + 12))) (q + 11) 2 (some (q + 13))) (q + 14) 0 (some (q + 15))) (q + 14) 1 (some (q + 16))) (q + 14) 2 (some (q + 17))) (q + 18) 0 (some (q + 19))) (q + 18) 1 (some (q + 20))) (q + 18) 2 (some (q + 21))) (q + 14) 3 (some (q + 18))) (q + 11) 7 (some (q + 14))) (q + 22) 0 (some (q + 1))) (q + 11) 0 (some (q + 22))) q 2 (some (q + 11))) (q + 23) 1 (some (q + 24))) (q + 23) 0 (some (q + 3))) q 3 (some (q + 23))) (q + 26) 0 (some (q + 27))) (q + 26) 1 (some (q + 28))) (q + 26) 2 (some (q + 29))) (q + 25) 2 (some (q + 26))) (q + 25) 3 (some (q + 30))) (q + 25) 4 (some (q + 31))) (q + 25) 5 (some (q + 32))) (q + 25) 6 (some (q + 33))) (q + 25) 0 (some (q + 3))) (q + 25) 1 (some (q + 23))) q 4 (some (q + 25))) (q + 35) 0 (some (q + 36))) (q + 35) 1 (some (q + 37))) (q + 35) 2 (some (q + 38))) (q + 34) 2 (some (q + 35))) (q + 34) 3 (some (q + 39))) (q + 34) 4 (some (q + 40))) (q + 34) 0 (some (q + 3))) (q + 34) 1 (some (q + 23))) q 5 (some (q + 34))) (q + 42) 0 (some (q + 43))) (q + 42) 1 (some (q + 44))) (q + 42) 2 (some (q + 45))) (q + 41) 2 (some (q + 42))) (q + 41) 3 (some (q + 46))) (q + 41) 4 (some (q + 47))) (q + 41) 5 (some (q + 48))) (q + 41) 6 (some (q + 49))) (q + 41) 7 (some (q + 50))) (q + 41) 8 (some (q + 51))) (q + 41) 9 (some (q + 52))) (q + 41) 0 (some (q + 3))) (q + 41) 1 (some (q + 23))) q 6 (some (q + 41))) (q + 53) 0 (some (q + 54))) q 7 (some (q + 53))) q 8 (some (q + 55))) q 10 (some (q + 56))) (q + 57) 0 (some (q + 58))) (q + 57) 1 (some (q + 59))) (q + 57) 2 (some (q + 60))) q 12 (some (q + 57))) (q + 61) 0 (some (q + 62))) (q + 61) 1 (some (q + 63))) (q + 61) 2 (some (q + 64))) (q + 56) (0 : Int32).toNatClampNeg (some (q + 61))) (q + 65) 0 (some (q + 66))) (q + 65) 1 (some (q + 67))) (q + 65) 2 (some (q + 68))) := by
    exact (bz_Z_P (bz_Z_P (bz_Z_P (bz_Z_I (bz_Z_I (bz_Z_I hZ (by omega)) (by omega)) (by omega)) (by omega)) (by omega)) (by omega))
  change ab_WP l G iX11 4 190 [some (.ref q), some (.int (1 : Int32))] [.ref (q + 65), .int (1 : Int32), .ref (q + 56)] ((((((((((((((((((((((((S ++ [(12, 0)]) ++ [(1, 1600)]) ++ [(14, 0)]) ++ [(0, 6), (0, 5), (0, 30), (7, 0), (0, 300), (0, 30), (0, 6)]) ++ [(9, 0)]) ++ [(3, 6), (3, 5), (14, 0), (0, 6), (0, 5), (0, 30), (7, 0), (0, 300), (0, 30), (0, 6), (13, 0)]) ++ [(10, 0)]) ++ [(0, 5)]) ++ [(6, 0)]) ++ [(11, 0), (0, 6), (0, 6), (0, 30), (0, 6), (0, 4), (0, 4), (0, 2)]) ++ [(8, 0)]) ++ [(11, 0), (0, 6), (0, 6), (0, 30), (0, 6), (0, 6)]) ++ [(15, 0)]) ++ [(11, 0), (0, 6), (0, 6), (0, 30), (0, 30), (0, 30), (0, 30), (2, 30), (0, 30), (0, 30), (0, 35)]) ++ [(5, 0)]) ++ [(4, 40)]) ++ [(0, 6)]) ++ [(4, 3)]) ++ [(11, 0)]) ++ [(0, 6), (0, 6), (0, 30)]) ++ [(11, 0)]) ++ [(0, 6), (0, 6), (0, 30)]) ++ [(11, 0)]) ++ [(0, 6), (0, 6), (0, 30)]) (ab_u (ab_u (ab_u (ab_u (ab_u (ab_u (ab_u (ab_u (ab_u (ab_u (ab_u (ab_u (ab_u (ab_u (ab_u (ab_u (ab_u (ab_u (ab_u (ab_u (ab_u (ab_u (ab_u (ab_u (ab_u (ab_u (ab_u (ab_u (ab_u (ab_u (ab_u (ab_u (ab_u (ab_u (ab_u (ab_u (ab_u (ab_u (ab_u (ab_u (ab_u (ab_u (ab_u (ab_u (ab_u (ab_u (ab_u (ab_u (ab_u (ab_u (ab_u (ab_u (ab_u (ab_u (ab_u I (q + 1) 1 (0 : Int32)) (q + 7) 3 (0 : Int32)) (q + 7) 4 (0 : Int32)) (q + 3) 4 (0 : Int32)) (q + 3) 5 (0 : Int32)) (q + 3) 6 (0 : Int32)) (q + 3) 7 (-1 : Int32)) (q + 3) 8 (0 : Int32)) (q + 3) 9 (0 : Int32)) (q + 11) 3 (0 : Int32)) (q + 11) 4 (0 : Int32)) (q + 11) 5 (0 : Int32)) (q + 11) 6 (0 : Int32)) (q + 18) 3 (0 : Int32)) (q + 18) 4 (0 : Int32)) (q + 14) 4 (0 : Int32)) (q + 14) 5 (0 : Int32)) (q + 14) 6 (0 : Int32)) (q + 14) 7 (-1 : Int32)) (q + 14) 8 (0 : Int32)) (q + 14) 9 (0 : Int32)) (q + 11) 8 (0 : Int32)) (q + 11) 9 (-1 : Int32)) (q + 22) 1 (0 : Int32)) (q + 22) 2 (0 : Int32)) (q + 22) 3 (0 : Int32)) (q + 22) 4 (0 : Int32)) (q + 26) 3 (0 : Int32)) (q + 26) 4 (0 : Int32)) (q + 26) 5 (0 : Int32)) (q + 35) 3 (0 : Int32)) (q + 35) 4 (0 : Int32)) (q + 35) 5 (0 : Int32)) (q + 34) 5 (0 : Int32)) (q + 34) 6 (0 : Int32)) (q + 42) 3 (0 : Int32)) (q + 42) 4 (0 : Int32)) (q + 42) 5 (0 : Int32)) (q + 41) 10 (0 : Int32)) (q + 41) 11 (0 : Int32)) (q + 53) 1 (0 : Int32)) (q + 53) 2 (0 : Int32)) q 9 (0 : Int32)) q 11 (0 : Int32)) (q + 57) 3 (0 : Int32)) (q + 57) 4 (0 : Int32)) (q + 57) 5 (0 : Int32)) q 13 (0 : Int32)) q 14 (-1 : Int32)) (q + 61) 3 (0 : Int32)) (q + 61) 4 (0 : Int32)) (q + 61) 5 (0 : Int32)) (q + 65) 3 (0 : Int32)) (q + 65) 4 (0 : Int32)) (q + 65) 5 (0 : Int32)) (ab_u J (q + 22) 5 (0 : Int64)) (ab_u (ab_u (ab_u (ab_u (ab_u (ab_u (ab_u (ab_u (ab_u (ab_u (ab_u (ab_u (ab_u (ab_u (ab_u (ab_u (ab_u (ab_u (ab_u (ab_u (ab_u (ab_u (ab_u (ab_u (ab_u (ab_u (ab_u (ab_u (ab_u (ab_u (ab_u (ab_u (ab_u (ab_u (ab_u (ab_u (ab_u (ab_u (ab_u (ab_u (ab_u (ab_u (ab_u (ab_u (ab_u (ab_u (ab_u (ab_u (ab_u (ab_u (ab_u (ab_u (ab_u (ab_u (ab_u (ab_u (ab_u (ab_u (ab_u (ab_u (ab_u (ab_u (ab_u (ab_u (ab_u (ab_u (ab_u (ab_u (ab_u (ab_u (ab_u (ab_u (ab_u (ab_u (ab_u P (q + 1) 0 (some (q + 2))) q 0 (some (q + 1))) (q + 3) 0 (some (q + 4))) (q + 3) 1 (some (q + 5))) (q + 3) 2 (some (q + 6))) (q + 7) 0 (some (q + 8))) (q + 7) 1 (some (q + 9))) (q + 7) 2 (some (q + 10))) (q + 3) 3 (some (q + 7))) q 1 (some (q + 3))) (q + 11) 1 (some (q + 12))) (q + 11) 2 (some (q + 13))) (q + 14) 0 (some (q + 15))) (q + 14) 1 (some (q + 16))) (q + 14) 2 (some (q + 17))) (q + 18) 0 (some (q + 19))) (q + 18) 1 (some (q + 20))) (q + 18) 2 (some (q + 21))) (q + 14) 3 (some (q + 18))) (q + 11) 7 (some (q + 14))) (q + 22) 0 (some (q + 1))) (q + 11) 0 (some (q + 22))) q 2 (some (q + 11))) (q + 23) 1 (some (q + 24))) (q + 23) 0 (some (q + 3))) q 3 (some (q + 23))) (q + 26) 0 (some (q + 27))) (q + 26) 1 (some (q + 28))) (q + 26) 2 (some (q + 29))) (q + 25) 2 (some (q + 26))) (q + 25) 3 (some (q + 30))) (q + 25) 4 (some (q + 31))) (q + 25) 5 (some (q + 32))) (q + 25) 6 (some (q + 33))) (q + 25) 0 (some (q + 3))) (q + 25) 1 (some (q + 23))) q 4 (some (q + 25))) (q + 35) 0 (some (q + 36))) (q + 35) 1 (some (q + 37))) (q + 35) 2 (some (q + 38))) (q + 34) 2 (some (q + 35))) (q + 34) 3 (some (q + 39))) (q + 34) 4 (some (q + 40))) (q + 34) 0 (some (q + 3))) (q + 34) 1 (some (q + 23))) q 5 (some (q + 34))) (q + 42) 0 (some (q + 43))) (q + 42) 1 (some (q + 44))) (q + 42) 2 (some (q + 45))) (q + 41) 2 (some (q + 42))) (q + 41) 3 (some (q + 46))) (q + 41) 4 (some (q + 47))) (q + 41) 5 (some (q + 48))) (q + 41) 6 (some (q + 49))) (q + 41) 7 (some (q + 50))) (q + 41) 8 (some (q + 51))) (q + 41) 9 (some (q + 52))) (q + 41) 0 (some (q + 3))) (q + 41) 1 (some (q + 23))) q 6 (some (q + 41))) (q + 53) 0 (some (q + 54))) q 7 (some (q + 53))) q 8 (some (q + 55))) q 10 (some (q + 56))) (q + 57) 0 (some (q + 58))) (q + 57) 1 (some (q + 59))) (q + 57) 2 (some (q + 60))) q 12 (some (q + 57))) (q + 61) 0 (some (q + 62))) (q + 61) 1 (some (q + 63))) (q + 61) 2 (some (q + 64))) (q + 56) (0 : Int32).toNatClampNeg (some (q + 61))) (q + 65) 0 (some (q + 66))) (q + 65) 1 (some (q + 67))) (q + 65) 2 (some (q + 68))) _ _ Q
  refine ab_aast (ln := 3) (la := 0) (by decide +kernel) (bz_app (bz_app (bz_app (bz_app (bz_app (bz_app hF56)))))) (bz_app hF65) (ab_ix_in (by decide)) ?_
  have hZ := bz_Z_P (k := (1 : Int32).toNatClampNeg) (x := some (q + 65)) hZ (by omega : (q + 56) < (q + 69))
  refine ab_iinc (i := 1) (z := 1) (v := (2 : Int32)) (by decide +kernel) rfl (by decide) (by decide) rfl ?_
  refine ab_ls (ls' := [some (.ref q), some (.int (2 : Int32))]) rfl ?_
  refine ab_goto (off := -21) (tgt := 173) (by decide +kernel) rfl ?_
  refine ab_iload_n (z := 1) (by decide +kernel) rfl rfl ?_
  refine ab_iconst (z := 3) (v := (3 : Int32)) (by decide +kernel) (by decide) ?_
  refine ab_icmp_ge (off := 22) (tgt := 197) (by decide +kernel) rfl (fun hc => absurd hc (by decide)) (fun _ => ?_)
  refine ab_aload_n (z := 0) (by decide +kernel) rfl rfl ?_
  refine bz_gP11_10 (ix := 81) (a := (q + 56)) (by decide +kernel) tw_418 (bz_app (bz_app (bz_app (bz_app (bz_app (bz_app (bz_app (bz_app (bz_app (bz_app (bz_app (bz_app (bz_app (bz_app (bz_app (bz_app (bz_app (bz_app (bz_app (bz_app (bz_app (bz_app (bz_app (bz_app hq)))))))))))))))))))))))) (by simp [ab_u]) ?_
  refine ab_iload_n (z := 1) (by decide +kernel) rfl rfl ?_
  refine bz_new6 (ix := 79) (by decide +kernel) tw_406 tw_228 tw_9 hL hZ (by decide) (by decide) ?_
  have hF69 := bz_last hL (a := (11, 0))
  have hL := bz_len hL (a := (11, 0))
  have hZ := bz_Z_m hZ (Nat.le_succ _)
  refine ab_dup (by decide +kernel) rfl ?_
  refine ab_callIN (g := iX6) (host := "BellRingers") (ix := 88) (dg := 1) (r := (q + 69)) (as := []) (st := [.ref (q + 69), .int (2 : Int32), .ref (q + 56)]) (by decide +kernel) tn_407 tw_230 tw_9 tw_231 rfl rfl ⟨by decide +kernel, by decide +kernel, (by decide +kernel : (parseMethodDescriptor iX6.1.desc).map (fun d => d.parameters.length) = some 0)⟩ (by decide) rfl (by decide) (by decide) (by decide) (Nat.le_of_ble_eq_true rfl) (iX6_ok hL hF69 hZ ?_)
  have hL := bz_lenL hL (T := [(0, 6), (0, 6), (0, 30)])
  replace hL : ((((((((((((((((((((((((((S ++ [(12, 0)]) ++ [(1, 1600)]) ++ [(14, 0)]) ++ [(0, 6), (0, 5), (0, 30), (7, 0), (0, 300), (0, 30), (0, 6)]) ++ [(9, 0)]) ++ [(3, 6), (3, 5), (14, 0), (0, 6), (0, 5), (0, 30), (7, 0), (0, 300), (0, 30), (0, 6), (13, 0)]) ++ [(10, 0)]) ++ [(0, 5)]) ++ [(6, 0)]) ++ [(11, 0), (0, 6), (0, 6), (0, 30), (0, 6), (0, 4), (0, 4), (0, 2)]) ++ [(8, 0)]) ++ [(11, 0), (0, 6), (0, 6), (0, 30), (0, 6), (0, 6)]) ++ [(15, 0)]) ++ [(11, 0), (0, 6), (0, 6), (0, 30), (0, 30), (0, 30), (0, 30), (2, 30), (0, 30), (0, 30), (0, 35)]) ++ [(5, 0)]) ++ [(4, 40)]) ++ [(0, 6)]) ++ [(4, 3)]) ++ [(11, 0)]) ++ [(0, 6), (0, 6), (0, 30)]) ++ [(11, 0)]) ++ [(0, 6), (0, 6), (0, 30)]) ++ [(11, 0)]) ++ [(0, 6), (0, 6), (0, 30)]) ++ [(11, 0)]) ++ [(0, 6), (0, 6), (0, 30)]).length = q + 73 := hL
  have hZ := bz_Z_m hZ (by omega : (q + 70) ≤ (q + 73))
  replace hZ : bz_Z (q + 73) (ab_u (ab_u (ab_u (ab_u (ab_u (ab_u (ab_u (ab_u (ab_u (ab_u (ab_u (ab_u (ab_u (ab_u (ab_u (ab_u (ab_u (ab_u (ab_u (ab_u (ab_u (ab_u (ab_u (ab_u (ab_u (ab_u (ab_u (ab_u (ab_u (ab_u (ab_u (ab_u (ab_u (ab_u (ab_u (ab_u (ab_u (ab_u (ab_u (ab_u (ab_u (ab_u (ab_u (ab_u (ab_u (ab_u (ab_u (ab_u (ab_u (ab_u (ab_u (ab_u (ab_u (ab_u (ab_u (ab_u (ab_u (ab_u I (q + 1) 1 (0 : Int32)) (q + 7) 3 (0 : Int32)) (q + 7) 4 (0 : Int32)) (q + 3) 4 (0 : Int32)) (q + 3) 5 (0 : Int32)) (q + 3) 6 (0 : Int32)) (q + 3) 7 (-1 : Int32)) (q + 3) 8 (0 : Int32)) (q + 3) 9 (0 : Int32)) (q + 11) 3 (0 : Int32)) (q + 11) 4 (0 : Int32)) (q + 11) 5 (0 : Int32)) (q + 11) 6 (0 : Int32)) (q + 18) 3 (0 : Int32)) (q + 18) 4 (0 : Int32)) (q + 14) 4 (0 : Int32)) (q + 14) 5 (0 : Int32)) (q + 14) 6 (0 : Int32)) (q + 14) 7 (-1 : Int32)) (q + 14) 8 (0 : Int32)) (q + 14) 9 (0 : Int32)) (q + 11) 8 (0 : Int32)) (q + 11) 9 (-1 : Int32)) (q + 22) 1 (0 : Int32)) (q + 22) 2 (0 : Int32)) (q + 22) 3 (0 : Int32)) (q + 22) 4 (0 : Int32)) (q + 26) 3 (0 : Int32)) (q + 26) 4 (0 : Int32)) (q + 26) 5 (0 : Int32)) (q + 35) 3 (0 : Int32)) (q + 35) 4 (0 : Int32)) (q + 35) 5 (0 : Int32)) (q + 34) 5 (0 : Int32)) (q + 34) 6 (0 : Int32)) (q + 42) 3 (0 : Int32)) (q + 42) 4 (0 : Int32)) (q + 42) 5 (0 : Int32)) (q + 41) 10 (0 : Int32)) (q + 41) 11 (0 : Int32)) (q + 53) 1 (0 : Int32)) (q + 53) 2 (0 : Int32)) q 9 (0 : Int32)) q 11 (0 : Int32)) (q + 57) 3 (0 : Int32)) (q + 57) 4 (0 : Int32)) (q + 57) 5 (0 : Int32)) q 13 (0 : Int32)) q 14 (-1 : Int32)) (q + 61) 3 (0 : Int32)) (q + 61) 4 (0 : Int32)) (q + 61) 5 (0 : Int32)) (q + 65) 3 (0 : Int32)) (q + 65) 4 (0 : Int32)) (q + 65) 5 (0 : Int32)) (q + 69) 3 (0 : Int32)) (q + 69) 4 (0 : Int32)) (q + 69) 5 (0 : Int32)) (ab_u J (q + 22) 5 (0 : Int64)) (ab_u (ab_u (ab_u (ab_u (ab_u (ab_u (ab_u (ab_u (ab_u (ab_u (ab_u (ab_u (ab_u (ab_u (ab_u (ab_u (ab_u (ab_u (ab_u (ab_u (ab_u (ab_u (ab_u (ab_u (ab_u (ab_u (ab_u (ab_u (ab_u (ab_u (ab_u (ab_u (ab_u (ab_u (ab_u (ab_u (ab_u (ab_u (ab_u (ab_u (ab_u (ab_u (ab_u (ab_u (ab_u (ab_u (ab_u (ab_u (ab_u (ab_u (ab_u (ab_u (ab_u (ab_u (ab_u (ab_u (ab_u (ab_u (ab_u (ab_u (ab_u (ab_u (ab_u (ab_u (ab_u (ab_u (ab_u (ab_u (ab_u (ab_u (ab_u (ab_u (ab_u (ab_u (ab_u (ab_u (ab_u (ab_u (ab_u P (q + 1) 0 (some (q + 2))) q 0 (some (q + 1))) (q + 3) 0 (some (q + 4))) (q + 3) 1 (some (q + 5))) (q + 3) 2 (some (q + 6))) (q + 7) 0 (some (q + 8))) (q + 7) 1 (some (q + 9))) (q + 7) 2 (some (q + 10))) (q + 3) 3 (some (q + 7))) q 1 (some (q + 3))) (q + 11) 1 (some (q + 12))) (q + 11) 2 (some (q + 13))) (q + 14) 0 (some (q + 15))) (q + 14) 1 (some (q + 16))) (q + 14) 2 (some (q + 17))) (q + 18) 0 (some (q + 19))) (q + 18) 1 (some (q + 20))) (q + 18) 2 (some (q + 21))) (q + 14) 3 (some (q + 18))) (q + 11) 7 (some (q + 14))) (q + 22) 0 (some (q + 1))) (q + 11) 0 (some (q + 22))) q 2 (some (q + 11))) (q + 23) 1 (some (q + 24))) (q + 23) 0 (some (q + 3))) q 3 (some (q + 23))) (q + 26) 0 (some (q + 27))) (q + 26) 1 (some (q + 28))) (q + 26) 2 (some (q + 29))) (q + 25) 2 (some (q + 26))) (q + 25) 3 (some (q + 30))) (q + 25) 4 (some (q + 31))) (q + 25) 5 (some (q + 32))) (q + 25) 6 (some (q + 33))) (q + 25) 0 (some (q + 3))) (q + 25) 1 (some (q + 23))) q 4 (some (q + 25))) (q + 35) 0 (some (q + 36))) (q + 35) 1 (some (q + 37))) (q + 35) 2 (some (q + 38))) (q + 34) 2 (some (q + 35))) (q + 34) 3 (some (q + 39))) (q + 34) 4 (some (q + 40))) (q + 34) 0 (some (q + 3))) (q + 34) 1 (some (q + 23))) q 5 (some (q + 34))) (q + 42) 0 (some (q + 43))) (q + 42) 1 (some (q + 44))) (q + 42) 2 (some (q + 45))) (q + 41) 2 (some (q + 42))) (q + 41) 3 (some (q + 46))) (q + 41) 4 (some (q + 47))) (q + 41) 5 (some (q + 48))) (q + 41) 6 (some (q + 49))) (q + 41) 7 (some (q + 50))) (q + 41) 8 (some (q + 51))) (q + 41) 9 (some (q + 52))) (q + 41) 0 (some (q + 3))) (q + 41) 1 (some (q + 23))) q 6 (some (q + 41))) (q + 53) 0 (some (q + 54))) q 7 (some (q + 53))) q 8 (some (q + 55))) q 10 (some (q + 56))) (q + 57) 0 (some (q + 58))) (q + 57) 1 (some (q + 59))) (q + 57) 2 (some (q + 60))) q 12 (some (q + 57))) (q + 61) 0 (some (q + 62))) (q + 61) 1 (some (q + 63))) (q + 61) 2 (some (q + 64))) (q + 56) (0 : Int32).toNatClampNeg (some (q + 61))) (q + 65) 0 (some (q + 66))) (q + 65) 1 (some (q + 67))) (q + 65) 2 (some (q + 68))) (q + 56) (1 : Int32).toNatClampNeg (some (q + 65))) (q + 69) 0 (some (q + 70))) (q + 69) 1 (some (q + 71))) (q + 69) 2 (some (q + 72))) := by
    exact (bz_Z_P (bz_Z_P (bz_Z_P (bz_Z_I (bz_Z_I (bz_Z_I hZ (by omega)) (by omega)) (by omega)) (by omega)) (by omega)) (by omega))
  change ab_WP l G iX11 4 190 [some (.ref q), some (.int (2 : Int32))] [.ref (q + 69), .int (2 : Int32), .ref (q + 56)] ((((((((((((((((((((((((((S ++ [(12, 0)]) ++ [(1, 1600)]) ++ [(14, 0)]) ++ [(0, 6), (0, 5), (0, 30), (7, 0), (0, 300), (0, 30), (0, 6)]) ++ [(9, 0)]) ++ [(3, 6), (3, 5), (14, 0), (0, 6), (0, 5), (0, 30), (7, 0), (0, 300), (0, 30), (0, 6), (13, 0)]) ++ [(10, 0)]) ++ [(0, 5)]) ++ [(6, 0)]) ++ [(11, 0), (0, 6), (0, 6), (0, 30), (0, 6), (0, 4), (0, 4), (0, 2)]) ++ [(8, 0)]) ++ [(11, 0), (0, 6), (0, 6), (0, 30), (0, 6), (0, 6)]) ++ [(15, 0)]) ++ [(11, 0), (0, 6), (0, 6), (0, 30), (0, 30), (0, 30), (0, 30), (2, 30), (0, 30), (0, 30), (0, 35)]) ++ [(5, 0)]) ++ [(4, 40)]) ++ [(0, 6)]) ++ [(4, 3)]) ++ [(11, 0)]) ++ [(0, 6), (0, 6), (0, 30)]) ++ [(11, 0)]) ++ [(0, 6), (0, 6), (0, 30)]) ++ [(11, 0)]) ++ [(0, 6), (0, 6), (0, 30)]) ++ [(11, 0)]) ++ [(0, 6), (0, 6), (0, 30)]) (ab_u (ab_u (ab_u (ab_u (ab_u (ab_u (ab_u (ab_u (ab_u (ab_u (ab_u (ab_u (ab_u (ab_u (ab_u (ab_u (ab_u (ab_u (ab_u (ab_u (ab_u (ab_u (ab_u (ab_u (ab_u (ab_u (ab_u (ab_u (ab_u (ab_u (ab_u (ab_u (ab_u (ab_u (ab_u (ab_u (ab_u (ab_u (ab_u (ab_u (ab_u (ab_u (ab_u (ab_u (ab_u (ab_u (ab_u (ab_u (ab_u (ab_u (ab_u (ab_u (ab_u (ab_u (ab_u (ab_u (ab_u (ab_u I (q + 1) 1 (0 : Int32)) (q + 7) 3 (0 : Int32)) (q + 7) 4 (0 : Int32)) (q + 3) 4 (0 : Int32)) (q + 3) 5 (0 : Int32)) (q + 3) 6 (0 : Int32)) (q + 3) 7 (-1 : Int32)) (q + 3) 8 (0 : Int32)) (q + 3) 9 (0 : Int32)) (q + 11) 3 (0 : Int32)) (q + 11) 4 (0 : Int32)) (q + 11) 5 (0 : Int32)) (q + 11) 6 (0 : Int32)) (q + 18) 3 (0 : Int32)) (q + 18) 4 (0 : Int32)) (q + 14) 4 (0 : Int32)) (q + 14) 5 (0 : Int32)) (q + 14) 6 (0 : Int32)) (q + 14) 7 (-1 : Int32)) (q + 14) 8 (0 : Int32)) (q + 14) 9 (0 : Int32)) (q + 11) 8 (0 : Int32)) (q + 11) 9 (-1 : Int32)) (q + 22) 1 (0 : Int32)) (q + 22) 2 (0 : Int32)) (q + 22) 3 (0 : Int32)) (q + 22) 4 (0 : Int32)) (q + 26) 3 (0 : Int32)) (q + 26) 4 (0 : Int32)) (q + 26) 5 (0 : Int32)) (q + 35) 3 (0 : Int32)) (q + 35) 4 (0 : Int32)) (q + 35) 5 (0 : Int32)) (q + 34) 5 (0 : Int32)) (q + 34) 6 (0 : Int32)) (q + 42) 3 (0 : Int32)) (q + 42) 4 (0 : Int32)) (q + 42) 5 (0 : Int32)) (q + 41) 10 (0 : Int32)) (q + 41) 11 (0 : Int32)) (q + 53) 1 (0 : Int32)) (q + 53) 2 (0 : Int32)) q 9 (0 : Int32)) q 11 (0 : Int32)) (q + 57) 3 (0 : Int32)) (q + 57) 4 (0 : Int32)) (q + 57) 5 (0 : Int32)) q 13 (0 : Int32)) q 14 (-1 : Int32)) (q + 61) 3 (0 : Int32)) (q + 61) 4 (0 : Int32)) (q + 61) 5 (0 : Int32)) (q + 65) 3 (0 : Int32)) (q + 65) 4 (0 : Int32)) (q + 65) 5 (0 : Int32)) (q + 69) 3 (0 : Int32)) (q + 69) 4 (0 : Int32)) (q + 69) 5 (0 : Int32)) (ab_u J (q + 22) 5 (0 : Int64)) (ab_u (ab_u (ab_u (ab_u (ab_u (ab_u (ab_u (ab_u (ab_u (ab_u (ab_u (ab_u (ab_u (ab_u (ab_u (ab_u (ab_u (ab_u (ab_u (ab_u (ab_u (ab_u (ab_u (ab_u (ab_u (ab_u (ab_u (ab_u (ab_u (ab_u (ab_u (ab_u (ab_u (ab_u (ab_u (ab_u (ab_u (ab_u (ab_u (ab_u (ab_u (ab_u (ab_u (ab_u (ab_u (ab_u (ab_u (ab_u (ab_u (ab_u (ab_u (ab_u (ab_u (ab_u (ab_u (ab_u (ab_u (ab_u (ab_u (ab_u (ab_u (ab_u (ab_u (ab_u (ab_u (ab_u (ab_u (ab_u (ab_u (ab_u (ab_u (ab_u (ab_u (ab_u (ab_u (ab_u (ab_u (ab_u (ab_u P (q + 1) 0 (some (q + 2))) q 0 (some (q + 1))) (q + 3) 0 (some (q + 4))) (q + 3) 1 (some (q + 5))) (q + 3) 2 (some (q + 6))) (q + 7) 0 (some (q + 8))) (q + 7) 1 (some (q + 9))) (q + 7) 2 (some (q + 10))) (q + 3) 3 (some (q + 7))) q 1 (some (q + 3))) (q + 11) 1 (some (q + 12))) (q + 11) 2 (some (q + 13))) (q + 14) 0 (some (q + 15))) (q + 14) 1 (some (q + 16))) (q + 14) 2 (some (q + 17))) (q + 18) 0 (some (q + 19))) (q + 18) 1 (some (q + 20))) (q + 18) 2 (some (q + 21))) (q + 14) 3 (some (q + 18))) (q + 11) 7 (some (q + 14))) (q + 22) 0 (some (q + 1))) (q + 11) 0 (some (q + 22))) q 2 (some (q + 11))) (q + 23) 1 (some (q + 24))) (q + 23) 0 (some (q + 3))) q 3 (some (q + 23))) (q + 26) 0 (some (q + 27))) (q + 26) 1 (some (q + 28))) (q + 26) 2 (some (q + 29))) (q + 25) 2 (some (q + 26))) (q + 25) 3 (some (q + 30))) (q + 25) 4 (some (q + 31))) (q + 25) 5 (some (q + 32))) (q + 25) 6 (some (q + 33))) (q + 25) 0 (some (q + 3))) (q + 25) 1 (some (q + 23))) q 4 (some (q + 25))) (q + 35) 0 (some (q + 36))) (q + 35) 1 (some (q + 37))) (q + 35) 2 (some (q + 38))) (q + 34) 2 (some (q + 35))) (q + 34) 3 (some (q + 39))) (q + 34) 4 (some (q + 40))) (q + 34) 0 (some (q + 3))) (q + 34) 1 (some (q + 23))) q 5 (some (q + 34))) (q + 42) 0 (some (q + 43))) (q + 42) 1 (some (q + 44))) (q + 42) 2 (some (q + 45))) (q + 41) 2 (some (q + 42))) (q + 41) 3 (some (q + 46))) (q + 41) 4 (some (q + 47))) (q + 41) 5 (some (q + 48))) (q + 41) 6 (some (q + 49))) (q + 41) 7 (some (q + 50))) (q + 41) 8 (some (q + 51))) (q + 41) 9 (some (q + 52))) (q + 41) 0 (some (q + 3))) (q + 41) 1 (some (q + 23))) q 6 (some (q + 41))) (q + 53) 0 (some (q + 54))) q 7 (some (q + 53))) q 8 (some (q + 55))) q 10 (some (q + 56))) (q + 57) 0 (some (q + 58))) (q + 57) 1 (some (q + 59))) (q + 57) 2 (some (q + 60))) q 12 (some (q + 57))) (q + 61) 0 (some (q + 62))) (q + 61) 1 (some (q + 63))) (q + 61) 2 (some (q + 64))) (q + 56) (0 : Int32).toNatClampNeg (some (q + 61))) (q + 65) 0 (some (q + 66))) (q + 65) 1 (some (q + 67))) (q + 65) 2 (some (q + 68))) (q + 56) (1 : Int32).toNatClampNeg (some (q + 65))) (q + 69) 0 (some (q + 70))) (q + 69) 1 (some (q + 71))) (q + 69) 2 (some (q + 72))) _ _ Q
  refine ab_aast (ln := 3) (la := 0) (by decide +kernel) (bz_app (bz_app (bz_app (bz_app (bz_app (bz_app (bz_app (bz_app hF56)))))))) (bz_app hF69) (ab_ix_in (by decide)) ?_
  have hZ := bz_Z_P (k := (2 : Int32).toNatClampNeg) (x := some (q + 69)) hZ (by omega : (q + 56) < (q + 73))
  refine ab_iinc (i := 1) (z := 1) (v := (3 : Int32)) (by decide +kernel) rfl (by decide) (by decide) rfl ?_
  refine ab_ls (ls' := [some (.ref q), some (.int (3 : Int32))]) rfl ?_
  refine ab_goto (off := -21) (tgt := 173) (by decide +kernel) rfl ?_
  refine ab_iload_n (z := 1) (by decide +kernel) rfl rfl ?_
  refine ab_iconst (z := 3) (v := (3 : Int32)) (by decide +kernel) (by decide) ?_
  refine ab_icmp_ge (off := 22) (tgt := 197) (by decide +kernel) rfl (fun _ => ?_) (fun hc => absurd (by decide) hc)
  exact ab_vret (by decide +kernel) rfl (by decide) (by decide) K
abbrev iX12 : ab_M := (yX12_init, cX12_init, 1, none, 35, 6730)
set_option maxRecDepth 100000 in
set_option maxHeartbeats 4000000 in
theorem iX12_ok {l : Launch} {G : ab_G} {S : ab_S} {I : ab_I} {J : ab_J} {P : ab_P} {Q : ab_Q} {q : Nat} (hL : S.length = q + 1) (hq : S[q]? = some (17, 0)) (hZ : bz_Z (q + 1) I J P) (K : Q none (S ++ [(0, 1600), (3, 11), (0, 320), (0, 320), (0, 320), (0, 320), (0, 160), (0, 64), (0, 6), (0, 6), (0, 5), (0, 30), (0, 6), (0, 5), (0, 30), (0, 45), (0, 45), (0, 5), (0, 1800), (0, 6), (0, 6), (0, 6), (0, 4), (0, 4), (0, 30), (0, 30), (0, 30), (0, 30), (0, 30), (2, 30), (0, 1260), (0, 7), (2, 21), (2, 3), (0, 135)]) (ab_u I q 3 (-1 : Int32)) J (ab_u (ab_u (ab_u (ab_u (ab_u (ab_u (ab_u (ab_u (ab_u (ab_u (ab_u (ab_u (ab_u (ab_u (ab_u (ab_u (ab_u (ab_u (ab_u (ab_u (ab_u (ab_u (ab_u (ab_u (ab_u (ab_u (ab_u (ab_u (ab_u (ab_u (ab_u (ab_u (ab_u (ab_u (ab_u P q 0 (some (q + 1))) q 10 (some (q + 2))) q 11 (some (q + 3))) q 12 (some (q + 4))) q 13 (some (q + 5))) q 14 (some (q + 6))) q 15 (some (q + 7))) q 16 (some (q + 8))) q 26 (some (q + 9))) q 27 (some (q + 10))) q 28 (some (q + 11))) q 29 (some (q + 12))) q 30 (some (q + 13))) q 31 (some (q + 14))) q 32 (some (q + 15))) q 46 (some (q + 16))) q 47 (some (q + 17))) q 48 (some (q + 18))) q 49 (some (q + 19))) q 52 (some (q + 20))) q 53 (some (q + 21))) q 55 (some (q + 22))) q 56 (some (q + 23))) q 57 (some (q + 24))) q 58 (some (q + 25))) q 59 (some (q + 26))) q 60 (some (q + 27))) q 61 (some (q + 28))) q 62 (some (q + 29))) q 63 (some (q + 30))) q 66 (some (q + 31))) q 67 (some (q + 32))) q 68 (some (q + 33))) q 69 (some (q + 34))) q 70 (some (q + 35)))) : ab_Call l G iX12 1 [.ref q] S I J P Q := by
  replace K : Q none (((((((((((((((((((((((((((((((((((S ++ [(0, 1600)]) ++ [(3, 11)]) ++ [(0, 320)]) ++ [(0, 320)]) ++ [(0, 320)]) ++ [(0, 320)]) ++ [(0, 160)]) ++ [(0, 64)]) ++ [(0, 6)]) ++ [(0, 6)]) ++ [(0, 5)]) ++ [(0, 30)]) ++ [(0, 6)]) ++ [(0, 5)]) ++ [(0, 30)]) ++ [(0, 45)]) ++ [(0, 45)]) ++ [(0, 5)]) ++ [(0, 1800)]) ++ [(0, 6)]) ++ [(0, 6)]) ++ [(0, 6)]) ++ [(0, 4)]) ++ [(0, 4)]) ++ [(0, 30)]) ++ [(0, 30)]) ++ [(0, 30)]) ++ [(0, 30)]) ++ [(0, 30)]) ++ [(2, 30)]) ++ [(0, 1260)]) ++ [(0, 7)]) ++ [(2, 21)]) ++ [(2, 3)]) ++ [(0, 135)]) (ab_u I q 3 (-1 : Int32)) J (ab_u (ab_u (ab_u (ab_u (ab_u (ab_u (ab_u (ab_u (ab_u (ab_u (ab_u (ab_u (ab_u (ab_u (ab_u (ab_u (ab_u (ab_u (ab_u (ab_u (ab_u (ab_u (ab_u (ab_u (ab_u (ab_u (ab_u (ab_u (ab_u (ab_u (ab_u (ab_u (ab_u (ab_u (ab_u P q 0 (some (q + 1))) q 10 (some (q + 2))) q 11 (some (q + 3))) q 12 (some (q + 4))) q 13 (some (q + 5))) q 14 (some (q + 6))) q 15 (some (q + 7))) q 16 (some (q + 8))) q 26 (some (q + 9))) q 27 (some (q + 10))) q 28 (some (q + 11))) q 29 (some (q + 12))) q 30 (some (q + 13))) q 31 (some (q + 14))) q 32 (some (q + 15))) q 46 (some (q + 16))) q 47 (some (q + 17))) q 48 (some (q + 18))) q 49 (some (q + 19))) q 52 (some (q + 20))) q 53 (some (q + 21))) q 55 (some (q + 22))) q 56 (some (q + 23))) q 57 (some (q + 24))) q 58 (some (q + 25))) q 59 (some (q + 26))) q 60 (some (q + 27))) q 61 (some (q + 28))) q 62 (some (q + 29))) q 63 (some (q + 30))) q 66 (some (q + 31))) q 67 (some (q + 32))) q 68 (some (q + 33))) q 69 (some (q + 34))) q 70 (some (q + 35))) := by simpa only [List.append_assoc, List.cons_append, List.nil_append] using K
  refine ab_enter rfl (Nat.le_of_ble_eq_true rfl) (ab_wk (ls' := [some (.ref q)]) (ab_le_some (ab_le_nil)) ?_)
  refine ab_aload_n (z := 0) (by decide +kernel) rfl rfl ?_
  refine ab_objInit (ix := 1) (by decide +kernel) tw_1080 tw_24 tw_25 (by decide) (Nat.le_of_ble_eq_true rfl) ?_
  refine ab_aload_n (z := 0) (by decide +kernel) rfl rfl ?_
  refine ab_sipush (z := 1600) (v := (1600 : Int32)) (by decide +kernel) (by decide) ?_
  refine bz_newi (ln := 1600) (by decide +kernel) tw_72 (by decide) (by decide) (by decide) hL hZ (by decide) (by decide) ?_
  have hF1 := bz_last hL (a := (0, 1600))
  have hL := bz_len hL (a := (0, 1600))
  have hZ := bz_Z_m hZ (Nat.le_succ _)
  refine bz_pP12_0 (ix := 7) (by decide +kernel) tw_1081 ⟨rfl, rfl⟩ (bz_app hq) ?_
  have hZ := bz_Z_P (k := 0) (x := some (q + 1)) hZ (by omega : q < (q + 2))
  refine ab_aload_n (z := 0) (by decide +kernel) rfl rfl ?_
  refine ab_iconst (z := -1) (v := (-1 : Int32)) (by decide +kernel) (by decide) ?_
  refine bz_pI12_3 (ix := 13) (by decide +kernel) tw_1084 ⟨rfl, rfl⟩ (bz_app hq) ?_
  have hZ := bz_Z_I (k := 3) (x := (-1 : Int32)) hZ (by omega : q < (q + 2))
  refine ab_aload_n (z := 0) (by decide +kernel) rfl rfl ?_
  refine ab_bipush (z := 11) (v := (11 : Int32)) (by decide +kernel) (by decide) ?_
  refine bz_newl (ln := 11) (by decide +kernel) tw_170 (by decide) (by decide) (by decide) hL hZ (by decide) (by decide) ?_
  have hF2 := bz_last hL (a := (3, 11))
  have hL := bz_len hL (a := (3, 11))
  have hZ := bz_Z_m hZ (Nat.le_succ _)
  refine bz_pP12_10 (ix := 17) (by decide +kernel) tw_1091 ⟨rfl, rfl⟩ (bz_app (bz_app hq)) ?_
  have hZ := bz_Z_P (k := 10) (x := some (q + 2)) hZ (by omega : q < (q + 3))
  refine ab_aload_n (z := 0) (by decide +kernel) rfl rfl ?_
  refine ab_sipush (z := 320) (v := (320 : Int32)) (by decide +kernel) (by decide) ?_
  refine bz_newi (ln := 320) (by decide +kernel) tw_72 (by decide) (by decide) (by decide) hL hZ (by decide) (by decide) ?_
  have hF3 := bz_last hL (a := (0, 320))
  have hL := bz_len hL (a := (0, 320))
  have hZ := bz_Z_m hZ (Nat.le_succ _)
  refine bz_pP12_11 (ix := 21) (by decide +kernel) tw_1092 ⟨rfl, rfl⟩ (bz_app (bz_app (bz_app hq))) ?_
  have hZ := bz_Z_P (k := 11) (x := some (q + 3)) hZ (by omega : q < (q + 4))
  refine ab_aload_n (z := 0) (by decide +kernel) rfl rfl ?_
  refine ab_sipush (z := 320) (v := (320 : Int32)) (by decide +kernel) (by decide) ?_
  refine bz_newi (ln := 320) (by decide +kernel) tw_72 (by decide) (by decide) (by decide) hL hZ (by decide) (by decide) ?_
  have hF4 := bz_last hL (a := (0, 320))
  have hL := bz_len hL (a := (0, 320))
  have hZ := bz_Z_m hZ (Nat.le_succ _)
  refine bz_pP12_12 (ix := 24) (by decide +kernel) tw_1093 ⟨rfl, rfl⟩ (bz_app (bz_app (bz_app (bz_app hq)))) ?_
  have hZ := bz_Z_P (k := 12) (x := some (q + 4)) hZ (by omega : q < (q + 5))
  refine ab_aload_n (z := 0) (by decide +kernel) rfl rfl ?_
  refine ab_sipush (z := 320) (v := (320 : Int32)) (by decide +kernel) (by decide) ?_
  refine bz_newi (ln := 320) (by decide +kernel) tw_72 (by decide) (by decide) (by decide) hL hZ (by decide) (by decide) ?_
  have hF5 := bz_last hL (a := (0, 320))
  have hL := bz_len hL (a := (0, 320))
  have hZ := bz_Z_m hZ (Nat.le_succ _)
  refine bz_pP12_13 (ix := 27) (by decide +kernel) tw_1094 ⟨rfl, rfl⟩ (bz_app (bz_app (bz_app (bz_app (bz_app hq))))) ?_
  have hZ := bz_Z_P (k := 13) (x := some (q + 5)) hZ (by omega : q < (q + 6))
  refine ab_aload_n (z := 0) (by decide +kernel) rfl rfl ?_
  refine ab_sipush (z := 320) (v := (320 : Int32)) (by decide +kernel) (by decide) ?_
  refine bz_newi (ln := 320) (by decide +kernel) tw_72 (by decide) (by decide) (by decide) hL hZ (by decide) (by decide) ?_
  have hF6 := bz_last hL (a := (0, 320))
  have hL := bz_len hL (a := (0, 320))
  have hZ := bz_Z_m hZ (Nat.le_succ _)
  refine bz_pP12_14 (ix := 30) (by decide +kernel) tw_1095 ⟨rfl, rfl⟩ (bz_app (bz_app (bz_app (bz_app (bz_app (bz_app hq)))))) ?_
  have hZ := bz_Z_P (k := 14) (x := some (q + 6)) hZ (by omega : q < (q + 7))
  refine ab_aload_n (z := 0) (by decide +kernel) rfl rfl ?_
  refine ab_sipush (z := 160) (v := (160 : Int32)) (by decide +kernel) (by decide) ?_
  refine bz_newi (ln := 160) (by decide +kernel) tw_72 (by decide) (by decide) (by decide) hL hZ (by decide) (by decide) ?_
  have hF7 := bz_last hL (a := (0, 160))
  have hL := bz_len hL (a := (0, 160))
  have hZ := bz_Z_m hZ (Nat.le_succ _)
  refine bz_pP12_15 (ix := 33) (by decide +kernel) tw_1096 ⟨rfl, rfl⟩ (bz_app (bz_app (bz_app (bz_app (bz_app (bz_app (bz_app hq))))))) ?_
  have hZ := bz_Z_P (k := 15) (x := some (q + 7)) hZ (by omega : q < (q + 8))
  refine ab_aload_n (z := 0) (by decide +kernel) rfl rfl ?_
  refine ab_bipush (z := 64) (v := (64 : Int32)) (by decide +kernel) (by decide) ?_
  refine bz_newi (ln := 64) (by decide +kernel) tw_72 (by decide) (by decide) (by decide) hL hZ (by decide) (by decide) ?_
  have hF8 := bz_last hL (a := (0, 64))
  have hL := bz_len hL (a := (0, 64))
  have hZ := bz_Z_m hZ (Nat.le_succ _)
  refine bz_pP12_16 (ix := 36) (by decide +kernel) tw_1097 ⟨rfl, rfl⟩ (bz_app (bz_app (bz_app (bz_app (bz_app (bz_app (bz_app (bz_app hq)))))))) ?_
  have hZ := bz_Z_P (k := 16) (x := some (q + 8)) hZ (by omega : q < (q + 9))
  refine ab_aload_n (z := 0) (by decide +kernel) rfl rfl ?_
  refine ab_bipush (z := 6) (v := (6 : Int32)) (by decide +kernel) (by decide) ?_
  refine bz_newi (ln := 6) (by decide +kernel) tw_72 (by decide) (by decide) (by decide) hL hZ (by decide) (by decide) ?_
  have hF9 := bz_last hL (a := (0, 6))
  have hL := bz_len hL (a := (0, 6))
  have hZ := bz_Z_m hZ (Nat.le_succ _)
  refine bz_pP12_26 (ix := 39) (by decide +kernel) tw_1107 ⟨rfl, rfl⟩ (bz_app (bz_app (bz_app (bz_app (bz_app (bz_app (bz_app (bz_app (bz_app hq))))))))) ?_
  have hZ := bz_Z_P (k := 26) (x := some (q + 9)) hZ (by omega : q < (q + 10))
  refine ab_aload_n (z := 0) (by decide +kernel) rfl rfl ?_
  refine ab_bipush (z := 6) (v := (6 : Int32)) (by decide +kernel) (by decide) ?_
  refine bz_newi (ln := 6) (by decide +kernel) tw_72 (by decide) (by decide) (by decide) hL hZ (by decide) (by decide) ?_
  have hF10 := bz_last hL (a := (0, 6))
  have hL := bz_len hL (a := (0, 6))
  have hZ := bz_Z_m hZ (Nat.le_succ _)
  refine bz_pP12_27 (ix := 42) (by decide +kernel) tw_1108 ⟨rfl, rfl⟩ (bz_app (bz_app (bz_app (bz_app (bz_app (bz_app (bz_app (bz_app (bz_app (bz_app hq)))))))))) ?_
  have hZ := bz_Z_P (k := 27) (x := some (q + 10)) hZ (by omega : q < (q + 11))
  refine ab_aload_n (z := 0) (by decide +kernel) rfl rfl ?_
  refine ab_iconst (z := 5) (v := (5 : Int32)) (by decide +kernel) (by decide) ?_
  refine bz_newi (ln := 5) (by decide +kernel) tw_72 (by decide) (by decide) (by decide) hL hZ (by decide) (by decide) ?_
  have hF11 := bz_last hL (a := (0, 5))
  have hL := bz_len hL (a := (0, 5))
  have hZ := bz_Z_m hZ (Nat.le_succ _)
  refine bz_pP12_28 (ix := 45) (by decide +kernel) tw_1109 ⟨rfl, rfl⟩ (bz_app (bz_app (bz_app (bz_app (bz_app (bz_app (bz_app (bz_app (bz_app (bz_app (bz_app hq))))))))))) ?_
  have hZ := bz_Z_P (k := 28) (x := some (q + 11)) hZ (by omega : q < (q + 12))
  refine ab_aload_n (z := 0) (by decide +kernel) rfl rfl ?_
  refine ab_bipush (z := 30) (v := (30 : Int32)) (by decide +kernel) (by decide) ?_
  refine bz_newi (ln := 30) (by decide +kernel) tw_72 (by decide) (by decide) (by decide) hL hZ (by decide) (by decide) ?_
  have hF12 := bz_last hL (a := (0, 30))
  have hL := bz_len hL (a := (0, 30))
  have hZ := bz_Z_m hZ (Nat.le_succ _)
  refine bz_pP12_29 (ix := 48) (by decide +kernel) tw_1110 ⟨rfl, rfl⟩ (bz_app (bz_app (bz_app (bz_app (bz_app (bz_app (bz_app (bz_app (bz_app (bz_app (bz_app (bz_app hq)))))))))))) ?_
  have hZ := bz_Z_P (k := 29) (x := some (q + 12)) hZ (by omega : q < (q + 13))
  refine ab_aload_n (z := 0) (by decide +kernel) rfl rfl ?_
  refine ab_bipush (z := 6) (v := (6 : Int32)) (by decide +kernel) (by decide) ?_
  refine bz_newi (ln := 6) (by decide +kernel) tw_72 (by decide) (by decide) (by decide) hL hZ (by decide) (by decide) ?_
  have hF13 := bz_last hL (a := (0, 6))
  have hL := bz_len hL (a := (0, 6))
  have hZ := bz_Z_m hZ (Nat.le_succ _)
  refine bz_pP12_30 (ix := 51) (by decide +kernel) tw_1111 ⟨rfl, rfl⟩ (bz_app (bz_app (bz_app (bz_app (bz_app (bz_app (bz_app (bz_app (bz_app (bz_app (bz_app (bz_app (bz_app hq))))))))))))) ?_
  have hZ := bz_Z_P (k := 30) (x := some (q + 13)) hZ (by omega : q < (q + 14))
  refine ab_aload_n (z := 0) (by decide +kernel) rfl rfl ?_
  refine ab_iconst (z := 5) (v := (5 : Int32)) (by decide +kernel) (by decide) ?_
  refine bz_newi (ln := 5) (by decide +kernel) tw_72 (by decide) (by decide) (by decide) hL hZ (by decide) (by decide) ?_
  have hF14 := bz_last hL (a := (0, 5))
  have hL := bz_len hL (a := (0, 5))
  have hZ := bz_Z_m hZ (Nat.le_succ _)
  refine bz_pP12_31 (ix := 54) (by decide +kernel) tw_1112 ⟨rfl, rfl⟩ (bz_app (bz_app (bz_app (bz_app (bz_app (bz_app (bz_app (bz_app (bz_app (bz_app (bz_app (bz_app (bz_app (bz_app hq)))))))))))))) ?_
  have hZ := bz_Z_P (k := 31) (x := some (q + 14)) hZ (by omega : q < (q + 15))
  refine ab_aload_n (z := 0) (by decide +kernel) rfl rfl ?_
  refine ab_bipush (z := 30) (v := (30 : Int32)) (by decide +kernel) (by decide) ?_
  refine bz_newi (ln := 30) (by decide +kernel) tw_72 (by decide) (by decide) (by decide) hL hZ (by decide) (by decide) ?_
  have hF15 := bz_last hL (a := (0, 30))
  have hL := bz_len hL (a := (0, 30))
  have hZ := bz_Z_m hZ (Nat.le_succ _)
  refine bz_pP12_32 (ix := 57) (by decide +kernel) tw_1113 ⟨rfl, rfl⟩ (bz_app (bz_app (bz_app (bz_app (bz_app (bz_app (bz_app (bz_app (bz_app (bz_app (bz_app (bz_app (bz_app (bz_app (bz_app hq))))))))))))))) ?_
  have hZ := bz_Z_P (k := 32) (x := some (q + 15)) hZ (by omega : q < (q + 16))
  refine ab_aload_n (z := 0) (by decide +kernel) rfl rfl ?_
  refine ab_bipush (z := 45) (v := (45 : Int32)) (by decide +kernel) (by decide) ?_
  refine bz_newi (ln := 45) (by decide +kernel) tw_72 (by decide) (by decide) (by decide) hL hZ (by decide) (by decide) ?_
  have hF16 := bz_last hL (a := (0, 45))
  have hL := bz_len hL (a := (0, 45))
  have hZ := bz_Z_m hZ (Nat.le_succ _)
  refine bz_pP12_46 (ix := 60) (by decide +kernel) tw_1127 ⟨rfl, rfl⟩ (bz_app (bz_app (bz_app (bz_app (bz_app (bz_app (bz_app (bz_app (bz_app (bz_app (bz_app (bz_app (bz_app (bz_app (bz_app (bz_app hq)))))))))))))))) ?_
  have hZ := bz_Z_P (k := 46) (x := some (q + 16)) hZ (by omega : q < (q + 17))
  refine ab_aload_n (z := 0) (by decide +kernel) rfl rfl ?_
  refine ab_bipush (z := 45) (v := (45 : Int32)) (by decide +kernel) (by decide) ?_
  refine bz_newi (ln := 45) (by decide +kernel) tw_72 (by decide) (by decide) (by decide) hL hZ (by decide) (by decide) ?_
  have hF17 := bz_last hL (a := (0, 45))
  have hL := bz_len hL (a := (0, 45))
  have hZ := bz_Z_m hZ (Nat.le_succ _)
  refine bz_pP12_47 (ix := 63) (by decide +kernel) tw_1128 ⟨rfl, rfl⟩ (bz_app (bz_app (bz_app (bz_app (bz_app (bz_app (bz_app (bz_app (bz_app (bz_app (bz_app (bz_app (bz_app (bz_app (bz_app (bz_app (bz_app hq))))))))))))))))) ?_
  have hZ := bz_Z_P (k := 47) (x := some (q + 17)) hZ (by omega : q < (q + 18))
  refine ab_aload_n (z := 0) (by decide +kernel) rfl rfl ?_
  refine ab_iconst (z := 5) (v := (5 : Int32)) (by decide +kernel) (by decide) ?_
  refine bz_newi (ln := 5) (by decide +kernel) tw_72 (by decide) (by decide) (by decide) hL hZ (by decide) (by decide) ?_
  have hF18 := bz_last hL (a := (0, 5))
  have hL := bz_len hL (a := (0, 5))
  have hZ := bz_Z_m hZ (Nat.le_succ _)
  refine bz_pP12_48 (ix := 66) (by decide +kernel) tw_1129 ⟨rfl, rfl⟩ (bz_app (bz_app (bz_app (bz_app (bz_app (bz_app (bz_app (bz_app (bz_app (bz_app (bz_app (bz_app (bz_app (bz_app (bz_app (bz_app (bz_app (bz_app hq)))))))))))))))))) ?_
  have hZ := bz_Z_P (k := 48) (x := some (q + 18)) hZ (by omega : q < (q + 19))
  refine ab_aload_n (z := 0) (by decide +kernel) rfl rfl ?_
  refine ab_sipush (z := 1800) (v := (1800 : Int32)) (by decide +kernel) (by decide) ?_
  refine bz_newi (ln := 1800) (by decide +kernel) tw_72 (by decide) (by decide) (by decide) hL hZ (by decide) (by decide) ?_
  have hF19 := bz_last hL (a := (0, 1800))
  have hL := bz_len hL (a := (0, 1800))
  have hZ := bz_Z_m hZ (Nat.le_succ _)
  refine bz_pP12_49 (ix := 69) (by decide +kernel) tw_1130 ⟨rfl, rfl⟩ (bz_app (bz_app (bz_app (bz_app (bz_app (bz_app (bz_app (bz_app (bz_app (bz_app (bz_app (bz_app (bz_app (bz_app (bz_app (bz_app (bz_app (bz_app (bz_app hq))))))))))))))))))) ?_
  have hZ := bz_Z_P (k := 49) (x := some (q + 19)) hZ (by omega : q < (q + 20))
  refine ab_aload_n (z := 0) (by decide +kernel) rfl rfl ?_
  refine ab_bipush (z := 6) (v := (6 : Int32)) (by decide +kernel) (by decide) ?_
  refine bz_newi (ln := 6) (by decide +kernel) tw_72 (by decide) (by decide) (by decide) hL hZ (by decide) (by decide) ?_
  have hF20 := bz_last hL (a := (0, 6))
  have hL := bz_len hL (a := (0, 6))
  have hZ := bz_Z_m hZ (Nat.le_succ _)
  refine bz_pP12_52 (ix := 72) (by decide +kernel) tw_1133 ⟨rfl, rfl⟩ (bz_app (bz_app (bz_app (bz_app (bz_app (bz_app (bz_app (bz_app (bz_app (bz_app (bz_app (bz_app (bz_app (bz_app (bz_app (bz_app (bz_app (bz_app (bz_app (bz_app hq)))))))))))))))))))) ?_
  have hZ := bz_Z_P (k := 52) (x := some (q + 20)) hZ (by omega : q < (q + 21))
  refine ab_aload_n (z := 0) (by decide +kernel) rfl rfl ?_
  refine ab_bipush (z := 6) (v := (6 : Int32)) (by decide +kernel) (by decide) ?_
  refine bz_newi (ln := 6) (by decide +kernel) tw_72 (by decide) (by decide) (by decide) hL hZ (by decide) (by decide) ?_
  have hF21 := bz_last hL (a := (0, 6))
  have hL := bz_len hL (a := (0, 6))
  have hZ := bz_Z_m hZ (Nat.le_succ _)
  refine bz_pP12_53 (ix := 75) (by decide +kernel) tw_1134 ⟨rfl, rfl⟩ (bz_app (bz_app (bz_app (bz_app (bz_app (bz_app (bz_app (bz_app (bz_app (bz_app (bz_app (bz_app (bz_app (bz_app (bz_app (bz_app (bz_app (bz_app (bz_app (bz_app (bz_app hq))))))))))))))))))))) ?_
  have hZ := bz_Z_P (k := 53) (x := some (q + 21)) hZ (by omega : q < (q + 22))
  refine ab_aload_n (z := 0) (by decide +kernel) rfl rfl ?_
  refine ab_bipush (z := 6) (v := (6 : Int32)) (by decide +kernel) (by decide) ?_
  refine bz_newi (ln := 6) (by decide +kernel) tw_72 (by decide) (by decide) (by decide) hL hZ (by decide) (by decide) ?_
  have hF22 := bz_last hL (a := (0, 6))
  have hL := bz_len hL (a := (0, 6))
  have hZ := bz_Z_m hZ (Nat.le_succ _)
  refine bz_pP12_55 (ix := 78) (by decide +kernel) tw_1136 ⟨rfl, rfl⟩ (bz_app (bz_app (bz_app (bz_app (bz_app (bz_app (bz_app (bz_app (bz_app (bz_app (bz_app (bz_app (bz_app (bz_app (bz_app (bz_app (bz_app (bz_app (bz_app (bz_app (bz_app (bz_app hq)))))))))))))))))))))) ?_
  have hZ := bz_Z_P (k := 55) (x := some (q + 22)) hZ (by omega : q < (q + 23))
  refine ab_aload_n (z := 0) (by decide +kernel) rfl rfl ?_
  refine ab_iconst (z := 4) (v := (4 : Int32)) (by decide +kernel) (by decide) ?_
  refine bz_newi (ln := 4) (by decide +kernel) tw_72 (by decide) (by decide) (by decide) hL hZ (by decide) (by decide) ?_
  have hF23 := bz_last hL (a := (0, 4))
  have hL := bz_len hL (a := (0, 4))
  have hZ := bz_Z_m hZ (Nat.le_succ _)
  refine bz_pP12_56 (ix := 81) (by decide +kernel) tw_1137 ⟨rfl, rfl⟩ (bz_app (bz_app (bz_app (bz_app (bz_app (bz_app (bz_app (bz_app (bz_app (bz_app (bz_app (bz_app (bz_app (bz_app (bz_app (bz_app (bz_app (bz_app (bz_app (bz_app (bz_app (bz_app (bz_app hq))))))))))))))))))))))) ?_
  have hZ := bz_Z_P (k := 56) (x := some (q + 23)) hZ (by omega : q < (q + 24))
  refine ab_aload_n (z := 0) (by decide +kernel) rfl rfl ?_
  refine ab_iconst (z := 4) (v := (4 : Int32)) (by decide +kernel) (by decide) ?_
  refine bz_newi (ln := 4) (by decide +kernel) tw_72 (by decide) (by decide) (by decide) hL hZ (by decide) (by decide) ?_
  have hF24 := bz_last hL (a := (0, 4))
  have hL := bz_len hL (a := (0, 4))
  have hZ := bz_Z_m hZ (Nat.le_succ _)
  refine bz_pP12_57 (ix := 84) (by decide +kernel) tw_1138 ⟨rfl, rfl⟩ (bz_app (bz_app (bz_app (bz_app (bz_app (bz_app (bz_app (bz_app (bz_app (bz_app (bz_app (bz_app (bz_app (bz_app (bz_app (bz_app (bz_app (bz_app (bz_app (bz_app (bz_app (bz_app (bz_app (bz_app hq)))))))))))))))))))))))) ?_
  have hZ := bz_Z_P (k := 57) (x := some (q + 24)) hZ (by omega : q < (q + 25))
  refine ab_aload_n (z := 0) (by decide +kernel) rfl rfl ?_
  refine ab_bipush (z := 30) (v := (30 : Int32)) (by decide +kernel) (by decide) ?_
  refine bz_newi (ln := 30) (by decide +kernel) tw_72 (by decide) (by decide) (by decide) hL hZ (by decide) (by decide) ?_
  have hF25 := bz_last hL (a := (0, 30))
  have hL := bz_len hL (a := (0, 30))
  have hZ := bz_Z_m hZ (Nat.le_succ _)
  refine bz_pP12_58 (ix := 87) (by decide +kernel) tw_1139 ⟨rfl, rfl⟩ (bz_app (bz_app (bz_app (bz_app (bz_app (bz_app (bz_app (bz_app (bz_app (bz_app (bz_app (bz_app (bz_app (bz_app (bz_app (bz_app (bz_app (bz_app (bz_app (bz_app (bz_app (bz_app (bz_app (bz_app (bz_app hq))))))))))))))))))))))))) ?_
  have hZ := bz_Z_P (k := 58) (x := some (q + 25)) hZ (by omega : q < (q + 26))
  refine ab_aload_n (z := 0) (by decide +kernel) rfl rfl ?_
  refine ab_bipush (z := 30) (v := (30 : Int32)) (by decide +kernel) (by decide) ?_
  refine bz_newi (ln := 30) (by decide +kernel) tw_72 (by decide) (by decide) (by decide) hL hZ (by decide) (by decide) ?_
  have hF26 := bz_last hL (a := (0, 30))
  have hL := bz_len hL (a := (0, 30))
  have hZ := bz_Z_m hZ (Nat.le_succ _)
  refine bz_pP12_59 (ix := 90) (by decide +kernel) tw_1140 ⟨rfl, rfl⟩ (bz_app (bz_app (bz_app (bz_app (bz_app (bz_app (bz_app (bz_app (bz_app (bz_app (bz_app (bz_app (bz_app (bz_app (bz_app (bz_app (bz_app (bz_app (bz_app (bz_app (bz_app (bz_app (bz_app (bz_app (bz_app (bz_app hq)))))))))))))))))))))))))) ?_
  have hZ := bz_Z_P (k := 59) (x := some (q + 26)) hZ (by omega : q < (q + 27))
  refine ab_aload_n (z := 0) (by decide +kernel) rfl rfl ?_
  refine ab_bipush (z := 30) (v := (30 : Int32)) (by decide +kernel) (by decide) ?_
  refine bz_newi (ln := 30) (by decide +kernel) tw_72 (by decide) (by decide) (by decide) hL hZ (by decide) (by decide) ?_
  have hF27 := bz_last hL (a := (0, 30))
  have hL := bz_len hL (a := (0, 30))
  have hZ := bz_Z_m hZ (Nat.le_succ _)
  refine bz_pP12_60 (ix := 93) (by decide +kernel) tw_1141 ⟨rfl, rfl⟩ (bz_app (bz_app (bz_app (bz_app (bz_app (bz_app (bz_app (bz_app (bz_app (bz_app (bz_app (bz_app (bz_app (bz_app (bz_app (bz_app (bz_app (bz_app (bz_app (bz_app (bz_app (bz_app (bz_app (bz_app (bz_app (bz_app (bz_app hq))))))))))))))))))))))))))) ?_
  have hZ := bz_Z_P (k := 60) (x := some (q + 27)) hZ (by omega : q < (q + 28))
  refine ab_aload_n (z := 0) (by decide +kernel) rfl rfl ?_
  refine ab_bipush (z := 30) (v := (30 : Int32)) (by decide +kernel) (by decide) ?_
  refine bz_newi (ln := 30) (by decide +kernel) tw_72 (by decide) (by decide) (by decide) hL hZ (by decide) (by decide) ?_
  have hF28 := bz_last hL (a := (0, 30))
  have hL := bz_len hL (a := (0, 30))
  have hZ := bz_Z_m hZ (Nat.le_succ _)
  refine bz_pP12_61 (ix := 96) (by decide +kernel) tw_1142 ⟨rfl, rfl⟩ (bz_app (bz_app (bz_app (bz_app (bz_app (bz_app (bz_app (bz_app (bz_app (bz_app (bz_app (bz_app (bz_app (bz_app (bz_app (bz_app (bz_app (bz_app (bz_app (bz_app (bz_app (bz_app (bz_app (bz_app (bz_app (bz_app (bz_app (bz_app hq)))))))))))))))))))))))))))) ?_
  have hZ := bz_Z_P (k := 61) (x := some (q + 28)) hZ (by omega : q < (q + 29))
  refine ab_aload_n (z := 0) (by decide +kernel) rfl rfl ?_
  refine ab_bipush (z := 30) (v := (30 : Int32)) (by decide +kernel) (by decide) ?_
  refine bz_newi (ln := 30) (by decide +kernel) tw_72 (by decide) (by decide) (by decide) hL hZ (by decide) (by decide) ?_
  have hF29 := bz_last hL (a := (0, 30))
  have hL := bz_len hL (a := (0, 30))
  have hZ := bz_Z_m hZ (Nat.le_succ _)
  refine bz_pP12_62 (ix := 99) (by decide +kernel) tw_1143 ⟨rfl, rfl⟩ (bz_app (bz_app (bz_app (bz_app (bz_app (bz_app (bz_app (bz_app (bz_app (bz_app (bz_app (bz_app (bz_app (bz_app (bz_app (bz_app (bz_app (bz_app (bz_app (bz_app (bz_app (bz_app (bz_app (bz_app (bz_app (bz_app (bz_app (bz_app (bz_app hq))))))))))))))))))))))))))))) ?_
  have hZ := bz_Z_P (k := 62) (x := some (q + 29)) hZ (by omega : q < (q + 30))
  refine ab_aload_n (z := 0) (by decide +kernel) rfl rfl ?_
  refine ab_bipush (z := 30) (v := (30 : Int32)) (by decide +kernel) (by decide) ?_
  refine bz_newz (ln := 30) (by decide +kernel) tw_385 (by decide) (by decide) (by decide) hL hZ (by decide) (by decide) ?_
  have hF30 := bz_last hL (a := (2, 30))
  have hL := bz_len hL (a := (2, 30))
  have hZ := bz_Z_m hZ (Nat.le_succ _)
  refine bz_pP12_63 (ix := 102) (by decide +kernel) tw_1144 ⟨rfl, rfl⟩ (bz_app (bz_app (bz_app (bz_app (bz_app (bz_app (bz_app (bz_app (bz_app (bz_app (bz_app (bz_app (bz_app (bz_app (bz_app (bz_app (bz_app (bz_app (bz_app (bz_app (bz_app (bz_app (bz_app (bz_app (bz_app (bz_app (bz_app (bz_app (bz_app (bz_app hq)))))))))))))))))))))))))))))) ?_
  have hZ := bz_Z_P (k := 63) (x := some (q + 30)) hZ (by omega : q < (q + 31))
  refine ab_aload_n (z := 0) (by decide +kernel) rfl rfl ?_
  refine ab_sipush (z := 1260) (v := (1260 : Int32)) (by decide +kernel) (by decide) ?_
  refine bz_newi (ln := 1260) (by decide +kernel) tw_72 (by decide) (by decide) (by decide) hL hZ (by decide) (by decide) ?_
  have hF31 := bz_last hL (a := (0, 1260))
  have hL := bz_len hL (a := (0, 1260))
  have hZ := bz_Z_m hZ (Nat.le_succ _)
  refine bz_pP12_66 (ix := 106) (by decide +kernel) tw_1147 ⟨rfl, rfl⟩ (bz_app (bz_app (bz_app (bz_app (bz_app (bz_app (bz_app (bz_app (bz_app (bz_app (bz_app (bz_app (bz_app (bz_app (bz_app (bz_app (bz_app (bz_app (bz_app (bz_app (bz_app (bz_app (bz_app (bz_app (bz_app (bz_app (bz_app (bz_app (bz_app (bz_app (bz_app hq))))))))))))))))))))))))))))))) ?_
  have hZ := bz_Z_P (k := 66) (x := some (q + 31)) hZ (by omega : q < (q + 32))
  refine ab_aload_n (z := 0) (by decide +kernel) rfl rfl ?_
  refine ab_bipush (z := 7) (v := (7 : Int32)) (by decide +kernel) (by decide) ?_
  refine bz_newi (ln := 7) (by decide +kernel) tw_72 (by decide) (by decide) (by decide) hL hZ (by decide) (by decide) ?_
  have hF32 := bz_last hL (a := (0, 7))
  have hL := bz_len hL (a := (0, 7))
  have hZ := bz_Z_m hZ (Nat.le_succ _)
  refine bz_pP12_67 (ix := 109) (by decide +kernel) tw_1148 ⟨rfl, rfl⟩ (bz_app (bz_app (bz_app (bz_app (bz_app (bz_app (bz_app (bz_app (bz_app (bz_app (bz_app (bz_app (bz_app (bz_app (bz_app (bz_app (bz_app (bz_app (bz_app (bz_app (bz_app (bz_app (bz_app (bz_app (bz_app (bz_app (bz_app (bz_app (bz_app (bz_app (bz_app (bz_app hq)))))))))))))))))))))))))))))))) ?_
  have hZ := bz_Z_P (k := 67) (x := some (q + 32)) hZ (by omega : q < (q + 33))
  refine ab_aload_n (z := 0) (by decide +kernel) rfl rfl ?_
  refine ab_bipush (z := 21) (v := (21 : Int32)) (by decide +kernel) (by decide) ?_
  refine bz_newz (ln := 21) (by decide +kernel) tw_385 (by decide) (by decide) (by decide) hL hZ (by decide) (by decide) ?_
  have hF33 := bz_last hL (a := (2, 21))
  have hL := bz_len hL (a := (2, 21))
  have hZ := bz_Z_m hZ (Nat.le_succ _)
  refine bz_pP12_68 (ix := 112) (by decide +kernel) tw_1149 ⟨rfl, rfl⟩ (bz_app (bz_app (bz_app (bz_app (bz_app (bz_app (bz_app (bz_app (bz_app (bz_app (bz_app (bz_app (bz_app (bz_app (bz_app (bz_app (bz_app (bz_app (bz_app (bz_app (bz_app (bz_app (bz_app (bz_app (bz_app (bz_app (bz_app (bz_app (bz_app (bz_app (bz_app (bz_app (bz_app hq))))))))))))))))))))))))))))))))) ?_
  have hZ := bz_Z_P (k := 68) (x := some (q + 33)) hZ (by omega : q < (q + 34))
  refine ab_aload_n (z := 0) (by decide +kernel) rfl rfl ?_
  refine ab_iconst (z := 3) (v := (3 : Int32)) (by decide +kernel) (by decide) ?_
  refine bz_newz (ln := 3) (by decide +kernel) tw_385 (by decide) (by decide) (by decide) hL hZ (by decide) (by decide) ?_
  have hF34 := bz_last hL (a := (2, 3))
  have hL := bz_len hL (a := (2, 3))
  have hZ := bz_Z_m hZ (Nat.le_succ _)
  refine bz_pP12_69 (ix := 115) (by decide +kernel) tw_1150 ⟨rfl, rfl⟩ (bz_app (bz_app (bz_app (bz_app (bz_app (bz_app (bz_app (bz_app (bz_app (bz_app (bz_app (bz_app (bz_app (bz_app (bz_app (bz_app (bz_app (bz_app (bz_app (bz_app (bz_app (bz_app (bz_app (bz_app (bz_app (bz_app (bz_app (bz_app (bz_app (bz_app (bz_app (bz_app (bz_app (bz_app hq)))))))))))))))))))))))))))))))))) ?_
  have hZ := bz_Z_P (k := 69) (x := some (q + 34)) hZ (by omega : q < (q + 35))
  refine ab_aload_n (z := 0) (by decide +kernel) rfl rfl ?_
  refine ab_sipush (z := 135) (v := (135 : Int32)) (by decide +kernel) (by decide) ?_
  refine bz_newi (ln := 135) (by decide +kernel) tw_72 (by decide) (by decide) (by decide) hL hZ (by decide) (by decide) ?_
  have hF35 := bz_last hL (a := (0, 135))
  have hL := bz_len hL (a := (0, 135))
  have hZ := bz_Z_m hZ (Nat.le_succ _)
  refine bz_pP12_70 (ix := 118) (by decide +kernel) tw_1151 ⟨rfl, rfl⟩ (bz_app (bz_app (bz_app (bz_app (bz_app (bz_app (bz_app (bz_app (bz_app (bz_app (bz_app (bz_app (bz_app (bz_app (bz_app (bz_app (bz_app (bz_app (bz_app (bz_app (bz_app (bz_app (bz_app (bz_app (bz_app (bz_app (bz_app (bz_app (bz_app (bz_app (bz_app (bz_app (bz_app (bz_app (bz_app hq))))))))))))))))))))))))))))))))))) ?_
  have hZ := bz_Z_P (k := 70) (x := some (q + 35)) hZ (by omega : q < (q + 36))
  exact ab_vret (by decide +kernel) rfl (by decide) (by decide) K
