/-! ===== what the constructors leave; the start of the law ===== -/
def lz_I1 : ab_I := (ab_u (ab_u (ab_u (ab_u (ab_u (ab_u (ab_u (ab_u (ab_u (ab_u (ab_u (ab_u (ab_u (ab_u (ab_u (ab_u (ab_u (ab_u (ab_u (ab_u (ab_u (ab_u (ab_u (ab_u (ab_u (ab_u (ab_u (ab_u (ab_u (ab_u (ab_u (ab_u (ab_u (ab_u (ab_u (ab_u (ab_u (ab_u (ab_u (ab_u (ab_u (ab_u (ab_u (ab_u (ab_u (ab_u (ab_u (ab_u (ab_u (ab_u (ab_u (ab_u (ab_u (ab_u (ab_u (ab_u (ab_u (ab_u (fun _ _ => 0) 1 1 (0 : Int32)) 7 3 (0 : Int32)) 7 4 (0 : Int32)) 3 4 (0 : Int32)) 3 5 (0 : Int32)) 3 6 (0 : Int32)) 3 7 (-1 : Int32)) 3 8 (0 : Int32)) 3 9 (0 : Int32)) 11 3 (0 : Int32)) 11 4 (0 : Int32)) 11 5 (0 : Int32)) 11 6 (0 : Int32)) 18 3 (0 : Int32)) 18 4 (0 : Int32)) 14 4 (0 : Int32)) 14 5 (0 : Int32)) 14 6 (0 : Int32)) 14 7 (-1 : Int32)) 14 8 (0 : Int32)) 14 9 (0 : Int32)) 11 8 (0 : Int32)) 11 9 (-1 : Int32)) 22 1 (0 : Int32)) 22 2 (0 : Int32)) 22 3 (0 : Int32)) 22 4 (0 : Int32)) 26 3 (0 : Int32)) 26 4 (0 : Int32)) 26 5 (0 : Int32)) 35 3 (0 : Int32)) 35 4 (0 : Int32)) 35 5 (0 : Int32)) 34 5 (0 : Int32)) 34 6 (0 : Int32)) 42 3 (0 : Int32)) 42 4 (0 : Int32)) 42 5 (0 : Int32)) 41 10 (0 : Int32)) 41 11 (0 : Int32)) 53 1 (0 : Int32)) 53 2 (0 : Int32)) 0 9 (0 : Int32)) 0 11 (0 : Int32)) 57 3 (0 : Int32)) 57 4 (0 : Int32)) 57 5 (0 : Int32)) 0 13 (0 : Int32)) 0 14 (-1 : Int32)) 61 3 (0 : Int32)) 61 4 (0 : Int32)) 61 5 (0 : Int32)) 65 3 (0 : Int32)) 65 4 (0 : Int32)) 65 5 (0 : Int32)) 69 3 (0 : Int32)) 69 4 (0 : Int32)) 69 5 (0 : Int32))
def lz_J1 : ab_J := (ab_u (fun _ _ => 0) 22 5 (0 : Int64))
def lz_P1 : ab_P := (ab_u (ab_u (ab_u (ab_u (ab_u (ab_u (ab_u (ab_u (ab_u (ab_u (ab_u (ab_u (ab_u (ab_u (ab_u (ab_u (ab_u (ab_u (ab_u (ab_u (ab_u (ab_u (ab_u (ab_u (ab_u (ab_u (ab_u (ab_u (ab_u (ab_u (ab_u (ab_u (ab_u (ab_u (ab_u (ab_u (ab_u (ab_u (ab_u (ab_u (ab_u (ab_u (ab_u (ab_u (ab_u (ab_u (ab_u (ab_u (ab_u (ab_u (ab_u (ab_u (ab_u (ab_u (ab_u (ab_u (ab_u (ab_u (ab_u (ab_u (ab_u (ab_u (ab_u (ab_u (ab_u (ab_u (ab_u (ab_u (ab_u (ab_u (ab_u (ab_u (ab_u (ab_u (ab_u (ab_u (ab_u (ab_u (ab_u (ab_u (fun _ _ => none) 1 0 (some 2)) 0 0 (some 1)) 3 0 (some 4)) 3 1 (some 5)) 3 2 (some 6)) 7 0 (some 8)) 7 1 (some 9)) 7 2 (some 10)) 3 3 (some 7)) 0 1 (some 3)) 11 1 (some 12)) 11 2 (some 13)) 14 0 (some 15)) 14 1 (some 16)) 14 2 (some 17)) 18 0 (some 19)) 18 1 (some 20)) 18 2 (some 21)) 14 3 (some 18)) 11 7 (some 14)) 22 0 (some 1)) 11 0 (some 22)) 0 2 (some 11)) 23 1 (some 24)) 23 0 (some 3)) 0 3 (some 23)) 26 0 (some 27)) 26 1 (some 28)) 26 2 (some 29)) 25 2 (some 26)) 25 3 (some 30)) 25 4 (some 31)) 25 5 (some 32)) 25 6 (some 33)) 25 0 (some 3)) 25 1 (some 23)) 0 4 (some 25)) 35 0 (some 36)) 35 1 (some 37)) 35 2 (some 38)) 34 2 (some 35)) 34 3 (some 39)) 34 4 (some 40)) 34 0 (some 3)) 34 1 (some 23)) 0 5 (some 34)) 42 0 (some 43)) 42 1 (some 44)) 42 2 (some 45)) 41 2 (some 42)) 41 3 (some 46)) 41 4 (some 47)) 41 5 (some 48)) 41 6 (some 49)) 41 7 (some 50)) 41 8 (some 51)) 41 9 (some 52)) 41 0 (some 3)) 41 1 (some 23)) 0 6 (some 41)) 53 0 (some 54)) 0 7 (some 53)) 0 8 (some 55)) 0 10 (some 56)) 57 0 (some 58)) 57 1 (some 59)) 57 2 (some 60)) 0 12 (some 57)) 61 0 (some 62)) 61 1 (some 63)) 61 2 (some 64)) 56 (0 : Int32).toNatClampNeg (some 61)) 65 0 (some 66)) 65 1 (some 67)) 65 2 (some 68)) 56 (1 : Int32).toNatClampNeg (some 65)) 69 0 (some 70)) 69 1 (some 71)) 69 2 (some 72)) 56 (2 : Int32).toNatClampNeg (some 69))
def lz_S1 : ab_S := [(16, 0), (12, 0), (1, 1600), (14, 0), (0, 6), (0, 5), (0, 30), (7, 0), (0, 300), (0, 30), (0, 6), (9, 0), (3, 6), (3, 5), (14, 0), (0, 6), (0, 5), (0, 30), (7, 0), (0, 300), (0, 30), (0, 6), (13, 0), (10, 0), (0, 5), (6, 0), (11, 0), (0, 6), (0, 6), (0, 30), (0, 6), (0, 4), (0, 4), (0, 2), (8, 0), (11, 0), (0, 6), (0, 6), (0, 30), (0, 6), (0, 6), (15, 0), (11, 0), (0, 6), (0, 6), (0, 30), (0, 30), (0, 30), (0, 30), (2, 30), (0, 30), (0, 30), (0, 35), (5, 0), (4, 40), (0, 6), (4, 3), (11, 0), (0, 6), (0, 6), (0, 30), (11, 0), (0, 6), (0, 6), (0, 30), (11, 0), (0, 6), (0, 6), (0, 30), (11, 0), (0, 6), (0, 6), (0, 30)]
def lz_I2 : ab_I := (ab_u lz_I1 73 3 (-1 : Int32))
def lz_J2 : ab_J := lz_J1
def lz_P2 : ab_P := (ab_u (ab_u (ab_u (ab_u (ab_u (ab_u (ab_u (ab_u (ab_u (ab_u (ab_u (ab_u (ab_u (ab_u (ab_u (ab_u (ab_u (ab_u (ab_u (ab_u (ab_u (ab_u (ab_u (ab_u (ab_u (ab_u (ab_u (ab_u (ab_u (ab_u (ab_u (ab_u (ab_u (ab_u (ab_u lz_P1 73 0 (some 74)) 73 10 (some 75)) 73 11 (some 76)) 73 12 (some 77)) 73 13 (some 78)) 73 14 (some 79)) 73 15 (some 80)) 73 16 (some 81)) 73 26 (some 82)) 73 27 (some 83)) 73 28 (some 84)) 73 29 (some 85)) 73 30 (some 86)) 73 31 (some 87)) 73 32 (some 88)) 73 46 (some 89)) 73 47 (some 90)) 73 48 (some 91)) 73 49 (some 92)) 73 52 (some 93)) 73 53 (some 94)) 73 55 (some 95)) 73 56 (some 96)) 73 57 (some 97)) 73 58 (some 98)) 73 59 (some 99)) 73 60 (some 100)) 73 61 (some 101)) 73 62 (some 102)) 73 63 (some 103)) 73 66 (some 104)) 73 67 (some 105)) 73 68 (some 106)) 73 69 (some 107)) 73 70 (some 108))
theorem lz_Z0 : bz_Z 0 (fun _ _ => 0) (fun _ _ => 0) (fun _ _ => none) := fun _ _ => ⟨rfl, rfl, rfl⟩
set_option maxRecDepth 100000 in
theorem lz_Z1 : bz_Z 73 lz_I1 lz_J1 lz_P1 := (bz_Z_P (bz_Z_P (bz_Z_P (bz_Z_P (bz_Z_P (bz_Z_P (bz_Z_P (bz_Z_P (bz_Z_P (bz_Z_P (bz_Z_P (bz_Z_P (bz_Z_P (bz_Z_P (bz_Z_P (bz_Z_P (bz_Z_P (bz_Z_P (bz_Z_P (bz_Z_P (bz_Z_P (bz_Z_P (bz_Z_P (bz_Z_P (bz_Z_P (bz_Z_P (bz_Z_P (bz_Z_P (bz_Z_P (bz_Z_P (bz_Z_P (bz_Z_P (bz_Z_P (bz_Z_P (bz_Z_P (bz_Z_P (bz_Z_P (bz_Z_P (bz_Z_P (bz_Z_P (bz_Z_P (bz_Z_P (bz_Z_P (bz_Z_P (bz_Z_P (bz_Z_P (bz_Z_P (bz_Z_P (bz_Z_P (bz_Z_P (bz_Z_P (bz_Z_P (bz_Z_P (bz_Z_P (bz_Z_P (bz_Z_P (bz_Z_P (bz_Z_P (bz_Z_P (bz_Z_P (bz_Z_P (bz_Z_P (bz_Z_P (bz_Z_P (bz_Z_P (bz_Z_P (bz_Z_P (bz_Z_P (bz_Z_P (bz_Z_P (bz_Z_P (bz_Z_P (bz_Z_P (bz_Z_P (bz_Z_P (bz_Z_P (bz_Z_P (bz_Z_P (bz_Z_P (bz_Z_P (bz_Z_J (bz_Z_I (bz_Z_I (bz_Z_I (bz_Z_I (bz_Z_I (bz_Z_I (bz_Z_I (bz_Z_I (bz_Z_I (bz_Z_I (bz_Z_I (bz_Z_I (bz_Z_I (bz_Z_I (bz_Z_I (bz_Z_I (bz_Z_I (bz_Z_I (bz_Z_I (bz_Z_I (bz_Z_I (bz_Z_I (bz_Z_I (bz_Z_I (bz_Z_I (bz_Z_I (bz_Z_I (bz_Z_I (bz_Z_I (bz_Z_I (bz_Z_I (bz_Z_I (bz_Z_I (bz_Z_I (bz_Z_I (bz_Z_I (bz_Z_I (bz_Z_I (bz_Z_I (bz_Z_I (bz_Z_I (bz_Z_I (bz_Z_I (bz_Z_I (bz_Z_I (bz_Z_I (bz_Z_I (bz_Z_I (bz_Z_I (bz_Z_I (bz_Z_I (bz_Z_I (bz_Z_I (bz_Z_I (bz_Z_I (bz_Z_I (bz_Z_I (bz_Z_I (bz_Z_m lz_Z0 (Nat.zero_le _)) (by decide)) (by decide)) (by decide)) (by decide)) (by decide)) (by decide)) (by decide)) (by decide)) (by decide)) (by decide)) (by decide)) (by decide)) (by decide)) (by decide)) (by decide)) (by decide)) (by decide)) (by decide)) (by decide)) (by decide)) (by decide)) (by decide)) (by decide)) (by decide)) (by decide)) (by decide)) (by decide)) (by decide)) (by decide)) (by decide)) (by decide)) (by decide)) (by decide)) (by decide)) (by decide)) (by decide)) (by decide)) (by decide)) (by decide)) (by decide)) (by decide)) (by decide)) (by decide)) (by decide)) (by decide)) (by decide)) (by decide)) (by decide)) (by decide)) (by decide)) (by decide)) (by decide)) (by decide)) (by decide)) (by decide)) (by decide)) (by decide)) (by decide)) (by decide)) (by decide)) (by decide)) (by decide)) (by decide)) (by decide)) (by decide)) (by decide)) (by decide)) (by decide)) (by decide)) (by decide)) (by decide)) (by decide)) (by decide)) (by decide)) (by decide)) (by decide)) (by decide)) (by decide)) (by decide)) (by decide)) (by decide)) (by decide)) (by decide)) (by decide)) (by decide)) (by decide)) (by decide)) (by decide)) (by decide)) (by decide)) (by decide)) (by decide)) (by decide)) (by decide)) (by decide)) (by decide)) (by decide)) (by decide)) (by decide)) (by decide)) (by decide)) (by decide)) (by decide)) (by decide)) (by decide)) (by decide)) (by decide)) (by decide)) (by decide)) (by decide)) (by decide)) (by decide)) (by decide)) (by decide)) (by decide)) (by decide)) (by decide)) (by decide)) (by decide)) (by decide)) (by decide)) (by decide)) (by decide)) (by decide)) (by decide)) (by decide)) (by decide)) (by decide)) (by decide)) (by decide)) (by decide)) (by decide)) (by decide)) (by decide)) (by decide)) (by decide)) (by decide)) (by decide)) (by decide))
set_option maxRecDepth 100000 in
theorem lz_Z2 : bz_Z 109 lz_I2 lz_J2 lz_P2 := (bz_Z_P (bz_Z_P (bz_Z_P (bz_Z_P (bz_Z_P (bz_Z_P (bz_Z_P (bz_Z_P (bz_Z_P (bz_Z_P (bz_Z_P (bz_Z_P (bz_Z_P (bz_Z_P (bz_Z_P (bz_Z_P (bz_Z_P (bz_Z_P (bz_Z_P (bz_Z_P (bz_Z_P (bz_Z_P (bz_Z_P (bz_Z_P (bz_Z_P (bz_Z_P (bz_Z_P (bz_Z_P (bz_Z_P (bz_Z_P (bz_Z_P (bz_Z_P (bz_Z_P (bz_Z_P (bz_Z_P (bz_Z_I (bz_Z_m lz_Z1 (by decide)) (by decide)) (by decide)) (by decide)) (by decide)) (by decide)) (by decide)) (by decide)) (by decide)) (by decide)) (by decide)) (by decide)) (by decide)) (by decide)) (by decide)) (by decide)) (by decide)) (by decide)) (by decide)) (by decide)) (by decide)) (by decide)) (by decide)) (by decide)) (by decide)) (by decide)) (by decide)) (by decide)) (by decide)) (by decide)) (by decide)) (by decide)) (by decide)) (by decide)) (by decide)) (by decide)) (by decide))
theorem lz_S2 : lz_S1 ++ [(17, 0)] ++ [(0, 1600), (3, 11), (0, 320), (0, 320), (0, 320), (0, 320), (0, 160), (0, 64), (0, 6), (0, 6), (0, 5), (0, 30), (0, 6), (0, 5), (0, 30), (0, 45), (0, 45), (0, 5), (0, 1800), (0, 6), (0, 6), (0, 6), (0, 4), (0, 4), (0, 30), (0, 30), (0, 30), (0, 30), (0, 30), (2, 30), (0, 1260), (0, 7), (2, 21), (2, 3), (0, 135)] = bz_S0 := by decide
section LST
variable {l : Launch} {p : Program} {e : Env} {s : State} {m : MethodId} {below : List Frame} {meth : Method} {c : Code} {b L : Nat} {xs : Nat → Int32} {R : ab_S → ab_I → ab_J → ab_P → Prop} {G : ab_G}
set_option maxRecDepth 100000 in
set_option maxHeartbeats 4000000 in
theorem lz_begin (C : lz_C G p s m meth c b L xs) (hL : L ≤ 3072) (hS : ∀ S I J P, R S I J P → S[0]? = some (16, 0)) (h : lz_H l G R) (h0 : R bz_S0 lz_I2 lz_J2 lz_P2) : lz_WP l G p e s m below meth c b 0 [none, none, none, none] [] [] (fun _ _ => 0) (fun _ _ => 0) (fun _ _ => none) 0 0 := by
  refine lz_new C (ix := 7) (cc := 11) (r := 0) (ty0 := tyX11) (by decide +kernel) rfl inX11 tyX11_ok tw_18 tw_19 tw_1 (by decide +kernel) (by decide) (by decide) rfl lz_Z0 ?_
  refine lz_dup C (by decide +kernel) rfl ?_
  refine lz_callI C (g := iX11) (ix := 9) (dg := 4) (r := 0) (as := []) (st := [.ref 0]) (by decide +kernel) tw_20 tw_21 tw_1 tw_22 rfl rfl ⟨by decide +kernel, by decide +kernel, (by decide +kernel : (parseMethodDescriptor iX11.1.desc).map (fun d => d.parameters.length) = some 0)⟩ (by decide) rfl (by decide) (by decide) (by decide) (Nat.le_of_ble_eq_true rfl) (iX11_ok (q := 0) rfl rfl (bz_Z_m lz_Z0 (by decide)) ?_)
  change lz_WP l G p e s m below meth c b 7 [none, none, none, none] [.ref 0] lz_S1 lz_I1 lz_J1 lz_P1 73 3092
  refine lz_astore C (z := 1) (by decide +kernel) rfl (by decide) (by decide) rfl ?_
  refine lz_ls (ls' := [none, some (.ref 0), none, none]) rfl ?_
  refine lz_new C (ix := 10) (cc := 12) (r := 73) (ty0 := tyX12) (by decide +kernel) rfl inX12 tyX12_ok tw_1075 tw_1076 tw_13 (by decide +kernel) (by decide) (by decide) rfl lz_Z1 ?_
  refine lz_dup C (by decide +kernel) rfl ?_
  refine lz_callI C (g := iX12) (ix := 12) (dg := 1) (r := 73) (as := []) (st := [.ref 73]) (by decide +kernel) tw_1077 tw_1078 tw_13 tw_1079 rfl rfl ⟨by decide +kernel, by decide +kernel, (by decide +kernel : (parseMethodDescriptor iX12.1.desc).map (fun d => d.parameters.length) = some 0)⟩ (by decide) rfl (by decide) (by decide) (by decide) (Nat.le_of_ble_eq_true rfl) (iX12_ok (q := 73) rfl rfl (bz_Z_m lz_Z1 (by decide)) ?_)
  change lz_WP l G p e s m below meth c b 15 [none, some (.ref 0), none, none] [.ref 73] (lz_S1 ++ [(17, 0)] ++ [(0, 1600), (3, 11), (0, 320), (0, 320), (0, 320), (0, 320), (0, 160), (0, 64), (0, 6), (0, 6), (0, 5), (0, 30), (0, 6), (0, 5), (0, 30), (0, 45), (0, 45), (0, 5), (0, 1800), (0, 6), (0, 6), (0, 6), (0, 4), (0, 4), (0, 30), (0, 30), (0, 30), (0, 30), (0, 30), (2, 30), (0, 1260), (0, 7), (2, 21), (2, 3), (0, 135)]) lz_I2 lz_J2 lz_P2 109 9893
  rw [lz_S2]
  refine lz_astore C (z := 2) (by decide +kernel) rfl (by decide) (by decide) rfl ?_
  refine lz_ls (ls' := [none, some (.ref 0), some (.ref 73), none]) rfl ?_
  refine lz_iconst C (z := 0) (v := (0 : Int32)) (by decide +kernel) (by decide) ?_
  refine lz_istore C (z := 3) (by decide +kernel) rfl (by decide) (by decide) rfl ?_
  refine lz_ls (ls' := [none, some (.ref 0), some (.ref 73), some (.int (nI (6 * 0)))]) rfl ?_
  exact lw_loop C hL hS h (L + 2) 0 (by omega) (by omega) bz_S0 lz_I2 lz_J2 lz_P2 _ _ h0 (by decide) (by decide)
end LST
set_option maxRecDepth 100000 in
theorem lz_B2 : bz_B bz_S0 lz_P2 := by
  refine ⟨fun r s h => h, ?_, ?_, ?_⟩
  · have h : ∀ e ∈ bz_P0, lz_P2 e.1 e.2.1 = some e.2.2 := by decide +kernel
    exact fun i e he => h e (List.mem_of_getElem? he)
  · intro a ha
    have h : lz_P2 0 12 = some 57 := by decide +kernel
    rw [h] at ha
    cases ha
    exact ⟨by decide +kernel, by decide +kernel, by decide +kernel, by decide +kernel, by decide +kernel, by decide +kernel, by decide +kernel⟩
  · intro i a ha
    have h : lz_P2 54 = fun _ => none := rfl
    rw [h] at ha
    cases ha
/-- the tables give every class and array class -/
theorem lz_known {p : Program} {s : State} {m : MethodId} {meth : Method} {c : Code} {b L : Nat} {xs : Nat → Int32} (C0 : lw_At p s m meth c b L xs) : ∃ G : ab_G, lz_C G p s m meth c b L xs := by
  obtain ⟨hx, hb, hr, hml, hown, hts, hX, hbl, hlk, hgv⟩ := id C0
  have hw := lz_words hts
  have hA : ∀ a : Nat, a < s.heap.size → ¬ lz_A s a := fun a h => Nat.not_le.mpr h
  have hk : ∀ k : Nat, ∃ z : ClassId × (Nat → Nat), ∀ q : vw_C, vwCl[k]? = some q → u_Kn s q.1 q.2.1 q.2.2 z.1 z.2 := by
    intro k
    match k with
    | 0 =>
      obtain ⟨c0, i0, h⟩ := u_known (C := RX0) (T := TX0) (N := 3) (n := 3) hw inX0 (hw _ tw_387)
      exact ⟨(c0, i0), fun q hq => by cases hq; exact h⟩
    | 1 =>
      obtain ⟨c0, i0, h⟩ := u_known (C := RX1) (T := TX1) (N := 7) (n := 7) hw inX1 (hw _ tw_222)
      exact ⟨(c0, i0), fun q hq => by cases hq; exact h⟩
    | 2 =>
      obtain ⟨c0, i0, h⟩ := u_known (C := RX2) (T := TX2) (N := 5) (n := 5) hw inX2 (hw _ tw_49)
      exact ⟨(c0, i0), fun q hq => by cases hq; exact h⟩
    | 3 =>
      obtain ⟨c0, i0, h⟩ := u_known (C := RX3) (T := TX3) (N := 7) (n := 7) hw inX3 (hw _ tw_306)
      exact ⟨(c0, i0), fun q hq => by cases hq; exact h⟩
    | 4 =>
      obtain ⟨c0, i0, h⟩ := u_known (C := RX4) (T := TX4) (N := 10) (n := 10) hw inX4 (hw _ tw_134)
      exact ⟨(c0, i0), fun q hq => by cases hq; exact h⟩
    | 5 =>
      obtain ⟨c0, i0, h⟩ := u_known (C := RX5) (T := TX5) (N := 2) (n := 2) hw inX5 (hw _ tw_206)
      exact ⟨(c0, i0), fun q hq => by cases hq; exact h⟩
    | 6 =>
      obtain ⟨c0, i0, h⟩ := u_known (C := RX6) (T := TX6) (N := 6) (n := 6) hw inX6 (hw _ tw_228)
      exact ⟨(c0, i0), fun q hq => by cases hq; exact h⟩
    | 7 =>
      obtain ⟨c0, i0, h⟩ := u_known (C := RX7) (T := TX7) (N := 2) (n := 2) hw inX7 (hw _ tw_27)
      exact ⟨(c0, i0), fun q hq => by cases hq; exact h⟩
    | 8 =>
      obtain ⟨c0, i0, h⟩ := u_known (C := RX8) (T := TX8) (N := 6) (n := 6) hw inX8 (hw _ tw_142)
      exact ⟨(c0, i0), fun q hq => by cases hq; exact h⟩
    | 9 =>
      obtain ⟨c0, i0, h⟩ := u_known (C := RX9) (T := TX9) (N := 10) (n := 10) hw inX9 (hw _ tw_43)
      exact ⟨(c0, i0), fun q hq => by cases hq; exact h⟩
    | 10 =>
      obtain ⟨c0, i0, h⟩ := u_known (C := RX10) (T := TX10) (N := 12) (n := 12) hw inX10 (hw _ tw_339)
      exact ⟨(c0, i0), fun q hq => by cases hq; exact h⟩
    | 11 =>
      obtain ⟨c0, i0, h⟩ := u_known (C := RX11) (T := TX11) (N := 15) (n := 15) hw inX11 (hw _ tw_19)
      exact ⟨(c0, i0), fun q hq => by cases hq; exact h⟩
    | 12 =>
      obtain ⟨c0, i0, h⟩ := u_known (C := RX12) (T := TX12) (N := 71) (n := 71) hw inX12 (hw _ tw_1076)
      exact ⟨(c0, i0), fun q hq => by cases hq; exact h⟩
    | k + 13 => exact ⟨(0, fun _ => 0), fun q hq => by simp [vwCl] at hq⟩
  obtain ⟨c_i, k_i, p_i, f_i, g_i, e_i⟩ := Cond.arrayClass_spec (hw _ tw_72)
  obtain ⟨c_b, k_b, p_b, f_b, g_b, e_b⟩ := Cond.arrayClass_spec (hw _ tw_41)
  obtain ⟨c_z, k_z, p_z, f_z, g_z, e_z⟩ := Cond.arrayClass_spec (hw _ tw_385)
  obtain ⟨c_l, k_l, p_l, f_l, g_l, e_l⟩ := Cond.arrayClass_spec (hw _ tw_170)
  have hao : va_AO "BellRingers$State" s := va_AO.of (hts _ (tb_t (tb_2 (List.mem_of_getElem? (i := 153) rfl))))
  obtain ⟨p_q, c_q, k_q, a_q, -, g_q, e_q, f_q⟩ := Cond.arrayOver_spec hao
  have hs := flat_of_before _ hgv
  obtain ⟨w, hwv, hT⟩ := va_Tof (args := #[Value.ref b]) (s := s) (tm := Term.static "BellRingers" "WORDS" "[J") (ty := .long) (N := 15) (f := ab_words) (A := lz_A s) (by decide) (hs _ (by decide +kernel)) (va_eqt (z := 15) (hs _ (by decide +kernel))) (fun j hj => by
    match j, hj with
    | 0, _ => exact va_eqtl (t := .elem (.static "BellRingers" "WORDS" "[J") (.int 0)) (z := 123581014175598) (hs _ (by decide +kernel))
    | 1, _ => exact va_eqtl (t := .elem (.static "BellRingers" "WORDS" "[J") (.int 1)) (z := 1650814060) (hs _ (by decide +kernel))
    | 2, _ => exact va_eqtl (t := .elem (.static "BellRingers" "WORDS" "[J") (.int 2)) (z := 465726301555) (hs _ (by decide +kernel))
    | 3, _ => exact va_eqtl (t := .elem (.static "BellRingers" "WORDS" "[J") (.int 3)) (z := 131277443786867) (hs _ (by decide +kernel))
    | 4, _ => exact va_eqtl (t := .elem (.static "BellRingers" "WORDS" "[J") (.int 4)) (z := 439720568179) (hs _ (by decide +kernel))
    | 5, _ => exact va_eqtl (t := .elem (.static "BellRingers" "WORDS" "[J") (.int 5)) (z := 1685217655) (hs _ (by decide +kernel))
    | 6, _ => exact va_eqtl (t := .elem (.static "BellRingers" "WORDS" "[J") (.int 6)) (z := 6840691) (hs _ (by decide +kernel))
    | 7, _ => exact va_eqtl (t := .elem (.static "BellRingers" "WORDS" "[J") (.int 7)) (z := 1752135026) (hs _ (by decide +kernel))
    | 8, _ => exact va_eqtl (t := .elem (.static "BellRingers" "WORDS" "[J") (.int 8)) (z := 1819243379) (hs _ (by decide +kernel))
    | 9, _ => exact va_eqtl (t := .elem (.static "BellRingers" "WORDS" "[J") (.int 9)) (z := 1920298599) (hs _ (by decide +kernel))
    | 10, _ => exact va_eqtl (t := .elem (.static "BellRingers" "WORDS" "[J") (.int 10)) (z := 1751478885) (hs _ (by decide +kernel))
    | 11, _ => exact va_eqtl (t := .elem (.static "BellRingers" "WORDS" "[J") (.int 11)) (z := 6578553) (hs _ (by decide +kernel))
    | 12, _ => exact va_eqtl (t := .elem (.static "BellRingers" "WORDS" "[J") (.int 12)) (z := 28530) (hs _ (by decide +kernel))
    | 13, _ => exact va_eqtl (t := .elem (.static "BellRingers" "WORDS" "[J") (.int 13)) (z := 6385252) (hs _ (by decide +kernel))
    | 14, _ => exact va_eqtl (t := .elem (.static "BellRingers" "WORDS" "[J") (.int 14)) (z := 7237492) (hs _ (by decide +kernel))
    | j + 15, hj => omega) hA
  have hZ := va_Zof (A := lz_A s) (hts _ (tb_t (tb_3 (List.mem_of_getElem? (i := 36) rfl)))) (hw _ tw_1) hwv hA
  refine ⟨(fun k => (Classical.choose (hk k)).1, fun k => (Classical.choose (hk k)).2, fun k => match k with | 0 => c_i | 1 => c_b | 2 => c_z | 3 => c_l | _ => c_q), C0, ⟨⟨fun k q hq => Classical.choose_spec (hk k) q hq, fun k q hq => ?_⟩, hao, fun a i x h hm => va_Nw.of rfl (hts _ (tb_t hm)), fun a i b2 n d h hm => va_Nw.of rfl (hts _ (tb_t hm))⟩, w, hZ, hT⟩
  match k, hq with
  | 0, hq => cases hq; exact ⟨fun n z => ⟨fun k h => (by cases h), k_i, g_i, p_i, e_i⟩, f_i⟩
  | 1, hq => cases hq; exact ⟨fun n z => ⟨fun k h => (by cases h), k_b, g_b, p_b, e_b⟩, f_b⟩
  | 2, hq => cases hq; exact ⟨fun n z => ⟨fun k h => (by cases h), k_z, g_z, p_z, e_z⟩, f_z⟩
  | 3, hq => cases hq; exact ⟨fun n z => ⟨fun k h => (by cases h), k_l, g_l, p_l, e_l⟩, f_l⟩
  | 4, hq => cases hq; exact ⟨fun n z => ⟨fun k h => (by cases h), k_q, g_q, p_q, e_q⟩, k_q, p_q, g_q, e_q, a_q, f_q⟩
  | k + 5, hq => simp [ab_tys] at hq
/-- the law's walk from its entry, over any relation that every pair of calls keeps -/
theorem lz_whole {p : Program} {e : Env} {s : State} {m : MethodId} {below : List Frame} {meth : Method} {c : Code} (l : Launch) {b L : Nat} {xs : Nat → Int32} {R : ab_S → ab_I → ab_J → ab_P → Prop} (hS : ∀ S I J P, R S I J P → S[0]? = some (16, 0)) (h : ∀ G, lz_H l G R) (h0 : R bz_S0 lz_I2 lz_J2 lz_P2) (hL : L ≤ 3072) (C0 : lw_At p s m meth c b L xs) : W p l e room_1 s m #[Value.ref b] below meth c s.heap [] 0 0 (lw_Z below #[Value.ref b] s) (entryFrame m ([Value.ref b] : List Value).toArray 4) := by
  obtain ⟨G, C⟩ := lz_known C0
  have hl := lv_entry ([.ref b]) (n := 4) (Nat.le_of_ble_eq_true rfl)
  rw [lg_entry_eq]
  generalize (lg_sl ([.ref b]) ++ List.replicate (4 - (lg_sl ([.ref b])).length) Slot.unset).toArray = arr at hl ⊢
  have hl : lv_has arr 4 [(0, .ref b)] := hl
  refine lz_begin (e := e) (below := below) C hL hS (h G) h0 (fun x => x) s.heap [] arr ⟨fun _ _ => rfl, Nat.le_refl _, (fun _ _ _ h => by cases h), (fun k q h => by simp [ab_w] at h), ⟨(fun i j p q h => by simp [ab_w] at h), (fun k q h => by simp [ab_w] at h)⟩, va_S.rf, ⟨hl.1, hl.2.1, fun i v hv => ?_⟩, fun v hv => absurd hv List.not_mem_nil⟩ (hl.2.2 (0, .ref b) List.mem_cons_self)
  match i, hv with
  | 0, hv => cases hv
  | 1, hv => cases hv
  | 2, hv => cases hv
  | 3, hv => cases hv
  | i + 4, hv => simp at hv
