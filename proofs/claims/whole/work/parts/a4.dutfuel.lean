/-! ===== the reference's duties with fuel for 16807 codes ===== -/
def fX12_dutiesL (a1 : Int32) (I : ab_I) : Option (Int32 × ab_I) :=
  (fX12_isIn a1 (0 : Int32) (1 : Int32)).bind fun u1 =>
  if u1 = 0 then
    some ((-1 : Int32), I)
  else
    (fX12_fill I).bind fun u2 =>
    ab_it (fun s => fX12_duties_22 a1 s.1 s.2.1 s.2.2.1 s.2.2.2) 20000 ((-1 : Int32), (0 : Int32), (0 : Int32), u2)
set_option maxRecDepth 100000 in
theorem mX12_dutiesL_ok {l : Launch} {G : ab_G} {S : ab_S} {I : ab_I} {J : ab_J} {P : ab_P} {Q : ab_Q} {a1 : Int32} (hB : bz_B S P) {x : Int32 × ab_I} (H : fX12_dutiesL a1 I = some x) (K0 : Q (some (.int x.1)) S x.2 J P) : ab_Call l G mX12_duties 2 [.ref 73, .int a1] S I J P Q := by
  unfold fX12_dutiesL at H
  refine ab_enter rfl (Nat.le_of_ble_eq_true rfl) (ab_wk (ls' := [some (.ref 73), some (.int a1), none, none, none, none, none]) (ab_le_some (ab_le_some (ab_le_non0 (ab_le_non0 (ab_le_non0 (ab_le_non0 (ab_le_non0 ab_le_nil))))))) ?_)
  refine ab_iload_n (z := 1) (by decide +kernel) rfl rfl ?_
  refine ab_iconst (z := 0) (v := (0 : Int32)) (by decide +kernel) (by decide) ?_
  refine ab_iconst (z := 1) (v := (1 : Int32)) (by decide +kernel) (by decide) ?_
  obtain ⟨u1, hu1, H⟩ := ab_bd_of H
  refine ksX12_isIn (D := 0) (ix := 384) (by decide +kernel) tw_1474 (by decide) (Nat.le_of_ble_eq_true rfl) (mX12_isIn_ok hB hu1 ?_)
  change ab_WP l G mX12_duties 2 6 [some (.ref 73), some (.int a1), none, none, none, none, none] [.int u1] S I J P 0 0 Q
  refine ab_if_ne (off := 5) (tgt := 11) (by decide +kernel) rfl (fun hc => ?_) (fun hc => ?_)
  · replace H := ab_ifn H hc
    refine ab_aload_n (z := 0) (by decide +kernel) rfl rfl ?_
    obtain ⟨u2, hu2, H⟩ := ab_bd_of H
    refine kvX12_fill (D := 0) (ix := 411) (by decide +kernel) tw_1477 (hB.1 73 _ rfl) (by decide) (Nat.le_of_ble_eq_true rfl) (mX12_fill_ok hB hu2 ?_)
    change ab_WP l G mX12_duties 2 15 [some (.ref 73), some (.int a1), none, none, none, none, none] [] S u2 J P 0 0 Q
    refine ab_iconst (z := -1) (v := (-1 : Int32)) (by decide +kernel) (by decide) ?_
    refine ab_istore_n (z := 2) (by decide +kernel) rfl (by decide) rfl ?_
    refine ab_ls (ls' := [some (.ref 73), some (.int a1), some (.int (-1 : Int32)), none, none, none, none]) rfl ?_
    refine ab_iconst (z := 0) (v := (0 : Int32)) (by decide +kernel) (by decide) ?_
    refine ab_istore_n (z := 3) (by decide +kernel) rfl (by decide) rfl ?_
    refine ab_ls (ls' := [some (.ref 73), some (.int a1), some (.int (-1 : Int32)), some (.int (0 : Int32)), none, none, none]) rfl ?_
    refine ab_iconst (z := 0) (v := (0 : Int32)) (by decide +kernel) (by decide) ?_
    refine ab_istore (i := 4) (by decide +kernel) (by decide) rfl ?_
    refine ab_ls (ls' := [some (.ref 73), some (.int a1), some (.int (-1 : Int32)), some (.int (0 : Int32)), some (.int (0 : Int32)), none, none]) rfl ?_
    exact ab_wk (ab_le_some (ab_le_some (ab_le_some (ab_le_some (ab_le_some (ab_le_none (ab_le_none (ab_le_nil)))))))) (ab_iter (body := (fun s => fX12_duties_22 a1 s.1 s.2.1 s.2.2.1 s.2.2.2)) (W := fun s => ab_WP l G mX12_duties 2 22 [some (.ref 73), some (.int a1), some (.int s.1), some (.int s.2.1), some (.int s.2.2.1), none, none] [] S s.2.2.2 J P 0 0 Q) (fun s y hb h1 h2 => fX12_duties_22_ok hB hb h1 (fun r e => by have e2 := h2 _ e; subst e2; exact K0)) 20000 ((-1 : Int32), (0 : Int32), (0 : Int32), u2) H)
  · replace H := ab_ifp H hc
    refine ab_iconst (z := -1) (v := (-1 : Int32)) (by decide +kernel) (by decide) ?_
    obtain rfl := Option.some.inj H
    exact ab_iret (by decide +kernel) rfl (Nat.le_refl _) (Nat.le_refl _) K0
