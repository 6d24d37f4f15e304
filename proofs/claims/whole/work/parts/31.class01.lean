abbrev mX8_isSign : ab_M := (yX8_isSign, cX8_isSign, 1, some .boolean, 0, 0)
theorem ksX8_isSign {l : Launch} {G : ab_G} {M : ab_M} {d pc : Nat} {ls : List (Option Value)} {st : List Value} {S : ab_S} {I : ab_I} {J : ab_J} {P : ab_P} {Q : ab_Q} {v0 : Value} {ix D : Nat} (hd : decode M.2.1 pc = .ok (.invokestatic ix, 3)) (h1 : Cond.methodLink M.1.cls ix mX8_isSign.1 ∈ ab_good) (hdg : D + 1 ≤ d) (hsum : (st.map fun v => v.category).sum ≤ 8) (kk : ab_Call l G mX8_isSign D [v0] S I J P (fun v S' I' J' P' => ab_WP l G M d (pc + 3) ls (ab_psh v st) S' I' J' P' 0 0 Q)) : ab_WP l G M d pc ls (v0 :: st) S I J P 0 0 Q := bz_ks (g := mX8_isSign) (as := [v0]) rfl hd h1 tw_525 tw_6 tw_526 ⟨by decide +kernel, by decide +kernel, (by decide +kernel : (parseMethodDescriptor mX8_isSign.1.desc).map (fun d => d.parameters.length) = some 1)⟩ (by decide) rfl hdg hsum kk
def fX8_isSign_125 (a0 : Int32) (s0 : Int32) : Option Int32 :=
  ab_gd (s0 = 0 ∨ s0 = 1) (some s0)
set_option maxRecDepth 100000 in
theorem fX8_isSign_125_ok {l : Launch} {G : ab_G} {S : ab_S} {I : ab_I} {J : ab_J} {P : ab_P} {Q : ab_Q} {a0 : Int32} {s0 : Int32} (hB : bz_B S P) {x : Int32} (H : fX8_isSign_125 a0 s0 = some x) (K0 : Q (some (.int x)) S I J P) : ab_WP l G mX8_isSign 0 125 [some (.int a0)] [.int s0] S I J P 0 0 Q := by
  unfold fX8_isSign_125 at H
  obtain ⟨hg, H⟩ := ab_gd_of H
  obtain rfl := Option.some.inj H
  exact ab_zret (by decide +kernel) rfl (Nat.le_refl _) (Nat.le_refl _) hg K0
def fX8_isSign (a0 : Int32) : Option Int32 :=
  if a0 = (37 : Int32) then
    fX8_isSign_125 a0 (1 : Int32)
  else
    if a0 = (40 : Int32) then
      fX8_isSign_125 a0 (1 : Int32)
    else
      if a0 = (41 : Int32) then
        fX8_isSign_125 a0 (1 : Int32)
      else
        if a0 = (42 : Int32) then
          fX8_isSign_125 a0 (1 : Int32)
        else
          if a0 = (43 : Int32) then
            fX8_isSign_125 a0 (1 : Int32)
          else
            if a0 = (45 : Int32) then
              fX8_isSign_125 a0 (1 : Int32)
            else
              if a0 = (47 : Int32) then
                fX8_isSign_125 a0 (1 : Int32)
              else
                if a0 = (59 : Int32) then
                  fX8_isSign_125 a0 (1 : Int32)
                else
                  if a0 = (60 : Int32) then
                    fX8_isSign_125 a0 (1 : Int32)
                  else
                    if a0 = (61 : Int32) then
                      fX8_isSign_125 a0 (1 : Int32)
                    else
                      if a0 = (62 : Int32) then
                        fX8_isSign_125 a0 (1 : Int32)
                      else
                        fX8_isSign_125 a0 (0 : Int32)
set_option maxRecDepth 100000 in
theorem mX8_isSign_ok {l : Launch} {G : ab_G} {S : ab_S} {I : ab_I} {J : ab_J} {P : ab_P} {Q : ab_Q} {a0 : Int32} (hB : bz_B S P) {x : Int32} (H : fX8_isSign a0 = some x) (K0 : Q (some (.int x)) S I J P) : ab_Call l G mX8_isSign 0 [.int a0] S I J P Q := by
  unfold fX8_isSign at H
  refine ab_enter rfl (Nat.le_of_ble_eq_true rfl) (ab_wk (ls' := [some (.int a0)]) (ab_le_some (ab_le_nil)) ?_)
  refine ab_iload_n (z := 0) (by decide +kernel) rfl rfl ?_
  by_cases hk37 : a0 = (37 : Int32)
  · replace H := ab_ifp H hk37
    refine ab_tabk (key := (37 : Int32)) (off := 119) (tgt := 120) (dflt := 123) (lo := 37) (hi := 62) (offs := #[119, 123, 123, 119, 119, 119, 119, 123, 119, 123, 119, 123, 123, 123, 123, 123, 123, 123, 123, 123, 123, 123, 119, 119, 119, 119]) (len := 119) hk37 (by decide +kernel) (by decide) rfl ?_
    refine ab_iconst (z := 1) (v := (1 : Int32)) (by decide +kernel) (by decide) ?_
    refine ab_goto (off := 4) (tgt := 125) (by decide +kernel) rfl ?_
    exact ab_wk (ab_le_some (ab_le_nil)) (fX8_isSign_125_ok hB H  K0)
  replace H := ab_ifn H hk37
  by_cases hk40 : a0 = (40 : Int32)
  · replace H := ab_ifp H hk40
    refine ab_tabk (key := (40 : Int32)) (off := 119) (tgt := 120) (dflt := 123) (lo := 37) (hi := 62) (offs := #[119, 123, 123, 119, 119, 119, 119, 123, 119, 123, 119, 123, 123, 123, 123, 123, 123, 123, 123, 123, 123, 123, 119, 119, 119, 119]) (len := 119) hk40 (by decide +kernel) (by decide) rfl ?_
    refine ab_iconst (z := 1) (v := (1 : Int32)) (by decide +kernel) (by decide) ?_
    refine ab_goto (off := 4) (tgt := 125) (by decide +kernel) rfl ?_
    exact ab_wk (ab_le_some (ab_le_nil)) (fX8_isSign_125_ok hB H  K0)
  replace H := ab_ifn H hk40
  by_cases hk41 : a0 = (41 : Int32)
  · replace H := ab_ifp H hk41
    refine ab_tabk (key := (41 : Int32)) (off := 119) (tgt := 120) (dflt := 123) (lo := 37) (hi := 62) (offs := #[119, 123, 123, 119, 119, 119, 119, 123, 119, 123, 119, 123, 123, 123, 123, 123, 123, 123, 123, 123, 123, 123, 119, 119, 119, 119]) (len := 119) hk41 (by decide +kernel) (by decide) rfl ?_
    refine ab_iconst (z := 1) (v := (1 : Int32)) (by decide +kernel) (by decide) ?_
    refine ab_goto (off := 4) (tgt := 125) (by decide +kernel) rfl ?_
    exact ab_wk (ab_le_some (ab_le_nil)) (fX8_isSign_125_ok hB H  K0)
  replace H := ab_ifn H hk41
  by_cases hk42 : a0 = (42 : Int32)
  · replace H := ab_ifp H hk42
    refine ab_tabk (key := (42 : Int32)) (off := 119) (tgt := 120) (dflt := 123) (lo := 37) (hi := 62) (offs := #[119, 123, 123, 119, 119, 119, 119, 123, 119, 123, 119, 123, 123, 123, 123, 123, 123, 123, 123, 123, 123, 123, 119, 119, 119, 119]) (len := 119) hk42 (by decide +kernel) (by decide) rfl ?_
    refine ab_iconst (z := 1) (v := (1 : Int32)) (by decide +kernel) (by decide) ?_
    refine ab_goto (off := 4) (tgt := 125) (by decide +kernel) rfl ?_
    exact ab_wk (ab_le_some (ab_le_nil)) (fX8_isSign_125_ok hB H  K0)
  replace H := ab_ifn H hk42
  by_cases hk43 : a0 = (43 : Int32)
  · replace H := ab_ifp H hk43
    refine ab_tabk (key := (43 : Int32)) (off := 119) (tgt := 120) (dflt := 123) (lo := 37) (hi := 62) (offs := #[119, 123, 123, 119, 119, 119, 119, 123, 119, 123, 119, 123, 123, 123, 123, 123, 123, 123, 123, 123, 123, 123, 119, 119, 119, 119]) (len := 119) hk43 (by decide +kernel) (by decide) rfl ?_
    refine ab_iconst (z := 1) (v := (1 : Int32)) (by decide +kernel) (by decide) ?_
    refine ab_goto (off := 4) (tgt := 125) (by decide +kernel) rfl ?_
    exact ab_wk (ab_le_some (ab_le_nil)) (fX8_isSign_125_ok hB H  K0)
  replace H := ab_ifn H hk43
  by_cases hk45 : a0 = (45 : Int32)
  · replace H := ab_ifp H hk45
    refine ab_tabk (key := (45 : Int32)) (off := 119) (tgt := 120) (dflt := 123) (lo := 37) (hi := 62) (offs := #[119, 123, 123, 119, 119, 119, 119, 123, 119, 123, 119, 123, 123, 123, 123, 123, 123, 123, 123, 123, 123, 123, 119, 119, 119, 119]) (len := 119) hk45 (by decide +kernel) (by decide) rfl ?_
    refine ab_iconst (z := 1) (v := (1 : Int32)) (by decide +kernel) (by decide) ?_
    refine ab_goto (off := 4) (tgt := 125) (by decide +kernel) rfl ?_
    exact ab_wk (ab_le_some (ab_le_nil)) (fX8_isSign_125_ok hB H  K0)
  replace H := ab_ifn H hk45
  by_cases hk47 : a0 = (47 : Int32)
  · replace H := ab_ifp H hk47
    refine ab_tabk (key := (47 : Int32)) (off := 119) (tgt := 120) (dflt := 123) (lo := 37) (hi := 62) (offs := #[119, 123, 123, 119, 119, 119, 119, 123, 119, 123, 119, 123, 123, 123, 123, 123, 123, 123, 123, 123, 123, 123, 119, 119, 119, 119]) (len := 119) hk47 (by decide +kernel) (by decide) rfl ?_
    refine ab_iconst (z := 1) (v := (1 : Int32)) (by decide +kernel) (by decide) ?_
    refine ab_goto (off := 4) (tgt := 125) (by decide +kernel) rfl ?_
    exact ab_wk (ab_le_some (ab_le_nil)) (fX8_isSign_125_ok hB H  K0)
  replace H := ab_ifn H hk47
  by_cases hk59 : a0 = (59 : Int32)
  · replace H := ab_ifp H hk59
    refine ab_tabk (key := (59 : Int32)) (off := 119) (tgt := 120) (dflt := 123) (lo := 37) (hi := 62) (offs := #[119, 123, 123, 119, 119, 119, 119, 123, 119, 123, 119, 123, 123, 123, 123, 123, 123, 123, 123, 123, 123, 123, 119, 119, 119, 119]) (len := 119) hk59 (by decide +kernel) (by decide) rfl ?_
    refine ab_iconst (z := 1) (v := (1 : Int32)) (by decide +kernel) (by decide) ?_
    refine ab_goto (off := 4) (tgt := 125) (by decide +kernel) rfl ?_
    exact ab_wk (ab_le_some (ab_le_nil)) (fX8_isSign_125_ok hB H  K0)
  replace H := ab_ifn H hk59
  by_cases hk60 : a0 = (60 : Int32)
  · replace H := ab_ifp H hk60
    refine ab_tabk (key := (60 : Int32)) (off := 119) (tgt := 120) (dflt := 123) (lo := 37) (hi := 62) (offs := #[119, 123, 123, 119, 119, 119, 119, 123, 119, 123, 119, 123, 123, 123, 123, 123, 123, 123, 123, 123, 123, 123, 119, 119, 119, 119]) (len := 119) hk60 (by decide +kernel) (by decide) rfl ?_
    refine ab_iconst (z := 1) (v := (1 : Int32)) (by decide +kernel) (by decide) ?_
    refine ab_goto (off := 4) (tgt := 125) (by decide +kernel) rfl ?_
    exact ab_wk (ab_le_some (ab_le_nil)) (fX8_isSign_125_ok hB H  K0)
  replace H := ab_ifn H hk60
  by_cases hk61 : a0 = (61 : Int32)
  · replace H := ab_ifp H hk61
    refine ab_tabk (key := (61 : Int32)) (off := 119) (tgt := 120) (dflt := 123) (lo := 37) (hi := 62) (offs := #[119, 123, 123, 119, 119, 119, 119, 123, 119, 123, 119, 123, 123, 123, 123, 123, 123, 123, 123, 123, 123, 123, 119, 119, 119, 119]) (len := 119) hk61 (by decide +kernel) (by decide) rfl ?_
    refine ab_iconst (z := 1) (v := (1 : Int32)) (by decide +kernel) (by decide) ?_
    refine ab_goto (off := 4) (tgt := 125) (by decide +kernel) rfl ?_
    exact ab_wk (ab_le_some (ab_le_nil)) (fX8_isSign_125_ok hB H  K0)
  replace H := ab_ifn H hk61
  by_cases hk62 : a0 = (62 : Int32)
  · replace H := ab_ifp H hk62
    refine ab_tabk (key := (62 : Int32)) (off := 119) (tgt := 120) (dflt := 123) (lo := 37) (hi := 62) (offs := #[119, 123, 123, 119, 119, 119, 119, 123, 119, 123, 119, 123, 123, 123, 123, 123, 123, 123, 123, 123, 123, 123, 119, 119, 119, 119]) (len := 119) hk62 (by decide +kernel) (by decide) rfl ?_
    refine ab_iconst (z := 1) (v := (1 : Int32)) (by decide +kernel) (by decide) ?_
    refine ab_goto (off := 4) (tgt := 125) (by decide +kernel) rfl ?_
    exact ab_wk (ab_le_some (ab_le_nil)) (fX8_isSign_125_ok hB H  K0)
  replace H := ab_ifn H hk62
  have KD : ab_WP l G mX8_isSign 0 124 [some (.int a0)] [] S I J P 0 0 Q := by
    refine ab_iconst (z := 0) (v := (0 : Int32)) (by decide +kernel) (by decide) ?_
    exact ab_wk (ab_le_some (ab_le_nil)) (fX8_isSign_125_ok hB H  K0)
  by_cases hlo : a0.toInt < 37
  · exact ab_tableOut (dflt := 123) (lo := 37) (hi := 62) (offs := #[119, 123, 123, 119, 119, 119, 119, 123, 119, 123, 119, 123, 123, 123, 123, 123, 123, 123, 123, 123, 123, 123, 119, 119, 119, 119]) (len := 119) (by decide +kernel) (Or.inl hlo) (tgt := 124) rfl KD
  by_cases hhi : 62 < a0.toInt
  · exact ab_tableOut (dflt := 123) (lo := 37) (hi := 62) (offs := #[119, 123, 123, 119, 119, 119, 119, 123, 119, 123, 119, 123, 123, 123, 123, 123, 123, 123, 123, 123, 123, 123, 119, 119, 119, 119]) (len := 119) (by decide +kernel) (Or.inr hhi) (tgt := 124) rfl KD
  by_cases hr : a0.toInt = 37
  · exact absurd (Int32.toInt_inj.mp (hr.trans (by decide))) hk37
  have hlo : ¬ a0.toInt < 38 := by omega
  by_cases hr : a0.toInt = 38
  · exact ab_tabk (key := (38 : Int32)) (off := 123) (tgt := 124) (dflt := 123) (lo := 37) (hi := 62) (offs := #[119, 123, 123, 119, 119, 119, 119, 123, 119, 123, 119, 123, 123, 123, 123, 123, 123, 123, 123, 123, 123, 123, 119, 119, 119, 119]) (len := 119) (Int32.toInt_inj.mp (hr.trans (by decide))) (by decide +kernel) (by decide) rfl KD
  have hlo : ¬ a0.toInt < 39 := by omega
  by_cases hr : a0.toInt = 39
  · exact ab_tabk (key := (39 : Int32)) (off := 123) (tgt := 124) (dflt := 123) (lo := 37) (hi := 62) (offs := #[119, 123, 123, 119, 119, 119, 119, 123, 119, 123, 119, 123, 123, 123, 123, 123, 123, 123, 123, 123, 123, 123, 119, 119, 119, 119]) (len := 119) (Int32.toInt_inj.mp (hr.trans (by decide))) (by decide +kernel) (by decide) rfl KD
  have hlo : ¬ a0.toInt < 40 := by omega
  by_cases hr : a0.toInt = 40
  · exact absurd (Int32.toInt_inj.mp (hr.trans (by decide))) hk40
  have hlo : ¬ a0.toInt < 41 := by omega
  by_cases hr : a0.toInt = 41
  · exact absurd (Int32.toInt_inj.mp (hr.trans (by decide))) hk41
  have hlo : ¬ a0.toInt < 42 := by omega
  by_cases hr : a0.toInt = 42
  · exact absurd (Int32.toInt_inj.mp (hr.trans (by decide))) hk42
  have hlo : ¬ a0.toInt < 43 := by omega
  by_cases hr : a0.toInt = 43
  · exact absurd (Int32.toInt_inj.mp (hr.trans (by decide))) hk43
  have hlo : ¬ a0.toInt < 44 := by omega
  by_cases hr : a0.toInt = 44
  · exact ab_tabk (key := (44 : Int32)) (off := 123) (tgt := 124) (dflt := 123) (lo := 37) (hi := 62) (offs := #[119, 123, 123, 119, 119, 119, 119, 123, 119, 123, 119, 123, 123, 123, 123, 123, 123, 123, 123, 123, 123, 123, 119, 119, 119, 119]) (len := 119) (Int32.toInt_inj.mp (hr.trans (by decide))) (by decide +kernel) (by decide) rfl KD
  have hlo : ¬ a0.toInt < 45 := by omega
  by_cases hr : a0.toInt = 45
  · exact absurd (Int32.toInt_inj.mp (hr.trans (by decide))) hk45
  have hlo : ¬ a0.toInt < 46 := by omega
  by_cases hr : a0.toInt = 46
  · exact ab_tabk (key := (46 : Int32)) (off := 123) (tgt := 124) (dflt := 123) (lo := 37) (hi := 62) (offs := #[119, 123, 123, 119, 119, 119, 119, 123, 119, 123, 119, 123, 123, 123, 123, 123, 123, 123, 123, 123, 123, 123, 119, 119, 119, 119]) (len := 119) (Int32.toInt_inj.mp (hr.trans (by decide))) (by decide +kernel) (by decide) rfl KD
  have hlo : ¬ a0.toInt < 47 := by omega
  by_cases hr : a0.toInt = 47
  · exact absurd (Int32.toInt_inj.mp (hr.trans (by decide))) hk47
  have hlo : ¬ a0.toInt < 48 := by omega
  by_cases hr : a0.toInt = 48
  · exact ab_tabk (key := (48 : Int32)) (off := 123) (tgt := 124) (dflt := 123) (lo := 37) (hi := 62) (offs := #[119, 123, 123, 119, 119, 119, 119, 123, 119, 123, 119, 123, 123, 123, 123, 123, 123, 123, 123, 123, 123, 123, 119, 119, 119, 119]) (len := 119) (Int32.toInt_inj.mp (hr.trans (by decide))) (by decide +kernel) (by decide) rfl KD
  have hlo : ¬ a0.toInt < 49 := by omega
  by_cases hr : a0.toInt = 49
  · exact ab_tabk (key := (49 : Int32)) (off := 123) (tgt := 124) (dflt := 123) (lo := 37) (hi := 62) (offs := #[119, 123, 123, 119, 119, 119, 119, 123, 119, 123, 119, 123, 123, 123, 123, 123, 123, 123, 123, 123, 123, 123, 119, 119, 119, 119]) (len := 119) (Int32.toInt_inj.mp (hr.trans (by decide))) (by decide +kernel) (by decide) rfl KD
  have hlo : ¬ a0.toInt < 50 := by omega
  by_cases hr : a0.toInt = 50
  · exact ab_tabk (key := (50 : Int32)) (off := 123) (tgt := 124) (dflt := 123) (lo := 37) (hi := 62) (offs := #[119, 123, 123, 119, 119, 119, 119, 123, 119, 123, 119, 123, 123, 123, 123, 123, 123, 123, 123, 123, 123, 123, 119, 119, 119, 119]) (len := 119) (Int32.toInt_inj.mp (hr.trans (by decide))) (by decide +kernel) (by decide) rfl KD
  have hlo : ¬ a0.toInt < 51 := by omega
  by_cases hr : a0.toInt = 51
  · exact ab_tabk (key := (51 : Int32)) (off := 123) (tgt := 124) (dflt := 123) (lo := 37) (hi := 62) (offs := #[119, 123, 123, 119, 119, 119, 119, 123, 119, 123, 119, 123, 123, 123, 123, 123, 123, 123, 123, 123, 123, 123, 119, 119, 119, 119]) (len := 119) (Int32.toInt_inj.mp (hr.trans (by decide))) (by decide +kernel) (by decide) rfl KD
  have hlo : ¬ a0.toInt < 52 := by omega
  by_cases hr : a0.toInt = 52
  · exact ab_tabk (key := (52 : Int32)) (off := 123) (tgt := 124) (dflt := 123) (lo := 37) (hi := 62) (offs := #[119, 123, 123, 119, 119, 119, 119, 123, 119, 123, 119, 123, 123, 123, 123, 123, 123, 123, 123, 123, 123, 123, 119, 119, 119, 119]) (len := 119) (Int32.toInt_inj.mp (hr.trans (by decide))) (by decide +kernel) (by decide) rfl KD
  have hlo : ¬ a0.toInt < 53 := by omega
  by_cases hr : a0.toInt = 53
  · exact ab_tabk (key := (53 : Int32)) (off := 123) (tgt := 124) (dflt := 123) (lo := 37) (hi := 62) (offs := #[119, 123, 123, 119, 119, 119, 119, 123, 119, 123, 119, 123, 123, 123, 123, 123, 123, 123, 123, 123, 123, 123, 119, 119, 119, 119]) (len := 119) (Int32.toInt_inj.mp (hr.trans (by decide))) (by decide +kernel) (by decide) rfl KD
  have hlo : ¬ a0.toInt < 54 := by omega
  by_cases hr : a0.toInt = 54
  · exact ab_tabk (key := (54 : Int32)) (off := 123) (tgt := 124) (dflt := 123) (lo := 37) (hi := 62) (offs := #[119, 123, 123, 119, 119, 119, 119, 123, 119, 123, 119, 123, 123, 123, 123, 123, 123, 123, 123, 123, 123, 123, 119, 119, 119, 119]) (len := 119) (Int32.toInt_inj.mp (hr.trans (by decide))) (by decide +kernel) (by decide) rfl KD
  have hlo : ¬ a0.toInt < 55 := by omega
  by_cases hr : a0.toInt = 55
  · exact ab_tabk (key := (55 : Int32)) (off := 123) (tgt := 124) (dflt := 123) (lo := 37) (hi := 62) (offs := #[119, 123, 123, 119, 119, 119, 119, 123, 119, 123, 119, 123, 123, 123, 123, 123, 123, 123, 123, 123, 123, 123, 119, 119, 119, 119]) (len := 119) (Int32.toInt_inj.mp (hr.trans (by decide))) (by decide +kernel) (by decide) rfl KD
  have hlo : ¬ a0.toInt < 56 := by omega
  by_cases hr : a0.toInt = 56
  · exact ab_tabk (key := (56 : Int32)) (off := 123) (tgt := 124) (dflt := 123) (lo := 37) (hi := 62) (offs := #[119, 123, 123, 119, 119, 119, 119, 123, 119, 123, 119, 123, 123, 123, 123, 123, 123, 123, 123, 123, 123, 123, 119, 119, 119, 119]) (len := 119) (Int32.toInt_inj.mp (hr.trans (by decide))) (by decide +kernel) (by decide) rfl KD
  have hlo : ¬ a0.toInt < 57 := by omega
  by_cases hr : a0.toInt = 57
  · exact ab_tabk (key := (57 : Int32)) (off := 123) (tgt := 124) (dflt := 123) (lo := 37) (hi := 62) (offs := #[119, 123, 123, 119, 119, 119, 119, 123, 119, 123, 119, 123, 123, 123, 123, 123, 123, 123, 123, 123, 123, 123, 119, 119, 119, 119]) (len := 119) (Int32.toInt_inj.mp (hr.trans (by decide))) (by decide +kernel) (by decide) rfl KD
  have hlo : ¬ a0.toInt < 58 := by omega
  by_cases hr : a0.toInt = 58
  · exact ab_tabk (key := (58 : Int32)) (off := 123) (tgt := 124) (dflt := 123) (lo := 37) (hi := 62) (offs := #[119, 123, 123, 119, 119, 119, 119, 123, 119, 123, 119, 123, 123, 123, 123, 123, 123, 123, 123, 123, 123, 123, 119, 119, 119, 119]) (len := 119) (Int32.toInt_inj.mp (hr.trans (by decide))) (by decide +kernel) (by decide) rfl KD
  have hlo : ¬ a0.toInt < 59 := by omega
  by_cases hr : a0.toInt = 59
  · exact absurd (Int32.toInt_inj.mp (hr.trans (by decide))) hk59
  have hlo : ¬ a0.toInt < 60 := by omega
  by_cases hr : a0.toInt = 60
  · exact absurd (Int32.toInt_inj.mp (hr.trans (by decide))) hk60
  have hlo : ¬ a0.toInt < 61 := by omega
  by_cases hr : a0.toInt = 61
  · exact absurd (Int32.toInt_inj.mp (hr.trans (by decide))) hk61
  have hlo : ¬ a0.toInt < 62 := by omega
  by_cases hr : a0.toInt = 62
  · exact absurd (Int32.toInt_inj.mp (hr.trans (by decide))) hk62
  have hlo : ¬ a0.toInt < 63 := by omega
  exact absurd (by omega : 62 < a0.toInt) hhi
abbrev mX8_advance : ab_M := (yX8_advance, cX8_advance, 2, none, 0, 0)
theorem kvX8_advance {l : Launch} {G : ab_G} {M : ab_M} {d pc : Nat} {ls : List (Option Value)} {st : List Value} {S : ab_S} {I : ab_I} {J : ab_J} {P : ab_P} {Q : ab_Q} {ix D r ln : Nat} (hd : decode M.2.1 pc = .ok (.invokevirtual ix, 3)) (h1 : Cond.methodLink M.1.cls ix mX8_advance.1 ∈ ab_good) (hs : S[r]? = some (13, ln)) (hdg : D + 1 ≤ d) (hsum : (st.map fun v => v.category).sum ≤ 8) (kk : ab_Call l G mX8_advance D (.ref r :: []) S I J P (fun v S' I' J' P' => ab_WP l G M d (pc + 3) ls (ab_psh v st) S' I' J' P' 0 0 Q)) : ab_WP l G M d pc ls (.ref r :: st) S I J P 0 0 Q := bz_kv (g := mX8_advance) (as := []) (cc := 8) rfl hd h1 tw_494 tw_495 tw_6 tw_496 ⟨by decide +kernel, by decide +kernel, (by decide +kernel : (parseMethodDescriptor mX8_advance.1.desc).map (fun d => d.parameters.length) = some 0)⟩ (by decide) rfl rfl rfl hdg hsum hs kk
def fX8_advance_131 (I : ab_I) (J : ab_J) : Option (ab_I × ab_J) :=
  some (I, J)
set_option maxRecDepth 100000 in
theorem fX8_advance_131_ok {l : Launch} {G : ab_G} {S : ab_S} {I : ab_I} {J : ab_J} {P : ab_P} {Q : ab_Q} (hB : bz_B S P) {x : ab_I × ab_J} (H : fX8_advance_131 I J = some x) (K0 : Q none S x.1 x.2 P) : ab_WP l G mX8_advance 2 131 [some (.ref 22), none] [] S I J P 0 0 Q := by
  unfold fX8_advance_131 at H
  obtain rfl := Option.some.inj H
  exact ab_vret (by decide +kernel) rfl (Nat.le_refl _) (Nat.le_refl _) K0
def fX8_advance_118 (s1 : Int32) (I : ab_I) (J : ab_J) : Option (ab_I × ab_J) :=
  fX8_advance_131 (ab_u (ab_u I 22 2 s1) 22 1 ((I 22 1) + (1 : Int32))) J
set_option maxRecDepth 100000 in
theorem fX8_advance_118_ok {l : Launch} {G : ab_G} {S : ab_S} {I : ab_I} {J : ab_J} {P : ab_P} {Q : ab_Q} {s1 : Int32} (hB : bz_B S P) {x : ab_I × ab_J} (H : fX8_advance_118 s1 I J = some x) (K0 : Q none S x.1 x.2 P) : ab_WP l G mX8_advance 2 118 [some (.ref 22), none] [.int s1, .ref 22] S I J P 0 0 Q := by
  unfold fX8_advance_118 at H
  refine pX8_2 (ix := 15) (by decide +kernel) tw_149 (hB.1 22 _ rfl) ?_
  refine ab_aload_n (z := 0) (by decide +kernel) rfl rfl ?_
  refine ab_dup (by decide +kernel) rfl ?_
  refine gX8_1 (ix := 9) (by decide +kernel) tw_148 (hB.1 22 _ rfl) ?_
  refine ab_top (y := (I 22 1)) rfl ?_
  refine ab_iconst (z := 1) (v := (1 : Int32)) (by decide +kernel) (by decide) ?_
  refine ab_iadd (by decide +kernel) ?_
  refine pX8_1 (ix := 9) (by decide +kernel) tw_148 (hB.1 22 _ rfl) ?_
  exact ab_wk (ab_le_some (ab_le_none (ab_le_nil))) (fX8_advance_131_ok hB H  K0)
def fX8_advance_44 (I : ab_I) (J : ab_J) : Option (ab_I × ab_J) :=
  (fX7_at (I 22 1) (ab_u I 22 3 (I 22 1))).bind fun u5 =>
  if u5 = (-1 : Int32) then
    fX8_advance_131 (ab_u (ab_u I 22 3 (I 22 1)) 22 2 (0 : Int32)) J
  else
    (fX8_isLetter u5).bind fun u6 =>
    if u6 = 0 then
      (fX8_isDigit u5).bind fun u7 =>
      if u7 = 0 then
        (fX8_isSign u5).bind fun u8 =>
        if u8 = 0 then
          fX8_advance_118 (1 : Int32) (ab_u I 22 3 (I 22 1)) J
        else
          fX8_advance_118 u5 (ab_u I 22 3 (I 22 1)) J
      else
        (fX8_scanNumber (ab_u I 22 3 (I 22 1))).bind fun u9 =>
        fX8_advance_131 u9 J
    else
      (fX8_scanWord (ab_u I 22 3 (I 22 1)) J).bind fun u10 =>
      fX8_advance_131 u10.1 u10.2
set_option maxRecDepth 100000 in
theorem fX8_advance_44_ok {l : Launch} {G : ab_G} {S : ab_S} {I : ab_I} {J : ab_J} {P : ab_P} {Q : ab_Q} (hB : bz_B S P) {x : ab_I × ab_J} (H : fX8_advance_44 I J = some x) (K0 : Q none S x.1 x.2 P) : ab_WP l G mX8_advance 2 44 [some (.ref 22), none] [] S I J P 0 0 Q := by
  unfold fX8_advance_44 at H
  refine ab_aload_n (z := 0) (by decide +kernel) rfl rfl ?_
  refine ab_aload_n (z := 0) (by decide +kernel) rfl rfl ?_
  refine gX8_1 (ix := 9) (by decide +kernel) tw_148 (hB.1 22 _ rfl) ?_
  refine pX8_3 (ix := 18) (by decide +kernel) tw_151 (hB.1 22 _ rfl) ?_
  refine ab_aload_n (z := 0) (by decide +kernel) rfl rfl ?_
  refine gX8_0 (ix := 28) (by decide +kernel) tw_147 (hB.1 22 _ rfl) (hB.2.1 29 (22, 0, 1) rfl) ?_
  refine ab_aload_n (z := 0) (by decide +kernel) rfl rfl ?_
  refine gX8_3 (ix := 18) (by decide +kernel) tw_151 (hB.1 22 _ rfl) ?_
  refine ab_top (y := (I 22 1)) rfl ?_
  obtain ⟨u5, hu5, H⟩ := ab_bd_of H
  refine kvX7_at (D := 0) (ix := 40) (by decide +kernel) tw_497 (hB.1 1 _ rfl) (by decide) (Nat.le_of_ble_eq_true rfl) (mX7_at_ok hB hu5 ?_)
  change ab_WP l G mX8_advance 2 63 [some (.ref 22), none] [.int u5] S (ab_u I 22 3 (I 22 1)) J P 0 0 Q
  refine ab_istore_n (z := 1) (by decide +kernel) rfl (by decide) rfl ?_
  refine ab_ls (ls' := [some (.ref 22), some (.int u5)]) rfl ?_
  refine ab_iload_n (z := 1) (by decide +kernel) rfl rfl ?_
  refine ab_iconst (z := -1) (v := (-1 : Int32)) (by decide +kernel) (by decide) ?_
  refine ab_icmp_ne (off := 11) (tgt := 77) (by decide +kernel) rfl (fun hc => ?_) (fun hc => ?_)
  · replace H := ab_ifn H hc
    refine ab_iload_n (z := 1) (by decide +kernel) rfl rfl ?_
    obtain ⟨u6, hu6, H⟩ := ab_bd_of H
    refine ksX8_isLetter (D := 0) (ix := 48) (by decide +kernel) tw_504 (by decide) (Nat.le_of_ble_eq_true rfl) (mX8_isLetter_ok hB hu6 ?_)
    change ab_WP l G mX8_advance 2 81 [some (.ref 22), some (.int u5)] [.int u6] S (ab_u I 22 3 (I 22 1)) J P 0 0 Q
    refine ab_if_eq (off := 10) (tgt := 91) (by decide +kernel) rfl (fun hc => ?_) (fun hc => ?_)
    · replace H := ab_ifp H hc
      refine ab_iload_n (z := 1) (by decide +kernel) rfl rfl ?_
      obtain ⟨u7, hu7, H⟩ := ab_bd_of H
      refine ksX8_isDigit (D := 0) (ix := 54) (by decide +kernel) tw_517 (by decide) (Nat.le_of_ble_eq_true rfl) (mX8_isDigit_ok hB hu7 ?_)
      change ab_WP l G mX8_advance 2 95 [some (.ref 22), some (.int u5)] [.int u7] S (ab_u I 22 3 (I 22 1)) J P 0 0 Q
      refine ab_if_eq (off := 10) (tgt := 105) (by decide +kernel) rfl (fun hc => ?_) (fun hc => ?_)
      · replace H := ab_ifp H hc
        refine ab_aload_n (z := 0) (by decide +kernel) rfl rfl ?_
        refine ab_iload_n (z := 1) (by decide +kernel) rfl rfl ?_
        obtain ⟨u8, hu8, H⟩ := ab_bd_of H
        refine ksX8_isSign (D := 0) (ix := 60) (by decide +kernel) tw_524 (by decide) (Nat.le_of_ble_eq_true rfl) (mX8_isSign_ok hB hu8 ?_)
        change ab_WP l G mX8_advance 2 110 [some (.ref 22), some (.int u5)] [.int u8, .ref 22] S (ab_u I 22 3 (I 22 1)) J P 0 0 Q
        refine ab_if_eq (off := 7) (tgt := 117) (by decide +kernel) rfl (fun hc => ?_) (fun hc => ?_)
        · replace H := ab_ifp H hc
          refine ab_iconst (z := 1) (v := (1 : Int32)) (by decide +kernel) (by decide) ?_
          exact ab_wk (ab_le_some (ab_le_none (ab_le_nil))) (fX8_advance_118_ok hB H  K0)
        · replace H := ab_ifn H hc
          refine ab_iload_n (z := 1) (by decide +kernel) rfl rfl ?_
          refine ab_goto (off := 4) (tgt := 118) (by decide +kernel) rfl ?_
          exact ab_wk (ab_le_some (ab_le_none (ab_le_nil))) (fX8_advance_118_ok hB H  K0)
      · replace H := ab_ifn H hc
        refine ab_aload_n (z := 0) (by decide +kernel) rfl rfl ?_
        obtain ⟨u9, hu9, H⟩ := ab_bd_of H
        refine kvX8_scanNumber (D := 1) (ix := 57) (by decide +kernel) tw_520 (hB.1 22 _ rfl) (by decide) (Nat.le_of_ble_eq_true rfl) (mX8_scanNumber_ok hB hu9 ?_)
        change ab_WP l G mX8_advance 2 102 [some (.ref 22), some (.int u5)] [] S u9 J P 0 0 Q
        refine ab_goto (off := 29) (tgt := 131) (by decide +kernel) rfl ?_
        exact ab_wk (ab_le_some (ab_le_none (ab_le_nil))) (fX8_advance_131_ok hB H  K0)
    · replace H := ab_ifn H hc
      refine ab_aload_n (z := 0) (by decide +kernel) rfl rfl ?_
      obtain ⟨u10, hu10, H⟩ := ab_bd_of H
      refine kvX8_scanWord (D := 1) (ix := 51) (by decide +kernel) tw_507 (hB.1 22 _ rfl) (by decide) (Nat.le_of_ble_eq_true rfl) (mX8_scanWord_ok hB hu10 ?_)
      change ab_WP l G mX8_advance 2 88 [some (.ref 22), some (.int u5)] [] S u10.1 u10.2 P 0 0 Q
      refine ab_goto (off := 43) (tgt := 131) (by decide +kernel) rfl ?_
      exact ab_wk (ab_le_some (ab_le_none (ab_le_nil))) (fX8_advance_131_ok hB H  K0)
  · replace H := ab_ifp H hc
    refine ab_aload_n (z := 0) (by decide +kernel) rfl rfl ?_
    refine ab_iconst (z := 0) (v := (0 : Int32)) (by decide +kernel) (by decide) ?_
    refine pX8_2 (ix := 15) (by decide +kernel) tw_149 (hB.1 22 _ rfl) ?_
    refine ab_goto (off := 57) (tgt := 131) (by decide +kernel) rfl ?_
    exact ab_wk (ab_le_some (ab_le_none (ab_le_nil))) (fX8_advance_131_ok hB H  K0)
def fX8_advance_0 (I : ab_I) (J : ab_J) : Option ((ab_I × ab_J) ⊕ (ab_I × ab_J)) :=
  if (I 1 1) ≤ (I 22 1) then
    (fX8_advance_44 I J).map .inr
  else
    (fX7_at (I 22 1) I).bind fun u2 =>
    (fX8_isBlank u2).bind fun u3 =>
    if u3 = 0 then
      (fX8_advance_44 I J).map .inr
    else
      some (.inl ((ab_u I 22 1 ((I 22 1) + (1 : Int32))), J))
set_option maxRecDepth 100000 in
theorem fX8_advance_0_ok {l : Launch} {G : ab_G} {S : ab_S} {I : ab_I} {J : ab_J} {P : ab_P} {Q : ab_Q} (hB : bz_B S P) {x : ((ab_I × ab_J) ⊕ (ab_I × ab_J))} (H : fX8_advance_0 I J = some x) (K1 : ∀ s, x = (.inl s) → ab_WP l G mX8_advance 2 0 [some (.ref 22), none] [] S s.1 s.2 P 0 0 Q) (K0 : ∀ r, x = (.inr r) → Q none S r.1 r.2 P) : ab_WP l G mX8_advance 2 0 [some (.ref 22), none] [] S I J P 0 0 Q := by
  unfold fX8_advance_0 at H
  refine ab_aload_n (z := 0) (by decide +kernel) rfl rfl ?_
  refine gX8_1 (ix := 9) (by decide +kernel) tw_148 (hB.1 22 _ rfl) ?_
  refine ab_aload_n (z := 0) (by decide +kernel) rfl rfl ?_
  refine gX8_0 (ix := 28) (by decide +kernel) tw_147 (hB.1 22 _ rfl) (hB.2.1 29 (22, 0, 1) rfl) ?_
  refine gX7_1 (ix := 35) (by decide +kernel) tw_35 (hB.1 1 _ rfl) ?_
  refine ab_icmp_ge (off := 33) (tgt := 44) (by decide +kernel) rfl (fun hc => ?_) (fun hc => ?_)
  · replace H := ab_ifp H hc
    obtain ⟨y1, Hy, hx⟩ := ab_mp_of H
    subst hx
    replace H := Hy
    exact ab_wk (ab_le_some (ab_le_none (ab_le_nil))) (fX8_advance_44_ok hB H  (K0 _ rfl))
  · replace H := ab_ifn H hc
    refine ab_aload_n (z := 0) (by decide +kernel) rfl rfl ?_
    refine gX8_0 (ix := 28) (by decide +kernel) tw_147 (hB.1 22 _ rfl) (hB.2.1 29 (22, 0, 1) rfl) ?_
    refine ab_aload_n (z := 0) (by decide +kernel) rfl rfl ?_
    refine gX8_1 (ix := 9) (by decide +kernel) tw_148 (hB.1 22 _ rfl) ?_
    obtain ⟨u2, hu2, H⟩ := ab_bd_of H
    refine kvX7_at (D := 0) (ix := 40) (by decide +kernel) tw_497 (hB.1 1 _ rfl) (by decide) (Nat.le_of_ble_eq_true rfl) (mX7_at_ok hB hu2 ?_)
    change ab_WP l G mX8_advance 2 25 [some (.ref 22), none] [.int u2] S I J P 0 0 Q
    obtain ⟨u3, hu3, H⟩ := ab_bd_of H
    refine ksX8_isBlank (D := 0) (ix := 44) (by decide +kernel) tw_501 (by decide) (Nat.le_of_ble_eq_true rfl) (mX8_isBlank_ok hB hu3 ?_)
    change ab_WP l G mX8_advance 2 28 [some (.ref 22), none] [.int u3] S I J P 0 0 Q
    refine ab_if_eq (off := 16) (tgt := 44) (by decide +kernel) rfl (fun hc => ?_) (fun hc => ?_)
    · replace H := ab_ifp H hc
      obtain ⟨y4, Hy, hx⟩ := ab_mp_of H
      subst hx
      replace H := Hy
      exact ab_wk (ab_le_some (ab_le_none (ab_le_nil))) (fX8_advance_44_ok hB H  (K0 _ rfl))
    · replace H := ab_ifn H hc
      refine ab_aload_n (z := 0) (by decide +kernel) rfl rfl ?_
      refine ab_dup (by decide +kernel) rfl ?_
      refine gX8_1 (ix := 9) (by decide +kernel) tw_148 (hB.1 22 _ rfl) ?_
      refine ab_iconst (z := 1) (v := (1 : Int32)) (by decide +kernel) (by decide) ?_
      refine ab_iadd (by decide +kernel) ?_
      refine pX8_1 (ix := 9) (by decide +kernel) tw_148 (hB.1 22 _ rfl) ?_
      refine ab_goto (off := -41) (tgt := 0) (by decide +kernel) rfl ?_
      exact ab_wk (ab_le_some (ab_le_none (ab_le_nil))) (K1 ((ab_u I 22 1 ((I 22 1) + (1 : Int32))), J) (Option.some.inj H).symm)
def fX8_advance (I : ab_I) (J : ab_J) : Option (ab_I × ab_J) :=
  ab_it (fun s => fX8_advance_0 s.1 s.2) 5000 (I, J)
set_option maxRecDepth 100000 in
theorem mX8_advance_ok {l : Launch} {G : ab_G} {S : ab_S} {I : ab_I} {J : ab_J} {P : ab_P} {Q : ab_Q} (hB : bz_B S P) {x : ab_I × ab_J} (H : fX8_advance I J = some x) (K0 : Q none S x.1 x.2 P) : ab_Call l G mX8_advance 2 [.ref 22] S I J P Q := by
  unfold fX8_advance at H
  refine ab_enter rfl (Nat.le_of_ble_eq_true rfl) (ab_wk (ls' := [some (.ref 22), none]) (ab_le_some (ab_le_non0 ab_le_nil)) ?_)
  exact ab_wk (ab_le_some (ab_le_none (ab_le_nil))) (ab_iter (W := fun s => ab_WP l G mX8_advance 2 0 [some (.ref 22), none] [] S s.1 s.2 P 0 0 Q) (fun s y hb h1 h2 => fX8_advance_0_ok hB hb h1 (fun r e => by have e2 := h2 _ e; subst e2; exact K0)) 5000 (I, J) H)
abbrev mX8_start : ab_M := (yX8_start, cX8_start, 1, none, 0, 0)
theorem kvX8_start {l : Launch} {G : ab_G} {M : ab_M} {d pc : Nat} {ls : List (Option Value)} {st : List Value} {S : ab_S} {I : ab_I} {J : ab_J} {P : ab_P} {Q : ab_Q} {ix D r ln : Nat} (hd : decode M.2.1 pc = .ok (.invokevirtual ix, 3)) (h1 : Cond.methodLink M.1.cls ix mX8_start.1 ∈ ab_good) (hs : S[r]? = some (13, ln)) (hdg : D + 1 ≤ d) (hsum : (st.map fun v => v.category).sum ≤ 8) (kk : ab_Call l G mX8_start D (.ref r :: []) S I J P (fun v S' I' J' P' => ab_WP l G M d (pc + 3) ls (ab_psh v st) S' I' J' P' 0 0 Q)) : ab_WP l G M d pc ls (.ref r :: st) S I J P 0 0 Q := bz_kv (g := mX8_start) (as := []) (cc := 8) rfl hd h1 tw_490 tw_491 tw_6 tw_492 ⟨by decide +kernel, by decide +kernel, (by decide +kernel : (parseMethodDescriptor mX8_start.1.desc).map (fun d => d.parameters.length) = some 0)⟩ (by decide) rfl rfl rfl hdg hsum hs kk
def fX8_start (I : ab_I) (J : ab_J) : Option (ab_I × ab_J) :=
  (fX8_advance (ab_u I 22 1 (0 : Int32)) J).bind fun u1 =>
  some (u1.1, u1.2)
set_option maxRecDepth 100000 in
theorem mX8_start_ok {l : Launch} {G : ab_G} {S : ab_S} {I : ab_I} {J : ab_J} {P : ab_P} {Q : ab_Q} (hB : bz_B S P) {x : ab_I × ab_J} (H : fX8_start I J = some x) (K0 : Q none S x.1 x.2 P) : ab_Call l G mX8_start 3 [.ref 22] S I J P Q := by
  unfold fX8_start at H
  refine ab_enter rfl (Nat.le_of_ble_eq_true rfl) (ab_wk (ls' := [some (.ref 22)]) (ab_le_some (ab_le_nil)) ?_)
  refine ab_aload_n (z := 0) (by decide +kernel) rfl rfl ?_
  refine ab_iconst (z := 0) (v := (0 : Int32)) (by decide +kernel) (by decide) ?_
  refine pX8_1 (ix := 9) (by decide +kernel) tw_148 (hB.1 22 _ rfl) ?_
  refine ab_aload_n (z := 0) (by decide +kernel) rfl rfl ?_
  obtain ⟨u1, hu1, H⟩ := ab_bd_of H
  refine kvX8_advance (D := 2) (ix := 32) (by decide +kernel) tw_493 (hB.1 22 _ rfl) (by decide) (Nat.le_of_ble_eq_true rfl) (mX8_advance_ok hB hu1 ?_)
  change ab_WP l G mX8_start 3 9 [some (.ref 22)] [] S u1.1 u1.2 P 0 0 Q
  obtain rfl := Option.some.inj H
  exact ab_vret (by decide +kernel) rfl (Nat.le_refl _) (Nat.le_refl _) K0
abbrev mX4_clear : ab_M := (yX4_clear, cX4_clear, 1, none, 0, 0)
theorem kvX4_clear {l : Launch} {G : ab_G} {M : ab_M} {d pc : Nat} {ls : List (Option Value)} {st : List Value} {S : ab_S} {I : ab_I} {J : ab_J} {P : ab_P} {Q : ab_Q} {ix D r ln : Nat} (hd : decode M.2.1 pc = .ok (.invokevirtual ix, 3)) (h1 : Cond.methodLink M.1.cls ix mX4_clear.1 ∈ ab_good) (hs : S[r]? = some (9, ln)) (hdg : D + 1 ≤ d) (hsum : (st.map fun v => v.category).sum ≤ 8) (kk : ab_Call l G mX4_clear D (.ref r :: []) S I J P (fun v S' I' J' P' => ab_WP l G M d (pc + 3) ls (ab_psh v st) S' I' J' P' 0 0 Q)) : ab_WP l G M d pc ls (.ref r :: st) S I J P 0 0 Q := bz_kv (g := mX4_clear) (as := []) (cc := 4) rfl hd h1 tw_476 tw_p0 tw_5 tw_477 ⟨by decide +kernel, by decide +kernel, (by decide +kernel : (parseMethodDescriptor mX4_clear.1.desc).map (fun d => d.parameters.length) = some 0)⟩ (by decide) rfl rfl rfl hdg hsum hs kk
def fX4_clear (I : ab_I) (J : ab_J) : Option (ab_I × ab_J) :=
  (fX9_clear I).bind fun u1 =>
  (fX8_start (ab_u (ab_u (ab_u (ab_u (ab_u u1 11 3 (0 : Int32)) 11 4 (0 : Int32)) 11 5 (0 : Int32)) 11 8 (0 : Int32)) 11 9 (-1 : Int32)) J).bind fun u2 =>
  some (u2.1, u2.2)
set_option maxRecDepth 100000 in
theorem mX4_clear_ok {l : Launch} {G : ab_G} {S : ab_S} {I : ab_I} {J : ab_J} {P : ab_P} {Q : ab_Q} (hB : bz_B S P) {x : ab_I × ab_J} (H : fX4_clear I J = some x) (K0 : Q none S x.1 x.2 P) : ab_Call l G mX4_clear 4 [.ref 11] S I J P Q := by
  unfold fX4_clear at H
  refine ab_enter rfl (Nat.le_of_ble_eq_true rfl) (ab_wk (ls' := [some (.ref 11)]) (ab_le_some (ab_le_nil)) ?_)
  refine ab_aload_n (z := 0) (by decide +kernel) rfl rfl ?_
  refine gX4_7 (ix := 35) (by decide +kernel) tw_178 (hB.1 11 _ rfl) (hB.2.1 21 (11, 7, 14) rfl) ?_
  obtain ⟨u1, hu1, H⟩ := ab_bd_of H
  refine kvX9_clear (D := 1) (ix := 86) (by decide +kernel) tw_478 (hB.1 14 _ rfl) (by decide) (Nat.le_of_ble_eq_true rfl) (mX9_clear_ok hB hu1 ?_)
  change ab_WP l G mX4_clear 4 7 [some (.ref 11)] [] S u1 J P 0 0 Q
  refine ab_aload_n (z := 0) (by decide +kernel) rfl rfl ?_
  refine ab_iconst (z := 0) (v := (0 : Int32)) (by decide +kernel) (by decide) ?_
  refine pX4_3 (ix := 18) (by decide +kernel) tw_174 (hB.1 11 _ rfl) (by decide) ?_
  refine ab_aload_n (z := 0) (by decide +kernel) rfl rfl ?_
  refine ab_iconst (z := 0) (v := (0 : Int32)) (by decide +kernel) (by decide) ?_
  refine pX4_4 (ix := 22) (by decide +kernel) tw_175 (hB.1 11 _ rfl) (by decide) ?_
  refine ab_aload_n (z := 0) (by decide +kernel) rfl rfl ?_
  refine ab_iconst (z := 0) (v := (0 : Int32)) (by decide +kernel) (by decide) ?_
  refine pX4_5 (ix := 25) (by decide +kernel) tw_176 (hB.1 11 _ rfl) (by decide) ?_
  refine ab_aload_n (z := 0) (by decide +kernel) rfl rfl ?_
  refine ab_iconst (z := 0) (v := (0 : Int32)) (by decide +kernel) (by decide) ?_
  refine pX4_8 (ix := 39) (by decide +kernel) tw_180 (hB.1 11 _ rfl) ?_
  refine ab_aload_n (z := 0) (by decide +kernel) rfl rfl ?_
  refine ab_iconst (z := -1) (v := (-1 : Int32)) (by decide +kernel) (by decide) ?_
  refine pX4_9 (ix := 42) (by decide +kernel) tw_182 (hB.1 11 _ rfl) ?_
  refine ab_aload_n (z := 0) (by decide +kernel) rfl rfl ?_
  refine gX4_0 (ix := 50) (by decide +kernel) tw_171 (hB.1 11 _ rfl) (hB.2.1 18 (11, 0, 22) rfl) ?_
  obtain ⟨u2, hu2, H⟩ := ab_bd_of H
  refine kvX8_start (D := 3) (ix := 87) (by decide +kernel) tw_489 (hB.1 22 _ rfl) (by decide) (Nat.le_of_ble_eq_true rfl) (mX8_start_ok hB hu2 ?_)
  change ab_WP l G mX4_clear 4 39 [some (.ref 11)] [] S u2.1 u2.2 P 0 0 Q
  obtain rfl := Option.some.inj H
  exact ab_vret (by decide +kernel) rfl (Nat.le_refl _) (Nat.le_refl _) K0
abbrev mX4_refuses : ab_M := (yX4_refuses, cX4_refuses, 2, some .boolean, 0, 0)
theorem kvX4_refuses {l : Launch} {G : ab_G} {M : ab_M} {d pc : Nat} {ls : List (Option Value)} {st : List Value} {S : ab_S} {I : ab_I} {J : ab_J} {P : ab_P} {Q : ab_Q} {v0 : Value} {ix D r ln : Nat} (hd : decode M.2.1 pc = .ok (.invokevirtual ix, 3)) (h1 : Cond.methodLink M.1.cls ix mX4_refuses.1 ∈ ab_good) (hs : S[r]? = some (9, ln)) (hdg : D + 1 ≤ d) (hsum : (st.map fun v => v.category).sum ≤ 8) (kk : ab_Call l G mX4_refuses D (.ref r :: [v0]) S I J P (fun v S' I' J' P' => ab_WP l G M d (pc + 3) ls (ab_psh v st) S' I' J' P' 0 0 Q)) : ab_WP l G M d pc ls (v0 :: .ref r :: st) S I J P 0 0 Q := bz_kv (g := mX4_refuses) (as := [v0]) (cc := 4) rfl hd h1 tw_533 tw_p5 tw_5 tw_534 ⟨by decide +kernel, by decide +kernel, (by decide +kernel : (parseMethodDescriptor mX4_refuses.1.desc).map (fun d => d.parameters.length) = some 1)⟩ (by decide) rfl rfl rfl hdg hsum hs kk
def fX4_refuses_17 (a1 : Int32) (s1 : Int32) (I : ab_I) : Option (Int32 × ab_I) :=
  some ((0 : Int32), (ab_u (ab_u I 11 8 s1) 11 9 (I 22 3)))
set_option maxRecDepth 100000 in
theorem fX4_refuses_17_ok {l : Launch} {G : ab_G} {S : ab_S} {I : ab_I} {J : ab_J} {P : ab_P} {Q : ab_Q} {a1 : Int32} {s1 : Int32} (hB : bz_B S P) {x : Int32 × ab_I} (H : fX4_refuses_17 a1 s1 I = some x) (K0 : Q (some (.int x.1)) S x.2 J P) : ab_WP l G mX4_refuses 0 17 [some (.ref 11), some (.int a1)] [.int s1, .ref 11] S I J P 0 0 Q := by
  unfold fX4_refuses_17 at H
  refine pX4_8 (ix := 39) (by decide +kernel) tw_180 (hB.1 11 _ rfl) ?_
  refine ab_aload_n (z := 0) (by decide +kernel) rfl rfl ?_
  refine ab_aload_n (z := 0) (by decide +kernel) rfl rfl ?_
  refine gX4_0 (ix := 50) (by decide +kernel) tw_171 (hB.1 11 _ rfl) (hB.2.1 18 (11, 0, 22) rfl) ?_
  refine gX8_3 (ix := 180) (by decide +kernel) tw_152 (hB.1 22 _ rfl) ?_
  refine ab_top (y := (I 22 3)) rfl ?_
  refine pX4_9 (ix := 42) (by decide +kernel) tw_182 (hB.1 11 _ rfl) ?_
  refine ab_iconst (z := 0) (v := (0 : Int32)) (by decide +kernel) (by decide) ?_
  obtain rfl := Option.some.inj H
  exact ab_zret (by decide +kernel) rfl (Nat.le_refl _) (Nat.le_refl _) (by decide) K0
def fX4_refuses (a1 : Int32) (I : ab_I) : Option (Int32 × ab_I) :=
  if (I 22 2) = (1 : Int32) then
    fX4_refuses_17 a1 (1 : Int32) I
  else
    fX4_refuses_17 a1 a1 I
set_option maxRecDepth 100000 in
theorem mX4_refuses_ok {l : Launch} {G : ab_G} {S : ab_S} {I : ab_I} {J : ab_J} {P : ab_P} {Q : ab_Q} {a1 : Int32} (hB : bz_B S P) {x : Int32 × ab_I} (H : fX4_refuses a1 I = some x) (K0 : Q (some (.int x.1)) S x.2 J P) : ab_Call l G mX4_refuses 0 [.ref 11, .int a1] S I J P Q := by
  unfold fX4_refuses at H
  refine ab_enter rfl (Nat.le_of_ble_eq_true rfl) (ab_wk (ls' := [some (.ref 11), some (.int a1)]) (ab_le_some (ab_le_some (ab_le_nil))) ?_)
  refine ab_aload_n (z := 0) (by decide +kernel) rfl rfl ?_
  refine ab_aload_n (z := 0) (by decide +kernel) rfl rfl ?_
  refine gX4_0 (ix := 50) (by decide +kernel) tw_171 (hB.1 11 _ rfl) (hB.2.1 18 (11, 0, 22) rfl) ?_
  refine gX8_2 (ix := 57) (by decide +kernel) tw_150 (hB.1 22 _ rfl) ?_
  refine ab_iconst (z := 1) (v := (1 : Int32)) (by decide +kernel) (by decide) ?_
  refine ab_icmp_ne (off := 7) (tgt := 16) (by decide +kernel) rfl (fun hc => ?_) (fun hc => ?_)
  · replace H := ab_ifn H hc
    refine ab_iload_n (z := 1) (by decide +kernel) rfl rfl ?_
    exact ab_wk (ab_le_some (ab_le_some (ab_le_nil))) (fX4_refuses_17_ok hB H  K0)
  · replace H := ab_ifp H hc
    refine ab_iconst (z := 1) (v := (1 : Int32)) (by decide +kernel) (by decide) ?_
    refine ab_goto (off := 4) (tgt := 17) (by decide +kernel) rfl ?_
    exact ab_wk (ab_le_some (ab_le_some (ab_le_nil))) (fX4_refuses_17_ok hB H  K0)
abbrev mX4_numberOfName : ab_M := (yX4_numberOfName, cX4_numberOfName, 4, some .int, 0, 0)
theorem kvX4_numberOfName {l : Launch} {G : ab_G} {M : ab_M} {d pc : Nat} {ls : List (Option Value)} {st : List Value} {S : ab_S} {I : ab_I} {J : ab_J} {P : ab_P} {Q : ab_Q} {v0 v1 : Value} {ix D r ln : Nat} (hd : decode M.2.1 pc = .ok (.invokevirtual ix, 3)) (h1 : Cond.methodLink M.1.cls ix mX4_numberOfName.1 ∈ ab_good) (hs : S[r]? = some (9, ln)) (hdg : D + 1 ≤ d) (hsum : (st.map fun v => v.category).sum ≤ 8) (kk : ab_Call l G mX4_numberOfName D (.ref r :: [v0, v1]) S I J P (fun v S' I' J' P' => ab_WP l G M d (pc + 3) ls (ab_psh v st) S' I' J' P' 0 0 Q)) : ab_WP l G M d pc ls (v1 :: v0 :: .ref r :: st) S I J P 0 0 Q := bz_kv (g := mX4_numberOfName) (as := [v0, v1]) (cc := 4) rfl hd h1 tw_542 tw_p7 tw_5 tw_543 ⟨by decide +kernel, by decide +kernel, (by decide +kernel : (parseMethodDescriptor mX4_numberOfName.1.desc).map (fun d => d.parameters.length) = some 2)⟩ (by decide) rfl rfl rfl hdg hsum hs kk
def fX4_numberOfName_35 (r1 n1 : Nat) (a2 : Int32) (J : ab_J) : Option Int32 :=
  some (-1 : Int32)
set_option maxRecDepth 100000 in
theorem fX4_numberOfName_35_ok {l : Launch} {G : ab_G} {S : ab_S} {I : ab_I} {J : ab_J} {P : ab_P} {Q : ab_Q} {r1 n1 : Nat} {a2 : Int32} (hB : bz_B S P) (hr1 : S[r1]? = some (3, n1)) {x : Int32} (H : fX4_numberOfName_35 r1 n1 a2 J = some x) (K0 : Q (some (.int x)) S I J P) : ab_WP l G mX4_numberOfName 0 35 [some (.ref 11), some (.ref r1), some (.int a2), none] [] S I J P 0 0 Q := by
  unfold fX4_numberOfName_35 at H
  refine ab_iconst (z := -1) (v := (-1 : Int32)) (by decide +kernel) (by decide) ?_
  obtain rfl := Option.some.inj H
  exact ab_iret (by decide +kernel) rfl (Nat.le_refl _) (Nat.le_refl _) K0
def fX4_numberOfName_27 (r1 n1 : Nat) (a2 : Int32) (J : ab_J) (a3 : Int32) : Option Int32 :=
  some a3
set_option maxRecDepth 100000 in
theorem fX4_numberOfName_27_ok {l : Launch} {G : ab_G} {S : ab_S} {I : ab_I} {J : ab_J} {P : ab_P} {Q : ab_Q} {r1 n1 : Nat} {a2 : Int32} {a3 : Int32} (hB : bz_B S P) (hr1 : S[r1]? = some (3, n1)) {x : Int32} (H : fX4_numberOfName_27 r1 n1 a2 J a3 = some x) (K0 : Q (some (.int x)) S I J P) : ab_WP l G mX4_numberOfName 0 27 [some (.ref 11), some (.ref r1), some (.int a2), some (.int a3)] [] S I J P 0 0 Q := by
  unfold fX4_numberOfName_27 at H
  refine ab_iload_n (z := 3) (by decide +kernel) rfl rfl ?_
  obtain rfl := Option.some.inj H
  exact ab_iret (by decide +kernel) rfl (Nat.le_refl _) (Nat.le_refl _) K0
def fX4_numberOfName_2 (r1 n1 : Nat) (a2 : Int32) (J : ab_J) (a3 : Int32) : Option ((Int32) ⊕ Int32) :=
  if a2 ≤ a3 then
    (fX4_numberOfName_35 r1 n1 a2 J).map .inr
  else
    if (Int32.ofNat n1) ≤ a3 then
      (fX4_numberOfName_35 r1 n1 a2 J).map .inr
    else
      ab_gd (ab_ix a3 n1 = true) (
        if (lg_cmp (J r1 a3.toNatClampNeg) (J 22 5)) = 0 then
          (fX4_numberOfName_27 r1 n1 a2 J a3).map .inr
        else
          some (.inl (a3 + (1 : Int32)))
      )
set_option maxRecDepth 100000 in
theorem fX4_numberOfName_2_ok {l : Launch} {G : ab_G} {S : ab_S} {I : ab_I} {J : ab_J} {P : ab_P} {Q : ab_Q} {r1 n1 : Nat} {a2 : Int32} {a3 : Int32} (hB : bz_B S P) (hr1 : S[r1]? = some (3, n1)) {x : ((Int32) ⊕ Int32)} (H : fX4_numberOfName_2 r1 n1 a2 J a3 = some x) (K1 : ∀ s, x = (.inl s) → ab_WP l G mX4_numberOfName 0 2 [some (.ref 11), some (.ref r1), some (.int a2), some (.int s)] [] S I J P 0 0 Q) (K0 : ∀ r, x = (.inr r) → Q (some (.int r)) S I J P) : ab_WP l G mX4_numberOfName 0 2 [some (.ref 11), some (.ref r1), some (.int a2), some (.int a3)] [] S I J P 0 0 Q := by
  unfold fX4_numberOfName_2 at H
  refine ab_iload_n (z := 3) (by decide +kernel) rfl rfl ?_
  refine ab_iload_n (z := 2) (by decide +kernel) rfl rfl ?_
  refine ab_icmp_ge (off := 31) (tgt := 35) (by decide +kernel) rfl (fun hc => ?_) (fun hc => ?_)
  · replace H := ab_ifp H hc
    obtain ⟨y1, Hy, hx⟩ := ab_mp_of H
    subst hx
    replace H := Hy
    exact ab_wk (ab_le_some (ab_le_some (ab_le_some (ab_le_none (ab_le_nil))))) (fX4_numberOfName_35_ok hB hr1 H  (K0 _ rfl))
  · replace H := ab_ifn H hc
    refine ab_iload_n (z := 3) (by decide +kernel) rfl rfl ?_
    refine ab_aload_n (z := 1) (by decide +kernel) rfl rfl ?_
    refine ab_alen (by decide +kernel) hr1 (by decide) rfl ?_
    refine ab_icmp_ge (off := 25) (tgt := 35) (by decide +kernel) rfl (fun hc => ?_) (fun hc => ?_)
    · replace H := ab_ifp H hc
      obtain ⟨y2, Hy, hx⟩ := ab_mp_of H
      subst hx
      replace H := Hy
      exact ab_wk (ab_le_some (ab_le_some (ab_le_some (ab_le_none (ab_le_nil))))) (fX4_numberOfName_35_ok hB hr1 H  (K0 _ rfl))
    · replace H := ab_ifn H hc
      refine ab_aload_n (z := 1) (by decide +kernel) rfl rfl ?_
      refine ab_iload_n (z := 3) (by decide +kernel) rfl rfl ?_
      obtain ⟨hg, H⟩ := ab_gd_of H
      refine ab_lald (ln := n1) (by decide +kernel) hr1 (ab_ix_in hg) ?_
      refine ab_aload_n (z := 0) (by decide +kernel) rfl rfl ?_
      refine gX4_0 (ix := 50) (by decide +kernel) tw_171 (hB.1 11 _ rfl) (hB.2.1 18 (11, 0, 22) rfl) ?_
      refine gX8_5 (ix := 176) (by decide +kernel) tw_156 (hB.1 22 _ rfl) ?_
      refine ab_lcmp (by decide +kernel) ?_
      refine ab_if_ne (off := 5) (tgt := 29) (by decide +kernel) rfl (fun hc => ?_) (fun hc => ?_)
      · replace H := ab_ifn H hc
        refine ab_iinc (i := 3) (z := 1) (v := (a3 + (1 : Int32))) (by decide +kernel) rfl rfl (by decide) rfl ?_
        refine ab_ls (ls' := [some (.ref 11), some (.ref r1), some (.int a2), some (.int (a3 + (1 : Int32)))]) rfl ?_
        refine ab_goto (off := -30) (tgt := 2) (by decide +kernel) rfl ?_
        exact ab_wk (ab_le_some (ab_le_some (ab_le_some (ab_le_some (ab_le_nil))))) (K1 (a3 + (1 : Int32)) (Option.some.inj H).symm)
      · replace H := ab_ifp H hc
        obtain ⟨y3, Hy, hx⟩ := ab_mp_of H
        subst hx
        replace H := Hy
        exact ab_wk (ab_le_some (ab_le_some (ab_le_some (ab_le_some (ab_le_nil))))) (fX4_numberOfName_27_ok hB hr1 H  (K0 _ rfl))
def fX4_numberOfName (r1 n1 : Nat) (a2 : Int32) (J : ab_J) : Option Int32 :=
  ab_it (fun s => fX4_numberOfName_2 r1 n1 a2 J s) 5000 (0 : Int32)
set_option maxRecDepth 100000 in
theorem mX4_numberOfName_ok {l : Launch} {G : ab_G} {S : ab_S} {I : ab_I} {J : ab_J} {P : ab_P} {Q : ab_Q} {r1 n1 : Nat} {a2 : Int32} (hB : bz_B S P) (hr1 : S[r1]? = some (3, n1)) {x : Int32} (H : fX4_numberOfName r1 n1 a2 J = some x) (K0 : Q (some (.int x)) S I J P) : ab_Call l G mX4_numberOfName 0 [.ref 11, .ref r1, .int a2] S I J P Q := by
  unfold fX4_numberOfName at H
  refine ab_enter rfl (Nat.le_of_ble_eq_true rfl) (ab_wk (ls' := [some (.ref 11), some (.ref r1), some (.int a2), none]) (ab_le_some (ab_le_some (ab_le_some (ab_le_non0 ab_le_nil)))) ?_)
  refine ab_iconst (z := 0) (v := (0 : Int32)) (by decide +kernel) (by decide) ?_
  refine ab_istore_n (z := 3) (by decide +kernel) rfl (by decide) rfl ?_
  refine ab_ls (ls' := [some (.ref 11), some (.ref r1), some (.int a2), some (.int (0 : Int32))]) rfl ?_
  exact ab_wk (ab_le_some (ab_le_some (ab_le_some (ab_le_some (ab_le_nil))))) (ab_iter (W := fun s => ab_WP l G mX4_numberOfName 0 2 [some (.ref 11), some (.ref r1), some (.int a2), some (.int s)] [] S I J P 0 0 Q) (fun s y hb h1 h2 => fX4_numberOfName_2_ok hB hr1 hb h1 (fun r e => by have e2 := h2 _ e; subst e2; exact K0)) 5000 (0 : Int32) H)
abbrev mX4_takesNewName : ab_M := (yX4_takesNewName, cX4_takesNewName, 3, some .boolean, 0, 0)
theorem kvX4_takesNewName {l : Launch} {G : ab_G} {M : ab_M} {d pc : Nat} {ls : List (Option Value)} {st : List Value} {S : ab_S} {I : ab_I} {J : ab_J} {P : ab_P} {Q : ab_Q} {v0 v1 : Value} {ix D r ln : Nat} (hd : decode M.2.1 pc = .ok (.invokevirtual ix, 3)) (h1 : Cond.methodLink M.1.cls ix mX4_takesNewName.1 ∈ ab_good) (hs : S[r]? = some (9, ln)) (hdg : D + 1 ≤ d) (hsum : (st.map fun v => v.category).sum ≤ 8) (kk : ab_Call l G mX4_takesNewName D (.ref r :: [v0, v1]) S I J P (fun v S' I' J' P' => ab_WP l G M d (pc + 3) ls (ab_psh v st) S' I' J' P' 0 0 Q)) : ab_WP l G M d pc ls (v1 :: v0 :: .ref r :: st) S I J P 0 0 Q := bz_kv (g := mX4_takesNewName) (as := [v0, v1]) (cc := 4) rfl hd h1 tw_538 tw_p6 tw_5 tw_539 ⟨by decide +kernel, by decide +kernel, (by decide +kernel : (parseMethodDescriptor mX4_takesNewName.1.desc).map (fun d => d.parameters.length) = some 2)⟩ (by decide) rfl rfl rfl hdg hsum hs kk
def fX4_takesNewName_49 (r1 n1 : Nat) (a2 : Int32) (I : ab_I) (J : ab_J) : Option (Int32 × ab_I × ab_J) :=
  (fX8_advance I J).bind fun u4 =>
  some ((1 : Int32), u4.1, u4.2)
set_option maxRecDepth 100000 in
theorem fX4_takesNewName_49_ok {l : Launch} {G : ab_G} {S : ab_S} {I : ab_I} {J : ab_J} {P : ab_P} {Q : ab_Q} {r1 n1 : Nat} {a2 : Int32} (hB : bz_B S P) (hr1 : S[r1]? = some (3, n1)) {x : Int32 × ab_I × ab_J} (H : fX4_takesNewName_49 r1 n1 a2 I J = some x) (K0 : Q (some (.int x.1)) S x.2.1 x.2.2 P) : ab_WP l G mX4_takesNewName 3 49 [some (.ref 11), some (.ref r1), some (.int a2)] [] S I J P 0 0 Q := by
  unfold fX4_takesNewName_49 at H
  refine ab_aload_n (z := 0) (by decide +kernel) rfl rfl ?_
  refine gX4_0 (ix := 50) (by decide +kernel) tw_171 (hB.1 11 _ rfl) (hB.2.1 18 (11, 0, 22) rfl) ?_
  obtain ⟨u4, hu4, H⟩ := ab_bd_of H
  refine kvX8_advance (D := 2) (ix := 93) (by decide +kernel) tw_535 (hB.1 22 _ rfl) (by decide) (Nat.le_of_ble_eq_true rfl) (mX8_advance_ok hB hu4 ?_)
  change ab_WP l G mX4_takesNewName 3 56 [some (.ref 11), some (.ref r1), some (.int a2)] [] S u4.1 u4.2 P 0 0 Q
  refine ab_iconst (z := 1) (v := (1 : Int32)) (by decide +kernel) (by decide) ?_
  obtain rfl := Option.some.inj H
  exact ab_zret (by decide +kernel) rfl (Nat.le_refl _) (Nat.le_refl _) (by decide) K0
def fX4_takesNewName (r1 n1 : Nat) (a2 : Int32) (I : ab_I) (J : ab_J) : Option (Int32 × ab_I × ab_J) :=
  if (I 22 2) = (2 : Int32) then
    (fX4_numberOfName r1 n1 a2 J).bind fun u1 =>
    if u1 = (-1 : Int32) then
      if (Int32.ofNat n1) ≤ a2 then
        fX4_takesNewName_49 r1 n1 a2 I J
      else
        ab_gd (ab_ix a2 n1 = true) (
          fX4_takesNewName_49 r1 n1 a2 I (ab_u J r1 a2.toNatClampNeg (J 22 5))
        )
    else
      (fX4_refuses (3 : Int32) I).bind fun u2 =>
      ab_gd (u2.1 = 0 ∨ u2.1 = 1) (some (u2.1, u2.2, J))
  else
    (fX4_refuses (2 : Int32) I).bind fun u3 =>
    ab_gd (u3.1 = 0 ∨ u3.1 = 1) (some (u3.1, u3.2, J))
set_option maxRecDepth 100000 in
theorem mX4_takesNewName_ok {l : Launch} {G : ab_G} {S : ab_S} {I : ab_I} {J : ab_J} {P : ab_P} {Q : ab_Q} {r1 n1 : Nat} {a2 : Int32} (hB : bz_B S P) (hr1 : S[r1]? = some (3, n1)) {x : Int32 × ab_I × ab_J} (H : fX4_takesNewName r1 n1 a2 I J = some x) (K0 : Q (some (.int x.1)) S x.2.1 x.2.2 P) : ab_Call l G mX4_takesNewName 3 [.ref 11, .ref r1, .int a2] S I J P Q := by
  unfold fX4_takesNewName at H
  refine ab_enter rfl (Nat.le_of_ble_eq_true rfl) (ab_wk (ls' := [some (.ref 11), some (.ref r1), some (.int a2)]) (ab_le_some (ab_le_some (ab_le_some (ab_le_nil)))) ?_)
  refine ab_aload_n (z := 0) (by decide +kernel) rfl rfl ?_
  refine gX4_0 (ix := 50) (by decide +kernel) tw_171 (hB.1 11 _ rfl) (hB.2.1 18 (11, 0, 22) rfl) ?_
  refine gX8_2 (ix := 57) (by decide +kernel) tw_150 (hB.1 22 _ rfl) ?_
  refine ab_iconst (z := 2) (v := (2 : Int32)) (by decide +kernel) (by decide) ?_
  refine ab_icmp_eq (off := 9) (tgt := 17) (by decide +kernel) rfl (fun hc => ?_) (fun hc => ?_)
  · replace H := ab_ifp H hc
    refine ab_aload_n (z := 0) (by decide +kernel) rfl rfl ?_
    refine ab_aload_n (z := 1) (by decide +kernel) rfl rfl ?_
    refine ab_iload_n (z := 2) (by decide +kernel) rfl rfl ?_
    obtain ⟨u1, hu1, H⟩ := ab_bd_of H
    refine kvX4_numberOfName (D := 0) (ix := 173) (by decide +kernel) tw_540 (hB.1 11 _ rfl) (by decide) (Nat.le_of_ble_eq_true rfl) (mX4_numberOfName_ok hB hr1 hu1 ?_)
    change ab_WP l G mX4_takesNewName 3 23 [some (.ref 11), some (.ref r1), some (.int a2)] [.int u1] S I J P 0 0 Q
    refine ab_iconst (z := -1) (v := (-1 : Int32)) (by decide +kernel) (by decide) ?_
    refine ab_icmp_eq (off := 9) (tgt := 33) (by decide +kernel) rfl (fun hc => ?_) (fun hc => ?_)
    · replace H := ab_ifp H hc
      refine ab_iload_n (z := 2) (by decide +kernel) rfl rfl ?_
      refine ab_aload_n (z := 1) (by decide +kernel) rfl rfl ?_
      refine ab_alen (by decide +kernel) hr1 (by decide) rfl ?_
      refine ab_icmp_ge (off := 13) (tgt := 49) (by decide +kernel) rfl (fun hc => ?_) (fun hc => ?_)
      · replace H := ab_ifp H hc
        exact ab_wk (ab_le_some (ab_le_some (ab_le_some (ab_le_nil)))) (fX4_takesNewName_49_ok hB hr1 H  K0)
      · replace H := ab_ifn H hc
        refine ab_aload_n (z := 1) (by decide +kernel) rfl rfl ?_
        refine ab_iload_n (z := 2) (by decide +kernel) rfl rfl ?_
        refine ab_aload_n (z := 0) (by decide +kernel) rfl rfl ?_
        refine gX4_0 (ix := 50) (by decide +kernel) tw_171 (hB.1 11 _ rfl) (hB.2.1 18 (11, 0, 22) rfl) ?_
        refine gX8_5 (ix := 176) (by decide +kernel) tw_156 (hB.1 22 _ rfl) ?_
        obtain ⟨hg, H⟩ := ab_gd_of H
        refine ab_last (ln := n1) (by decide +kernel) hr1 (ab_ix_in hg) ?_
        exact ab_wk (ab_le_some (ab_le_some (ab_le_some (ab_le_nil)))) (fX4_takesNewName_49_ok hB hr1 H  K0)
    · replace H := ab_ifn H hc
      refine ab_aload_n (z := 0) (by decide +kernel) rfl rfl ?_
      refine ab_iconst (z := 3) (v := (3 : Int32)) (by decide +kernel) (by decide) ?_
      obtain ⟨u2, hu2, H⟩ := ab_bd_of H
      refine kvX4_refuses (D := 0) (ix := 79) (by decide +kernel) tw_531 (hB.1 11 _ rfl) (by decide) (Nat.le_of_ble_eq_true rfl) (mX4_refuses_ok hB hu2 ?_)
      change ab_WP l G mX4_takesNewName 3 32 [some (.ref 11), some (.ref r1), some (.int a2)] [.int u2.1] S u2.2 J P 0 0 Q
      obtain ⟨hg, H⟩ := ab_gd_of H
      obtain rfl := Option.some.inj H
      exact ab_zret (by decide +kernel) rfl (Nat.le_refl _) (Nat.le_refl _) hg K0
  · replace H := ab_ifn H hc
    refine ab_aload_n (z := 0) (by decide +kernel) rfl rfl ?_
    refine ab_iconst (z := 2) (v := (2 : Int32)) (by decide +kernel) (by decide) ?_
    obtain ⟨u3, hu3, H⟩ := ab_bd_of H
    refine kvX4_refuses (D := 0) (ix := 79) (by decide +kernel) tw_531 (hB.1 11 _ rfl) (by decide) (Nat.le_of_ble_eq_true rfl) (mX4_refuses_ok hB hu3 ?_)
    change ab_WP l G mX4_takesNewName 3 16 [some (.ref 11), some (.ref r1), some (.int a2)] [.int u3.1] S u3.2 J P 0 0 Q
    obtain ⟨hg, H⟩ := ab_gd_of H
    obtain rfl := Option.some.inj H
    exact ab_zret (by decide +kernel) rfl (Nat.le_refl _) (Nat.le_refl _) hg K0
abbrev mX4_takes : ab_M := (yX4_takes, cX4_takes, 2, some .boolean, 0, 0)
theorem kvX4_takes {l : Launch} {G : ab_G} {M : ab_M} {d pc : Nat} {ls : List (Option Value)} {st : List Value} {S : ab_S} {I : ab_I} {J : ab_J} {P : ab_P} {Q : ab_Q} {v0 : Value} {ix D r ln : Nat} (hd : decode M.2.1 pc = .ok (.invokevirtual ix, 3)) (h1 : Cond.methodLink M.1.cls ix mX4_takes.1 ∈ ab_good) (hs : S[r]? = some (9, ln)) (hdg : D + 1 ≤ d) (hsum : (st.map fun v => v.category).sum ≤ 8) (kk : ab_Call l G mX4_takes D (.ref r :: [v0]) S I J P (fun v S' I' J' P' => ab_WP l G M d (pc + 3) ls (ab_psh v st) S' I' J' P' 0 0 Q)) : ab_WP l G M d pc ls (v0 :: .ref r :: st) S I J P 0 0 Q := bz_kv (g := mX4_takes) (as := [v0]) (cc := 4) rfl hd h1 tw_546 tw_p8 tw_5 tw_547 ⟨by decide +kernel, by decide +kernel, (by decide +kernel : (parseMethodDescriptor mX4_takes.1.desc).map (fun d => d.parameters.length) = some 1)⟩ (by decide) rfl rfl rfl hdg hsum hs kk
def fX4_takes (a1 : Int32) (I : ab_I) (J : ab_J) : Option (Int32 × ab_I × ab_J) :=
  if (I 22 2) = a1 then
    (fX8_advance I J).bind fun u1 =>
    some ((1 : Int32), u1.1, u1.2)
  else
    (fX4_refuses (2 : Int32) I).bind fun u2 =>
    ab_gd (u2.1 = 0 ∨ u2.1 = 1) (some (u2.1, u2.2, J))
set_option maxRecDepth 100000 in
theorem mX4_takes_ok {l : Launch} {G : ab_G} {S : ab_S} {I : ab_I} {J : ab_J} {P : ab_P} {Q : ab_Q} {a1 : Int32} (hB : bz_B S P) {x : Int32 × ab_I × ab_J} (H : fX4_takes a1 I J = some x) (K0 : Q (some (.int x.1)) S x.2.1 x.2.2 P) : ab_Call l G mX4_takes 3 [.ref 11, .int a1] S I J P Q := by
  unfold fX4_takes at H
  refine ab_enter rfl (Nat.le_of_ble_eq_true rfl) (ab_wk (ls' := [some (.ref 11), some (.int a1)]) (ab_le_some (ab_le_some (ab_le_nil))) ?_)
  refine ab_aload_n (z := 0) (by decide +kernel) rfl rfl ?_
  refine gX4_0 (ix := 50) (by decide +kernel) tw_171 (hB.1 11 _ rfl) (hB.2.1 18 (11, 0, 22) rfl) ?_
  refine gX8_2 (ix := 57) (by decide +kernel) tw_150 (hB.1 22 _ rfl) ?_
  refine ab_iload_n (z := 1) (by decide +kernel) rfl rfl ?_
  refine ab_icmp_eq (off := 9) (tgt := 17) (by decide +kernel) rfl (fun hc => ?_) (fun hc => ?_)
  · replace H := ab_ifp H hc
    refine ab_aload_n (z := 0) (by decide +kernel) rfl rfl ?_
    refine gX4_0 (ix := 50) (by decide +kernel) tw_171 (hB.1 11 _ rfl) (hB.2.1 18 (11, 0, 22) rfl) ?_
    obtain ⟨u1, hu1, H⟩ := ab_bd_of H
    refine kvX8_advance (D := 2) (ix := 93) (by decide +kernel) tw_535 (hB.1 22 _ rfl) (by decide) (Nat.le_of_ble_eq_true rfl) (mX8_advance_ok hB hu1 ?_)
    change ab_WP l G mX4_takes 3 24 [some (.ref 11), some (.int a1)] [] S u1.1 u1.2 P 0 0 Q
    refine ab_iconst (z := 1) (v := (1 : Int32)) (by decide +kernel) (by decide) ?_
    obtain rfl := Option.some.inj H
    exact ab_zret (by decide +kernel) rfl (Nat.le_refl _) (Nat.le_refl _) (by decide) K0
  · replace H := ab_ifn H hc
    refine ab_aload_n (z := 0) (by decide +kernel) rfl rfl ?_
    refine ab_iconst (z := 2) (v := (2 : Int32)) (by decide +kernel) (by decide) ?_
    obtain ⟨u2, hu2, H⟩ := ab_bd_of H
    refine kvX4_refuses (D := 0) (ix := 79) (by decide +kernel) tw_531 (hB.1 11 _ rfl) (by decide) (Nat.le_of_ble_eq_true rfl) (mX4_refuses_ok hB hu2 ?_)
    change ab_WP l G mX4_takes 3 16 [some (.ref 11), some (.int a1)] [.int u2.1] S u2.2 J P 0 0 Q
    obtain ⟨hg, H⟩ := ab_gd_of H
    obtain rfl := Option.some.inj H
    exact ab_zret (by decide +kernel) rfl (Nat.le_refl _) (Nat.le_refl _) hg K0
abbrev mX11_within : ab_M := (yX11_within, cX11_within, 3, some .boolean, 0, 0)
theorem ksX11_within {l : Launch} {G : ab_G} {M : ab_M} {d pc : Nat} {ls : List (Option Value)} {st : List Value} {S : ab_S} {I : ab_I} {J : ab_J} {P : ab_P} {Q : ab_Q} {v0 v1 v2 : Value} {ix D : Nat} (hd : decode M.2.1 pc = .ok (.invokestatic ix, 3)) (h1 : Cond.methodLink M.1.cls ix mX11_within.1 ∈ ab_good) (hdg : D + 1 ≤ d) (hsum : (st.map fun v => v.category).sum ≤ 8) (kk : ab_Call l G mX11_within D [v0, v1, v2] S I J P (fun v S' I' J' P' => ab_WP l G M d (pc + 3) ls (ab_psh v st) S' I' J' P' 0 0 Q)) : ab_WP l G M d pc ls (v2 :: v1 :: v0 :: st) S I J P 0 0 Q := bz_ks (g := mX11_within) (as := [v0, v1, v2]) rfl hd h1 tw_553 tw_1 tw_554 ⟨by decide +kernel, by decide +kernel, (by decide +kernel : (parseMethodDescriptor mX11_within.1.desc).map (fun d => d.parameters.length) = some 3)⟩ (by decide) rfl hdg hsum kk
theorem knX11_within {l : Launch} {G : ab_G} {M : ab_M} {d pc : Nat} {ls : List (Option Value)} {st : List Value} {S : ab_S} {I : ab_I} {J : ab_J} {P : ab_P} {Q : ab_Q} {v0 v1 v2 : Value} {ix D : Nat} {host : String} (hd : decode M.2.1 pc = .ok (.invokestatic ix, 3)) (h1 : Cond.methodLinkNest M.1.cls ix mX11_within.1 host ∈ tables_1) (hdg : D + 1 ≤ d) (hsum : (st.map fun v => v.category).sum ≤ 8) (kk : ab_Call l G mX11_within D [v0, v1, v2] S I J P (fun v S' I' J' P' => ab_WP l G M d (pc + 3) ls (ab_psh v st) S' I' J' P' 0 0 Q)) : ab_WP l G M d pc ls (v2 :: v1 :: v0 :: st) S I J P 0 0 Q := bz_kn (g := mX11_within) (as := [v0, v1, v2]) rfl hd h1 tw_553 tw_1 tw_554 ⟨by decide +kernel, by decide +kernel, (by decide +kernel : (parseMethodDescriptor mX11_within.1.desc).map (fun d => d.parameters.length) = some 3)⟩ (by decide) rfl hdg hsum kk
def fX11_within_15 (a0 : Int32) (a1 : Int32) (a2 : Int32) (s0 : Int32) : Option Int32 :=
  ab_gd (s0 = 0 ∨ s0 = 1) (some s0)
set_option maxRecDepth 100000 in
theorem fX11_within_15_ok {l : Launch} {G : ab_G} {S : ab_S} {I : ab_I} {J : ab_J} {P : ab_P} {Q : ab_Q} {a0 : Int32} {a1 : Int32} {a2 : Int32} {s0 : Int32} (hB : bz_B S P) {x : Int32} (H : fX11_within_15 a0 a1 a2 s0 = some x) (K0 : Q (some (.int x)) S I J P) : ab_WP l G mX11_within 0 15 [some (.int a0), some (.int a1), some (.int a2)] [.int s0] S I J P 0 0 Q := by
  unfold fX11_within_15 at H
  obtain ⟨hg, H⟩ := ab_gd_of H
  obtain rfl := Option.some.inj H
  exact ab_zret (by decide +kernel) rfl (Nat.le_refl _) (Nat.le_refl _) hg K0
def fX11_within_14 (a0 : Int32) (a1 : Int32) (a2 : Int32) : Option Int32 :=
  fX11_within_15 a0 a1 a2 (0 : Int32)
set_option maxRecDepth 100000 in
theorem fX11_within_14_ok {l : Launch} {G : ab_G} {S : ab_S} {I : ab_I} {J : ab_J} {P : ab_P} {Q : ab_Q} {a0 : Int32} {a1 : Int32} {a2 : Int32} (hB : bz_B S P) {x : Int32} (H : fX11_within_14 a0 a1 a2 = some x) (K0 : Q (some (.int x)) S I J P) : ab_WP l G mX11_within 0 14 [some (.int a0), some (.int a1), some (.int a2)] [] S I J P 0 0 Q := by
  unfold fX11_within_14 at H
  refine ab_iconst (z := 0) (v := (0 : Int32)) (by decide +kernel) (by decide) ?_
  exact ab_wk (ab_le_some (ab_le_some (ab_le_some (ab_le_nil)))) (fX11_within_15_ok hB H  K0)
def fX11_within (a0 : Int32) (a1 : Int32) (a2 : Int32) : Option Int32 :=
  if a0 < a1 then
    fX11_within_14 a0 a1 a2
  else
    if a2 < a0 then
      fX11_within_14 a0 a1 a2
    else
      fX11_within_15 a0 a1 a2 (1 : Int32)
set_option maxRecDepth 100000 in
theorem mX11_within_ok {l : Launch} {G : ab_G} {S : ab_S} {I : ab_I} {J : ab_J} {P : ab_P} {Q : ab_Q} {a0 : Int32} {a1 : Int32} {a2 : Int32} (hB : bz_B S P) {x : Int32} (H : fX11_within a0 a1 a2 = some x) (K0 : Q (some (.int x)) S I J P) : ab_Call l G mX11_within 0 [.int a0, .int a1, .int a2] S I J P Q := by
  unfold fX11_within at H
  refine ab_enter rfl (Nat.le_of_ble_eq_true rfl) (ab_wk (ls' := [some (.int a0), some (.int a1), some (.int a2)]) (ab_le_some (ab_le_some (ab_le_some (ab_le_nil)))) ?_)
  refine ab_iload_n (z := 0) (by decide +kernel) rfl rfl ?_
  refine ab_iload_n (z := 1) (by decide +kernel) rfl rfl ?_
  refine ab_icmp_lt (off := 12) (tgt := 14) (by decide +kernel) rfl (fun hc => ?_) (fun hc => ?_)
  · replace H := ab_ifp H hc
    exact ab_wk (ab_le_some (ab_le_some (ab_le_some (ab_le_nil)))) (fX11_within_14_ok hB H  K0)
  · replace H := ab_ifn H hc
    refine ab_iload_n (z := 0) (by decide +kernel) rfl rfl ?_
    refine ab_iload_n (z := 2) (by decide +kernel) rfl rfl ?_
    refine ab_icmp_gt (off := 7) (tgt := 14) (by decide +kernel) rfl (fun hc => ?_) (fun hc => ?_)
    · replace H := ab_ifp H hc
      exact ab_wk (ab_le_some (ab_le_some (ab_le_some (ab_le_nil)))) (fX11_within_14_ok hB H  K0)
    · replace H := ab_ifn H hc
      refine ab_iconst (z := 1) (v := (1 : Int32)) (by decide +kernel) (by decide) ?_
      refine ab_goto (off := 4) (tgt := 15) (by decide +kernel) rfl ?_
      exact ab_wk (ab_le_some (ab_le_some (ab_le_some (ab_le_nil)))) (fX11_within_15_ok hB H  K0)
abbrev mX4_takesNumber : ab_M := (yX4_takesNumber, cX4_takesNumber, 3, some .boolean, 0, 0)
theorem kvX4_takesNumber {l : Launch} {G : ab_G} {M : ab_M} {d pc : Nat} {ls : List (Option Value)} {st : List Value} {S : ab_S} {I : ab_I} {J : ab_J} {P : ab_P} {Q : ab_Q} {v0 v1 : Value} {ix D r ln : Nat} (hd : decode M.2.1 pc = .ok (.invokevirtual ix, 3)) (h1 : Cond.methodLink M.1.cls ix mX4_takesNumber.1 ∈ ab_good) (hs : S[r]? = some (9, ln)) (hdg : D + 1 ≤ d) (hsum : (st.map fun v => v.category).sum ≤ 8) (kk : ab_Call l G mX4_takesNumber D (.ref r :: [v0, v1]) S I J P (fun v S' I' J' P' => ab_WP l G M d (pc + 3) ls (ab_psh v st) S' I' J' P' 0 0 Q)) : ab_WP l G M d pc ls (v1 :: v0 :: .ref r :: st) S I J P 0 0 Q := bz_kv (g := mX4_takesNumber) (as := [v0, v1]) (cc := 4) rfl hd h1 tw_550 tw_p9 tw_5 tw_551 ⟨by decide +kernel, by decide +kernel, (by decide +kernel : (parseMethodDescriptor mX4_takesNumber.1.desc).map (fun d => d.parameters.length) = some 2)⟩ (by decide) rfl rfl rfl hdg hsum hs kk
def fX4_takesNumber (a1 : Int32) (a2 : Int32) (I : ab_I) (J : ab_J) : Option (Int32 × ab_I × ab_J) :=
  if (I 22 2) = (3 : Int32) then
    (fX11_within (I 22 4) a1 a2).bind fun u1 =>
    if u1 = 0 then
      (fX4_refuses (4 : Int32) I).bind fun u3 =>
      ab_gd (u3.1 = 0 ∨ u3.1 = 1) (some (u3.1, u3.2, J))
    else
      (fX8_advance (ab_u I 11 6 (I 22 4)) J).bind fun u2 =>
      some ((1 : Int32), u2.1, u2.2)
  else
    (fX4_refuses (2 : Int32) I).bind fun u4 =>
    ab_gd (u4.1 = 0 ∨ u4.1 = 1) (some (u4.1, u4.2, J))
set_option maxRecDepth 100000 in
theorem mX4_takesNumber_ok {l : Launch} {G : ab_G} {S : ab_S} {I : ab_I} {J : ab_J} {P : ab_P} {Q : ab_Q} {a1 : Int32} {a2 : Int32} (hB : bz_B S P) {x : Int32 × ab_I × ab_J} (H : fX4_takesNumber a1 a2 I J = some x) (K0 : Q (some (.int x.1)) S x.2.1 x.2.2 P) : ab_Call l G mX4_takesNumber 3 [.ref 11, .int a1, .int a2] S I J P Q := by
  unfold fX4_takesNumber at H
  refine ab_enter rfl (Nat.le_of_ble_eq_true rfl) (ab_wk (ls' := [some (.ref 11), some (.int a1), some (.int a2)]) (ab_le_some (ab_le_some (ab_le_some (ab_le_nil)))) ?_)
  refine ab_aload_n (z := 0) (by decide +kernel) rfl rfl ?_
  refine gX4_0 (ix := 50) (by decide +kernel) tw_171 (hB.1 11 _ rfl) (hB.2.1 18 (11, 0, 22) rfl) ?_
  refine gX8_2 (ix := 57) (by decide +kernel) tw_150 (hB.1 22 _ rfl) ?_
  refine ab_iconst (z := 3) (v := (3 : Int32)) (by decide +kernel) (by decide) ?_
  refine ab_icmp_eq (off := 9) (tgt := 17) (by decide +kernel) rfl (fun hc => ?_) (fun hc => ?_)
  · replace H := ab_ifp H hc
    refine ab_aload_n (z := 0) (by decide +kernel) rfl rfl ?_
    refine gX4_0 (ix := 50) (by decide +kernel) tw_171 (hB.1 11 _ rfl) (hB.2.1 18 (11, 0, 22) rfl) ?_
    refine gX8_4 (ix := 166) (by decide +kernel) tw_154 (hB.1 22 _ rfl) ?_
    refine ab_iload_n (z := 1) (by decide +kernel) rfl rfl ?_
    refine ab_iload_n (z := 2) (by decide +kernel) rfl rfl ?_
    obtain ⟨u1, hu1, H⟩ := ab_bd_of H
    refine knX11_within (D := 0) (ix := 169) (host := "BellRingers") (by decide +kernel) tn_552 (by decide) (Nat.le_of_ble_eq_true rfl) (mX11_within_ok hB hu1 ?_)
    change ab_WP l G mX4_takesNumber 3 29 [some (.ref 11), some (.int a1), some (.int a2)] [.int u1] S I J P 0 0 Q
    refine ab_if_ne (off := 9) (tgt := 38) (by decide +kernel) rfl (fun hc => ?_) (fun hc => ?_)
    · replace H := ab_ifn H hc
      refine ab_aload_n (z := 0) (by decide +kernel) rfl rfl ?_
      refine ab_aload_n (z := 0) (by decide +kernel) rfl rfl ?_
      refine gX4_0 (ix := 50) (by decide +kernel) tw_171 (hB.1 11 _ rfl) (hB.2.1 18 (11, 0, 22) rfl) ?_
      refine gX8_4 (ix := 166) (by decide +kernel) tw_154 (hB.1 22 _ rfl) ?_
      refine pX4_6 (ix := 28) (by decide +kernel) tw_177 (hB.1 11 _ rfl) ?_
      refine ab_aload_n (z := 0) (by decide +kernel) rfl rfl ?_
      refine gX4_0 (ix := 50) (by decide +kernel) tw_171 (hB.1 11 _ rfl) (hB.2.1 18 (11, 0, 22) rfl) ?_
      obtain ⟨u2, hu2, H⟩ := ab_bd_of H
      refine kvX8_advance (D := 2) (ix := 93) (by decide +kernel) tw_535 (hB.1 22 _ rfl) (by decide) (Nat.le_of_ble_eq_true rfl) (mX8_advance_ok hB hu2 ?_)
      change ab_WP l G mX4_takesNumber 3 56 [some (.ref 11), some (.int a1), some (.int a2)] [] S u2.1 u2.2 P 0 0 Q
      refine ab_iconst (z := 1) (v := (1 : Int32)) (by decide +kernel) (by decide) ?_
      obtain rfl := Option.some.inj H
      exact ab_zret (by decide +kernel) rfl (Nat.le_refl _) (Nat.le_refl _) (by decide) K0
    · replace H := ab_ifp H hc
      refine ab_aload_n (z := 0) (by decide +kernel) rfl rfl ?_
      refine ab_iconst (z := 4) (v := (4 : Int32)) (by decide +kernel) (by decide) ?_
      obtain ⟨u3, hu3, H⟩ := ab_bd_of H
      refine kvX4_refuses (D := 0) (ix := 79) (by decide +kernel) tw_531 (hB.1 11 _ rfl) (by decide) (Nat.le_of_ble_eq_true rfl) (mX4_refuses_ok hB hu3 ?_)
      change ab_WP l G mX4_takesNumber 3 37 [some (.ref 11), some (.int a1), some (.int a2)] [.int u3.1] S u3.2 J P 0 0 Q
      obtain ⟨hg, H⟩ := ab_gd_of H
      obtain rfl := Option.some.inj H
      exact ab_zret (by decide +kernel) rfl (Nat.le_refl _) (Nat.le_refl _) hg K0
  · replace H := ab_ifn H hc
    refine ab_aload_n (z := 0) (by decide +kernel) rfl rfl ?_
    refine ab_iconst (z := 2) (v := (2 : Int32)) (by decide +kernel) (by decide) ?_
    obtain ⟨u4, hu4, H⟩ := ab_bd_of H
    refine kvX4_refuses (D := 0) (ix := 79) (by decide +kernel) tw_531 (hB.1 11 _ rfl) (by decide) (Nat.le_of_ble_eq_true rfl) (mX4_refuses_ok hB hu4 ?_)
    change ab_WP l G mX4_takesNumber 3 16 [some (.ref 11), some (.int a1), some (.int a2)] [.int u4.1] S u4.2 J P 0 0 Q
    obtain ⟨hg, H⟩ := ab_gd_of H
    obtain rfl := Option.some.inj H
    exact ab_zret (by decide +kernel) rfl (Nat.le_refl _) (Nat.le_refl _) hg K0
abbrev mX4_readsPerson : ab_M := (yX4_readsPerson, cX4_readsPerson, 1, some .boolean, 0, 0)
theorem kvX4_readsPerson {l : Launch} {G : ab_G} {M : ab_M} {d pc : Nat} {ls : List (Option Value)} {st : List Value} {S : ab_S} {I : ab_I} {J : ab_J} {P : ab_P} {Q : ab_Q} {ix D r ln : Nat} (hd : decode M.2.1 pc = .ok (.invokevirtual ix, 3)) (h1 : Cond.methodLink M.1.cls ix mX4_readsPerson.1 ∈ ab_good) (hs : S[r]? = some (9, ln)) (hdg : D + 1 ≤ d) (hsum : (st.map fun v => v.category).sum ≤ 8) (kk : ab_Call l G mX4_readsPerson D (.ref r :: []) S I J P (fun v S' I' J' P' => ab_WP l G M d (pc + 3) ls (ab_psh v st) S' I' J' P' 0 0 Q)) : ab_WP l G M d pc ls (.ref r :: st) S I J P 0 0 Q := bz_kv (g := mX4_readsPerson) (as := []) (cc := 4) rfl hd h1 tw_529 tw_p4 tw_5 tw_530 ⟨by decide +kernel, by decide +kernel, (by decide +kernel : (parseMethodDescriptor mX4_readsPerson.1.desc).map (fun d => d.parameters.length) = some 0)⟩ (by decide) rfl rfl rfl hdg hsum hs kk
def fX4_readsPerson_64 (I : ab_I) (J : ab_J) : Option (Int32 × ab_I × ab_J) :=
  some ((0 : Int32), I, J)
set_option maxRecDepth 100000 in
theorem fX4_readsPerson_64_ok {l : Launch} {G : ab_G} {S : ab_S} {I : ab_I} {J : ab_J} {P : ab_P} {Q : ab_Q} (hB : bz_B S P) {x : Int32 × ab_I × ab_J} (H : fX4_readsPerson_64 I J = some x) (K0 : Q (some (.int x.1)) S x.2.1 x.2.2 P) : ab_WP l G mX4_readsPerson 4 64 [some (.ref 11)] [] S I J P 0 0 Q := by
  unfold fX4_readsPerson_64 at H
  refine ab_iconst (z := 0) (v := (0 : Int32)) (by decide +kernel) (by decide) ?_
  obtain rfl := Option.some.inj H
  exact ab_zret (by decide +kernel) rfl (Nat.le_refl _) (Nat.le_refl _) (by decide) K0
def fX4_readsPerson (I : ab_I) (J : ab_J) : Option (Int32 × ab_I × ab_J) :=
  if (I 14 4) < (6 : Int32) then
    (fX8_advance I J).bind fun u1 =>
    (fX4_takesNewName 12 6 (u1.1 14 4) u1.1 u1.2).bind fun u2 =>
    if u2.1 = 0 then
      fX4_readsPerson_64 u2.2.1 u2.2.2
    else
      (fX4_takes (206 : Int32) u2.2.1 u2.2.2).bind fun u3 =>
      if u3.1 = 0 then
        fX4_readsPerson_64 u3.2.1 u3.2.2
      else
        (fX4_takesNumber (0 : Int32) (999 : Int32) u3.2.1 u3.2.2).bind fun u4 =>
        if u4.1 = 0 then
          fX4_readsPerson_64 u4.2.1 u4.2.2
        else
          ab_gd (ab_ix (u4.2.1 14 4) 6 = true) (
            some ((1 : Int32), (ab_u (ab_u u4.2.1 15 ((u4.2.1 14 4).toNatClampNeg) (u4.2.1 11 6)) 14 4 ((u4.2.1 14 4) + (1 : Int32))), u4.2.2)
          )
  else
    (fX4_refuses (2 : Int32) I).bind fun u5 =>
    ab_gd (u5.1 = 0 ∨ u5.1 = 1) (some (u5.1, u5.2, J))
set_option maxRecDepth 100000 in
theorem mX4_readsPerson_ok {l : Launch} {G : ab_G} {S : ab_S} {I : ab_I} {J : ab_J} {P : ab_P} {Q : ab_Q} (hB : bz_B S P) {x : Int32 × ab_I × ab_J} (H : fX4_readsPerson I J = some x) (K0 : Q (some (.int x.1)) S x.2.1 x.2.2 P) : ab_Call l G mX4_readsPerson 4 [.ref 11] S I J P Q := by
  unfold fX4_readsPerson at H
  refine ab_enter rfl (Nat.le_of_ble_eq_true rfl) (ab_wk (ls' := [some (.ref 11)]) (ab_le_some (ab_le_nil)) ?_)
  refine ab_aload_n (z := 0) (by decide +kernel) rfl rfl ?_
  refine gX4_7 (ix := 35) (by decide +kernel) tw_178 (hB.1 11 _ rfl) (hB.2.1 21 (11, 7, 14) rfl) ?_
  refine gX9_4 (ix := 90) (by decide +kernel) tw_87 (hB.1 14 _ rfl) ?_
  refine ab_bipush (z := 6) (v := (6 : Int32)) (by decide +kernel) (by decide) ?_
  refine ab_icmp_lt (off := 9) (tgt := 18) (by decide +kernel) rfl (fun hc => ?_) (fun hc => ?_)
  · replace H := ab_ifp H hc
    refine ab_aload_n (z := 0) (by decide +kernel) rfl rfl ?_
    refine gX4_0 (ix := 50) (by decide +kernel) tw_171 (hB.1 11 _ rfl) (hB.2.1 18 (11, 0, 22) rfl) ?_
    obtain ⟨u1, hu1, H⟩ := ab_bd_of H
    refine kvX8_advance (D := 2) (ix := 93) (by decide +kernel) tw_535 (hB.1 22 _ rfl) (by decide) (Nat.le_of_ble_eq_true rfl) (mX8_advance_ok hB hu1 ?_)
    change ab_WP l G mX4_readsPerson 4 25 [some (.ref 11)] [] S u1.1 u1.2 P 0 0 Q
    refine ab_aload_n (z := 0) (by decide +kernel) rfl rfl ?_
    refine ab_aload_n (z := 0) (by decide +kernel) rfl rfl ?_
    refine gX4_1 (ix := 9) (by decide +kernel) tw_172 (hB.1 11 _ rfl) (hB.2.1 19 (11, 1, 12) rfl) ?_
    refine ab_aload_n (z := 0) (by decide +kernel) rfl rfl ?_
    refine gX4_7 (ix := 35) (by decide +kernel) tw_178 (hB.1 11 _ rfl) (hB.2.1 21 (11, 7, 14) rfl) ?_
    refine gX9_4 (ix := 90) (by decide +kernel) tw_87 (hB.1 14 _ rfl) ?_
    obtain ⟨u2, hu2, H⟩ := ab_bd_of H
    refine kvX4_takesNewName (D := 3) (ix := 96) (by decide +kernel) tw_536 (hB.1 11 _ rfl) (by decide) (Nat.le_of_ble_eq_true rfl) (mX4_takesNewName_ok hB (hB.1 12 _ rfl) hu2 ?_)
    change ab_WP l G mX4_readsPerson 4 40 [some (.ref 11)] [.int u2.1] S u2.2.1 u2.2.2 P 0 0 Q
    refine ab_if_eq (off := 24) (tgt := 64) (by decide +kernel) rfl (fun hc => ?_) (fun hc => ?_)
    · replace H := ab_ifp H hc
      exact ab_wk (ab_le_some (ab_le_nil)) (fX4_readsPerson_64_ok hB H  K0)
    · replace H := ab_ifn H hc
      refine ab_aload_n (z := 0) (by decide +kernel) rfl rfl ?_
      refine ab_sipush (z := 206) (v := (206 : Int32)) (by decide +kernel) (by decide) ?_
      obtain ⟨u3, hu3, H⟩ := ab_bd_of H
      refine kvX4_takes (D := 3) (ix := 83) (by decide +kernel) tw_544 (hB.1 11 _ rfl) (by decide) (Nat.le_of_ble_eq_true rfl) (mX4_takes_ok hB hu3 ?_)
      change ab_WP l G mX4_readsPerson 4 50 [some (.ref 11)] [.int u3.1] S u3.2.1 u3.2.2 P 0 0 Q
      refine ab_if_eq (off := 14) (tgt := 64) (by decide +kernel) rfl (fun hc => ?_) (fun hc => ?_)
      · replace H := ab_ifp H hc
        exact ab_wk (ab_le_some (ab_le_nil)) (fX4_readsPerson_64_ok hB H  K0)
      · replace H := ab_ifn H hc
        refine ab_aload_n (z := 0) (by decide +kernel) rfl rfl ?_
        refine ab_iconst (z := 0) (v := (0 : Int32)) (by decide +kernel) (by decide) ?_
        refine ab_sipush (z := 999) (v := (999 : Int32)) (by decide +kernel) (by decide) ?_
        obtain ⟨u4, hu4, H⟩ := ab_bd_of H
        refine kvX4_takesNumber (D := 3) (ix := 100) (by decide +kernel) tw_548 (hB.1 11 _ rfl) (by decide) (Nat.le_of_ble_eq_true rfl) (mX4_takesNumber_ok hB hu4 ?_)
        change ab_WP l G mX4_readsPerson 4 61 [some (.ref 11)] [.int u4.1] S u4.2.1 u4.2.2 P 0 0 Q
        refine ab_if_ne (off := 5) (tgt := 66) (by decide +kernel) rfl (fun hc => ?_) (fun hc => ?_)
        · replace H := ab_ifn H hc
          refine ab_aload_n (z := 0) (by decide +kernel) rfl rfl ?_
          refine gX4_7 (ix := 35) (by decide +kernel) tw_178 (hB.1 11 _ rfl) (hB.2.1 21 (11, 7, 14) rfl) ?_
          refine gX9_0 (ix := 104) (by decide +kernel) tw_74 (hB.1 14 _ rfl) (hB.2.1 22 (14, 0, 15) rfl) ?_
          refine ab_aload_n (z := 0) (by decide +kernel) rfl rfl ?_
          refine gX4_7 (ix := 35) (by decide +kernel) tw_178 (hB.1 11 _ rfl) (hB.2.1 21 (11, 7, 14) rfl) ?_
          refine gX9_4 (ix := 90) (by decide +kernel) tw_87 (hB.1 14 _ rfl) ?_
          refine ab_aload_n (z := 0) (by decide +kernel) rfl rfl ?_
          refine gX4_6 (ix := 28) (by decide +kernel) tw_177 (hB.1 11 _ rfl) ?_
          obtain ⟨hg, H⟩ := ab_gd_of H
          refine ab_iast (ln := 6) (by decide +kernel) (hB.1 15 _ rfl) (ab_ix_in hg) ?_
          refine ab_aload_n (z := 0) (by decide +kernel) rfl rfl ?_
          refine gX4_7 (ix := 35) (by decide +kernel) tw_178 (hB.1 11 _ rfl) (hB.2.1 21 (11, 7, 14) rfl) ?_
          refine ab_dup (by decide +kernel) rfl ?_
          refine gX9_4 (ix := 90) (by decide +kernel) tw_87 (hB.1 14 _ rfl) ?_
          refine ab_top (y := (u4.2.1 14 4)) rfl ?_
          refine ab_iconst (z := 1) (v := (1 : Int32)) (by decide +kernel) (by decide) ?_
          refine ab_iadd (by decide +kernel) ?_
          refine pX9_4 (ix := 90) (by decide +kernel) tw_87 (hB.1 14 _ rfl) ?_
          refine ab_iconst (z := 1) (v := (1 : Int32)) (by decide +kernel) (by decide) ?_
          obtain rfl := Option.some.inj H
          exact ab_zret (by decide +kernel) rfl (Nat.le_refl _) (Nat.le_refl _) (by decide) K0
        · replace H := ab_ifp H hc
          exact ab_wk (ab_le_some (ab_le_nil)) (fX4_readsPerson_64_ok hB H  K0)
  · replace H := ab_ifn H hc
    refine ab_aload_n (z := 0) (by decide +kernel) rfl rfl ?_
    refine ab_iconst (z := 2) (v := (2 : Int32)) (by decide +kernel) (by decide) ?_
    obtain ⟨u5, hu5, H⟩ := ab_bd_of H
    refine kvX4_refuses (D := 0) (ix := 79) (by decide +kernel) tw_531 (hB.1 11 _ rfl) (by decide) (Nat.le_of_ble_eq_true rfl) (mX4_refuses_ok hB hu5 ?_)
    change ab_WP l G mX4_readsPerson 4 17 [some (.ref 11)] [.int u5.1] S u5.2 J P 0 0 Q
    obtain ⟨hg, H⟩ := ab_gd_of H
    obtain rfl := Option.some.inj H
    exact ab_zret (by decide +kernel) rfl (Nat.le_refl _) (Nat.le_refl _) hg K0
