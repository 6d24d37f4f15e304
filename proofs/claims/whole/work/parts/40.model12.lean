abbrev mX12_list : ab_M := (yX12_list, cX12_list, 5, some .int, 0, 0)
def fX12_list_89 (I : ab_I) : Option (Int32 × ab_I) :=
  some ((I 73 39), (ab_u I 73 54 (I 73 39)))
set_option maxRecDepth 100000 in
theorem fX12_list_89_ok {l : Launch} {G : ab_G} {S : ab_S} {I : ab_I} {J : ab_J} {P : ab_P} {Q : ab_Q} (hB : bz_B S P) {x : Int32 × ab_I} (H : fX12_list_89 I = some x) (K0 : Q (some (.int x.1)) S x.2 J P) : ab_WP l G mX12_list 0 89 [some (.ref 73), none, none, none, none] [] S I J P 0 0 Q := by
  unfold fX12_list_89 at H
  refine ab_aload_n (z := 0) (by decide +kernel) rfl rfl ?_
  refine ab_aload_n (z := 0) (by decide +kernel) rfl rfl ?_
  refine gX12_39 (ix := 348) (by decide +kernel) tw_1120 (hB.1 73 _ rfl) ?_
  refine pX12_54 (ix := 381) (by decide +kernel) tw_1135 (hB.1 73 _ rfl) ?_
  refine ab_aload_n (z := 0) (by decide +kernel) rfl rfl ?_
  refine gX12_39 (ix := 348) (by decide +kernel) tw_1120 (hB.1 73 _ rfl) ?_
  refine ab_top (y := (I 73 39)) rfl ?_
  obtain rfl := Option.some.inj H
  exact ab_iret (by decide +kernel) rfl (Nat.le_refl _) (Nat.le_refl _) K0
def fX12_list_70 (a1 : Int32) (a2 : Int32) (a3 : Int32) (I : ab_I) : Option ((Int32 × Int32 × ab_I) ⊕ (Int32 × ab_I)) :=
  ab_gd (ab_ix a2 6 = true) (
    some (.inl ((a1 ||| ((1 : Int32) <<< (a3 &&& 31))), (a2 + (1 : Int32)), (ab_u I 93 a2.toNatClampNeg a3)))
  )
set_option maxRecDepth 100000 in
theorem fX12_list_70_ok {l : Launch} {G : ab_G} {S : ab_S} {I : ab_I} {J : ab_J} {P : ab_P} {Q : ab_Q} {a1 : Int32} {a2 : Int32} {a3 : Int32} (hB : bz_B S P) {x : ((Int32 × Int32 × ab_I) ⊕ (Int32 × ab_I))} (H : fX12_list_70 a1 a2 a3 I = some x) (K1 : ∀ s, x = (.inl s) → ab_WP l G mX12_list 0 4 [some (.ref 73), some (.int s.1), some (.int s.2.1), none, none] [] S s.2.2 J P 0 0 Q) (K0 : ∀ r, x = (.inr r) → Q (some (.int r.1)) S r.2 J P) : ab_WP l G mX12_list 0 70 [some (.ref 73), some (.int a1), some (.int a2), some (.int a3), none] [] S I J P 0 0 Q := by
  unfold fX12_list_70 at H
  refine ab_iload_n (z := 1) (by decide +kernel) rfl rfl ?_
  refine ab_iconst (z := 1) (v := (1 : Int32)) (by decide +kernel) (by decide) ?_
  refine ab_iload_n (z := 3) (by decide +kernel) rfl rfl ?_
  refine ab_ishl (by decide +kernel) ?_
  refine ab_ior (by decide +kernel) ?_
  refine ab_istore_n (z := 1) (by decide +kernel) rfl (by decide) rfl ?_
  refine ab_ls (ls' := [some (.ref 73), some (.int (a1 ||| ((1 : Int32) <<< (a3 &&& 31)))), some (.int a2), some (.int a3), none]) rfl ?_
  refine ab_aload_n (z := 0) (by decide +kernel) rfl rfl ?_
  refine gX12_52 (ix := 72) (by decide +kernel) tw_1133 (hB.1 73 _ rfl) (hB.2.1 98 (73, 52, 93) rfl) ?_
  refine ab_iload_n (z := 2) (by decide +kernel) rfl rfl ?_
  refine ab_iload_n (z := 3) (by decide +kernel) rfl rfl ?_
  obtain ⟨hg, H⟩ := ab_gd_of H
  refine ab_iast (ln := 6) (by decide +kernel) (hB.1 93 _ rfl) (ab_ix_in hg) ?_
  refine ab_iinc (i := 2) (z := 1) (v := (a2 + (1 : Int32))) (by decide +kernel) rfl rfl (by decide) rfl ?_
  refine ab_ls (ls' := [some (.ref 73), some (.int (a1 ||| ((1 : Int32) <<< (a3 &&& 31)))), some (.int (a2 + (1 : Int32))), some (.int a3), none]) rfl ?_
  refine ab_goto (off := -82) (tgt := 4) (by decide +kernel) rfl ?_
  exact ab_wk (ab_le_some (ab_le_some (ab_le_some (ab_le_none (ab_le_none (ab_le_nil)))))) (K1 ((a1 ||| ((1 : Int32) <<< (a3 &&& 31))), (a2 + (1 : Int32)), (ab_u I 93 a2.toNatClampNeg a3)) (Option.some.inj H).symm)
def fX12_list_64 (a1 : Int32) (a2 : Int32) (a3 : Int32) (a4 : Int32) (I : ab_I) : Option ((Int32 × Int32 × Int32 × Int32 × ab_I) ⊕ ((Int32 × Int32 × ab_I) ⊕ (Int32 × ab_I))) :=
  some (.inl (a1, a2, a3, (a4 + (1 : Int32)), I))
set_option maxRecDepth 100000 in
theorem fX12_list_64_ok {l : Launch} {G : ab_G} {S : ab_S} {I : ab_I} {J : ab_J} {P : ab_P} {Q : ab_Q} {a1 : Int32} {a2 : Int32} {a3 : Int32} {a4 : Int32} (hB : bz_B S P) {x : ((Int32 × Int32 × Int32 × Int32 × ab_I) ⊕ ((Int32 × Int32 × ab_I) ⊕ (Int32 × ab_I)))} (H : fX12_list_64 a1 a2 a3 a4 I = some x) (K2 : ∀ s, x = (.inl s) → ab_WP l G mX12_list 0 17 [some (.ref 73), some (.int s.1), some (.int s.2.1), some (.int s.2.2.1), some (.int s.2.2.2.1)] [] S s.2.2.2.2 J P 0 0 Q) (K1 : ∀ s, x = (.inr (.inl s)) → ab_WP l G mX12_list 0 4 [some (.ref 73), some (.int s.1), some (.int s.2.1), none, none] [] S s.2.2 J P 0 0 Q) (K0 : ∀ r, x = (.inr (.inr r)) → Q (some (.int r.1)) S r.2 J P) : ab_WP l G mX12_list 0 64 [some (.ref 73), some (.int a1), some (.int a2), some (.int a3), some (.int a4)] [] S I J P 0 0 Q := by
  unfold fX12_list_64 at H
  refine ab_iinc (i := 4) (z := 1) (v := (a4 + (1 : Int32))) (by decide +kernel) rfl rfl (by decide) rfl ?_
  refine ab_ls (ls' := [some (.ref 73), some (.int a1), some (.int a2), some (.int a3), some (.int (a4 + (1 : Int32)))]) rfl ?_
  refine ab_goto (off := -50) (tgt := 17) (by decide +kernel) rfl ?_
  exact ab_wk (ab_le_some (ab_le_some (ab_le_some (ab_le_some (ab_le_some (ab_le_nil)))))) (K2 (a1, a2, a3, (a4 + (1 : Int32)), I) (Option.some.inj H).symm)
def fX12_list_61 (a1 : Int32) (a2 : Int32) (a4 : Int32) (I : ab_I) : Option ((Int32 × Int32 × Int32 × Int32 × ab_I) ⊕ ((Int32 × Int32 × ab_I) ⊕ (Int32 × ab_I))) :=
  fX12_list_64 a1 a2 a4 a4 I
set_option maxRecDepth 100000 in
theorem fX12_list_61_ok {l : Launch} {G : ab_G} {S : ab_S} {I : ab_I} {J : ab_J} {P : ab_P} {Q : ab_Q} {a1 : Int32} {a2 : Int32} {a4 : Int32} (hB : bz_B S P) {x : ((Int32 × Int32 × Int32 × Int32 × ab_I) ⊕ ((Int32 × Int32 × ab_I) ⊕ (Int32 × ab_I)))} (H : fX12_list_61 a1 a2 a4 I = some x) (K2 : ∀ s, x = (.inl s) → ab_WP l G mX12_list 0 17 [some (.ref 73), some (.int s.1), some (.int s.2.1), some (.int s.2.2.1), some (.int s.2.2.2.1)] [] S s.2.2.2.2 J P 0 0 Q) (K1 : ∀ s, x = (.inr (.inl s)) → ab_WP l G mX12_list 0 4 [some (.ref 73), some (.int s.1), some (.int s.2.1), none, none] [] S s.2.2 J P 0 0 Q) (K0 : ∀ r, x = (.inr (.inr r)) → Q (some (.int r.1)) S r.2 J P) : ab_WP l G mX12_list 0 61 [some (.ref 73), some (.int a1), some (.int a2), none, some (.int a4)] [] S I J P 0 0 Q := by
  unfold fX12_list_61 at H
  refine ab_iload (i := 4) (by decide +kernel) rfl ?_
  refine ab_istore_n (z := 3) (by decide +kernel) rfl (by decide) rfl ?_
  refine ab_ls (ls' := [some (.ref 73), some (.int a1), some (.int a2), some (.int a4), some (.int a4)]) rfl ?_
  exact ab_wk (ab_le_some (ab_le_some (ab_le_some (ab_le_some (ab_le_some (ab_le_nil)))))) (fX12_list_64_ok hB H K2 K1 K0)
def fX12_list_17 (a1 : Int32) (a2 : Int32) (a3 : Int32) (a4 : Int32) (I : ab_I) : Option ((Int32 × Int32 × Int32 × Int32 × ab_I) ⊕ ((Int32 × Int32 × ab_I) ⊕ (Int32 × ab_I))) :=
  if (I 73 39) ≤ a4 then
    (fX12_list_70 a1 a2 a3 I).map .inr
  else
    if ((a1 >>> (a4 &&& 31)) &&& (1 : Int32)) = 0 then
      if a3 < 0 then
        fX12_list_61 a1 a2 a4 I
      else
        ab_gd (ab_ix ((6 : Int32) + a4) 45 = true) (
          ab_gd (ab_ix ((6 : Int32) + a3) 45 = true) (
            if (I 89 (((6 : Int32) + a4).toNatClampNeg)) ≤ (I 89 (((6 : Int32) + a3).toNatClampNeg)) then
              fX12_list_64 a1 a2 a3 a4 I
            else
              fX12_list_61 a1 a2 a4 I
          )
        )
    else
      fX12_list_64 a1 a2 a3 a4 I
set_option maxRecDepth 100000 in
theorem fX12_list_17_ok {l : Launch} {G : ab_G} {S : ab_S} {I : ab_I} {J : ab_J} {P : ab_P} {Q : ab_Q} {a1 : Int32} {a2 : Int32} {a3 : Int32} {a4 : Int32} (hB : bz_B S P) {x : ((Int32 × Int32 × Int32 × Int32 × ab_I) ⊕ ((Int32 × Int32 × ab_I) ⊕ (Int32 × ab_I)))} (H : fX12_list_17 a1 a2 a3 a4 I = some x) (K2 : ∀ s, x = (.inl s) → ab_WP l G mX12_list 0 17 [some (.ref 73), some (.int s.1), some (.int s.2.1), some (.int s.2.2.1), some (.int s.2.2.2.1)] [] S s.2.2.2.2 J P 0 0 Q) (K1 : ∀ s, x = (.inr (.inl s)) → ab_WP l G mX12_list 0 4 [some (.ref 73), some (.int s.1), some (.int s.2.1), none, none] [] S s.2.2 J P 0 0 Q) (K0 : ∀ r, x = (.inr (.inr r)) → Q (some (.int r.1)) S r.2 J P) : ab_WP l G mX12_list 0 17 [some (.ref 73), some (.int a1), some (.int a2), some (.int a3), some (.int a4)] [] S I J P 0 0 Q := by
  unfold fX12_list_17 at H
  refine ab_iload (i := 4) (by decide +kernel) rfl ?_
  refine ab_aload_n (z := 0) (by decide +kernel) rfl rfl ?_
  refine gX12_39 (ix := 348) (by decide +kernel) tw_1120 (hB.1 73 _ rfl) ?_
  refine ab_icmp_ge (off := 47) (tgt := 70) (by decide +kernel) rfl (fun hc => ?_) (fun hc => ?_)
  · replace H := ab_ifp H hc
    obtain ⟨y2, Hy, hx⟩ := ab_mp_of H
    subst hx
    replace H := Hy
    exact ab_wk (ab_le_some (ab_le_some (ab_le_some (ab_le_some (ab_le_none (ab_le_nil)))))) (fX12_list_70_ok hB H (fun s e => K1 s (by rw [e])) (fun r e => K0 r (by rw [e])))
  · replace H := ab_ifn H hc
    refine ab_iload_n (z := 1) (by decide +kernel) rfl rfl ?_
    refine ab_iload (i := 4) (by decide +kernel) rfl ?_
    refine ab_ishr (by decide +kernel) ?_
    refine ab_iconst (z := 1) (v := (1 : Int32)) (by decide +kernel) (by decide) ?_
    refine ab_iand (by decide +kernel) ?_
    refine ab_if_ne (off := 32) (tgt := 64) (by decide +kernel) rfl (fun hc => ?_) (fun hc => ?_)
    · replace H := ab_ifn H hc
      exact ab_wk (ab_le_some (ab_le_some (ab_le_some (ab_le_some (ab_le_some (ab_le_nil)))))) (fX12_list_64_ok hB H K2 K1 K0)
    · replace H := ab_ifp H hc
      refine ab_iload_n (z := 3) (by decide +kernel) rfl rfl ?_
      refine ab_if_lt (off := 25) (tgt := 61) (by decide +kernel) rfl (fun hc => ?_) (fun hc => ?_)
      · replace H := ab_ifp H hc
        exact ab_wk (ab_le_some (ab_le_some (ab_le_some (ab_le_none (ab_le_some (ab_le_nil)))))) (fX12_list_61_ok hB H K2 K1 K0)
      · replace H := ab_ifn H hc
        refine ab_aload_n (z := 0) (by decide +kernel) rfl rfl ?_
        refine gX12_46 (ix := 60) (by decide +kernel) tw_1127 (hB.1 73 _ rfl) (hB.2.1 94 (73, 46, 89) rfl) ?_
        refine ab_bipush (z := 6) (v := (6 : Int32)) (by decide +kernel) (by decide) ?_
        refine ab_iload (i := 4) (by decide +kernel) rfl ?_
        refine ab_iadd (by decide +kernel) ?_
        obtain ⟨hg, H⟩ := ab_gd_of H
        refine ab_iald (ln := 45) (by decide +kernel) (hB.1 89 _ rfl) (ab_ix_in hg) ?_
        refine ab_aload_n (z := 0) (by decide +kernel) rfl rfl ?_
        refine gX12_46 (ix := 60) (by decide +kernel) tw_1127 (hB.1 73 _ rfl) (hB.2.1 94 (73, 46, 89) rfl) ?_
        refine ab_bipush (z := 6) (v := (6 : Int32)) (by decide +kernel) (by decide) ?_
        refine ab_iload_n (z := 3) (by decide +kernel) rfl rfl ?_
        refine ab_iadd (by decide +kernel) ?_
        obtain ⟨hg, H⟩ := ab_gd_of H
        refine ab_iald (ln := 45) (by decide +kernel) (hB.1 89 _ rfl) (ab_ix_in hg) ?_
        refine ab_icmp_le (off := 6) (tgt := 64) (by decide +kernel) rfl (fun hc => ?_) (fun hc => ?_)
        · replace H := ab_ifp H hc
          exact ab_wk (ab_le_some (ab_le_some (ab_le_some (ab_le_some (ab_le_some (ab_le_nil)))))) (fX12_list_64_ok hB H K2 K1 K0)
        · replace H := ab_ifn H hc
          exact ab_wk (ab_le_some (ab_le_some (ab_le_some (ab_le_none (ab_le_some (ab_le_nil)))))) (fX12_list_61_ok hB H K2 K1 K0)
def fX12_list_4 (a1 : Int32) (a2 : Int32) (I : ab_I) : Option ((Int32 × Int32 × ab_I) ⊕ (Int32 × ab_I)) :=
  if (I 73 39) ≤ a2 then
    (fX12_list_89 I).map .inr
  else
    ab_it (fun s => fX12_list_17 s.1 s.2.1 s.2.2.1 s.2.2.2.1 s.2.2.2.2) 5000 (a1, a2, (-1 : Int32), (0 : Int32), I)
set_option maxRecDepth 100000 in
theorem fX12_list_4_ok {l : Launch} {G : ab_G} {S : ab_S} {I : ab_I} {J : ab_J} {P : ab_P} {Q : ab_Q} {a1 : Int32} {a2 : Int32} (hB : bz_B S P) {x : ((Int32 × Int32 × ab_I) ⊕ (Int32 × ab_I))} (H : fX12_list_4 a1 a2 I = some x) (K1 : ∀ s, x = (.inl s) → ab_WP l G mX12_list 0 4 [some (.ref 73), some (.int s.1), some (.int s.2.1), none, none] [] S s.2.2 J P 0 0 Q) (K0 : ∀ r, x = (.inr r) → Q (some (.int r.1)) S r.2 J P) : ab_WP l G mX12_list 0 4 [some (.ref 73), some (.int a1), some (.int a2), none, none] [] S I J P 0 0 Q := by
  unfold fX12_list_4 at H
  refine ab_iload_n (z := 2) (by decide +kernel) rfl rfl ?_
  refine ab_aload_n (z := 0) (by decide +kernel) rfl rfl ?_
  refine gX12_39 (ix := 348) (by decide +kernel) tw_1120 (hB.1 73 _ rfl) ?_
  refine ab_icmp_ge (off := 80) (tgt := 89) (by decide +kernel) rfl (fun hc => ?_) (fun hc => ?_)
  · replace H := ab_ifp H hc
    obtain ⟨y1, Hy, hx⟩ := ab_mp_of H
    subst hx
    replace H := Hy
    exact ab_wk (ab_le_some (ab_le_none (ab_le_none (ab_le_none (ab_le_none (ab_le_nil)))))) (fX12_list_89_ok hB H  (K0 _ rfl))
  · replace H := ab_ifn H hc
    refine ab_iconst (z := -1) (v := (-1 : Int32)) (by decide +kernel) (by decide) ?_
    refine ab_istore_n (z := 3) (by decide +kernel) rfl (by decide) rfl ?_
    refine ab_ls (ls' := [some (.ref 73), some (.int a1), some (.int a2), some (.int (-1 : Int32)), none]) rfl ?_
    refine ab_iconst (z := 0) (v := (0 : Int32)) (by decide +kernel) (by decide) ?_
    refine ab_istore (i := 4) (by decide +kernel) (by decide) rfl ?_
    refine ab_ls (ls' := [some (.ref 73), some (.int a1), some (.int a2), some (.int (-1 : Int32)), some (.int (0 : Int32))]) rfl ?_
    exact ab_wk (ab_le_some (ab_le_some (ab_le_some (ab_le_some (ab_le_some (ab_le_nil)))))) (ab_iter (body := (fun s => fX12_list_17 s.1 s.2.1 s.2.2.1 s.2.2.2.1 s.2.2.2.2)) (W := fun s => ab_WP l G mX12_list 0 17 [some (.ref 73), some (.int s.1), some (.int s.2.1), some (.int s.2.2.1), some (.int s.2.2.2.1)] [] S s.2.2.2.2 J P 0 0 Q) (fun s y hb h1 h2 => fX12_list_17_ok hB hb h1 (fun s e => K1 s (h2 _ e).symm) (fun r e => K0 r (h2 _ e).symm)) 5000 (a1, a2, (-1 : Int32), (0 : Int32), I) H)
def fX12_list (I : ab_I) : Option (Int32 × ab_I) :=
  ab_it (fun s => fX12_list_4 s.1 s.2.1 s.2.2) 5000 ((0 : Int32), (0 : Int32), I)
set_option maxRecDepth 100000 in
theorem mX12_list_ok {l : Launch} {G : ab_G} {S : ab_S} {I : ab_I} {J : ab_J} {P : ab_P} {Q : ab_Q} (hB : bz_B S P) {x : Int32 × ab_I} (H : fX12_list I = some x) (K0 : Q (some (.int x.1)) S x.2 J P) : ab_Call l G mX12_list 0 [.ref 73] S I J P Q := by
  unfold fX12_list at H
  refine ab_enter rfl (Nat.le_of_ble_eq_true rfl) (ab_wk (ls' := [some (.ref 73), none, none, none, none]) (ab_le_some (ab_le_non0 (ab_le_non0 (ab_le_non0 (ab_le_non0 ab_le_nil))))) ?_)
  refine ab_iconst (z := 0) (v := (0 : Int32)) (by decide +kernel) (by decide) ?_
  refine ab_istore_n (z := 1) (by decide +kernel) rfl (by decide) rfl ?_
  refine ab_ls (ls' := [some (.ref 73), some (.int (0 : Int32)), none, none, none]) rfl ?_
  refine ab_iconst (z := 0) (v := (0 : Int32)) (by decide +kernel) (by decide) ?_
  refine ab_istore_n (z := 2) (by decide +kernel) rfl (by decide) rfl ?_
  refine ab_ls (ls' := [some (.ref 73), some (.int (0 : Int32)), some (.int (0 : Int32)), none, none]) rfl ?_
  exact ab_wk (ab_le_some (ab_le_some (ab_le_some (ab_le_none (ab_le_none (ab_le_nil)))))) (ab_iter (body := (fun s => fX12_list_4 s.1 s.2.1 s.2.2)) (W := fun s => ab_WP l G mX12_list 0 4 [some (.ref 73), some (.int s.1), some (.int s.2.1), none, none] [] S s.2.2 J P 0 0 Q) (fun s y hb h1 h2 => fX12_list_4_ok hB hb h1 (fun r e => by have e2 := h2 _ e; subst e2; exact K0)) 5000 ((0 : Int32), (0 : Int32), I) H)
abbrev mX12_dreadOf : ab_M := (yX12_dreadOf, cX12_dreadOf, 4, some .int, 0, 0)
theorem kvX12_dreadOf {l : Launch} {G : ab_G} {M : ab_M} {d pc : Nat} {ls : List (Option Value)} {st : List Value} {S : ab_S} {I : ab_I} {J : ab_J} {P : ab_P} {Q : ab_Q} {v0 : Value} {ix D r ln : Nat} (hd : decode M.2.1 pc = .ok (.invokevirtual ix, 3)) (h1 : Cond.methodLink M.1.cls ix mX12_dreadOf.1 ∈ ab_good) (hs : S[r]? = some (17, ln)) (hdg : D + 1 ≤ d) (hsum : (st.map fun v => v.category).sum ≤ 8) (kk : ab_Call l G mX12_dreadOf D (.ref r :: [v0]) S I J P (fun v S' I' J' P' => ab_WP l G M d (pc + 3) ls (ab_psh v st) S' I' J' P' 0 0 Q)) : ab_WP l G M d pc ls (v0 :: .ref r :: st) S I J P 0 0 Q := bz_kv (g := mX12_dreadOf) (as := [v0]) (cc := 12) rfl hd h1 tw_1700 tw_p86 tw_13 tw_1701 ⟨by decide +kernel, by decide +kernel, (by decide +kernel : (parseMethodDescriptor mX12_dreadOf.1.desc).map (fun d => d.parameters.length) = some 1)⟩ (by decide) rfl rfl rfl hdg hsum hs kk
def fX12_dreadOf_46 (a1 : Int32) (I : ab_I) (a2 : Int32) : Option Int32 :=
  some a2
set_option maxRecDepth 100000 in
theorem fX12_dreadOf_46_ok {l : Launch} {G : ab_G} {S : ab_S} {I : ab_I} {J : ab_J} {P : ab_P} {Q : ab_Q} {a1 : Int32} {a2 : Int32} (hB : bz_B S P) {x : Int32} (H : fX12_dreadOf_46 a1 I a2 = some x) (K0 : Q (some (.int x)) S I J P) : ab_WP l G mX12_dreadOf 1 46 [some (.ref 73), some (.int a1), some (.int a2), none] [] S I J P 0 0 Q := by
  unfold fX12_dreadOf_46 at H
  refine ab_iload_n (z := 2) (by decide +kernel) rfl rfl ?_
  obtain rfl := Option.some.inj H
  exact ab_iret (by decide +kernel) rfl (Nat.le_refl _) (Nat.le_refl _) K0
def fX12_dreadOf_38 (a1 : Int32) (I : ab_I) (a3 : Int32) (s0 : Int32) (s1 : Int32) : Option ((Int32 × Int32) ⊕ Int32) :=
  some (.inl ((s0 + s1), (a3 + (1 : Int32))))
set_option maxRecDepth 100000 in
theorem fX12_dreadOf_38_ok {l : Launch} {G : ab_G} {S : ab_S} {I : ab_I} {J : ab_J} {P : ab_P} {Q : ab_Q} {a1 : Int32} {a3 : Int32} {s0 : Int32} {s1 : Int32} (hB : bz_B S P) {x : ((Int32 × Int32) ⊕ Int32)} (H : fX12_dreadOf_38 a1 I a3 s0 s1 = some x) (K1 : ∀ s, x = (.inl s) → ab_WP l G mX12_dreadOf 1 4 [some (.ref 73), some (.int a1), some (.int s.1), some (.int s.2)] [] S I J P 0 0 Q) (K0 : ∀ r, x = (.inr r) → Q (some (.int r)) S I J P) : ab_WP l G mX12_dreadOf 1 38 [some (.ref 73), some (.int a1), none, some (.int a3)] [.int s1, .int s0] S I J P 0 0 Q := by
  unfold fX12_dreadOf_38 at H
  refine ab_iadd (by decide +kernel) ?_
  refine ab_istore_n (z := 2) (by decide +kernel) rfl (by decide) rfl ?_
  refine ab_ls (ls' := [some (.ref 73), some (.int a1), some (.int (s0 + s1)), some (.int a3)]) rfl ?_
  refine ab_iinc (i := 3) (z := 1) (v := (a3 + (1 : Int32))) (by decide +kernel) rfl rfl (by decide) rfl ?_
  refine ab_ls (ls' := [some (.ref 73), some (.int a1), some (.int (s0 + s1)), some (.int (a3 + (1 : Int32)))]) rfl ?_
  refine ab_goto (off := -39) (tgt := 4) (by decide +kernel) rfl ?_
  exact ab_wk (ab_le_some (ab_le_some (ab_le_some (ab_le_some (ab_le_nil))))) (K1 ((s0 + s1), (a3 + (1 : Int32))) (Option.some.inj H).symm)
def fX12_dreadOf_4 (a1 : Int32) (I : ab_I) (a2 : Int32) (a3 : Int32) : Option ((Int32 × Int32) ⊕ Int32) :=
  if (I 73 39) ≤ a3 then
    (fX12_dreadOf_46 a1 I a2).map .inr
  else
    (fX12_isHere a3 I).bind fun u2 =>
    if u2 = 0 then
      fX12_dreadOf_38 a1 I a3 a2 (0 : Int32)
    else
      ab_gd (ab_ix (((13 : Int32) + ((5 : Int32) * a3)) + a1) 45 = true) (
        fX12_dreadOf_38 a1 I a3 a2 (I 90 ((((13 : Int32) + ((5 : Int32) * a3)) + a1).toNatClampNeg))
      )
set_option maxRecDepth 100000 in
theorem fX12_dreadOf_4_ok {l : Launch} {G : ab_G} {S : ab_S} {I : ab_I} {J : ab_J} {P : ab_P} {Q : ab_Q} {a1 : Int32} {a2 : Int32} {a3 : Int32} (hB : bz_B S P) {x : ((Int32 × Int32) ⊕ Int32)} (H : fX12_dreadOf_4 a1 I a2 a3 = some x) (K1 : ∀ s, x = (.inl s) → ab_WP l G mX12_dreadOf 1 4 [some (.ref 73), some (.int a1), some (.int s.1), some (.int s.2)] [] S I J P 0 0 Q) (K0 : ∀ r, x = (.inr r) → Q (some (.int r)) S I J P) : ab_WP l G mX12_dreadOf 1 4 [some (.ref 73), some (.int a1), some (.int a2), some (.int a3)] [] S I J P 0 0 Q := by
  unfold fX12_dreadOf_4 at H
  refine ab_iload_n (z := 3) (by decide +kernel) rfl rfl ?_
  refine ab_aload_n (z := 0) (by decide +kernel) rfl rfl ?_
  refine gX12_39 (ix := 348) (by decide +kernel) tw_1120 (hB.1 73 _ rfl) ?_
  refine ab_icmp_ge (off := 37) (tgt := 46) (by decide +kernel) rfl (fun hc => ?_) (fun hc => ?_)
  · replace H := ab_ifp H hc
    obtain ⟨y1, Hy, hx⟩ := ab_mp_of H
    subst hx
    replace H := Hy
    exact ab_wk (ab_le_some (ab_le_some (ab_le_some (ab_le_none (ab_le_nil))))) (fX12_dreadOf_46_ok hB H  (K0 _ rfl))
  · replace H := ab_ifn H hc
    refine ab_iload_n (z := 2) (by decide +kernel) rfl rfl ?_
    refine ab_aload_n (z := 0) (by decide +kernel) rfl rfl ?_
    refine ab_iload_n (z := 3) (by decide +kernel) rfl rfl ?_
    obtain ⟨u2, hu2, H⟩ := ab_bd_of H
    refine kvX12_isHere (D := 0) (ix := 388) (by decide +kernel) tw_1481 (hB.1 73 _ rfl) (by decide) (Nat.le_of_ble_eq_true rfl) (mX12_isHere_ok hB hu2 ?_)
    change ab_WP l G mX12_dreadOf 1 18 [some (.ref 73), some (.int a1), some (.int a2), some (.int a3)] [.int u2, .int a2] S I J P 0 0 Q
    refine ab_if_eq (off := 19) (tgt := 37) (by decide +kernel) rfl (fun hc => ?_) (fun hc => ?_)
    · replace H := ab_ifp H hc
      refine ab_iconst (z := 0) (v := (0 : Int32)) (by decide +kernel) (by decide) ?_
      exact ab_wk (ab_le_some (ab_le_some (ab_le_none (ab_le_some (ab_le_nil))))) (fX12_dreadOf_38_ok hB H K1 K0)
    · replace H := ab_ifn H hc
      refine ab_aload_n (z := 0) (by decide +kernel) rfl rfl ?_
      refine gX12_47 (ix := 63) (by decide +kernel) tw_1128 (hB.1 73 _ rfl) (hB.2.1 95 (73, 47, 90) rfl) ?_
      refine ab_bipush (z := 13) (v := (13 : Int32)) (by decide +kernel) (by decide) ?_
      refine ab_iconst (z := 5) (v := (5 : Int32)) (by decide +kernel) (by decide) ?_
      refine ab_iload_n (z := 3) (by decide +kernel) rfl rfl ?_
      refine ab_imul (by decide +kernel) ?_
      refine ab_iadd (by decide +kernel) ?_
      refine ab_iload_n (z := 1) (by decide +kernel) rfl rfl ?_
      refine ab_iadd (by decide +kernel) ?_
      obtain ⟨hg, H⟩ := ab_gd_of H
      refine ab_iald (ln := 45) (by decide +kernel) (hB.1 90 _ rfl) (ab_ix_in hg) ?_
      refine ab_goto (off := 4) (tgt := 38) (by decide +kernel) rfl ?_
      exact ab_wk (ab_le_some (ab_le_some (ab_le_none (ab_le_some (ab_le_nil))))) (fX12_dreadOf_38_ok hB H K1 K0)
def fX12_dreadOf (a1 : Int32) (I : ab_I) : Option Int32 :=
  ab_it (fun s => fX12_dreadOf_4 a1 I s.1 s.2) 5000 ((0 : Int32), (0 : Int32))
set_option maxRecDepth 100000 in
theorem mX12_dreadOf_ok {l : Launch} {G : ab_G} {S : ab_S} {I : ab_I} {J : ab_J} {P : ab_P} {Q : ab_Q} {a1 : Int32} (hB : bz_B S P) {x : Int32} (H : fX12_dreadOf a1 I = some x) (K0 : Q (some (.int x)) S I J P) : ab_Call l G mX12_dreadOf 1 [.ref 73, .int a1] S I J P Q := by
  unfold fX12_dreadOf at H
  refine ab_enter rfl (Nat.le_of_ble_eq_true rfl) (ab_wk (ls' := [some (.ref 73), some (.int a1), none, none]) (ab_le_some (ab_le_some (ab_le_non0 (ab_le_non0 ab_le_nil)))) ?_)
  refine ab_iconst (z := 0) (v := (0 : Int32)) (by decide +kernel) (by decide) ?_
  refine ab_istore_n (z := 2) (by decide +kernel) rfl (by decide) rfl ?_
  refine ab_ls (ls' := [some (.ref 73), some (.int a1), some (.int (0 : Int32)), none]) rfl ?_
  refine ab_iconst (z := 0) (v := (0 : Int32)) (by decide +kernel) (by decide) ?_
  refine ab_istore_n (z := 3) (by decide +kernel) rfl (by decide) rfl ?_
  refine ab_ls (ls' := [some (.ref 73), some (.int a1), some (.int (0 : Int32)), some (.int (0 : Int32))]) rfl ?_
  exact ab_wk (ab_le_some (ab_le_some (ab_le_some (ab_le_some (ab_le_nil))))) (ab_iter (body := (fun s => fX12_dreadOf_4 a1 I s.1 s.2)) (W := fun s => ab_WP l G mX12_dreadOf 1 4 [some (.ref 73), some (.int a1), some (.int s.1), some (.int s.2)] [] S I J P 0 0 Q) (fun s y hb h1 h2 => fX12_dreadOf_4_ok hB hb h1 (fun r e => by have e2 := h2 _ e; subst e2; exact K0)) 5000 ((0 : Int32), (0 : Int32)) H)
abbrev mX12_dreaded : ab_M := (yX12_dreaded, cX12_dreaded, 3, some .int, 0, 0)
def fX12_dreaded_41 (a1 : Int32) (I : ab_I) : Option (Int32 × ab_I) :=
  some (a1, I)
set_option maxRecDepth 100000 in
theorem fX12_dreaded_41_ok {l : Launch} {G : ab_G} {S : ab_S} {I : ab_I} {J : ab_J} {P : ab_P} {Q : ab_Q} {a1 : Int32} (hB : bz_B S P) {x : Int32 × ab_I} (H : fX12_dreaded_41 a1 I = some x) (K0 : Q (some (.int x.1)) S x.2 J P) : ab_WP l G mX12_dreaded 2 41 [some (.ref 73), some (.int a1), none] [] S I J P 0 0 Q := by
  unfold fX12_dreaded_41 at H
  refine ab_iload_n (z := 1) (by decide +kernel) rfl rfl ?_
  obtain rfl := Option.some.inj H
  exact ab_iret (by decide +kernel) rfl (Nat.le_refl _) (Nat.le_refl _) K0
def fX12_dreaded_35 (a1 : Int32) (a2 : Int32) (I : ab_I) : Option ((Int32 × Int32 × ab_I) ⊕ (Int32 × ab_I)) :=
  some (.inl (a1, (a2 + (1 : Int32)), I))
set_option maxRecDepth 100000 in
theorem fX12_dreaded_35_ok {l : Launch} {G : ab_G} {S : ab_S} {I : ab_I} {J : ab_J} {P : ab_P} {Q : ab_Q} {a1 : Int32} {a2 : Int32} (hB : bz_B S P) {x : ((Int32 × Int32 × ab_I) ⊕ (Int32 × ab_I))} (H : fX12_dreaded_35 a1 a2 I = some x) (K1 : ∀ s, x = (.inl s) → ab_WP l G mX12_dreaded 2 8 [some (.ref 73), some (.int s.1), some (.int s.2.1)] [] S s.2.2 J P 0 0 Q) (K0 : ∀ r, x = (.inr r) → Q (some (.int r.1)) S r.2 J P) : ab_WP l G mX12_dreaded 2 35 [some (.ref 73), some (.int a1), some (.int a2)] [] S I J P 0 0 Q := by
  unfold fX12_dreaded_35 at H
  refine ab_iinc (i := 2) (z := 1) (v := (a2 + (1 : Int32))) (by decide +kernel) rfl rfl (by decide) rfl ?_
  refine ab_ls (ls' := [some (.ref 73), some (.int a1), some (.int (a2 + (1 : Int32)))]) rfl ?_
  refine ab_goto (off := -30) (tgt := 8) (by decide +kernel) rfl ?_
  exact ab_wk (ab_le_some (ab_le_some (ab_le_some (ab_le_nil)))) (K1 (a1, (a2 + (1 : Int32)), I) (Option.some.inj H).symm)
def fX12_dreaded_33 (a2 : Int32) (I : ab_I) : Option ((Int32 × Int32 × ab_I) ⊕ (Int32 × ab_I)) :=
  fX12_dreaded_35 a2 a2 I
set_option maxRecDepth 100000 in
theorem fX12_dreaded_33_ok {l : Launch} {G : ab_G} {S : ab_S} {I : ab_I} {J : ab_J} {P : ab_P} {Q : ab_Q} {a2 : Int32} (hB : bz_B S P) {x : ((Int32 × Int32 × ab_I) ⊕ (Int32 × ab_I))} (H : fX12_dreaded_33 a2 I = some x) (K1 : ∀ s, x = (.inl s) → ab_WP l G mX12_dreaded 2 8 [some (.ref 73), some (.int s.1), some (.int s.2.1)] [] S s.2.2 J P 0 0 Q) (K0 : ∀ r, x = (.inr r) → Q (some (.int r.1)) S r.2 J P) : ab_WP l G mX12_dreaded 2 33 [some (.ref 73), none, some (.int a2)] [] S I J P 0 0 Q := by
  unfold fX12_dreaded_33 at H
  refine ab_iload_n (z := 2) (by decide +kernel) rfl rfl ?_
  refine ab_istore_n (z := 1) (by decide +kernel) rfl (by decide) rfl ?_
  refine ab_ls (ls' := [some (.ref 73), some (.int a2), some (.int a2)]) rfl ?_
  exact ab_wk (ab_le_some (ab_le_some (ab_le_some (ab_le_nil)))) (fX12_dreaded_35_ok hB H K1 K0)
def fX12_dreaded_8 (a1 : Int32) (a2 : Int32) (I : ab_I) : Option ((Int32 × Int32 × ab_I) ⊕ (Int32 × ab_I)) :=
  if (I 73 40) ≤ a2 then
    (fX12_dreaded_41 a1 I).map .inr
  else
    if a1 < 0 then
      fX12_dreaded_33 a2 I
    else
      (fX12_dreadOf a2 I).bind fun u3 =>
      (fX12_dreadOf a1 I).bind fun u4 =>
      if u3 ≤ u4 then
        fX12_dreaded_35 a1 a2 I
      else
        fX12_dreaded_33 a2 I
set_option maxRecDepth 100000 in
theorem fX12_dreaded_8_ok {l : Launch} {G : ab_G} {S : ab_S} {I : ab_I} {J : ab_J} {P : ab_P} {Q : ab_Q} {a1 : Int32} {a2 : Int32} (hB : bz_B S P) {x : ((Int32 × Int32 × ab_I) ⊕ (Int32 × ab_I))} (H : fX12_dreaded_8 a1 a2 I = some x) (K1 : ∀ s, x = (.inl s) → ab_WP l G mX12_dreaded 2 8 [some (.ref 73), some (.int s.1), some (.int s.2.1)] [] S s.2.2 J P 0 0 Q) (K0 : ∀ r, x = (.inr r) → Q (some (.int r.1)) S r.2 J P) : ab_WP l G mX12_dreaded 2 8 [some (.ref 73), some (.int a1), some (.int a2)] [] S I J P 0 0 Q := by
  unfold fX12_dreaded_8 at H
  refine ab_iload_n (z := 2) (by decide +kernel) rfl rfl ?_
  refine ab_aload_n (z := 0) (by decide +kernel) rfl rfl ?_
  refine gX12_40 (ix := 351) (by decide +kernel) tw_1121 (hB.1 73 _ rfl) ?_
  refine ab_icmp_ge (off := 28) (tgt := 41) (by decide +kernel) rfl (fun hc => ?_) (fun hc => ?_)
  · replace H := ab_ifp H hc
    obtain ⟨y2, Hy, hx⟩ := ab_mp_of H
    subst hx
    replace H := Hy
    exact ab_wk (ab_le_some (ab_le_some (ab_le_none (ab_le_nil)))) (fX12_dreaded_41_ok hB H  (K0 _ rfl))
  · replace H := ab_ifn H hc
    refine ab_iload_n (z := 1) (by decide +kernel) rfl rfl ?_
    refine ab_if_lt (off := 16) (tgt := 33) (by decide +kernel) rfl (fun hc => ?_) (fun hc => ?_)
    · replace H := ab_ifp H hc
      exact ab_wk (ab_le_some (ab_le_none (ab_le_some (ab_le_nil)))) (fX12_dreaded_33_ok hB H K1 K0)
    · replace H := ab_ifn H hc
      refine ab_aload_n (z := 0) (by decide +kernel) rfl rfl ?_
      refine ab_iload_n (z := 2) (by decide +kernel) rfl rfl ?_
      obtain ⟨u3, hu3, H⟩ := ab_bd_of H
      refine kvX12_dreadOf (D := 1) (ix := 470) (by decide +kernel) tw_1698 (hB.1 73 _ rfl) (by decide) (Nat.le_of_ble_eq_true rfl) (mX12_dreadOf_ok hB hu3 ?_)
      change ab_WP l G mX12_dreaded 2 25 [some (.ref 73), some (.int a1), some (.int a2)] [.int u3] S I J P 0 0 Q
      refine ab_aload_n (z := 0) (by decide +kernel) rfl rfl ?_
      refine ab_iload_n (z := 1) (by decide +kernel) rfl rfl ?_
      obtain ⟨u4, hu4, H⟩ := ab_bd_of H
      refine kvX12_dreadOf (D := 1) (ix := 470) (by decide +kernel) tw_1698 (hB.1 73 _ rfl) (by decide) (Nat.le_of_ble_eq_true rfl) (mX12_dreadOf_ok hB hu4 ?_)
      change ab_WP l G mX12_dreaded 2 30 [some (.ref 73), some (.int a1), some (.int a2)] [.int u4, .int u3] S I J P 0 0 Q
      refine ab_icmp_le (off := 5) (tgt := 35) (by decide +kernel) rfl (fun hc => ?_) (fun hc => ?_)
      · replace H := ab_ifp H hc
        exact ab_wk (ab_le_some (ab_le_some (ab_le_some (ab_le_nil)))) (fX12_dreaded_35_ok hB H K1 K0)
      · replace H := ab_ifn H hc
        exact ab_wk (ab_le_some (ab_le_none (ab_le_some (ab_le_nil)))) (fX12_dreaded_33_ok hB H K1 K0)
def fX12_dreaded (I : ab_I) : Option (Int32 × ab_I) :=
  (fX12_fill I).bind fun u1 =>
  ab_it (fun s => fX12_dreaded_8 s.1 s.2.1 s.2.2) 5000 ((-1 : Int32), (0 : Int32), u1)
set_option maxRecDepth 100000 in
theorem mX12_dreaded_ok {l : Launch} {G : ab_G} {S : ab_S} {I : ab_I} {J : ab_J} {P : ab_P} {Q : ab_Q} (hB : bz_B S P) {x : Int32 × ab_I} (H : fX12_dreaded I = some x) (K0 : Q (some (.int x.1)) S x.2 J P) : ab_Call l G mX12_dreaded 2 [.ref 73] S I J P Q := by
  unfold fX12_dreaded at H
  refine ab_enter rfl (Nat.le_of_ble_eq_true rfl) (ab_wk (ls' := [some (.ref 73), none, none]) (ab_le_some (ab_le_non0 (ab_le_non0 ab_le_nil))) ?_)
  refine ab_aload_n (z := 0) (by decide +kernel) rfl rfl ?_
  obtain ⟨u1, hu1, H⟩ := ab_bd_of H
  refine kvX12_fill (D := 0) (ix := 411) (by decide +kernel) tw_1477 (hB.1 73 _ rfl) (by decide) (Nat.le_of_ble_eq_true rfl) (mX12_fill_ok hB hu1 ?_)
  change ab_WP l G mX12_dreaded 2 4 [some (.ref 73), none, none] [] S u1 J P 0 0 Q
  refine ab_iconst (z := -1) (v := (-1 : Int32)) (by decide +kernel) (by decide) ?_
  refine ab_istore_n (z := 1) (by decide +kernel) rfl (by decide) rfl ?_
  refine ab_ls (ls' := [some (.ref 73), some (.int (-1 : Int32)), none]) rfl ?_
  refine ab_iconst (z := 0) (v := (0 : Int32)) (by decide +kernel) (by decide) ?_
  refine ab_istore_n (z := 2) (by decide +kernel) rfl (by decide) rfl ?_
  refine ab_ls (ls' := [some (.ref 73), some (.int (-1 : Int32)), some (.int (0 : Int32))]) rfl ?_
  exact ab_wk (ab_le_some (ab_le_some (ab_le_some (ab_le_nil)))) (ab_iter (body := (fun s => fX12_dreaded_8 s.1 s.2.1 s.2.2)) (W := fun s => ab_WP l G mX12_dreaded 2 8 [some (.ref 73), some (.int s.1), some (.int s.2.1)] [] S s.2.2 J P 0 0 Q) (fun s y hb h1 h2 => fX12_dreaded_8_ok hB hb h1 (fun r e => by have e2 := h2 _ e; subst e2; exact K0)) 5000 ((-1 : Int32), (0 : Int32), u1) H)
abbrev mX12_untouched : ab_M := (yX12_untouched, cX12_untouched, 3, some .int, 0, 0)
def fX12_untouched_43 (a1 : Int32) (I : ab_I) : Option (Int32 × ab_I) :=
  some (a1, I)
set_option maxRecDepth 100000 in
theorem fX12_untouched_43_ok {l : Launch} {G : ab_G} {S : ab_S} {I : ab_I} {J : ab_J} {P : ab_P} {Q : ab_Q} {a1 : Int32} (hB : bz_B S P) {x : Int32 × ab_I} (H : fX12_untouched_43 a1 I = some x) (K0 : Q (some (.int x.1)) S x.2 J P) : ab_WP l G mX12_untouched 2 43 [some (.ref 73), some (.int a1), none] [] S I J P 0 0 Q := by
  unfold fX12_untouched_43 at H
  refine ab_iload_n (z := 1) (by decide +kernel) rfl rfl ?_
  obtain rfl := Option.some.inj H
  exact ab_iret (by decide +kernel) rfl (Nat.le_refl _) (Nat.le_refl _) K0
def fX12_untouched_30 (a2 : Int32) (s0 : Int32) (s1 : Int32) (I : ab_I) : Option ((Int32 × Int32 × ab_I) ⊕ (Int32 × ab_I)) :=
  (fX12_truth s1).bind fun u4 =>
  some (.inl ((s0 ||| (u4 <<< (a2 &&& 31))), (a2 + (1 : Int32)), I))
set_option maxRecDepth 100000 in
theorem fX12_untouched_30_ok {l : Launch} {G : ab_G} {S : ab_S} {I : ab_I} {J : ab_J} {P : ab_P} {Q : ab_Q} {a2 : Int32} {s0 : Int32} {s1 : Int32} (hB : bz_B S P) {x : ((Int32 × Int32 × ab_I) ⊕ (Int32 × ab_I))} (H : fX12_untouched_30 a2 s0 s1 I = some x) (K1 : ∀ s, x = (.inl s) → ab_WP l G mX12_untouched 2 8 [some (.ref 73), some (.int s.1), some (.int s.2.1)] [] S s.2.2 J P 0 0 Q) (K0 : ∀ r, x = (.inr r) → Q (some (.int r.1)) S r.2 J P) : ab_WP l G mX12_untouched 2 30 [some (.ref 73), none, some (.int a2)] [.int s1, .int s0] S I J P 0 0 Q := by
  unfold fX12_untouched_30 at H
  obtain ⟨u4, hu4, H⟩ := ab_bd_of H
  refine ksX12_truth (D := 0) (ix := 279) (by decide +kernel) tw_1485 (by decide) (Nat.le_of_ble_eq_true rfl) (mX12_truth_ok hB hu4 ?_)
  change ab_WP l G mX12_untouched 2 33 [some (.ref 73), none, some (.int a2)] [.int u4, .int s0] S I J P 0 0 Q
  refine ab_iload_n (z := 2) (by decide +kernel) rfl rfl ?_
  refine ab_ishl (by decide +kernel) ?_
  refine ab_ior (by decide +kernel) ?_
  refine ab_istore_n (z := 1) (by decide +kernel) rfl (by decide) rfl ?_
  refine ab_ls (ls' := [some (.ref 73), some (.int (s0 ||| (u4 <<< (a2 &&& 31)))), some (.int a2)]) rfl ?_
  refine ab_iinc (i := 2) (z := 1) (v := (a2 + (1 : Int32))) (by decide +kernel) rfl rfl (by decide) rfl ?_
  refine ab_ls (ls' := [some (.ref 73), some (.int (s0 ||| (u4 <<< (a2 &&& 31)))), some (.int (a2 + (1 : Int32)))]) rfl ?_
  refine ab_goto (off := -32) (tgt := 8) (by decide +kernel) rfl ?_
  exact ab_wk (ab_le_some (ab_le_some (ab_le_some (ab_le_nil)))) (K1 ((s0 ||| (u4 <<< (a2 &&& 31))), (a2 + (1 : Int32)), I) (Option.some.inj H).symm)
def fX12_untouched_8 (a1 : Int32) (a2 : Int32) (I : ab_I) : Option ((Int32 × Int32 × ab_I) ⊕ (Int32 × ab_I)) :=
  if (I 73 39) ≤ a2 then
    (fX12_untouched_43 a1 I).map .inr
  else
    (fX12_losing a2 I).bind fun u3 =>
    if u3 = 0 then
      fX12_untouched_30 a2 a1 (1 : Int32) I
    else
      fX12_untouched_30 a2 a1 (0 : Int32) I
set_option maxRecDepth 100000 in
theorem fX12_untouched_8_ok {l : Launch} {G : ab_G} {S : ab_S} {I : ab_I} {J : ab_J} {P : ab_P} {Q : ab_Q} {a1 : Int32} {a2 : Int32} (hB : bz_B S P) {x : ((Int32 × Int32 × ab_I) ⊕ (Int32 × ab_I))} (H : fX12_untouched_8 a1 a2 I = some x) (K1 : ∀ s, x = (.inl s) → ab_WP l G mX12_untouched 2 8 [some (.ref 73), some (.int s.1), some (.int s.2.1)] [] S s.2.2 J P 0 0 Q) (K0 : ∀ r, x = (.inr r) → Q (some (.int r.1)) S r.2 J P) : ab_WP l G mX12_untouched 2 8 [some (.ref 73), some (.int a1), some (.int a2)] [] S I J P 0 0 Q := by
  unfold fX12_untouched_8 at H
  refine ab_iload_n (z := 2) (by decide +kernel) rfl rfl ?_
  refine ab_aload_n (z := 0) (by decide +kernel) rfl rfl ?_
  refine gX12_39 (ix := 348) (by decide +kernel) tw_1120 (hB.1 73 _ rfl) ?_
  refine ab_icmp_ge (off := 30) (tgt := 43) (by decide +kernel) rfl (fun hc => ?_) (fun hc => ?_)
  · replace H := ab_ifp H hc
    obtain ⟨y2, Hy, hx⟩ := ab_mp_of H
    subst hx
    replace H := Hy
    exact ab_wk (ab_le_some (ab_le_some (ab_le_none (ab_le_nil)))) (fX12_untouched_43_ok hB H  (K0 _ rfl))
  · replace H := ab_ifn H hc
    refine ab_iload_n (z := 1) (by decide +kernel) rfl rfl ?_
    refine ab_aload_n (z := 0) (by decide +kernel) rfl rfl ?_
    refine ab_iload_n (z := 2) (by decide +kernel) rfl rfl ?_
    obtain ⟨u3, hu3, H⟩ := ab_bd_of H
    refine kvX12_losing (D := 1) (ix := 414) (by decide +kernel) tw_1488 (hB.1 73 _ rfl) (by decide) (Nat.le_of_ble_eq_true rfl) (mX12_losing_ok hB hu3 ?_)
    change ab_WP l G mX12_untouched 2 22 [some (.ref 73), some (.int a1), some (.int a2)] [.int u3, .int a1] S I J P 0 0 Q
    refine ab_if_ne (off := 7) (tgt := 29) (by decide +kernel) rfl (fun hc => ?_) (fun hc => ?_)
    · replace H := ab_ifn H hc
      refine ab_iconst (z := 0) (v := (0 : Int32)) (by decide +kernel) (by decide) ?_
      exact ab_wk (ab_le_some (ab_le_none (ab_le_some (ab_le_nil)))) (fX12_untouched_30_ok hB H K1 K0)
    · replace H := ab_ifp H hc
      refine ab_iconst (z := 1) (v := (1 : Int32)) (by decide +kernel) (by decide) ?_
      refine ab_goto (off := 4) (tgt := 30) (by decide +kernel) rfl ?_
      exact ab_wk (ab_le_some (ab_le_none (ab_le_some (ab_le_nil)))) (fX12_untouched_30_ok hB H K1 K0)
def fX12_untouched (I : ab_I) : Option (Int32 × ab_I) :=
  (fX12_fill I).bind fun u1 =>
  ab_it (fun s => fX12_untouched_8 s.1 s.2.1 s.2.2) 5000 ((0 : Int32), (0 : Int32), u1)
set_option maxRecDepth 100000 in
theorem mX12_untouched_ok {l : Launch} {G : ab_G} {S : ab_S} {I : ab_I} {J : ab_J} {P : ab_P} {Q : ab_Q} (hB : bz_B S P) {x : Int32 × ab_I} (H : fX12_untouched I = some x) (K0 : Q (some (.int x.1)) S x.2 J P) : ab_Call l G mX12_untouched 2 [.ref 73] S I J P Q := by
  unfold fX12_untouched at H
  refine ab_enter rfl (Nat.le_of_ble_eq_true rfl) (ab_wk (ls' := [some (.ref 73), none, none]) (ab_le_some (ab_le_non0 (ab_le_non0 ab_le_nil))) ?_)
  refine ab_aload_n (z := 0) (by decide +kernel) rfl rfl ?_
  obtain ⟨u1, hu1, H⟩ := ab_bd_of H
  refine kvX12_fill (D := 0) (ix := 411) (by decide +kernel) tw_1477 (hB.1 73 _ rfl) (by decide) (Nat.le_of_ble_eq_true rfl) (mX12_fill_ok hB hu1 ?_)
  change ab_WP l G mX12_untouched 2 4 [some (.ref 73), none, none] [] S u1 J P 0 0 Q
  refine ab_iconst (z := 0) (v := (0 : Int32)) (by decide +kernel) (by decide) ?_
  refine ab_istore_n (z := 1) (by decide +kernel) rfl (by decide) rfl ?_
  refine ab_ls (ls' := [some (.ref 73), some (.int (0 : Int32)), none]) rfl ?_
  refine ab_iconst (z := 0) (v := (0 : Int32)) (by decide +kernel) (by decide) ?_
  refine ab_istore_n (z := 2) (by decide +kernel) rfl (by decide) rfl ?_
  refine ab_ls (ls' := [some (.ref 73), some (.int (0 : Int32)), some (.int (0 : Int32))]) rfl ?_
  exact ab_wk (ab_le_some (ab_le_some (ab_le_some (ab_le_nil)))) (ab_iter (body := (fun s => fX12_untouched_8 s.1 s.2.1 s.2.2)) (W := fun s => ab_WP l G mX12_untouched 2 8 [some (.ref 73), some (.int s.1), some (.int s.2.1)] [] S s.2.2 J P 0 0 Q) (fun s y hb h1 h2 => fX12_untouched_8_ok hB hb h1 (fun r e => by have e2 := h2 _ e; subst e2; exact K0)) 5000 ((0 : Int32), (0 : Int32), u1) H)
abbrev mX12_richest : ab_M := (yX12_richest, cX12_richest, 3, some .int, 0, 0)
def fX12_richest_39 (I : ab_I) (a1 : Int32) : Option Int32 :=
  some a1
set_option maxRecDepth 100000 in
theorem fX12_richest_39_ok {l : Launch} {G : ab_G} {S : ab_S} {I : ab_I} {J : ab_J} {P : ab_P} {Q : ab_Q} {a1 : Int32} (hB : bz_B S P) {x : Int32} (H : fX12_richest_39 I a1 = some x) (K0 : Q (some (.int x)) S I J P) : ab_WP l G mX12_richest 0 39 [some (.ref 73), some (.int a1), none] [] S I J P 0 0 Q := by
  unfold fX12_richest_39 at H
  refine ab_iload_n (z := 1) (by decide +kernel) rfl rfl ?_
  obtain rfl := Option.some.inj H
  exact ab_iret (by decide +kernel) rfl (Nat.le_refl _) (Nat.le_refl _) K0
def fX12_richest_33 (I : ab_I) (a1 : Int32) (a2 : Int32) : Option ((Int32 × Int32) ⊕ Int32) :=
  some (.inl (a1, (a2 + (1 : Int32))))
set_option maxRecDepth 100000 in
theorem fX12_richest_33_ok {l : Launch} {G : ab_G} {S : ab_S} {I : ab_I} {J : ab_J} {P : ab_P} {Q : ab_Q} {a1 : Int32} {a2 : Int32} (hB : bz_B S P) {x : ((Int32 × Int32) ⊕ Int32)} (H : fX12_richest_33 I a1 a2 = some x) (K1 : ∀ s, x = (.inl s) → ab_WP l G mX12_richest 0 4 [some (.ref 73), some (.int s.1), some (.int s.2)] [] S I J P 0 0 Q) (K0 : ∀ r, x = (.inr r) → Q (some (.int r)) S I J P) : ab_WP l G mX12_richest 0 33 [some (.ref 73), some (.int a1), some (.int a2)] [] S I J P 0 0 Q := by
  unfold fX12_richest_33 at H
  refine ab_iinc (i := 2) (z := 1) (v := (a2 + (1 : Int32))) (by decide +kernel) rfl rfl (by decide) rfl ?_
  refine ab_ls (ls' := [some (.ref 73), some (.int a1), some (.int (a2 + (1 : Int32)))]) rfl ?_
  refine ab_goto (off := -32) (tgt := 4) (by decide +kernel) rfl ?_
  exact ab_wk (ab_le_some (ab_le_some (ab_le_some (ab_le_nil)))) (K1 (a1, (a2 + (1 : Int32))) (Option.some.inj H).symm)
def fX12_richest_31 (I : ab_I) (a2 : Int32) : Option ((Int32 × Int32) ⊕ Int32) :=
  fX12_richest_33 I a2 a2
set_option maxRecDepth 100000 in
theorem fX12_richest_31_ok {l : Launch} {G : ab_G} {S : ab_S} {I : ab_I} {J : ab_J} {P : ab_P} {Q : ab_Q} {a2 : Int32} (hB : bz_B S P) {x : ((Int32 × Int32) ⊕ Int32)} (H : fX12_richest_31 I a2 = some x) (K1 : ∀ s, x = (.inl s) → ab_WP l G mX12_richest 0 4 [some (.ref 73), some (.int s.1), some (.int s.2)] [] S I J P 0 0 Q) (K0 : ∀ r, x = (.inr r) → Q (some (.int r)) S I J P) : ab_WP l G mX12_richest 0 31 [some (.ref 73), none, some (.int a2)] [] S I J P 0 0 Q := by
  unfold fX12_richest_31 at H
  refine ab_iload_n (z := 2) (by decide +kernel) rfl rfl ?_
  refine ab_istore_n (z := 1) (by decide +kernel) rfl (by decide) rfl ?_
  refine ab_ls (ls' := [some (.ref 73), some (.int a2), some (.int a2)]) rfl ?_
  exact ab_wk (ab_le_some (ab_le_some (ab_le_some (ab_le_nil)))) (fX12_richest_33_ok hB H K1 K0)
def fX12_richest_4 (I : ab_I) (a1 : Int32) (a2 : Int32) : Option ((Int32 × Int32) ⊕ Int32) :=
  if (I 73 39) ≤ a2 then
    (fX12_richest_39 I a1).map .inr
  else
    if a1 < 0 then
      fX12_richest_31 I a2
    else
      ab_gd (ab_ix a2 45 = true) (
        ab_gd (ab_ix a1 45 = true) (
          if (I 89 a2.toNatClampNeg) ≤ (I 89 a1.toNatClampNeg) then
            fX12_richest_33 I a1 a2
          else
            fX12_richest_31 I a2
        )
      )
set_option maxRecDepth 100000 in
theorem fX12_richest_4_ok {l : Launch} {G : ab_G} {S : ab_S} {I : ab_I} {J : ab_J} {P : ab_P} {Q : ab_Q} {a1 : Int32} {a2 : Int32} (hB : bz_B S P) {x : ((Int32 × Int32) ⊕ Int32)} (H : fX12_richest_4 I a1 a2 = some x) (K1 : ∀ s, x = (.inl s) → ab_WP l G mX12_richest 0 4 [some (.ref 73), some (.int s.1), some (.int s.2)] [] S I J P 0 0 Q) (K0 : ∀ r, x = (.inr r) → Q (some (.int r)) S I J P) : ab_WP l G mX12_richest 0 4 [some (.ref 73), some (.int a1), some (.int a2)] [] S I J P 0 0 Q := by
  unfold fX12_richest_4 at H
  refine ab_iload_n (z := 2) (by decide +kernel) rfl rfl ?_
  refine ab_aload_n (z := 0) (by decide +kernel) rfl rfl ?_
  refine gX12_39 (ix := 348) (by decide +kernel) tw_1120 (hB.1 73 _ rfl) ?_
  refine ab_icmp_ge (off := 30) (tgt := 39) (by decide +kernel) rfl (fun hc => ?_) (fun hc => ?_)
  · replace H := ab_ifp H hc
    obtain ⟨y1, Hy, hx⟩ := ab_mp_of H
    subst hx
    replace H := Hy
    exact ab_wk (ab_le_some (ab_le_some (ab_le_none (ab_le_nil)))) (fX12_richest_39_ok hB H  (K0 _ rfl))
  · replace H := ab_ifn H hc
    refine ab_iload_n (z := 1) (by decide +kernel) rfl rfl ?_
    refine ab_if_lt (off := 18) (tgt := 31) (by decide +kernel) rfl (fun hc => ?_) (fun hc => ?_)
    · replace H := ab_ifp H hc
      exact ab_wk (ab_le_some (ab_le_none (ab_le_some (ab_le_nil)))) (fX12_richest_31_ok hB H K1 K0)
    · replace H := ab_ifn H hc
      refine ab_aload_n (z := 0) (by decide +kernel) rfl rfl ?_
      refine gX12_46 (ix := 60) (by decide +kernel) tw_1127 (hB.1 73 _ rfl) (hB.2.1 94 (73, 46, 89) rfl) ?_
      refine ab_iload_n (z := 2) (by decide +kernel) rfl rfl ?_
      obtain ⟨hg, H⟩ := ab_gd_of H
      refine ab_iald (ln := 45) (by decide +kernel) (hB.1 89 _ rfl) (ab_ix_in hg) ?_
      refine ab_aload_n (z := 0) (by decide +kernel) rfl rfl ?_
      refine gX12_46 (ix := 60) (by decide +kernel) tw_1127 (hB.1 73 _ rfl) (hB.2.1 94 (73, 46, 89) rfl) ?_
      refine ab_iload_n (z := 1) (by decide +kernel) rfl rfl ?_
      obtain ⟨hg, H⟩ := ab_gd_of H
      refine ab_iald (ln := 45) (by decide +kernel) (hB.1 89 _ rfl) (ab_ix_in hg) ?_
      refine ab_icmp_le (off := 5) (tgt := 33) (by decide +kernel) rfl (fun hc => ?_) (fun hc => ?_)
      · replace H := ab_ifp H hc
        exact ab_wk (ab_le_some (ab_le_some (ab_le_some (ab_le_nil)))) (fX12_richest_33_ok hB H K1 K0)
      · replace H := ab_ifn H hc
        exact ab_wk (ab_le_some (ab_le_none (ab_le_some (ab_le_nil)))) (fX12_richest_31_ok hB H K1 K0)
def fX12_richest (I : ab_I) : Option Int32 :=
  ab_it (fun s => fX12_richest_4 I s.1 s.2) 5000 ((-1 : Int32), (0 : Int32))
set_option maxRecDepth 100000 in
theorem mX12_richest_ok {l : Launch} {G : ab_G} {S : ab_S} {I : ab_I} {J : ab_J} {P : ab_P} {Q : ab_Q} (hB : bz_B S P) {x : Int32} (H : fX12_richest I = some x) (K0 : Q (some (.int x)) S I J P) : ab_Call l G mX12_richest 0 [.ref 73] S I J P Q := by
  unfold fX12_richest at H
  refine ab_enter rfl (Nat.le_of_ble_eq_true rfl) (ab_wk (ls' := [some (.ref 73), none, none]) (ab_le_some (ab_le_non0 (ab_le_non0 ab_le_nil))) ?_)
  refine ab_iconst (z := -1) (v := (-1 : Int32)) (by decide +kernel) (by decide) ?_
  refine ab_istore_n (z := 1) (by decide +kernel) rfl (by decide) rfl ?_
  refine ab_ls (ls' := [some (.ref 73), some (.int (-1 : Int32)), none]) rfl ?_
  refine ab_iconst (z := 0) (v := (0 : Int32)) (by decide +kernel) (by decide) ?_
  refine ab_istore_n (z := 2) (by decide +kernel) rfl (by decide) rfl ?_
  refine ab_ls (ls' := [some (.ref 73), some (.int (-1 : Int32)), some (.int (0 : Int32))]) rfl ?_
  exact ab_wk (ab_le_some (ab_le_some (ab_le_some (ab_le_nil)))) (ab_iter (body := (fun s => fX12_richest_4 I s.1 s.2)) (W := fun s => ab_WP l G mX12_richest 0 4 [some (.ref 73), some (.int s.1), some (.int s.2)] [] S I J P 0 0 Q) (fun s y hb h1 h2 => fX12_richest_4_ok hB hb h1 (fun r e => by have e2 := h2 _ e; subst e2; exact K0)) 5000 ((-1 : Int32), (0 : Int32)) H)
abbrev mX12_busiest : ab_M := (yX12_busiest, cX12_busiest, 4, some .int, 0, 0)
def fX12_busiest_52 (a1 : Int32) (I : ab_I) : Option (Int32 × ab_I) :=
  some (a1, I)
set_option maxRecDepth 100000 in
theorem fX12_busiest_52_ok {l : Launch} {G : ab_G} {S : ab_S} {I : ab_I} {J : ab_J} {P : ab_P} {Q : ab_Q} {a1 : Int32} (hB : bz_B S P) {x : Int32 × ab_I} (H : fX12_busiest_52 a1 I = some x) (K0 : Q (some (.int x.1)) S x.2 J P) : ab_WP l G mX12_busiest 7 52 [some (.ref 73), some (.int a1), none, none] [] S I J P 0 0 Q := by
  unfold fX12_busiest_52 at H
  refine ab_iload_n (z := 1) (by decide +kernel) rfl rfl ?_
  obtain rfl := Option.some.inj H
  exact ab_iret (by decide +kernel) rfl (Nat.le_refl _) (Nat.le_refl _) K0
def fX12_busiest_46 (a1 : Int32) (a2 : Int32) (a3 : Int32) (I : ab_I) : Option ((Int32 × Int32 × Int32 × ab_I) ⊕ (Int32 × ab_I)) :=
  some (.inl (a1, a2, (a3 + (1 : Int32)), I))
set_option maxRecDepth 100000 in
theorem fX12_busiest_46_ok {l : Launch} {G : ab_G} {S : ab_S} {I : ab_I} {J : ab_J} {P : ab_P} {Q : ab_Q} {a1 : Int32} {a2 : Int32} {a3 : Int32} (hB : bz_B S P) {x : ((Int32 × Int32 × Int32 × ab_I) ⊕ (Int32 × ab_I))} (H : fX12_busiest_46 a1 a2 a3 I = some x) (K1 : ∀ s, x = (.inl s) → ab_WP l G mX12_busiest 7 12 [some (.ref 73), some (.int s.1), some (.int s.2.1), some (.int s.2.2.1)] [] S s.2.2.2 J P 0 0 Q) (K0 : ∀ r, x = (.inr r) → Q (some (.int r.1)) S r.2 J P) : ab_WP l G mX12_busiest 7 46 [some (.ref 73), some (.int a1), some (.int a2), some (.int a3)] [] S I J P 0 0 Q := by
  unfold fX12_busiest_46 at H
  refine ab_iinc (i := 3) (z := 1) (v := (a3 + (1 : Int32))) (by decide +kernel) rfl rfl (by decide) rfl ?_
  refine ab_ls (ls' := [some (.ref 73), some (.int a1), some (.int a2), some (.int (a3 + (1 : Int32)))]) rfl ?_
  refine ab_goto (off := -37) (tgt := 12) (by decide +kernel) rfl ?_
  exact ab_wk (ab_le_some (ab_le_some (ab_le_some (ab_le_some (ab_le_nil))))) (K1 (a1, a2, (a3 + (1 : Int32)), I) (Option.some.inj H).symm)
def fX12_busiest_12 (a1 : Int32) (a2 : Int32) (a3 : Int32) (I : ab_I) : Option ((Int32 × Int32 × Int32 × ab_I) ⊕ (Int32 × ab_I)) :=
  if (I 73 39) ≤ a3 then
    (fX12_busiest_52 a1 I).map .inr
  else
    (fX12_rungBy a3 I).bind fun u3 =>
    (fX12_members u3).bind fun u4 =>
    if a2 < u4 then
      (fX12_rungBy a3 I).bind fun u5 =>
      (fX12_members u5).bind fun u6 =>
      fX12_busiest_46 a3 u6 a3 I
    else
      fX12_busiest_46 a1 a2 a3 I
set_option maxRecDepth 100000 in
theorem fX12_busiest_12_ok {l : Launch} {G : ab_G} {S : ab_S} {I : ab_I} {J : ab_J} {P : ab_P} {Q : ab_Q} {a1 : Int32} {a2 : Int32} {a3 : Int32} (hB : bz_B S P) {x : ((Int32 × Int32 × Int32 × ab_I) ⊕ (Int32 × ab_I))} (H : fX12_busiest_12 a1 a2 a3 I = some x) (K1 : ∀ s, x = (.inl s) → ab_WP l G mX12_busiest 7 12 [some (.ref 73), some (.int s.1), some (.int s.2.1), some (.int s.2.2.1)] [] S s.2.2.2 J P 0 0 Q) (K0 : ∀ r, x = (.inr r) → Q (some (.int r.1)) S r.2 J P) : ab_WP l G mX12_busiest 7 12 [some (.ref 73), some (.int a1), some (.int a2), some (.int a3)] [] S I J P 0 0 Q := by
  unfold fX12_busiest_12 at H
  refine ab_iload_n (z := 3) (by decide +kernel) rfl rfl ?_
  refine ab_aload_n (z := 0) (by decide +kernel) rfl rfl ?_
  refine gX12_39 (ix := 348) (by decide +kernel) tw_1120 (hB.1 73 _ rfl) ?_
  refine ab_icmp_ge (off := 35) (tgt := 52) (by decide +kernel) rfl (fun hc => ?_) (fun hc => ?_)
  · replace H := ab_ifp H hc
    obtain ⟨y2, Hy, hx⟩ := ab_mp_of H
    subst hx
    replace H := Hy
    exact ab_wk (ab_le_some (ab_le_some (ab_le_none (ab_le_none (ab_le_nil))))) (fX12_busiest_52_ok hB H  (K0 _ rfl))
  · replace H := ab_ifn H hc
    refine ab_aload_n (z := 0) (by decide +kernel) rfl rfl ?_
    refine ab_iload_n (z := 3) (by decide +kernel) rfl rfl ?_
    obtain ⟨u3, hu3, H⟩ := ab_bd_of H
    refine kvX12_rungBy (D := 1) (ix := 420) (by decide +kernel) tw_1521 (hB.1 73 _ rfl) (by decide) (Nat.le_of_ble_eq_true rfl) (mX12_rungBy_ok hB hu3 ?_)
    change ab_WP l G mX12_busiest 7 25 [some (.ref 73), some (.int a1), some (.int a2), some (.int a3)] [.int u3] S I J P 0 0 Q
    obtain ⟨u4, hu4, H⟩ := ab_bd_of H
    refine ksX12_members (D := 0) (ix := 283) (by decide +kernel) tw_1512 (by decide) (Nat.le_of_ble_eq_true rfl) (mX12_members_ok hB hu4 ?_)
    change ab_WP l G mX12_busiest 7 28 [some (.ref 73), some (.int a1), some (.int a2), some (.int a3)] [.int u4] S I J P 0 0 Q
    refine ab_iload_n (z := 2) (by decide +kernel) rfl rfl ?_
    refine ab_icmp_gt (off := 6) (tgt := 35) (by decide +kernel) rfl (fun hc => ?_) (fun hc => ?_)
    · replace H := ab_ifp H hc
      refine ab_iload_n (z := 3) (by decide +kernel) rfl rfl ?_
      refine ab_istore_n (z := 1) (by decide +kernel) rfl (by decide) rfl ?_
      refine ab_ls (ls' := [some (.ref 73), some (.int a3), some (.int a2), some (.int a3)]) rfl ?_
      refine ab_aload_n (z := 0) (by decide +kernel) rfl rfl ?_
      refine ab_iload_n (z := 3) (by decide +kernel) rfl rfl ?_
      obtain ⟨u5, hu5, H⟩ := ab_bd_of H
      refine kvX12_rungBy (D := 1) (ix := 420) (by decide +kernel) tw_1521 (hB.1 73 _ rfl) (by decide) (Nat.le_of_ble_eq_true rfl) (mX12_rungBy_ok hB hu5 ?_)
      change ab_WP l G mX12_busiest 7 42 [some (.ref 73), some (.int a3), some (.int a2), some (.int a3)] [.int u5] S I J P 0 0 Q
      obtain ⟨u6, hu6, H⟩ := ab_bd_of H
      refine ksX12_members (D := 0) (ix := 283) (by decide +kernel) tw_1512 (by decide) (Nat.le_of_ble_eq_true rfl) (mX12_members_ok hB hu6 ?_)
      change ab_WP l G mX12_busiest 7 45 [some (.ref 73), some (.int a3), some (.int a2), some (.int a3)] [.int u6] S I J P 0 0 Q
      refine ab_istore_n (z := 2) (by decide +kernel) rfl (by decide) rfl ?_
      refine ab_ls (ls' := [some (.ref 73), some (.int a3), some (.int u6), some (.int a3)]) rfl ?_
      exact ab_wk (ab_le_some (ab_le_some (ab_le_some (ab_le_some (ab_le_nil))))) (fX12_busiest_46_ok hB H K1 K0)
    · replace H := ab_ifn H hc
      refine ab_goto (off := 14) (tgt := 46) (by decide +kernel) rfl ?_
      exact ab_wk (ab_le_some (ab_le_some (ab_le_some (ab_le_some (ab_le_nil))))) (fX12_busiest_46_ok hB H K1 K0)
def fX12_busiest (I : ab_I) : Option (Int32 × ab_I) :=
  (fX12_dayWithout (0 : Int32) I).bind fun u1 =>
  ab_it (fun s => fX12_busiest_12 s.1 s.2.1 s.2.2.1 s.2.2.2) 5000 ((-1 : Int32), (0 : Int32), (0 : Int32), u1.2)
set_option maxRecDepth 100000 in
theorem mX12_busiest_ok {l : Launch} {G : ab_G} {S : ab_S} {I : ab_I} {J : ab_J} {P : ab_P} {Q : ab_Q} (hB : bz_B S P) {x : Int32 × ab_I} (H : fX12_busiest I = some x) (K0 : Q (some (.int x.1)) S x.2 J P) : ab_Call l G mX12_busiest 7 [.ref 73] S I J P Q := by
  unfold fX12_busiest at H
  refine ab_enter rfl (Nat.le_of_ble_eq_true rfl) (ab_wk (ls' := [some (.ref 73), none, none, none]) (ab_le_some (ab_le_non0 (ab_le_non0 (ab_le_non0 ab_le_nil)))) ?_)
  refine ab_aload_n (z := 0) (by decide +kernel) rfl rfl ?_
  refine ab_iconst (z := 0) (v := (0 : Int32)) (by decide +kernel) (by decide) ?_
  obtain ⟨u1, hu1, H⟩ := ab_bd_of H
  refine kvX12_dayWithout (D := 6) (ix := 439) (by decide +kernel) tw_1618 (hB.1 73 _ rfl) (by decide) (Nat.le_of_ble_eq_true rfl) (mX12_dayWithout_ok hB hu1 ?_)
  change ab_WP l G mX12_busiest 7 5 [some (.ref 73), none, none, none] [.int u1.1] S u1.2 J P 0 0 Q
  refine ab_pop (by decide +kernel) rfl ?_
  refine ab_iconst (z := -1) (v := (-1 : Int32)) (by decide +kernel) (by decide) ?_
  refine ab_istore_n (z := 1) (by decide +kernel) rfl (by decide) rfl ?_
  refine ab_ls (ls' := [some (.ref 73), some (.int (-1 : Int32)), none, none]) rfl ?_
  refine ab_iconst (z := 0) (v := (0 : Int32)) (by decide +kernel) (by decide) ?_
  refine ab_istore_n (z := 2) (by decide +kernel) rfl (by decide) rfl ?_
  refine ab_ls (ls' := [some (.ref 73), some (.int (-1 : Int32)), some (.int (0 : Int32)), none]) rfl ?_
  refine ab_iconst (z := 0) (v := (0 : Int32)) (by decide +kernel) (by decide) ?_
  refine ab_istore_n (z := 3) (by decide +kernel) rfl (by decide) rfl ?_
  refine ab_ls (ls' := [some (.ref 73), some (.int (-1 : Int32)), some (.int (0 : Int32)), some (.int (0 : Int32))]) rfl ?_
  exact ab_wk (ab_le_some (ab_le_some (ab_le_some (ab_le_some (ab_le_nil))))) (ab_iter (body := (fun s => fX12_busiest_12 s.1 s.2.1 s.2.2.1 s.2.2.2)) (W := fun s => ab_WP l G mX12_busiest 7 12 [some (.ref 73), some (.int s.1), some (.int s.2.1), some (.int s.2.2.1)] [] S s.2.2.2 J P 0 0 Q) (fun s y hb h1 h2 => fX12_busiest_12_ok hB hb h1 (fun r e => by have e2 := h2 _ e; subst e2; exact K0)) 5000 ((-1 : Int32), (0 : Int32), (0 : Int32), u1.2) H)
abbrev mX12_law : ab_M := (yX12_law, cX12_law, 3, some .int, 0, 0)
def fX12_law_56 (a1 : Int32) (I : ab_I) : Option (Int32 × ab_I) :=
  (fX12_goDay (0 : Int32) I).bind fun u4 =>
  (fX12_silentOnes u4.2).bind fun u5 =>
  (fX12_members u5).bind fun u6 =>
  some (((u4.2 73 40) - u6), u4.2)
set_option maxRecDepth 100000 in
theorem fX12_law_56_ok {l : Launch} {G : ab_G} {S : ab_S} {I : ab_I} {J : ab_J} {P : ab_P} {Q : ab_Q} {a1 : Int32} (hB : bz_B S P) {x : Int32 × ab_I} (H : fX12_law_56 a1 I = some x) (K0 : Q (some (.int x.1)) S x.2 J P) : ab_WP l G mX12_law 6 56 [some (.ref 73), some (.int a1), none] [] S I J P 0 0 Q := by
  unfold fX12_law_56 at H
  refine ab_aload_n (z := 0) (by decide +kernel) rfl rfl ?_
  refine ab_iconst (z := 0) (v := (0 : Int32)) (by decide +kernel) (by decide) ?_
  obtain ⟨u4, hu4, H⟩ := ab_bd_of H
  refine kvX12_goDay (D := 5) (ix := 417) (by decide +kernel) tw_1496 (hB.1 73 _ rfl) (by decide) (Nat.le_of_ble_eq_true rfl) (mX12_goDay_ok hB hu4 ?_)
  change ab_WP l G mX12_law 6 61 [some (.ref 73), some (.int a1), none] [.int u4.1] S u4.2 J P 0 0 Q
  refine ab_pop (by decide +kernel) rfl ?_
  refine ab_aload_n (z := 0) (by decide +kernel) rfl rfl ?_
  refine gX12_40 (ix := 351) (by decide +kernel) tw_1121 (hB.1 73 _ rfl) ?_
  refine ab_aload_n (z := 0) (by decide +kernel) rfl rfl ?_
  obtain ⟨u5, hu5, H⟩ := ab_bd_of H
  refine kvX12_silentOnes (D := 1) (ix := 442) (by decide +kernel) tw_1622 (hB.1 73 _ rfl) (by decide) (Nat.le_of_ble_eq_true rfl) (mX12_silentOnes_ok hB hu5 ?_)
  change ab_WP l G mX12_law 6 70 [some (.ref 73), some (.int a1), none] [.int u5, .int (u4.2 73 40)] S u4.2 J P 0 0 Q
  obtain ⟨u6, hu6, H⟩ := ab_bd_of H
  refine ksX12_members (D := 0) (ix := 283) (by decide +kernel) tw_1512 (by decide) (Nat.le_of_ble_eq_true rfl) (mX12_members_ok hB hu6 ?_)
  change ab_WP l G mX12_law 6 73 [some (.ref 73), some (.int a1), none] [.int u6, .int (u4.2 73 40)] S u4.2 J P 0 0 Q
  refine ab_isub (by decide +kernel) ?_
  obtain rfl := Option.some.inj H
  exact ab_iret (by decide +kernel) rfl (Nat.le_refl _) (Nat.le_refl _) K0
def fX12_law_49 (a1 : Int32) (a2 : Int32) (s1 : Int32) (s2 : Int32) (I : ab_I) : Option ((Int32 × ab_I) ⊕ (Int32 × ab_I)) :=
  ab_gd (ab_ix s1 45 = true) (
    some (.inl ((a2 + (1 : Int32)), (ab_u I 90 s1.toNatClampNeg s2)))
  )
set_option maxRecDepth 100000 in
theorem fX12_law_49_ok {l : Launch} {G : ab_G} {S : ab_S} {I : ab_I} {J : ab_J} {P : ab_P} {Q : ab_Q} {a1 : Int32} {a2 : Int32} {s1 : Int32} {s2 : Int32} (hB : bz_B S P) {x : ((Int32 × ab_I) ⊕ (Int32 × ab_I))} (H : fX12_law_49 a1 a2 s1 s2 I = some x) (K1 : ∀ s, x = (.inl s) → ab_WP l G mX12_law 6 18 [some (.ref 73), some (.int a1), some (.int s.1)] [] S s.2 J P 0 0 Q) (K0 : ∀ r, x = (.inr r) → Q (some (.int r.1)) S r.2 J P) : ab_WP l G mX12_law 6 49 [some (.ref 73), some (.int a1), some (.int a2)] [.int s2, .int s1, .ref 90] S I J P 0 0 Q := by
  unfold fX12_law_49 at H
  obtain ⟨hg, H⟩ := ab_gd_of H
  refine ab_iast (ln := 45) (by decide +kernel) (hB.1 90 _ rfl) (ab_ix_in hg) ?_
  refine ab_iinc (i := 2) (z := 1) (v := (a2 + (1 : Int32))) (by decide +kernel) rfl rfl (by decide) rfl ?_
  refine ab_ls (ls' := [some (.ref 73), some (.int a1), some (.int (a2 + (1 : Int32)))]) rfl ?_
  refine ab_goto (off := -35) (tgt := 18) (by decide +kernel) rfl ?_
  exact ab_wk (ab_le_some (ab_le_some (ab_le_some (ab_le_nil)))) (K1 ((a2 + (1 : Int32)), (ab_u I 90 s1.toNatClampNeg s2)) (Option.some.inj H).symm)
def fX12_law_18 (a1 : Int32) (a2 : Int32) (I : ab_I) : Option ((Int32 × ab_I) ⊕ (Int32 × ab_I)) :=
  if (30 : Int32) ≤ a2 then
    (fX12_law_56 a1 I).map .inr
  else
    ab_gd (ab_ix ((13 : Int32) + a2) 45 = true) (
      if (I 90 (((13 : Int32) + a2).toNatClampNeg)) ≤ 0 then
        fX12_law_49 a1 a2 ((13 : Int32) + a2) (0 : Int32) I
      else
        fX12_law_49 a1 a2 ((13 : Int32) + a2) a1 I
    )
set_option maxRecDepth 100000 in
theorem fX12_law_18_ok {l : Launch} {G : ab_G} {S : ab_S} {I : ab_I} {J : ab_J} {P : ab_P} {Q : ab_Q} {a1 : Int32} {a2 : Int32} (hB : bz_B S P) {x : ((Int32 × ab_I) ⊕ (Int32 × ab_I))} (H : fX12_law_18 a1 a2 I = some x) (K1 : ∀ s, x = (.inl s) → ab_WP l G mX12_law 6 18 [some (.ref 73), some (.int a1), some (.int s.1)] [] S s.2 J P 0 0 Q) (K0 : ∀ r, x = (.inr r) → Q (some (.int r.1)) S r.2 J P) : ab_WP l G mX12_law 6 18 [some (.ref 73), some (.int a1), some (.int a2)] [] S I J P 0 0 Q := by
  unfold fX12_law_18 at H
  refine ab_iload_n (z := 2) (by decide +kernel) rfl rfl ?_
  refine ab_bipush (z := 30) (v := (30 : Int32)) (by decide +kernel) (by decide) ?_
  refine ab_icmp_ge (off := 35) (tgt := 56) (by decide +kernel) rfl (fun hc => ?_) (fun hc => ?_)
  · replace H := ab_ifp H hc
    obtain ⟨y3, Hy, hx⟩ := ab_mp_of H
    subst hx
    replace H := Hy
    exact ab_wk (ab_le_some (ab_le_some (ab_le_none (ab_le_nil)))) (fX12_law_56_ok hB H  (K0 _ rfl))
  · replace H := ab_ifn H hc
    refine ab_aload_n (z := 0) (by decide +kernel) rfl rfl ?_
    refine gX12_47 (ix := 63) (by decide +kernel) tw_1128 (hB.1 73 _ rfl) (hB.2.1 95 (73, 47, 90) rfl) ?_
    refine ab_bipush (z := 13) (v := (13 : Int32)) (by decide +kernel) (by decide) ?_
    refine ab_iload_n (z := 2) (by decide +kernel) rfl rfl ?_
    refine ab_iadd (by decide +kernel) ?_
    refine ab_aload_n (z := 0) (by decide +kernel) rfl rfl ?_
    refine gX12_47 (ix := 63) (by decide +kernel) tw_1128 (hB.1 73 _ rfl) (hB.2.1 95 (73, 47, 90) rfl) ?_
    refine ab_bipush (z := 13) (v := (13 : Int32)) (by decide +kernel) (by decide) ?_
    refine ab_iload_n (z := 2) (by decide +kernel) rfl rfl ?_
    refine ab_iadd (by decide +kernel) ?_
    obtain ⟨hg, H⟩ := ab_gd_of H
    refine ab_iald (ln := 45) (by decide +kernel) (hB.1 90 _ rfl) (ab_ix_in hg) ?_
    refine ab_if_le (off := 7) (tgt := 48) (by decide +kernel) rfl (fun hc => ?_) (fun hc => ?_)
    · replace H := ab_ifp H hc
      refine ab_iconst (z := 0) (v := (0 : Int32)) (by decide +kernel) (by decide) ?_
      exact ab_wk (ab_le_some (ab_le_some (ab_le_some (ab_le_nil)))) (fX12_law_49_ok hB H K1 K0)
    · replace H := ab_ifn H hc
      refine ab_iload_n (z := 1) (by decide +kernel) rfl rfl ?_
      refine ab_goto (off := 4) (tgt := 49) (by decide +kernel) rfl ?_
      exact ab_wk (ab_le_some (ab_le_some (ab_le_some (ab_le_nil)))) (fX12_law_49_ok hB H K1 K0)
def fX12_law (a1 : Int32) (I : ab_I) : Option (Int32 × ab_I) :=
  (fX12_isIn a1 (0 : Int32) (20 : Int32)).bind fun u1 =>
  if u1 = 0 then
    some ((-1 : Int32), I)
  else
    (fX12_fill I).bind fun u2 =>
    ab_it (fun s => fX12_law_18 a1 s.1 s.2) 5000 ((0 : Int32), u2)
set_option maxRecDepth 100000 in
theorem mX12_law_ok {l : Launch} {G : ab_G} {S : ab_S} {I : ab_I} {J : ab_J} {P : ab_P} {Q : ab_Q} {a1 : Int32} (hB : bz_B S P) {x : Int32 × ab_I} (H : fX12_law a1 I = some x) (K0 : Q (some (.int x.1)) S x.2 J P) : ab_Call l G mX12_law 6 [.ref 73, .int a1] S I J P Q := by
  unfold fX12_law at H
  refine ab_enter rfl (Nat.le_of_ble_eq_true rfl) (ab_wk (ls' := [some (.ref 73), some (.int a1), none]) (ab_le_some (ab_le_some (ab_le_non0 ab_le_nil))) ?_)
  refine ab_iload_n (z := 1) (by decide +kernel) rfl rfl ?_
  refine ab_iconst (z := 0) (v := (0 : Int32)) (by decide +kernel) (by decide) ?_
  refine ab_bipush (z := 20) (v := (20 : Int32)) (by decide +kernel) (by decide) ?_
  obtain ⟨u1, hu1, H⟩ := ab_bd_of H
  refine ksX12_isIn (D := 0) (ix := 384) (by decide +kernel) tw_1474 (by decide) (Nat.le_of_ble_eq_true rfl) (mX12_isIn_ok hB hu1 ?_)
  change ab_WP l G mX12_law 6 7 [some (.ref 73), some (.int a1), none] [.int u1] S I J P 0 0 Q
  refine ab_if_ne (off := 5) (tgt := 12) (by decide +kernel) rfl (fun hc => ?_) (fun hc => ?_)
  · replace H := ab_ifn H hc
    refine ab_aload_n (z := 0) (by decide +kernel) rfl rfl ?_
    obtain ⟨u2, hu2, H⟩ := ab_bd_of H
    refine kvX12_fill (D := 0) (ix := 411) (by decide +kernel) tw_1477 (hB.1 73 _ rfl) (by decide) (Nat.le_of_ble_eq_true rfl) (mX12_fill_ok hB hu2 ?_)
    change ab_WP l G mX12_law 6 16 [some (.ref 73), some (.int a1), none] [] S u2 J P 0 0 Q
    refine ab_iconst (z := 0) (v := (0 : Int32)) (by decide +kernel) (by decide) ?_
    refine ab_istore_n (z := 2) (by decide +kernel) rfl (by decide) rfl ?_
    refine ab_ls (ls' := [some (.ref 73), some (.int a1), some (.int (0 : Int32))]) rfl ?_
    exact ab_wk (ab_le_some (ab_le_some (ab_le_some (ab_le_nil)))) (ab_iter (body := (fun s => fX12_law_18 a1 s.1 s.2)) (W := fun s => ab_WP l G mX12_law 6 18 [some (.ref 73), some (.int a1), some (.int s.1)] [] S s.2 J P 0 0 Q) (fun s y hb h1 h2 => fX12_law_18_ok hB hb h1 (fun r e => by have e2 := h2 _ e; subst e2; exact K0)) 5000 ((0 : Int32), u2) H)
  · replace H := ab_ifp H hc
    refine ab_iconst (z := -1) (v := (-1 : Int32)) (by decide +kernel) (by decide) ?_
    obtain rfl := Option.some.inj H
    exact ab_iret (by decide +kernel) rfl (Nat.le_refl _) (Nat.le_refl _) K0
abbrev mX12_divisor : ab_M := (yX12_divisor, cX12_divisor, 5, some .int, 0, 0)
theorem ksX12_divisor {l : Launch} {G : ab_G} {M : ab_M} {d pc : Nat} {ls : List (Option Value)} {st : List Value} {S : ab_S} {I : ab_I} {J : ab_J} {P : ab_P} {Q : ab_Q} {v0 v1 : Value} {ix D : Nat} (hd : decode M.2.1 pc = .ok (.invokestatic ix, 3)) (h1 : Cond.methodLink M.1.cls ix mX12_divisor.1 ∈ ab_good) (hdg : D + 1 ≤ d) (hsum : (st.map fun v => v.category).sum ≤ 8) (kk : ab_Call l G mX12_divisor D [v0, v1] S I J P (fun v S' I' J' P' => ab_WP l G M d (pc + 3) ls (ab_psh v st) S' I' J' P' 0 0 Q)) : ab_WP l G M d pc ls (v1 :: v0 :: st) S I J P 0 0 Q := bz_ks (g := mX12_divisor) (as := [v0, v1]) rfl hd h1 tw_1723 tw_13 tw_1724 ⟨by decide +kernel, by decide +kernel, (by decide +kernel : (parseMethodDescriptor mX12_divisor.1.desc).map (fun d => d.parameters.length) = some 2)⟩ (by decide) rfl hdg hsum kk
def fX12_divisor_21 (a0 : Int32) (a1 : Int32) (a2 : Int32) : Option Int32 :=
  some a2
set_option maxRecDepth 100000 in
theorem fX12_divisor_21_ok {l : Launch} {G : ab_G} {S : ab_S} {I : ab_I} {J : ab_J} {P : ab_P} {Q : ab_Q} {a0 : Int32} {a1 : Int32} {a2 : Int32} (hB : bz_B S P) {x : Int32} (H : fX12_divisor_21 a0 a1 a2 = some x) (K0 : Q (some (.int x)) S I J P) : ab_WP l G mX12_divisor 0 21 [some (.int a0), some (.int a1), some (.int a2), none, none] [] S I J P 0 0 Q := by
  unfold fX12_divisor_21 at H
  refine ab_iload_n (z := 2) (by decide +kernel) rfl rfl ?_
  obtain rfl := Option.some.inj H
  exact ab_iret (by decide +kernel) rfl (Nat.le_refl _) (Nat.le_refl _) K0
def fX12_divisor_4 (a0 : Int32) (a1 : Int32) (a2 : Int32) (a3 : Int32) : Option ((Int32 × Int32) ⊕ Int32) :=
  if a3 ≤ 0 then
    (fX12_divisor_21 a0 a1 a2).map .inr
  else
    ab_gd (¬ a3 = 0) (
      some (.inl (a3, (a2 - a2 / a3 * a3)))
    )
set_option maxRecDepth 100000 in
theorem fX12_divisor_4_ok {l : Launch} {G : ab_G} {S : ab_S} {I : ab_I} {J : ab_J} {P : ab_P} {Q : ab_Q} {a0 : Int32} {a1 : Int32} {a2 : Int32} {a3 : Int32} (hB : bz_B S P) {x : ((Int32 × Int32) ⊕ Int32)} (H : fX12_divisor_4 a0 a1 a2 a3 = some x) (K1 : ∀ s, x = (.inl s) → ab_WP l G mX12_divisor 0 4 [some (.int a0), some (.int a1), some (.int s.1), some (.int s.2), none] [] S I J P 0 0 Q) (K0 : ∀ r, x = (.inr r) → Q (some (.int r)) S I J P) : ab_WP l G mX12_divisor 0 4 [some (.int a0), some (.int a1), some (.int a2), some (.int a3), none] [] S I J P 0 0 Q := by
  unfold fX12_divisor_4 at H
  refine ab_iload_n (z := 3) (by decide +kernel) rfl rfl ?_
  refine ab_if_le (off := 16) (tgt := 21) (by decide +kernel) rfl (fun hc => ?_) (fun hc => ?_)
  · replace H := ab_ifp H hc
    obtain ⟨y1, Hy, hx⟩ := ab_mp_of H
    subst hx
    replace H := Hy
    exact ab_wk (ab_le_some (ab_le_some (ab_le_some (ab_le_none (ab_le_none (ab_le_nil)))))) (fX12_divisor_21_ok hB H  (K0 _ rfl))
  · replace H := ab_ifn H hc
    refine ab_iload_n (z := 2) (by decide +kernel) rfl rfl ?_
    refine ab_iload_n (z := 3) (by decide +kernel) rfl rfl ?_
    obtain ⟨hg, H⟩ := ab_gd_of H
    refine ab_irem (by decide +kernel) hg ?_
    refine ab_istore (i := 4) (by decide +kernel) (by decide) rfl ?_
    refine ab_ls (ls' := [some (.int a0), some (.int a1), some (.int a2), some (.int a3), some (.int (a2 - a2 / a3 * a3))]) rfl ?_
    refine ab_iload_n (z := 3) (by decide +kernel) rfl rfl ?_
    refine ab_istore_n (z := 2) (by decide +kernel) rfl (by decide) rfl ?_
    refine ab_ls (ls' := [some (.int a0), some (.int a1), some (.int a3), some (.int a3), some (.int (a2 - a2 / a3 * a3))]) rfl ?_
    refine ab_iload (i := 4) (by decide +kernel) rfl ?_
    refine ab_istore_n (z := 3) (by decide +kernel) rfl (by decide) rfl ?_
    refine ab_ls (ls' := [some (.int a0), some (.int a1), some (.int a3), some (.int (a2 - a2 / a3 * a3)), some (.int (a2 - a2 / a3 * a3))]) rfl ?_
    refine ab_goto (off := -14) (tgt := 4) (by decide +kernel) rfl ?_
    exact ab_wk (ab_le_some (ab_le_some (ab_le_some (ab_le_some (ab_le_none (ab_le_nil)))))) (K1 (a3, (a2 - a2 / a3 * a3)) (Option.some.inj H).symm)
def fX12_divisor (a0 : Int32) (a1 : Int32) : Option Int32 :=
  ab_it (fun s => fX12_divisor_4 a0 a1 s.1 s.2) 5000 (a0, a1)
set_option maxRecDepth 100000 in
theorem mX12_divisor_ok {l : Launch} {G : ab_G} {S : ab_S} {I : ab_I} {J : ab_J} {P : ab_P} {Q : ab_Q} {a0 : Int32} {a1 : Int32} (hB : bz_B S P) {x : Int32} (H : fX12_divisor a0 a1 = some x) (K0 : Q (some (.int x)) S I J P) : ab_Call l G mX12_divisor 0 [.int a0, .int a1] S I J P Q := by
  unfold fX12_divisor at H
  refine ab_enter rfl (Nat.le_of_ble_eq_true rfl) (ab_wk (ls' := [some (.int a0), some (.int a1), none, none, none]) (ab_le_some (ab_le_some (ab_le_non0 (ab_le_non0 (ab_le_non0 ab_le_nil))))) ?_)
  refine ab_iload_n (z := 0) (by decide +kernel) rfl rfl ?_
  refine ab_istore_n (z := 2) (by decide +kernel) rfl (by decide) rfl ?_
  refine ab_ls (ls' := [some (.int a0), some (.int a1), some (.int a0), none, none]) rfl ?_
  refine ab_iload_n (z := 1) (by decide +kernel) rfl rfl ?_
  refine ab_istore_n (z := 3) (by decide +kernel) rfl (by decide) rfl ?_
  refine ab_ls (ls' := [some (.int a0), some (.int a1), some (.int a0), some (.int a1), none]) rfl ?_
  exact ab_wk (ab_le_some (ab_le_some (ab_le_some (ab_le_some (ab_le_none (ab_le_nil)))))) (ab_iter (body := (fun s => fX12_divisor_4 a0 a1 s.1 s.2)) (W := fun s => ab_WP l G mX12_divisor 0 4 [some (.int a0), some (.int a1), some (.int s.1), some (.int s.2), none] [] S I J P 0 0 Q) (fun s y hb h1 h2 => fX12_divisor_4_ok hB hb h1 (fun r e => by have e2 := h2 _ e; subst e2; exact K0)) 5000 (a0, a1) H)
abbrev mX12_odds : ab_M := (yX12_odds, cX12_odds, 6, some .int, 0, 0)
def fX12_odds_64 (a1 : Int32) (a2 : Int32) (I : ab_I) (s0 : Int32) : Option Int32 :=
  some s0
set_option maxRecDepth 100000 in
theorem fX12_odds_64_ok {l : Launch} {G : ab_G} {S : ab_S} {I : ab_I} {J : ab_J} {P : ab_P} {Q : ab_Q} {a1 : Int32} {a2 : Int32} {s0 : Int32} (hB : bz_B S P) {x : Int32} (H : fX12_odds_64 a1 a2 I s0 = some x) (K0 : Q (some (.int x)) S I J P) : ab_WP l G mX12_odds 1 64 [some (.ref 73), some (.int a1), some (.int a2), none, none, none] [.int s0] S I J P 0 0 Q := by
  unfold fX12_odds_64 at H
  obtain rfl := Option.some.inj H
  exact ab_iret (by decide +kernel) rfl (Nat.le_refl _) (Nat.le_refl _) K0
def fX12_odds_18 (a1 : Int32) (a2 : Int32) (I : ab_I) : Option Int32 :=
  some (-1 : Int32)
set_option maxRecDepth 100000 in
theorem fX12_odds_18_ok {l : Launch} {G : ab_G} {S : ab_S} {I : ab_I} {J : ab_J} {P : ab_P} {Q : ab_Q} {a1 : Int32} {a2 : Int32} (hB : bz_B S P) {x : Int32} (H : fX12_odds_18 a1 a2 I = some x) (K0 : Q (some (.int x)) S I J P) : ab_WP l G mX12_odds 1 18 [some (.ref 73), some (.int a1), some (.int a2), none, none, none] [] S I J P 0 0 Q := by
  unfold fX12_odds_18 at H
  refine ab_iconst (z := -1) (v := (-1 : Int32)) (by decide +kernel) (by decide) ?_
  obtain rfl := Option.some.inj H
  exact ab_iret (by decide +kernel) rfl (Nat.le_refl _) (Nat.le_refl _) K0
def fX12_odds (a1 : Int32) (a2 : Int32) (I : ab_I) : Option Int32 :=
  (fX12_isIn a1 (0 : Int32) (4 : Int32)).bind fun u1 =>
  if u1 = 0 then
    fX12_odds_18 a1 a2 I
  else
    (fX12_isIn a2 (0 : Int32) (1 : Int32)).bind fun u2 =>
    if u2 = 0 then
      fX12_odds_18 a1 a2 I
    else
      (fX12_power ((100 : Int32) - (I 73 43)) a1).bind fun u3 =>
      (fX12_power (100 : Int32) a1).bind fun u4 =>
      (fX12_divisor u4 u3).bind fun u5 =>
      if a2 = 0 then
        ab_gd (¬ u5 = 0) (
          fX12_odds_64 a1 a2 I (u3 / u5)
        )
      else
        ab_gd (¬ u5 = 0) (
          fX12_odds_64 a1 a2 I (u4 / u5)
        )
set_option maxRecDepth 100000 in
theorem mX12_odds_ok {l : Launch} {G : ab_G} {S : ab_S} {I : ab_I} {J : ab_J} {P : ab_P} {Q : ab_Q} {a1 : Int32} {a2 : Int32} (hB : bz_B S P) {x : Int32} (H : fX12_odds a1 a2 I = some x) (K0 : Q (some (.int x)) S I J P) : ab_Call l G mX12_odds 1 [.ref 73, .int a1, .int a2] S I J P Q := by
  unfold fX12_odds at H
  refine ab_enter rfl (Nat.le_of_ble_eq_true rfl) (ab_wk (ls' := [some (.ref 73), some (.int a1), some (.int a2), none, none, none]) (ab_le_some (ab_le_some (ab_le_some (ab_le_non0 (ab_le_non0 (ab_le_non0 ab_le_nil)))))) ?_)
  refine ab_iload_n (z := 1) (by decide +kernel) rfl rfl ?_
  refine ab_iconst (z := 0) (v := (0 : Int32)) (by decide +kernel) (by decide) ?_
  refine ab_iconst (z := 4) (v := (4 : Int32)) (by decide +kernel) (by decide) ?_
  obtain ⟨u1, hu1, H⟩ := ab_bd_of H
  refine ksX12_isIn (D := 0) (ix := 384) (by decide +kernel) tw_1474 (by decide) (Nat.le_of_ble_eq_true rfl) (mX12_isIn_ok hB hu1 ?_)
  change ab_WP l G mX12_odds 1 6 [some (.ref 73), some (.int a1), some (.int a2), none, none, none] [.int u1] S I J P 0 0 Q
  refine ab_if_eq (off := 12) (tgt := 18) (by decide +kernel) rfl (fun hc => ?_) (fun hc => ?_)
  · replace H := ab_ifp H hc
    exact ab_wk (ab_le_some (ab_le_some (ab_le_some (ab_le_none (ab_le_none (ab_le_none (ab_le_nil))))))) (fX12_odds_18_ok hB H  K0)
  · replace H := ab_ifn H hc
    refine ab_iload_n (z := 2) (by decide +kernel) rfl rfl ?_
    refine ab_iconst (z := 0) (v := (0 : Int32)) (by decide +kernel) (by decide) ?_
    refine ab_iconst (z := 1) (v := (1 : Int32)) (by decide +kernel) (by decide) ?_
    obtain ⟨u2, hu2, H⟩ := ab_bd_of H
    refine ksX12_isIn (D := 0) (ix := 384) (by decide +kernel) tw_1474 (by decide) (Nat.le_of_ble_eq_true rfl) (mX12_isIn_ok hB hu2 ?_)
    change ab_WP l G mX12_odds 1 15 [some (.ref 73), some (.int a1), some (.int a2), none, none, none] [.int u2] S I J P 0 0 Q
    refine ab_if_ne (off := 5) (tgt := 20) (by decide +kernel) rfl (fun hc => ?_) (fun hc => ?_)
    · replace H := ab_ifn H hc
      refine ab_bipush (z := 100) (v := (100 : Int32)) (by decide +kernel) (by decide) ?_
      refine ab_aload_n (z := 0) (by decide +kernel) rfl rfl ?_
      refine gX12_43 (ix := 360) (by decide +kernel) tw_1124 (hB.1 73 _ rfl) ?_
      refine ab_isub (by decide +kernel) ?_
      refine ab_iload_n (z := 1) (by decide +kernel) rfl rfl ?_
      obtain ⟨u3, hu3, H⟩ := ab_bd_of H
      refine ksX12_power (D := 0) (ix := 452) (by decide +kernel) tw_1643 (by decide) (Nat.le_of_ble_eq_true rfl) (mX12_power_ok hB hu3 ?_)
      change ab_WP l G mX12_odds 1 31 [some (.ref 73), some (.int a1), some (.int a2), none, none, none] [.int u3] S I J P 0 0 Q
      refine ab_istore_n (z := 3) (by decide +kernel) rfl (by decide) rfl ?_
      refine ab_ls (ls' := [some (.ref 73), some (.int a1), some (.int a2), some (.int u3), none, none]) rfl ?_
      refine ab_bipush (z := 100) (v := (100 : Int32)) (by decide +kernel) (by decide) ?_
      refine ab_iload_n (z := 1) (by decide +kernel) rfl rfl ?_
      obtain ⟨u4, hu4, H⟩ := ab_bd_of H
      refine ksX12_power (D := 0) (ix := 452) (by decide +kernel) tw_1643 (by decide) (Nat.le_of_ble_eq_true rfl) (mX12_power_ok hB hu4 ?_)
      change ab_WP l G mX12_odds 1 38 [some (.ref 73), some (.int a1), some (.int a2), some (.int u3), none, none] [.int u4] S I J P 0 0 Q
      refine ab_istore (i := 4) (by decide +kernel) (by decide) rfl ?_
      refine ab_ls (ls' := [some (.ref 73), some (.int a1), some (.int a2), some (.int u3), some (.int u4), none]) rfl ?_
      refine ab_iload (i := 4) (by decide +kernel) rfl ?_
      refine ab_iload_n (z := 3) (by decide +kernel) rfl rfl ?_
      obtain ⟨u5, hu5, H⟩ := ab_bd_of H
      refine ksX12_divisor (D := 0) (ix := 473) (by decide +kernel) tw_1722 (by decide) (Nat.le_of_ble_eq_true rfl) (mX12_divisor_ok hB hu5 ?_)
      change ab_WP l G mX12_odds 1 46 [some (.ref 73), some (.int a1), some (.int a2), some (.int u3), some (.int u4), none] [.int u5] S I J P 0 0 Q
      refine ab_istore (i := 5) (by decide +kernel) (by decide) rfl ?_
      refine ab_ls (ls' := [some (.ref 73), some (.int a1), some (.int a2), some (.int u3), some (.int u4), some (.int u5)]) rfl ?_
      refine ab_iload_n (z := 2) (by decide +kernel) rfl rfl ?_
      refine ab_if_ne (off := 10) (tgt := 59) (by decide +kernel) rfl (fun hc => ?_) (fun hc => ?_)
      · replace H := ab_ifn H hc
        refine ab_iload (i := 4) (by decide +kernel) rfl ?_
        refine ab_iload (i := 5) (by decide +kernel) rfl ?_
        obtain ⟨hg, H⟩ := ab_gd_of H
        refine ab_idiv (by decide +kernel) hg ?_
        exact ab_wk (ab_le_some (ab_le_some (ab_le_some (ab_le_none (ab_le_none (ab_le_none (ab_le_nil))))))) (fX12_odds_64_ok hB H  K0)
      · replace H := ab_ifp H hc
        refine ab_iload_n (z := 3) (by decide +kernel) rfl rfl ?_
        refine ab_iload (i := 5) (by decide +kernel) rfl ?_
        obtain ⟨hg, H⟩ := ab_gd_of H
        refine ab_idiv (by decide +kernel) hg ?_
        refine ab_goto (off := 8) (tgt := 64) (by decide +kernel) rfl ?_
        exact ab_wk (ab_le_some (ab_le_some (ab_le_some (ab_le_none (ab_le_none (ab_le_none (ab_le_nil))))))) (fX12_odds_64_ok hB H  K0)
    · replace H := ab_ifp H hc
      exact ab_wk (ab_le_some (ab_le_some (ab_le_some (ab_le_none (ab_le_none (ab_le_none (ab_le_nil))))))) (fX12_odds_18_ok hB H  K0)
