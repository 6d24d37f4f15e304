/-! ===== locals that change ===== -/
def ab_lv (ad : Nat → Nat) (ls : List (Option Value)) : List (Nat × Value) := (List.range ls.length).filterMap (fun i => match ls[i]? with
  | some (some v) => some (i, ab_v ad v)
  | _ => none)
/-- no long stands just below -/
def ab_c1 (ls : List (Option Value)) (i : Nat) : Bool := match i with
  | 0 => true
  | j + 1 => match ls[j]? with
    | some (some (.long _)) => false
    | some (some (.double _)) => false
    | _ => true
theorem ab_lv_mem {ad : Nat → Nat} {ls : List (Option Value)} {i : Nat} {v : Value} (h : ls[i]? = some (some v)) : (i, ab_v ad v) ∈ ab_lv ad ls := by
  refine List.mem_filterMap.mpr ⟨i, List.mem_range.mpr (List.getElem?_eq_some_iff.mp h).1, ?_⟩
  simp only [h]
theorem ab_lv_of {ad : Nat → Nat} {ls : List (Option Value)} {q : Nat × Value} (h : q ∈ ab_lv ad ls) : ∃ v, ls[q.1]? = some (some v) ∧ q.2 = ab_v ad v := by
  obtain ⟨i, -, h2⟩ := List.mem_filterMap.mp h
  split at h2
  · rename_i v hv
    cases h2
    exact ⟨v, hv, rfl⟩
  · cases h2
theorem ab_L.has {n : Nat} {ad : Nat → Nat} {ls : List (Option Value)} {arr : Array Slot} {nL : Nat} (h : ab_L n ad ls arr nL) : lv_has arr nL (ab_lv ad ls) := by
  refine ⟨h.1, h.2.1, fun q hq => ?_⟩
  obtain ⟨v, h1, h2⟩ := ab_lv_of hq
  rw [h2]
  exact (h.2.2 _ _ h1).2
theorem ab_cat (ad : Nat → Nat) (v : Value) : (ab_v ad v).category = v.category := by cases v <;> rfl
theorem ab_L.set {n : Nat} {ad : Nat → Nat} {ls : List (Option Value)} {arr arr' : Array Slot} {nL i : Nat} {v : Value} (h : ab_L n ad ls arr nL) (hk : ab_ok n v) (hc : ab_c1 ls i = true)
    (h' : lv_has arr' nL ((i, ab_v ad v) :: (ab_lv ad ls).filter (fun q => !(q.1 == i) && !(q.1 + 1 == i && q.2.category == 2)))) : ab_L n ad (ls.set i (some v)) arr' nL := by
  refine ⟨h'.1, h'.2.1, fun j w hj => ?_⟩
  by_cases e : i = j
  · subst e
    rw [List.getElem?_set] at hj
    simp only [if_true] at hj
    split at hj
    · cases hj
      exact ⟨hk, h'.2.2 _ List.mem_cons_self⟩
    · cases hj
  · rw [List.getElem?_set_ne e] at hj
    refine ⟨(h.2.2 j w hj).1, h'.2.2 (j, ab_v ad w) (List.mem_cons_of_mem _ (List.mem_filter.mpr ⟨ab_lv_mem hj, ?_⟩))⟩
    simp only [Bool.and_eq_true, Bool.not_eq_true', beq_eq_false_iff_ne, ne_eq, Bool.and_eq_false_iff]
    refine ⟨fun z => e z.symm, ?_⟩
    by_cases z : j + 1 = i
    · right
      subst z
      rw [ab_cat]
      unfold ab_c1 at hc
      simp only [hj] at hc
      cases w <;> simp_all [Value.category]
    · exact Or.inl z
theorem ab_fin {G : ab_G} {ad0 ad : Nat → Nat} {n0 : Nat} {A : Nat → Prop} {Q : ab_Q} {s t : State} {S : ab_S} {I : ab_I} {J : ab_J} {P : ab_P} {H : Heap} {locs : List Loc} {args : Array Value} (v : Option Value) (hQ : Q v S I J P) (ho : ∀ w, v = some w → ab_ok S.length w) (x1 : ab_ext n0 ad0 ad) (x2 : n0 ≤ S.length) (x3 : ab_wf S.length P) (x4 : va_P (G.1, G.2.1) vwCl (ab_w G.2.2 ad S I J P) H) (x5 : va_D A (ab_w G.2.2 ad S I J P)) (x6 : va_S A s.heap H locs) (hK : ab_K G s) (ht : t.heap = H) (hW : s.WarmedH t.vm) : ab_post G ad0 n0 A Q args s (.returned (v.map (ab_v ad))) t :=
  ⟨⟨v, S, I, J, P, ad, rfl, hQ, ho, x1, x2, x3, by rw [ht]; exact x4, x5, hK.warm hW⟩, x6.F ht⟩
section RV
variable {l : Launch} {G : ab_G} {M : ab_M} {d pc : Nat} {ls : List (Option Value)} {st : List Value} {S : ab_S} {I : ab_I} {J : ab_J} {P : ab_P} {k n : Nat} {Q : ab_Q}
theorem ab_istore_n {z : Fin 4} {i : Nat} {x : Int32} (hd : decode M.2.1 pc = .ok (.istore_n z, 1)) (hi : (z : Nat) = i) (hn : i < M.2.2.1) (hc : ab_c1 ls i = true) (kk : ab_WP l G M d (pc + 1) (ls.set i (some (.int x))) st S I J P k n Q) : ab_WP l G M d pc ls (.int x :: st) S I J P k n Q := by
  intro p e s m args below meth c ad0 n0 A C ad H locs arr X
  obtain ⟨hx, hb, hml, hr, hlk, hown, hnm, hts, hK, hSt, hA⟩ := id C
  obtain ⟨x1, x2, x3, x4, x5, x6, x7, x8⟩ := X
  exact lv_istore_n hx hb hd hi x7.has hn rfl (fun ls' h' => kk p e s m args below meth c ad0 n0 A C ad H locs ls' ⟨x1, x2, x3, x4, x5, x6, x7.set (v := .int x) trivial hc h', fun w hw => x8 w (List.mem_cons_of_mem _ hw)⟩)
theorem ab_istore {i : Nat} {x : Int32} (hd : decode M.2.1 pc = .ok (.istore i, 2)) (hn : i < M.2.2.1) (hc : ab_c1 ls i = true) (kk : ab_WP l G M d (pc + 2) (ls.set i (some (.int x))) st S I J P k n Q) : ab_WP l G M d pc ls (.int x :: st) S I J P k n Q := by
  intro p e s m args below meth c ad0 n0 A C ad H locs arr X
  obtain ⟨hx, hb, hml, hr, hlk, hown, hnm, hts, hK, hSt, hA⟩ := id C
  obtain ⟨x1, x2, x3, x4, x5, x6, x7, x8⟩ := X
  exact lv_istore hx hb hd x7.has hn rfl (fun ls' h' => kk p e s m args below meth c ad0 n0 A C ad H locs ls' ⟨x1, x2, x3, x4, x5, x6, x7.set (v := .int x) trivial hc h', fun w hw => x8 w (List.mem_cons_of_mem _ hw)⟩)
theorem ab_astore_n {z : Fin 4} {i : Nat} {x : Nat} (hd : decode M.2.1 pc = .ok (.astore_n z, 1)) (hi : (z : Nat) = i) (hn : i < M.2.2.1) (hc : ab_c1 ls i = true) (kk : ab_WP l G M d (pc + 1) (ls.set i (some (.ref x))) st S I J P k n Q) : ab_WP l G M d pc ls (.ref x :: st) S I J P k n Q := by
  intro p e s m args below meth c ad0 n0 A C ad H locs arr X
  obtain ⟨hx, hb, hml, hr, hlk, hown, hnm, hts, hK, hSt, hA⟩ := id C
  obtain ⟨x1, x2, x3, x4, x5, x6, x7, x8⟩ := X
  exact lv_astore_n hx hb hd hi x7.has hn rfl (fun ls' h' => kk p e s m args below meth c ad0 n0 A C ad H locs ls' ⟨x1, x2, x3, x4, x5, x6, x7.set (v := .ref x) (x8 _ List.mem_cons_self) hc h', fun w hw => x8 w (List.mem_cons_of_mem _ hw)⟩)
theorem ab_astore_nN {z : Fin 4} {i : Nat} (hd : decode M.2.1 pc = .ok (.astore_n z, 1)) (hi : (z : Nat) = i) (hn : i < M.2.2.1) (hc : ab_c1 ls i = true) (kk : ab_WP l G M d (pc + 1) (ls.set i (some .null)) st S I J P k n Q) : ab_WP l G M d pc ls (.null :: st) S I J P k n Q := by
  intro p e s m args below meth c ad0 n0 A C ad H locs arr X
  obtain ⟨hx, hb, hml, hr, hlk, hown, hnm, hts, hK, hSt, hA⟩ := id C
  obtain ⟨x1, x2, x3, x4, x5, x6, x7, x8⟩ := X
  exact lv_astore_nN hx hb hd hi x7.has hn rfl (fun ls' h' => kk p e s m args below meth c ad0 n0 A C ad H locs ls' ⟨x1, x2, x3, x4, x5, x6, x7.set (v := .null) trivial hc h', fun w hw => x8 w (List.mem_cons_of_mem _ hw)⟩)
theorem ab_iinc {i : Nat} {z : Int} {x v : Int32} (hd : decode M.2.1 pc = .ok (.iinc i z, 3)) (hl : ls[i]? = some (some (.int x))) (hv : x + Int32.ofInt z = v) (hn : i < M.2.2.1) (hc : ab_c1 ls i = true) (kk : ab_WP l G M d (pc + 3) (ls.set i (some (.int v))) st S I J P k n Q) : ab_WP l G M d pc ls st S I J P k n Q := by
  intro p e s m args below meth c ad0 n0 A C ad H locs arr X
  obtain ⟨hx, hb, hml, hr, hlk, hown, hnm, hts, hK, hSt, hA⟩ := id C
  obtain ⟨x1, x2, x3, x4, x5, x6, x7, x8⟩ := X
  obtain ⟨j, hj⟩ := List.getElem?_of_mem (ab_lv_mem (ad := ad) hl)
  exact lv_iinc hx hb hd x7.has hj hv hn rfl (fun ls' h' => kk p e s m args below meth c ad0 n0 A C ad H locs ls' ⟨x1, x2, x3, x4, x5, x6, x7.set (v := .int v) trivial hc h', x8⟩)
theorem ab_lcmp {x y : Int64} (hd : decode M.2.1 pc = .ok (.lcmp, 1)) (kk : ab_WP l G M d (pc + 1) ls (.int (lg_cmp x y) :: st) S I J P k n Q) : ab_WP l G M d pc ls (.long y :: .long x :: st) S I J P k n Q := by
  intro p e s m args below meth c ad0 n0 A C ad H locs arr X
  obtain ⟨hx, hb, hml, hr, hlk, hown, hnm, hts, hK, hSt, hA⟩ := id C
  obtain ⟨x1, x2, x3, x4, x5, x6, x7, x8⟩ := X
  exact W.lcmp hx hb hd (kk p e s m args below meth c ad0 n0 A C ad H locs arr ⟨x1, x2, x3, x4, x5, x6, x7, List.forall_mem_cons.mpr ⟨trivial, fun w hw => x8 w (List.mem_cons_of_mem _ (List.mem_cons_of_mem _ hw))⟩⟩)
/-! ===== returns ===== -/
theorem ab_iret {x : Int32} (hd : decode M.2.1 pc = .ok (.ireturn, 1)) (hq : M.2.2.2.1 = some .int) (h1 : k ≤ M.2.2.2.2.1) (h2 : n ≤ M.2.2.2.2.2) (hQ : Q (some (.int x)) S I J P) : ab_WP l G M d pc ls [.int x] S I J P k n Q := by
  intro p e s m args below meth c ad0 n0 A C ad H locs arr X
  obtain ⟨hx, hb, hml, hr, hlk, hown, hnm, hts, hK, hSt, hA⟩ := id C
  obtain ⟨x1, x2, x3, x4, x5, x6, x7, x8⟩ := X
  refine W.widen h1 h2 ?_
  exact W.iret (Qc := ab_post G ad0 n0 A Q) (v := x) (hlocks := hlk) hx hb (hr.trans hq) (fun t ht hW => ab_fin (some (.int x)) hQ (fun w hw => by cases hw; trivial) x1 x2 x3 x4 x5 x6 hK ht hW) x6.2.2 hd
theorem ab_zret {x : Int32} (hd : decode M.2.1 pc = .ok (.ireturn, 1)) (hq : M.2.2.2.1 = some .boolean) (h1 : k ≤ M.2.2.2.2.1) (h2 : n ≤ M.2.2.2.2.2) (hz : x = 0 ∨ x = 1) (hQ : Q (some (.int x)) S I J P) : ab_WP l G M d pc ls [.int x] S I J P k n Q := by
  intro p e s m args below meth c ad0 n0 A C ad H locs arr X
  obtain ⟨hx, hb, hml, hr, hlk, hown, hnm, hts, hK, hSt, hA⟩ := id C
  obtain ⟨x1, x2, x3, x4, x5, x6, x7, x8⟩ := X
  refine W.widen h1 h2 ?_
  exact W.zret (Qc := ab_post G ad0 n0 A Q) (v := x) (hlocks := hlk) hx hb (hr.trans hq) (by rcases hz with rfl | rfl <;> decide) (fun t ht hW => ab_fin (some (.int x)) hQ (fun w hw => by cases hw; trivial) x1 x2 x3 x4 x5 x6 hK ht hW) x6.2.2 hd
theorem ab_vret (hd : decode M.2.1 pc = .ok (.return_, 1)) (hq : M.2.2.2.1 = none) (h1 : k ≤ M.2.2.2.2.1) (h2 : n ≤ M.2.2.2.2.2) (hQ : Q none S I J P) : ab_WP l G M d pc ls [] S I J P k n Q := by
  intro p e s m args below meth c ad0 n0 A C ad H locs arr X
  obtain ⟨hx, hb, hml, hr, hlk, hown, hnm, hts, hK, hSt, hA⟩ := id C
  obtain ⟨x1, x2, x3, x4, x5, x6, x7, x8⟩ := X
  refine W.widen h1 h2 ?_
  exact W.vret (Qc := ab_post G ad0 n0 A Q) (hlocks := hlk) hx hb (hr.trans hq) (fun t ht hW => ab_fin none hQ (fun w hw => by cases hw) x1 x2 x3 x4 x5 x6 hK ht hW) x6.2.2 hd
theorem ab_aret {v : Value} {C0 : String} (hd : decode M.2.1 pc = .ok (.areturn, 1)) (hq : M.2.2.2.1 = some (.object C0)) (h1 : k ≤ M.2.2.2.2.1) (h2 : n ≤ M.2.2.2.2.2) (hv : v = .null ∨ ∃ a, v = .ref a) (hQ : Q (some v) S I J P) : ab_WP l G M d pc ls [v] S I J P k n Q := by
  intro p e s m args below meth c ad0 n0 A C ad H locs arr X
  obtain ⟨hx, hb, hml, hr, hlk, hown, hnm, hts, hK, hSt, hA⟩ := id C
  obtain ⟨x1, x2, x3, x4, x5, x6, x7, x8⟩ := X
  refine W.widen h1 h2 ?_
  exact W.aret (Qc := ab_post G ad0 n0 A Q) (v := ab_v ad v) (hlocks := hlk) hx hb (hr.trans hq) (Or.inl ⟨_, rfl⟩) (by rcases hv with rfl | ⟨a, rfl⟩; exact Or.inl rfl; exact Or.inr ⟨_, rfl⟩) (fun t ht hW => ab_fin (some v) hQ (fun w hw => by cases hw; exact x8 v List.mem_cons_self) x1 x2 x3 x4 x5 x6 hK ht hW) x6.2.2 hd
/-! ===== fields ===== -/
theorem ab_getf {ix cc kf r ln t : Nat} {C0 : String} {T : u_T} {N : Nat} (hd : decode M.2.1 pc = .ok (.getfield ix, 3)) (hc : vwCl[cc]? = some (C0, T, N)) (hkN : kf < N) (hin : ∀ w ∈ u_ws C0 T N, w ∈ ab_good) (hl : Cond.fieldLink M.1.cls ix (T kf).1 (T kf).2.1 (T kf).2.2.1 ∈ ab_good) (ht : (ab_fk cc)[kf]? = some t) (hs : S[r]? = some (cc + 5, ln))
    {v : Value} (hv : ∀ ad, ab_v ad v = ab_fv ad I J P r kf t) (hok : ab_wf S.length P → ab_ok S.length v) (kk : ab_WP l G M d (pc + 3) ls (v :: st) S I J P k n Q) : ab_WP l G M d pc ls (.ref r :: st) S I J P k n Q := by
  intro p e s m args below meth c ad0 n0 A C ad H locs arr X
  obtain ⟨hx, hb, hml, hr, hlk, hown, hnm, hts, hK, hSt, hA⟩ := id C
  obtain ⟨x1, x2, x3, x4, x5, x6, x7, x8⟩ := X
  exact va_get (D := (G.1, G.2.1)) (ci := cc) (v := ab_v ad v) (C := C0) (T := T) (N := N) hx hb (fun w h => hts w (ab_ws_in h)) hin hown hK.1 x4 r (ab_w_at hs) hc kf hkN (hts _ (ab_ws_in hl)) (fun _ h9 => h9) (by rw [hv]; exact ab_fs_at ht) hd
    (kk p e s m args below meth c ad0 n0 A C ad H locs arr ⟨x1, x2, x3, x4, x5, x6, x7, List.forall_mem_cons.mpr ⟨hok x3, fun w hw => x8 w (List.mem_cons_of_mem _ hw)⟩⟩)
theorem ab_putf {ix cc kf r ln t : Nat} {C0 : String} {T : u_T} {N : Nat} {ty0 : Nat → FieldType} (hd : decode M.2.1 pc = .ok (.putfield ix, 3)) (hc : vwCl[cc]? = some (C0, T, N)) (hkN : kf < N) (hin : ∀ w ∈ u_ws C0 T N, w ∈ ab_good) (hty : ∀ k, k < N → parseFieldDescriptor (T k).2.2.1 = some (ty0 k)) (hnm : ∀ a, a < N → ∀ b, b < N → a ≠ b → (T a).2.1 ≠ (T b).2.1) (hl : Cond.fieldLink M.1.cls ix (T kf).1 (T kf).2.1 (T kf).2.2.1 ∈ ab_good) (ht : (ab_fk cc)[kf]? = some t)
    (hfin : (T kf).2.2.2 = false ∨ ((T kf).2.2.2 = true ∧ M.1.name = "<init>" ∧ (T kf).1 = M.1.cls)) (hs : S[r]? = some (cc + 5, ln)) {v : Value} {I' : ab_I} {J' : ab_J} {P' : ab_P} (hv : ∀ ad, ab_v ad v = ab_fv ad I' J' P' r kf t) (hn : ∀ ad, narrow (ty0 kf) (ab_v ad v) = ab_v ad v) (hfit : ∀ ad, fits (ty0 kf) (ab_v ad v) = true)
    (hI : (∀ q, q ≠ r → I' q = I q) ∧ (∀ q, q ≠ kf → I' r q = I r q)) (hJ : (∀ q, q ≠ r → J' q = J q) ∧ (∀ q, q ≠ kf → J' r q = J r q)) (hP : (∀ q, q ≠ r → P' q = P q) ∧ (∀ q, q ≠ kf → P' r q = P r q)) (hwf : ab_ok S.length v → ab_wf S.length P → ab_wf S.length P')
    (kk : ab_WP l G M d (pc + 3) ls st S I' J' P' k n Q) : ab_WP l G M d pc ls (v :: .ref r :: st) S I J P k n Q := by
  intro p e s m args below meth c ad0 n0 A C ad H locs arr X
  obtain ⟨hx, hb, hml, hr, hlk, hown, hnm2, hts, hK, hSt, hA⟩ := id C
  obtain ⟨x1, x2, x3, x4, x5, x6, x7, x8⟩ := X
  have hset : (ab_w G.2.2 ad S I J P).set r (ad r, .inr (cc, (ab_fs ad I J P r cc).set kf (ab_v ad v))) = ab_w G.2.2 ad S I' J' P' := by
    rw [hv, ab_fs_set ht hI.2 hJ.2 hP.2]
    exact ab_w_set hs hI.1 hJ.1 hP.1
  have hlen : kf < (ab_fs ad I J P r cc).length := by rw [ab_fs_len]; exact (List.getElem?_eq_some_iff.mp ht).1
  have go : ∀ (H1 : Heap) (locs1 : List Loc), va_P (G.1, G.2.1) vwCl ((ab_w G.2.2 ad S I J P).set r (ad r, .inr (cc, (ab_fs ad I J P r cc).set kf (ab_v ad v)))) H1 → va_D A ((ab_w G.2.2 ad S I J P).set r (ad r, .inr (cc, (ab_fs ad I J P r cc).set kf (ab_v ad v)))) → va_S A s.heap H1 locs1 →
      W p l e (ab_rm d M.2.2.2.2.1 M.2.2.2.2.2) s m args below meth c H1 locs1 k n (MQ below (ab_post G ad0 n0 A Q) args s M.2.2.2.2.1 M.2.2.2.2.2 A) (F0 m (pc + 3) arr (st.map (ab_v ad))) := by
    intro H1 locs1 q1 q2 q3
    rw [hset] at q1 q2
    exact kk p e s m args below meth c ad0 n0 A C ad H1 locs1 arr ⟨x1, x2, hwf (x8 v List.mem_cons_self) x3, q1, q2, q3, x7, fun w hw => x8 w (List.mem_cons_of_mem _ (List.mem_cons_of_mem _ hw))⟩
  rcases hfin with hf | ⟨hf, hf2, hf3⟩
  · exact va_put (D := (G.1, G.2.1)) (ci := cc) (v := ab_v ad v) (ty := ty0 kf) (C := C0) (T := T) (N := N) hx hb (fun w h => hts w (ab_ws_in h)) hin ty0 hty hnm hown hK.1 x4 x5 x6 r (ab_w_at hs) hc kf hkN (hts _ (ab_ws_in hl)) (fun _ h9 => h9) hf (hty kf hkN) (hn ad) (hfit ad) hlen hd go
  · exact va_putF (D := (G.1, G.2.1)) (ci := cc) (v := ab_v ad v) (ty := ty0 kf) (C := C0) (T := T) (N := N) hx hb (fun w h => hts w (ab_ws_in h)) hin ty0 hty hnm hown hK.1 x4 x5 x6 r (ab_w_at hs) hc kf hkN (hts _ (ab_ws_in hl)) (fun _ h9 => h9) hf (hnm2.trans hf2) hf3 (hty kf hkN) (hn ad) (hfit ad) hlen hd go
end RV
