/-! ===== A METHOD WALKED OVER THE ABSTRACT HEAP ===== -/
/-- a method: its name, code, locals, what it answers, how many cells and slots it may make -/
abbrev ab_M : Type := MethodName × ByteArray × Nat × Option FieldType × Nat × Nat
def ab_rm (d mc ms : Nat) : Room := { frames := d, cells := mc, slots := ms, locals := 64 * d }
def ab_good : List Cond := lw_tbl.filter goodWord
def ab_ws (M : ab_M) : List Cond := .code M.1 M.2.1 M.2.2.1 M.2.2.2.1 :: ab_good
abbrev ab_Q : Type := Option Value → ab_S → ab_I → ab_J → ab_P → Prop
def ab_words : Nat → Value := fun k => match k with
  | 0 => .long 123581014175598
  | 1 => .long 1650814060
  | 2 => .long 465726301555
  | 3 => .long 131277443786867
  | 4 => .long 439720568179
  | 5 => .long 1685217655
  | 6 => .long 6840691
  | 7 => .long 1752135026
  | 8 => .long 1819243379
  | 9 => .long 1920298599
  | 10 => .long 1751478885
  | 11 => .long 6578553
  | 12 => .long 28530
  | 13 => .long 6385252
  | _ => .long 7237492
/-- what the tables say and keep saying -/
def ab_K (G : ab_G) (U : State) : Prop := va_K (G.1, G.2.1) vwCl (ab_tys G.2.2) U ∧ va_AO "BellRingers$State" U ∧ (∀ (a : String) (i : Nat) (x : MethodName) (h : String), Cond.methodLinkNest a i x h ∈ tables_1 → va_Nw (.methodLinkNest a i x h) U) ∧ (∀ (a : String) (i : Nat) (b n d h : String), Cond.fieldLinkNest a i b n d h ∈ tables_1 → va_Nw (.fieldLinkNest a i b n d h) U)
/-- the static row of words, which nobody writes -/
def ab_St (A : Nat → Prop) (U : State) (H : Heap) : Prop := ∃ w : Nat, va_Z "BellRingers" "WORDS" "[J" (.ref w) A U H ∧ va_T .long w 15 ab_words A U H
def ab_wf (n : Nat) (P : ab_P) : Prop := ∀ r k a, P r k = some a → a < n
def ab_ext (n0 : Nat) (ad0 ad : Nat → Nat) : Prop := ∀ k, k < n0 → ad k = ad0 k
def ab_L (n : Nat) (ad : Nat → Nat) (ls : List (Option Value)) (arr : Array Slot) (nL : Nat) : Prop := arr.size = nL ∧ lv_wf arr ∧ ∀ (i : Nat) (v : Value), ls[i]? = some (some v) → ab_ok n v ∧ arr[i]? = some (Slot.val (ab_v ad v))
def ab_post (G : ab_G) (ad0 : Nat → Nat) (n0 : Nat) (A : Nat → Prop) (Q : ab_Q) : Array Value → State → Outcome → State → Prop := fun _ st o t =>
  (∃ (v : Option Value) (S : ab_S) (I : ab_I) (J : ab_J) (P : ab_P) (ad : Nat → Nat), o = .returned (v.map (ab_v ad)) ∧ Q v S I J P ∧ (∀ w, v = some w → ab_ok S.length w) ∧ ab_ext n0 ad0 ad ∧ n0 ≤ S.length ∧ ab_wf S.length P ∧ va_P (G.1, G.2.1) vwCl (ab_w G.2.2 ad S I J P) t.heap ∧ va_D A (ab_w G.2.2 ad S I J P) ∧ ab_K G t) ∧ va_F A st t
/-- a method's contract at a heap -/
def ab_Call (l : Launch) (G : ab_G) (M : ab_M) (d : Nat) (as : List Value) (S : ab_S) (I : ab_I) (J : ab_J) (P : ab_P) (Q : ab_Q) : Prop :=
  ab_wf S.length P → (∀ v ∈ as, ab_ok S.length v) → ∀ (ad : Nat → Nat) (sz : Nat), Met l M.1 (ab_ws M) (ab_rm d M.2.2.2.2.1 M.2.2.2.2.2)
    (va_Pc (as.map (ab_v ad)) (fun U => U.heap.size = sz ∧ va_P (G.1, G.2.1) vwCl (ab_w G.2.2 ad S I J P) U.heap ∧ va_D (fun _ => True) (ab_w G.2.2 ad S I J P) ∧ ab_K G U ∧ ab_St (va_A (ab_w G.2.2 ad S I J P) sz) U U.heap))
    (ab_post G ad S.length (va_A (ab_w G.2.2 ad S I J P) sz) Q) M.2.2.2.2.1 M.2.2.2.2.2 (va_A (ab_w G.2.2 ad S I J P) sz)
def ab_Ctx (G : ab_G) (M : ab_M) (p : Program) (s : State) (m : MethodId) (args : Array Value) (meth : Method) (c : Code) (A : Nat → Prop) : Prop :=
  p.tables.exec = Jvm.exec ∧ c.code = M.2.1 ∧ c.maxLocals = M.2.2.1 ∧ meth.sig.returnType = M.2.2.2.1 ∧ meth.locks = false ∧ s.vm.findClass M.1.cls = some m.cls ∧ meth.name = M.1.name ∧ (∀ w ∈ ab_ws M, w.before args s = true) ∧ ab_K G s ∧ ab_St A s s.heap ∧ (∀ q, s.heap.size ≤ q → A q)
def ab_X (G : ab_G) (ad0 : Nat → Nat) (n0 : Nat) (A : Nat → Prop) (s : State) (nL : Nat) (S : ab_S) (I : ab_I) (J : ab_J) (P : ab_P) (ls : List (Option Value)) (st : List Value) (ad : Nat → Nat) (H : Heap) (locs : List Loc) (arr : Array Slot) : Prop :=
  ab_ext n0 ad0 ad ∧ n0 ≤ S.length ∧ ab_wf S.length P ∧ va_P (G.1, G.2.1) vwCl (ab_w G.2.2 ad S I J P) H ∧ va_D A (ab_w G.2.2 ad S I J P) ∧ va_S A s.heap H locs ∧ ab_L S.length ad ls arr nL ∧ (∀ v ∈ st, ab_ok S.length v)
/-- the method M, at pc, with locals ls, stack st, the heap, k cells and n slots made so far, comes to its end with Q -/
def ab_WP (l : Launch) (G : ab_G) (M : ab_M) (d pc : Nat) (ls : List (Option Value)) (st : List Value) (S : ab_S) (I : ab_I) (J : ab_J) (P : ab_P) (k n : Nat) (Q : ab_Q) : Prop :=
  ∀ (p : Program) (e : Env) (s : State) (m : MethodId) (args : Array Value) (below : List Frame) (meth : Method) (c : Code) (ad0 : Nat → Nat) (n0 : Nat) (A : Nat → Prop), ab_Ctx G M p s m args meth c A →
  ∀ (ad : Nat → Nat) (H : Heap) (locs : List Loc) (arr : Array Slot), ab_X G ad0 n0 A s M.2.2.1 S I J P ls st ad H locs arr →
  W p l e (ab_rm d M.2.2.2.2.1 M.2.2.2.2.2) s m args below meth c H locs k n (MQ below (ab_post G ad0 n0 A Q) args s M.2.2.2.2.1 M.2.2.2.2.2 A) (F0 m pc arr (st.map (ab_v ad)))
theorem ab_K.warm {G : ab_G} {s U : State} (hW : s.WarmedH U.vm) (h : ab_K G s) : ab_K G U :=
  ⟨va_K.moved hW.alike h.1, h.2.1.moved hW.alike, fun a i x g hm => va_Nw.warmM hW (h.2.2.1 a i x g hm), fun a i b n d g hm => va_Nw.warmF hW (h.2.2.2 a i b n d g hm)⟩
theorem ab_good_in {w : Cond} (h : w ∈ lw_tbl) (hg : goodWord w = true) : w ∈ ab_good := List.mem_filter.mpr ⟨h, hg⟩
theorem ab_good_ok : ∀ w ∈ ab_good, w ∈ lw_tbl ∧ goodWord w = true := fun _ h => List.mem_filter.mp h
theorem ab_ws_in {M : ab_M} {w : Cond} (h : w ∈ ab_good) : w ∈ ab_ws M := List.mem_cons_of_mem _ h
section RU
variable {l : Launch} {G : ab_G} {M : ab_M} {d pc : Nat} {ls : List (Option Value)} {st : List Value} {S : ab_S} {I : ab_I} {J : ab_J} {P : ab_P} {k n : Nat} {Q : ab_Q}

theorem ab_iconst {z : Int} {v : Int32} (hd : decode M.2.1 pc = .ok (.iconst z, 1)) (hv : Int32.ofInt z = v) (kk : ab_WP l G M d (pc + 1) ls (.int v :: st) S I J P k n Q) : ab_WP l G M d pc ls (st) S I J P k n Q := by
  intro p e s m args below meth c ad0 n0 A C ad H locs arr X
  obtain ⟨hx, hb, hml, hr, hlk, hown, hnm, hts, hK, hSt, hA⟩ := id C
  obtain ⟨x1, x2, x3, x4, x5, x6, x7, x8⟩ := X
  exact lv_iconst (v := v) hx hb hd hv (kk p e s m args below meth c ad0 n0 A C ad H locs arr ⟨x1, x2, x3, x4, x5, x6, x7, List.forall_mem_cons.mpr ⟨trivial, x8⟩⟩)
theorem ab_bipush {z : Int} {v : Int32} (hd : decode M.2.1 pc = .ok (.bipush z, 2)) (hv : (Int8.ofInt z).toInt32 = v) (kk : ab_WP l G M d (pc + 2) ls (.int v :: st) S I J P k n Q) : ab_WP l G M d pc ls (st) S I J P k n Q := by
  intro p e s m args below meth c ad0 n0 A C ad H locs arr X
  obtain ⟨hx, hb, hml, hr, hlk, hown, hnm, hts, hK, hSt, hA⟩ := id C
  obtain ⟨x1, x2, x3, x4, x5, x6, x7, x8⟩ := X
  exact lv_bipush (v := v) hx hb hd hv (kk p e s m args below meth c ad0 n0 A C ad H locs arr ⟨x1, x2, x3, x4, x5, x6, x7, List.forall_mem_cons.mpr ⟨trivial, x8⟩⟩)
theorem ab_sipush {z : Int} {v : Int32} (hd : decode M.2.1 pc = .ok (.sipush z, 3)) (hv : (Int16.ofInt z).toInt32 = v) (kk : ab_WP l G M d (pc + 3) ls (.int v :: st) S I J P k n Q) : ab_WP l G M d pc ls (st) S I J P k n Q := by
  intro p e s m args below meth c ad0 n0 A C ad H locs arr X
  obtain ⟨hx, hb, hml, hr, hlk, hown, hnm, hts, hK, hSt, hA⟩ := id C
  obtain ⟨x1, x2, x3, x4, x5, x6, x7, x8⟩ := X
  exact lv_sipush (v := v) hx hb hd hv (kk p e s m args below meth c ad0 n0 A C ad H locs arr ⟨x1, x2, x3, x4, x5, x6, x7, List.forall_mem_cons.mpr ⟨trivial, x8⟩⟩)
theorem ab_lconst {z : Fin 2} {v : Int64} (hd : decode M.2.1 pc = .ok (.lconst z, 1)) (hv : Int64.ofNat (z : Nat) = v) (kk : ab_WP l G M d (pc + 1) ls (.long v :: st) S I J P k n Q) : ab_WP l G M d pc ls (st) S I J P k n Q := by
  intro p e s m args below meth c ad0 n0 A C ad H locs arr X
  obtain ⟨hx, hb, hml, hr, hlk, hown, hnm, hts, hK, hSt, hA⟩ := id C
  obtain ⟨x1, x2, x3, x4, x5, x6, x7, x8⟩ := X
  exact lv_lconst (v := v) hx hb hd hv (kk p e s m args below meth c ad0 n0 A C ad H locs arr ⟨x1, x2, x3, x4, x5, x6, x7, List.forall_mem_cons.mpr ⟨trivial, x8⟩⟩)
theorem ab_anull  (hd : decode M.2.1 pc = .ok (.aconst_null, 1)) (kk : ab_WP l G M d (pc + 1) ls (.null :: st) S I J P k n Q) : ab_WP l G M d pc ls (st) S I J P k n Q := by
  intro p e s m args below meth c ad0 n0 A C ad H locs arr X
  obtain ⟨hx, hb, hml, hr, hlk, hown, hnm, hts, hK, hSt, hA⟩ := id C
  obtain ⟨x1, x2, x3, x4, x5, x6, x7, x8⟩ := X
  exact lv_null hx hb hd (kk p e s m args below meth c ad0 n0 A C ad H locs arr ⟨x1, x2, x3, x4, x5, x6, x7, List.forall_mem_cons.mpr ⟨trivial, x8⟩⟩)
theorem ab_ldc {ix : Nat} {v : Int32} (hd : decode M.2.1 pc = .ok (.ldc ix, 2)) (hc : Cond.constant M.1.cls ix v ∈ ab_good) (kk : ab_WP l G M d (pc + 2) ls (.int v :: st) S I J P k n Q) : ab_WP l G M d pc ls (st) S I J P k n Q := by
  intro p e s m args below meth c ad0 n0 A C ad H locs arr X
  obtain ⟨hx, hb, hml, hr, hlk, hown, hnm, hts, hK, hSt, hA⟩ := id C
  obtain ⟨x1, x2, x3, x4, x5, x6, x7, x8⟩ := X
  exact lv_ldc (v := v) hx hb hown (hts _ (ab_ws_in hc)) hd (kk p e s m args below meth c ad0 n0 A C ad H locs arr ⟨x1, x2, x3, x4, x5, x6, x7, List.forall_mem_cons.mpr ⟨trivial, x8⟩⟩)
theorem ab_ldcw {ix : Nat} {v : Int32} (hd : decode M.2.1 pc = .ok (.ldc_w ix, 3)) (hc : Cond.constant M.1.cls ix v ∈ ab_good) (kk : ab_WP l G M d (pc + 3) ls (.int v :: st) S I J P k n Q) : ab_WP l G M d pc ls (st) S I J P k n Q := by
  intro p e s m args below meth c ad0 n0 A C ad H locs arr X
  obtain ⟨hx, hb, hml, hr, hlk, hown, hnm, hts, hK, hSt, hA⟩ := id C
  obtain ⟨x1, x2, x3, x4, x5, x6, x7, x8⟩ := X
  exact lv_ldcw (v := v) hx hb hown (hts _ (ab_ws_in hc)) hd (kk p e s m args below meth c ad0 n0 A C ad H locs arr ⟨x1, x2, x3, x4, x5, x6, x7, List.forall_mem_cons.mpr ⟨trivial, x8⟩⟩)
theorem ab_ldc2 {ix : Nat} {v : Int64} (hd : decode M.2.1 pc = .ok (.ldc2_w ix, 3)) (hc : Cond.constantLong M.1.cls ix v ∈ ab_good) (kk : ab_WP l G M d (pc + 3) ls (.long v :: st) S I J P k n Q) : ab_WP l G M d pc ls (st) S I J P k n Q := by
  intro p e s m args below meth c ad0 n0 A C ad H locs arr X
  obtain ⟨hx, hb, hml, hr, hlk, hown, hnm, hts, hK, hSt, hA⟩ := id C
  obtain ⟨x1, x2, x3, x4, x5, x6, x7, x8⟩ := X
  exact lv_ldc2 (v := v) hx hb hown (hts _ (ab_ws_in hc)) hd (kk p e s m args below meth c ad0 n0 A C ad H locs arr ⟨x1, x2, x3, x4, x5, x6, x7, List.forall_mem_cons.mpr ⟨trivial, x8⟩⟩)
theorem ab_iload_n {z : Fin 4} {i : Nat} {x : Int32} (hd : decode M.2.1 pc = .ok (.iload_n z, 1)) (hi : (z : Nat) = i) (hl : ls[i]? = some (some (.int x))) (kk : ab_WP l G M d (pc + 1) ls (.int x :: st) S I J P k n Q) : ab_WP l G M d pc ls (st) S I J P k n Q := by
  intro p e s m args below meth c ad0 n0 A C ad H locs arr X
  obtain ⟨hx, hb, hml, hr, hlk, hown, hnm, hts, hK, hSt, hA⟩ := id C
  obtain ⟨x1, x2, x3, x4, x5, x6, x7, x8⟩ := X
  exact lv_iload_n hx hb hd hi (x7.2.2 i _ hl).2 (kk p e s m args below meth c ad0 n0 A C ad H locs arr ⟨x1, x2, x3, x4, x5, x6, x7, List.forall_mem_cons.mpr ⟨trivial, x8⟩⟩)
theorem ab_iload {i : Nat} {x : Int32} (hd : decode M.2.1 pc = .ok (.iload i, 2)) (hl : ls[i]? = some (some (.int x))) (kk : ab_WP l G M d (pc + 2) ls (.int x :: st) S I J P k n Q) : ab_WP l G M d pc ls (st) S I J P k n Q := by
  intro p e s m args below meth c ad0 n0 A C ad H locs arr X
  obtain ⟨hx, hb, hml, hr, hlk, hown, hnm, hts, hK, hSt, hA⟩ := id C
  obtain ⟨x1, x2, x3, x4, x5, x6, x7, x8⟩ := X
  exact lv_iload hx hb hd (x7.2.2 i _ hl).2 (kk p e s m args below meth c ad0 n0 A C ad H locs arr ⟨x1, x2, x3, x4, x5, x6, x7, List.forall_mem_cons.mpr ⟨trivial, x8⟩⟩)
theorem ab_lload_n {z : Fin 4} {i : Nat} {x : Int64} (hd : decode M.2.1 pc = .ok (.lload_n z, 1)) (hi : (z : Nat) = i) (hl : ls[i]? = some (some (.long x))) (kk : ab_WP l G M d (pc + 1) ls (.long x :: st) S I J P k n Q) : ab_WP l G M d pc ls (st) S I J P k n Q := by
  intro p e s m args below meth c ad0 n0 A C ad H locs arr X
  obtain ⟨hx, hb, hml, hr, hlk, hown, hnm, hts, hK, hSt, hA⟩ := id C
  obtain ⟨x1, x2, x3, x4, x5, x6, x7, x8⟩ := X
  exact lv_lload_n hx hb hd hi (x7.2.2 i _ hl).2 (kk p e s m args below meth c ad0 n0 A C ad H locs arr ⟨x1, x2, x3, x4, x5, x6, x7, List.forall_mem_cons.mpr ⟨trivial, x8⟩⟩)
theorem ab_aload_n {z : Fin 4} {i : Nat} {x : Nat} (hd : decode M.2.1 pc = .ok (.aload_n z, 1)) (hi : (z : Nat) = i) (hl : ls[i]? = some (some (.ref x))) (kk : ab_WP l G M d (pc + 1) ls (.ref x :: st) S I J P k n Q) : ab_WP l G M d pc ls (st) S I J P k n Q := by
  intro p e s m args below meth c ad0 n0 A C ad H locs arr X
  obtain ⟨hx, hb, hml, hr, hlk, hown, hnm, hts, hK, hSt, hA⟩ := id C
  obtain ⟨x1, x2, x3, x4, x5, x6, x7, x8⟩ := X
  exact lv_aload_n hx hb hd hi (x7.2.2 i _ hl).2 (kk p e s m args below meth c ad0 n0 A C ad H locs arr ⟨x1, x2, x3, x4, x5, x6, x7, List.forall_mem_cons.mpr ⟨(x7.2.2 i _ hl).1, x8⟩⟩)
theorem ab_aload {i : Nat} {x : Nat} (hd : decode M.2.1 pc = .ok (.aload i, 2)) (hl : ls[i]? = some (some (.ref x))) (kk : ab_WP l G M d (pc + 2) ls (.ref x :: st) S I J P k n Q) : ab_WP l G M d pc ls (st) S I J P k n Q := by
  intro p e s m args below meth c ad0 n0 A C ad H locs arr X
  obtain ⟨hx, hb, hml, hr, hlk, hown, hnm, hts, hK, hSt, hA⟩ := id C
  obtain ⟨x1, x2, x3, x4, x5, x6, x7, x8⟩ := X
  exact lv_aload hx hb hd (x7.2.2 i _ hl).2 (kk p e s m args below meth c ad0 n0 A C ad H locs arr ⟨x1, x2, x3, x4, x5, x6, x7, List.forall_mem_cons.mpr ⟨(x7.2.2 i _ hl).1, x8⟩⟩)
theorem ab_aload_nN {z : Fin 4} {i : Nat} (hd : decode M.2.1 pc = .ok (.aload_n z, 1)) (hi : (z : Nat) = i) (hl : ls[i]? = some (some .null)) (kk : ab_WP l G M d (pc + 1) ls (.null :: st) S I J P k n Q) : ab_WP l G M d pc ls (st) S I J P k n Q := by
  intro p e s m args below meth c ad0 n0 A C ad H locs arr X
  obtain ⟨hx, hb, hml, hr, hlk, hown, hnm, hts, hK, hSt, hA⟩ := id C
  obtain ⟨x1, x2, x3, x4, x5, x6, x7, x8⟩ := X
  exact lv_aload_nN hx hb hd hi (x7.2.2 i _ hl).2 (kk p e s m args below meth c ad0 n0 A C ad H locs arr ⟨x1, x2, x3, x4, x5, x6, x7, List.forall_mem_cons.mpr ⟨trivial, x8⟩⟩)
theorem ab_dup {v : Value} (hd : decode M.2.1 pc = .ok (.dup, 1)) (hv : v.category = 1) (kk : ab_WP l G M d (pc + 1) ls (v :: v :: st) S I J P k n Q) : ab_WP l G M d pc ls (v :: st) S I J P k n Q := by
  intro p e s m args below meth c ad0 n0 A C ad H locs arr X
  obtain ⟨hx, hb, hml, hr, hlk, hown, hnm, hts, hK, hSt, hA⟩ := id C
  obtain ⟨x1, x2, x3, x4, x5, x6, x7, x8⟩ := X
  exact lv_dup hx hb hd (by cases v <;> exact hv) (kk p e s m args below meth c ad0 n0 A C ad H locs arr ⟨x1, x2, x3, x4, x5, x6, x7, List.forall_mem_cons.mpr ⟨x8 v List.mem_cons_self, x8⟩⟩)
theorem ab_dup2 {v w : Value} (hd : decode M.2.1 pc = .ok (.dup2, 1)) (hv : v.category = 1) (hw : w.category = 1) (kk : ab_WP l G M d (pc + 1) ls (v :: w :: v :: w :: st) S I J P k n Q) : ab_WP l G M d pc ls (v :: w :: st) S I J P k n Q := by
  intro p e s m args below meth c ad0 n0 A C ad H locs arr X
  obtain ⟨hx, hb, hml, hr, hlk, hown, hnm, hts, hK, hSt, hA⟩ := id C
  obtain ⟨x1, x2, x3, x4, x5, x6, x7, x8⟩ := X
  exact lv_dup2_11 hx hb hd (by cases v <;> exact hv) (by cases w <;> exact hw) (kk p e s m args below meth c ad0 n0 A C ad H locs arr ⟨x1, x2, x3, x4, x5, x6, x7, List.forall_mem_cons.mpr ⟨x8 v List.mem_cons_self, List.forall_mem_cons.mpr ⟨x8 w (List.mem_cons_of_mem _ List.mem_cons_self), x8⟩⟩⟩)
theorem ab_pop {v : Value} (hd : decode M.2.1 pc = .ok (.pop, 1)) (hv : v.category = 1) (kk : ab_WP l G M d (pc + 1) ls (st) S I J P k n Q) : ab_WP l G M d pc ls (v :: st) S I J P k n Q := by
  intro p e s m args below meth c ad0 n0 A C ad H locs arr X
  obtain ⟨hx, hb, hml, hr, hlk, hown, hnm, hts, hK, hSt, hA⟩ := id C
  obtain ⟨x1, x2, x3, x4, x5, x6, x7, x8⟩ := X
  exact lv_pop hx hb hd (by cases v <;> exact hv) (kk p e s m args below meth c ad0 n0 A C ad H locs arr ⟨x1, x2, x3, x4, x5, x6, x7, fun w hw => x8 w (List.mem_cons_of_mem _ hw)⟩)
theorem ab_iadd {x y : Int32} (hd : decode M.2.1 pc = .ok (.iadd, 1)) (kk : ab_WP l G M d (pc + 1) ls (.int (x + y) :: st) S I J P k n Q) : ab_WP l G M d pc ls (.int y :: .int x :: st) S I J P k n Q := by
  intro p e s m args below meth c ad0 n0 A C ad H locs arr X
  obtain ⟨hx, hb, hml, hr, hlk, hown, hnm, hts, hK, hSt, hA⟩ := id C
  obtain ⟨x1, x2, x3, x4, x5, x6, x7, x8⟩ := X
  exact lv_iadd hx hb hd (kk p e s m args below meth c ad0 n0 A C ad H locs arr ⟨x1, x2, x3, x4, x5, x6, x7, List.forall_mem_cons.mpr ⟨trivial, fun w hw => x8 w (List.mem_cons_of_mem _ (List.mem_cons_of_mem _ hw))⟩⟩)
theorem ab_isub {x y : Int32} (hd : decode M.2.1 pc = .ok (.isub, 1)) (kk : ab_WP l G M d (pc + 1) ls (.int (x - y) :: st) S I J P k n Q) : ab_WP l G M d pc ls (.int y :: .int x :: st) S I J P k n Q := by
  intro p e s m args below meth c ad0 n0 A C ad H locs arr X
  obtain ⟨hx, hb, hml, hr, hlk, hown, hnm, hts, hK, hSt, hA⟩ := id C
  obtain ⟨x1, x2, x3, x4, x5, x6, x7, x8⟩ := X
  exact lv_isub hx hb hd (kk p e s m args below meth c ad0 n0 A C ad H locs arr ⟨x1, x2, x3, x4, x5, x6, x7, List.forall_mem_cons.mpr ⟨trivial, fun w hw => x8 w (List.mem_cons_of_mem _ (List.mem_cons_of_mem _ hw))⟩⟩)
theorem ab_imul {x y : Int32} (hd : decode M.2.1 pc = .ok (.imul, 1)) (kk : ab_WP l G M d (pc + 1) ls (.int (x * y) :: st) S I J P k n Q) : ab_WP l G M d pc ls (.int y :: .int x :: st) S I J P k n Q := by
  intro p e s m args below meth c ad0 n0 A C ad H locs arr X
  obtain ⟨hx, hb, hml, hr, hlk, hown, hnm, hts, hK, hSt, hA⟩ := id C
  obtain ⟨x1, x2, x3, x4, x5, x6, x7, x8⟩ := X
  exact lv_imul hx hb hd (kk p e s m args below meth c ad0 n0 A C ad H locs arr ⟨x1, x2, x3, x4, x5, x6, x7, List.forall_mem_cons.mpr ⟨trivial, fun w hw => x8 w (List.mem_cons_of_mem _ (List.mem_cons_of_mem _ hw))⟩⟩)
theorem ab_iand {x y : Int32} (hd : decode M.2.1 pc = .ok (.iand, 1)) (kk : ab_WP l G M d (pc + 1) ls (.int (x &&& y) :: st) S I J P k n Q) : ab_WP l G M d pc ls (.int y :: .int x :: st) S I J P k n Q := by
  intro p e s m args below meth c ad0 n0 A C ad H locs arr X
  obtain ⟨hx, hb, hml, hr, hlk, hown, hnm, hts, hK, hSt, hA⟩ := id C
  obtain ⟨x1, x2, x3, x4, x5, x6, x7, x8⟩ := X
  exact lv_iand hx hb hd (kk p e s m args below meth c ad0 n0 A C ad H locs arr ⟨x1, x2, x3, x4, x5, x6, x7, List.forall_mem_cons.mpr ⟨trivial, fun w hw => x8 w (List.mem_cons_of_mem _ (List.mem_cons_of_mem _ hw))⟩⟩)
theorem ab_ior {x y : Int32} (hd : decode M.2.1 pc = .ok (.ior, 1)) (kk : ab_WP l G M d (pc + 1) ls (.int (x ||| y) :: st) S I J P k n Q) : ab_WP l G M d pc ls (.int y :: .int x :: st) S I J P k n Q := by
  intro p e s m args below meth c ad0 n0 A C ad H locs arr X
  obtain ⟨hx, hb, hml, hr, hlk, hown, hnm, hts, hK, hSt, hA⟩ := id C
  obtain ⟨x1, x2, x3, x4, x5, x6, x7, x8⟩ := X
  exact lv_ior hx hb hd (kk p e s m args below meth c ad0 n0 A C ad H locs arr ⟨x1, x2, x3, x4, x5, x6, x7, List.forall_mem_cons.mpr ⟨trivial, fun w hw => x8 w (List.mem_cons_of_mem _ (List.mem_cons_of_mem _ hw))⟩⟩)
theorem ab_ixor {x y : Int32} (hd : decode M.2.1 pc = .ok (.ixor, 1)) (kk : ab_WP l G M d (pc + 1) ls (.int (x ^^^ y) :: st) S I J P k n Q) : ab_WP l G M d pc ls (.int y :: .int x :: st) S I J P k n Q := by
  intro p e s m args below meth c ad0 n0 A C ad H locs arr X
  obtain ⟨hx, hb, hml, hr, hlk, hown, hnm, hts, hK, hSt, hA⟩ := id C
  obtain ⟨x1, x2, x3, x4, x5, x6, x7, x8⟩ := X
  exact lv_ixor hx hb hd (kk p e s m args below meth c ad0 n0 A C ad H locs arr ⟨x1, x2, x3, x4, x5, x6, x7, List.forall_mem_cons.mpr ⟨trivial, fun w hw => x8 w (List.mem_cons_of_mem _ (List.mem_cons_of_mem _ hw))⟩⟩)
theorem ab_ishl {x y : Int32} (hd : decode M.2.1 pc = .ok (.ishl, 1)) (kk : ab_WP l G M d (pc + 1) ls (.int (x <<< (y &&& 31)) :: st) S I J P k n Q) : ab_WP l G M d pc ls (.int y :: .int x :: st) S I J P k n Q := by
  intro p e s m args below meth c ad0 n0 A C ad H locs arr X
  obtain ⟨hx, hb, hml, hr, hlk, hown, hnm, hts, hK, hSt, hA⟩ := id C
  obtain ⟨x1, x2, x3, x4, x5, x6, x7, x8⟩ := X
  exact lv_ishl hx hb hd (kk p e s m args below meth c ad0 n0 A C ad H locs arr ⟨x1, x2, x3, x4, x5, x6, x7, List.forall_mem_cons.mpr ⟨trivial, fun w hw => x8 w (List.mem_cons_of_mem _ (List.mem_cons_of_mem _ hw))⟩⟩)
theorem ab_ishr {x y : Int32} (hd : decode M.2.1 pc = .ok (.ishr, 1)) (kk : ab_WP l G M d (pc + 1) ls (.int (x >>> (y &&& 31)) :: st) S I J P k n Q) : ab_WP l G M d pc ls (.int y :: .int x :: st) S I J P k n Q := by
  intro p e s m args below meth c ad0 n0 A C ad H locs arr X
  obtain ⟨hx, hb, hml, hr, hlk, hown, hnm, hts, hK, hSt, hA⟩ := id C
  obtain ⟨x1, x2, x3, x4, x5, x6, x7, x8⟩ := X
  exact lv_ishr hx hb hd (kk p e s m args below meth c ad0 n0 A C ad H locs arr ⟨x1, x2, x3, x4, x5, x6, x7, List.forall_mem_cons.mpr ⟨trivial, fun w hw => x8 w (List.mem_cons_of_mem _ (List.mem_cons_of_mem _ hw))⟩⟩)
theorem ab_idiv {x y : Int32} (hd : decode M.2.1 pc = .ok (.idiv, 1)) (hn : ¬ y = 0) (kk : ab_WP l G M d (pc + 1) ls (.int (x / y) :: st) S I J P k n Q) : ab_WP l G M d pc ls (.int y :: .int x :: st) S I J P k n Q := by
  intro p e s m args below meth c ad0 n0 A C ad H locs arr X
  obtain ⟨hx, hb, hml, hr, hlk, hown, hnm, hts, hK, hSt, hA⟩ := id C
  obtain ⟨x1, x2, x3, x4, x5, x6, x7, x8⟩ := X
  exact lv_idiv hx hb hd hn (kk p e s m args below meth c ad0 n0 A C ad H locs arr ⟨x1, x2, x3, x4, x5, x6, x7, List.forall_mem_cons.mpr ⟨trivial, fun w hw => x8 w (List.mem_cons_of_mem _ (List.mem_cons_of_mem _ hw))⟩⟩)
theorem ab_irem {x y : Int32} (hd : decode M.2.1 pc = .ok (.irem, 1)) (hn : ¬ y = 0) (kk : ab_WP l G M d (pc + 1) ls (.int (x - x / y * y) :: st) S I J P k n Q) : ab_WP l G M d pc ls (.int y :: .int x :: st) S I J P k n Q := by
  intro p e s m args below meth c ad0 n0 A C ad H locs arr X
  obtain ⟨hx, hb, hml, hr, hlk, hown, hnm, hts, hK, hSt, hA⟩ := id C
  obtain ⟨x1, x2, x3, x4, x5, x6, x7, x8⟩ := X
  exact lv_irem hx hb hd hn (kk p e s m args below meth c ad0 n0 A C ad H locs arr ⟨x1, x2, x3, x4, x5, x6, x7, List.forall_mem_cons.mpr ⟨trivial, fun w hw => x8 w (List.mem_cons_of_mem _ (List.mem_cons_of_mem _ hw))⟩⟩)
theorem ab_iushr {x y : Int32} (hd : decode M.2.1 pc = .ok (.iushr, 1)) (kk : ab_WP l G M d (pc + 1) ls (.int (x.toUInt32 >>> (y.toUInt32 &&& Int32.toUInt32 31)).toInt32 :: st) S I J P k n Q) : ab_WP l G M d pc ls (.int y :: .int x :: st) S I J P k n Q := by
  intro p e s m args below meth c ad0 n0 A C ad H locs arr X
  obtain ⟨hx, hb, hml, hr, hlk, hown, hnm, hts, hK, hSt, hA⟩ := id C
  obtain ⟨x1, x2, x3, x4, x5, x6, x7, x8⟩ := X
  exact lv_iushr hx hb hd rfl (kk p e s m args below meth c ad0 n0 A C ad H locs arr ⟨x1, x2, x3, x4, x5, x6, x7, List.forall_mem_cons.mpr ⟨trivial, fun w hw => x8 w (List.mem_cons_of_mem _ (List.mem_cons_of_mem _ hw))⟩⟩)
theorem ab_ineg {x : Int32} (hd : decode M.2.1 pc = .ok (.ineg, 1)) (kk : ab_WP l G M d (pc + 1) ls (.int (-x) :: st) S I J P k n Q) : ab_WP l G M d pc ls (.int x :: st) S I J P k n Q := by
  intro p e s m args below meth c ad0 n0 A C ad H locs arr X
  obtain ⟨hx, hb, hml, hr, hlk, hown, hnm, hts, hK, hSt, hA⟩ := id C
  obtain ⟨x1, x2, x3, x4, x5, x6, x7, x8⟩ := X
  exact lv_ineg hx hb hd (kk p e s m args below meth c ad0 n0 A C ad H locs arr ⟨x1, x2, x3, x4, x5, x6, x7, List.forall_mem_cons.mpr ⟨trivial, fun w hw => x8 w (List.mem_cons_of_mem _ hw)⟩⟩)
theorem ab_i2l {x : Int32} (hd : decode M.2.1 pc = .ok (.i2l, 1)) (kk : ab_WP l G M d (pc + 1) ls (.long x.toInt64 :: st) S I J P k n Q) : ab_WP l G M d pc ls (.int x :: st) S I J P k n Q := by
  intro p e s m args below meth c ad0 n0 A C ad H locs arr X
  obtain ⟨hx, hb, hml, hr, hlk, hown, hnm, hts, hK, hSt, hA⟩ := id C
  obtain ⟨x1, x2, x3, x4, x5, x6, x7, x8⟩ := X
  exact lv_i2l hx hb hd rfl (kk p e s m args below meth c ad0 n0 A C ad H locs arr ⟨x1, x2, x3, x4, x5, x6, x7, List.forall_mem_cons.mpr ⟨trivial, fun w hw => x8 w (List.mem_cons_of_mem _ hw)⟩⟩)
theorem ab_i2b {x : Int32} (hd : decode M.2.1 pc = .ok (.i2b, 1)) (kk : ab_WP l G M d (pc + 1) ls (.int x.toInt8.toInt32 :: st) S I J P k n Q) : ab_WP l G M d pc ls (.int x :: st) S I J P k n Q := by
  intro p e s m args below meth c ad0 n0 A C ad H locs arr X
  obtain ⟨hx, hb, hml, hr, hlk, hown, hnm, hts, hK, hSt, hA⟩ := id C
  obtain ⟨x1, x2, x3, x4, x5, x6, x7, x8⟩ := X
  exact lv_i2b hx hb hd rfl (kk p e s m args below meth c ad0 n0 A C ad H locs arr ⟨x1, x2, x3, x4, x5, x6, x7, List.forall_mem_cons.mpr ⟨trivial, fun w hw => x8 w (List.mem_cons_of_mem _ hw)⟩⟩)
theorem ab_lor {x y : Int64} (hd : decode M.2.1 pc = .ok (.lor, 1)) (kk : ab_WP l G M d (pc + 1) ls (.long (x ||| y) :: st) S I J P k n Q) : ab_WP l G M d pc ls (.long y :: .long x :: st) S I J P k n Q := by
  intro p e s m args below meth c ad0 n0 A C ad H locs arr X
  obtain ⟨hx, hb, hml, hr, hlk, hown, hnm, hts, hK, hSt, hA⟩ := id C
  obtain ⟨x1, x2, x3, x4, x5, x6, x7, x8⟩ := X
  exact lv_lor hx hb hd (kk p e s m args below meth c ad0 n0 A C ad H locs arr ⟨x1, x2, x3, x4, x5, x6, x7, List.forall_mem_cons.mpr ⟨trivial, fun w hw => x8 w (List.mem_cons_of_mem _ (List.mem_cons_of_mem _ hw))⟩⟩)
theorem ab_lshl {x : Int64} {y : Int32} (hd : decode M.2.1 pc = .ok (.lshl, 1)) (kk : ab_WP l G M d (pc + 1) ls (.long (x <<< (y.toInt64 &&& 63)) :: st) S I J P k n Q) : ab_WP l G M d pc ls (.int y :: .long x :: st) S I J P k n Q := by
  intro p e s m args below meth c ad0 n0 A C ad H locs arr X
  obtain ⟨hx, hb, hml, hr, hlk, hown, hnm, hts, hK, hSt, hA⟩ := id C
  obtain ⟨x1, x2, x3, x4, x5, x6, x7, x8⟩ := X
  exact lv_lshl hx hb hd rfl (kk p e s m args below meth c ad0 n0 A C ad H locs arr ⟨x1, x2, x3, x4, x5, x6, x7, List.forall_mem_cons.mpr ⟨trivial, fun w hw => x8 w (List.mem_cons_of_mem _ (List.mem_cons_of_mem _ hw))⟩⟩)
theorem ab_goto {off : Int} {tgt : Nat} (hd : decode M.2.1 pc = .ok (.goto off, 3)) (ht : (pc : Int) + off = (tgt : Int)) (kk : ab_WP l G M d (tgt) ls (st) S I J P k n Q) : ab_WP l G M d pc ls (st) S I J P k n Q := by
  intro p e s m args below meth c ad0 n0 A C ad H locs arr X
  obtain ⟨hx, hb, hml, hr, hlk, hown, hnm, hts, hK, hSt, hA⟩ := id C
  obtain ⟨x1, x2, x3, x4, x5, x6, x7, x8⟩ := X
  exact lv_goto hx hb hd ht (kk p e s m args below meth c ad0 n0 A C ad H locs arr ⟨x1, x2, x3, x4, x5, x6, x7, x8⟩)
theorem ab_if_eq {x : Int32} {off : Int} {tgt : Nat} (hd : decode M.2.1 pc = .ok (.ifCond .eq off, 3)) (ht : (pc : Int) + off = (tgt : Int)) (kt : x = 0 → ab_WP l G M d tgt ls st S I J P k n Q) (kf : ¬ x = 0 → ab_WP l G M d (pc + 3) ls st S I J P k n Q) : ab_WP l G M d pc ls (.int x :: st) S I J P k n Q := by
  intro p e s m args below meth c ad0 n0 A C ad H locs arr X
  obtain ⟨hx, hb, hml, hr, hlk, hown, hnm, hts, hK, hSt, hA⟩ := id C
  obtain ⟨x1, x2, x3, x4, x5, x6, x7, x8⟩ := X
  exact lv_if_eq hx hb hd ht (fun h => kt h p e s m args below meth c ad0 n0 A C ad H locs arr ⟨x1, x2, x3, x4, x5, x6, x7, fun w hw => x8 w (List.mem_cons_of_mem _ hw)⟩) (fun h => kf h p e s m args below meth c ad0 n0 A C ad H locs arr ⟨x1, x2, x3, x4, x5, x6, x7, fun w hw => x8 w (List.mem_cons_of_mem _ hw)⟩)
theorem ab_icmp_eq {x y : Int32} {off : Int} {tgt : Nat} (hd : decode M.2.1 pc = .ok (.if_icmp .eq off, 3)) (ht : (pc : Int) + off = (tgt : Int)) (kt : x = y → ab_WP l G M d tgt ls st S I J P k n Q) (kf : ¬ x = y → ab_WP l G M d (pc + 3) ls st S I J P k n Q) : ab_WP l G M d pc ls (.int y :: .int x :: st) S I J P k n Q := by
  intro p e s m args below meth c ad0 n0 A C ad H locs arr X
  obtain ⟨hx, hb, hml, hr, hlk, hown, hnm, hts, hK, hSt, hA⟩ := id C
  obtain ⟨x1, x2, x3, x4, x5, x6, x7, x8⟩ := X
  exact lv_icmp_eq hx hb hd ht (fun h => kt h p e s m args below meth c ad0 n0 A C ad H locs arr ⟨x1, x2, x3, x4, x5, x6, x7, fun w hw => x8 w (List.mem_cons_of_mem _ (List.mem_cons_of_mem _ hw))⟩) (fun h => kf h p e s m args below meth c ad0 n0 A C ad H locs arr ⟨x1, x2, x3, x4, x5, x6, x7, fun w hw => x8 w (List.mem_cons_of_mem _ (List.mem_cons_of_mem _ hw))⟩)
theorem ab_if_ne {x : Int32} {off : Int} {tgt : Nat} (hd : decode M.2.1 pc = .ok (.ifCond .ne off, 3)) (ht : (pc : Int) + off = (tgt : Int)) (kt : ¬ x = 0 → ab_WP l G M d tgt ls st S I J P k n Q) (kf : x = 0 → ab_WP l G M d (pc + 3) ls st S I J P k n Q) : ab_WP l G M d pc ls (.int x :: st) S I J P k n Q := by
  intro p e s m args below meth c ad0 n0 A C ad H locs arr X
  obtain ⟨hx, hb, hml, hr, hlk, hown, hnm, hts, hK, hSt, hA⟩ := id C
  obtain ⟨x1, x2, x3, x4, x5, x6, x7, x8⟩ := X
  exact lv_if_ne hx hb hd ht (fun h => kt h p e s m args below meth c ad0 n0 A C ad H locs arr ⟨x1, x2, x3, x4, x5, x6, x7, fun w hw => x8 w (List.mem_cons_of_mem _ hw)⟩) (fun h => kf h p e s m args below meth c ad0 n0 A C ad H locs arr ⟨x1, x2, x3, x4, x5, x6, x7, fun w hw => x8 w (List.mem_cons_of_mem _ hw)⟩)
theorem ab_icmp_ne {x y : Int32} {off : Int} {tgt : Nat} (hd : decode M.2.1 pc = .ok (.if_icmp .ne off, 3)) (ht : (pc : Int) + off = (tgt : Int)) (kt : ¬ x = y → ab_WP l G M d tgt ls st S I J P k n Q) (kf : x = y → ab_WP l G M d (pc + 3) ls st S I J P k n Q) : ab_WP l G M d pc ls (.int y :: .int x :: st) S I J P k n Q := by
  intro p e s m args below meth c ad0 n0 A C ad H locs arr X
  obtain ⟨hx, hb, hml, hr, hlk, hown, hnm, hts, hK, hSt, hA⟩ := id C
  obtain ⟨x1, x2, x3, x4, x5, x6, x7, x8⟩ := X
  exact lv_icmp_ne hx hb hd ht (fun h => kt h p e s m args below meth c ad0 n0 A C ad H locs arr ⟨x1, x2, x3, x4, x5, x6, x7, fun w hw => x8 w (List.mem_cons_of_mem _ (List.mem_cons_of_mem _ hw))⟩) (fun h => kf h p e s m args below meth c ad0 n0 A C ad H locs arr ⟨x1, x2, x3, x4, x5, x6, x7, fun w hw => x8 w (List.mem_cons_of_mem _ (List.mem_cons_of_mem _ hw))⟩)
theorem ab_if_lt {x : Int32} {off : Int} {tgt : Nat} (hd : decode M.2.1 pc = .ok (.ifCond .lt off, 3)) (ht : (pc : Int) + off = (tgt : Int)) (kt : x < 0 → ab_WP l G M d tgt ls st S I J P k n Q) (kf : ¬ x < 0 → ab_WP l G M d (pc + 3) ls st S I J P k n Q) : ab_WP l G M d pc ls (.int x :: st) S I J P k n Q := by
  intro p e s m args below meth c ad0 n0 A C ad H locs arr X
  obtain ⟨hx, hb, hml, hr, hlk, hown, hnm, hts, hK, hSt, hA⟩ := id C
  obtain ⟨x1, x2, x3, x4, x5, x6, x7, x8⟩ := X
  exact lv_if_lt hx hb hd ht (fun h => kt h p e s m args below meth c ad0 n0 A C ad H locs arr ⟨x1, x2, x3, x4, x5, x6, x7, fun w hw => x8 w (List.mem_cons_of_mem _ hw)⟩) (fun h => kf h p e s m args below meth c ad0 n0 A C ad H locs arr ⟨x1, x2, x3, x4, x5, x6, x7, fun w hw => x8 w (List.mem_cons_of_mem _ hw)⟩)
theorem ab_icmp_lt {x y : Int32} {off : Int} {tgt : Nat} (hd : decode M.2.1 pc = .ok (.if_icmp .lt off, 3)) (ht : (pc : Int) + off = (tgt : Int)) (kt : x < y → ab_WP l G M d tgt ls st S I J P k n Q) (kf : ¬ x < y → ab_WP l G M d (pc + 3) ls st S I J P k n Q) : ab_WP l G M d pc ls (.int y :: .int x :: st) S I J P k n Q := by
  intro p e s m args below meth c ad0 n0 A C ad H locs arr X
  obtain ⟨hx, hb, hml, hr, hlk, hown, hnm, hts, hK, hSt, hA⟩ := id C
  obtain ⟨x1, x2, x3, x4, x5, x6, x7, x8⟩ := X
  exact lv_icmp_lt hx hb hd ht (fun h => kt h p e s m args below meth c ad0 n0 A C ad H locs arr ⟨x1, x2, x3, x4, x5, x6, x7, fun w hw => x8 w (List.mem_cons_of_mem _ (List.mem_cons_of_mem _ hw))⟩) (fun h => kf h p e s m args below meth c ad0 n0 A C ad H locs arr ⟨x1, x2, x3, x4, x5, x6, x7, fun w hw => x8 w (List.mem_cons_of_mem _ (List.mem_cons_of_mem _ hw))⟩)
theorem ab_if_ge {x : Int32} {off : Int} {tgt : Nat} (hd : decode M.2.1 pc = .ok (.ifCond .ge off, 3)) (ht : (pc : Int) + off = (tgt : Int)) (kt : 0 ≤ x → ab_WP l G M d tgt ls st S I J P k n Q) (kf : ¬ 0 ≤ x → ab_WP l G M d (pc + 3) ls st S I J P k n Q) : ab_WP l G M d pc ls (.int x :: st) S I J P k n Q := by
  intro p e s m args below meth c ad0 n0 A C ad H locs arr X
  obtain ⟨hx, hb, hml, hr, hlk, hown, hnm, hts, hK, hSt, hA⟩ := id C
  obtain ⟨x1, x2, x3, x4, x5, x6, x7, x8⟩ := X
  exact lv_if_ge hx hb hd ht (fun h => kt h p e s m args below meth c ad0 n0 A C ad H locs arr ⟨x1, x2, x3, x4, x5, x6, x7, fun w hw => x8 w (List.mem_cons_of_mem _ hw)⟩) (fun h => kf h p e s m args below meth c ad0 n0 A C ad H locs arr ⟨x1, x2, x3, x4, x5, x6, x7, fun w hw => x8 w (List.mem_cons_of_mem _ hw)⟩)
theorem ab_icmp_ge {x y : Int32} {off : Int} {tgt : Nat} (hd : decode M.2.1 pc = .ok (.if_icmp .ge off, 3)) (ht : (pc : Int) + off = (tgt : Int)) (kt : y ≤ x → ab_WP l G M d tgt ls st S I J P k n Q) (kf : ¬ y ≤ x → ab_WP l G M d (pc + 3) ls st S I J P k n Q) : ab_WP l G M d pc ls (.int y :: .int x :: st) S I J P k n Q := by
  intro p e s m args below meth c ad0 n0 A C ad H locs arr X
  obtain ⟨hx, hb, hml, hr, hlk, hown, hnm, hts, hK, hSt, hA⟩ := id C
  obtain ⟨x1, x2, x3, x4, x5, x6, x7, x8⟩ := X
  exact lv_icmp_ge hx hb hd ht (fun h => kt h p e s m args below meth c ad0 n0 A C ad H locs arr ⟨x1, x2, x3, x4, x5, x6, x7, fun w hw => x8 w (List.mem_cons_of_mem _ (List.mem_cons_of_mem _ hw))⟩) (fun h => kf h p e s m args below meth c ad0 n0 A C ad H locs arr ⟨x1, x2, x3, x4, x5, x6, x7, fun w hw => x8 w (List.mem_cons_of_mem _ (List.mem_cons_of_mem _ hw))⟩)
theorem ab_if_gt {x : Int32} {off : Int} {tgt : Nat} (hd : decode M.2.1 pc = .ok (.ifCond .gt off, 3)) (ht : (pc : Int) + off = (tgt : Int)) (kt : 0 < x → ab_WP l G M d tgt ls st S I J P k n Q) (kf : ¬ 0 < x → ab_WP l G M d (pc + 3) ls st S I J P k n Q) : ab_WP l G M d pc ls (.int x :: st) S I J P k n Q := by
  intro p e s m args below meth c ad0 n0 A C ad H locs arr X
  obtain ⟨hx, hb, hml, hr, hlk, hown, hnm, hts, hK, hSt, hA⟩ := id C
  obtain ⟨x1, x2, x3, x4, x5, x6, x7, x8⟩ := X
  exact lv_if_gt hx hb hd ht (fun h => kt h p e s m args below meth c ad0 n0 A C ad H locs arr ⟨x1, x2, x3, x4, x5, x6, x7, fun w hw => x8 w (List.mem_cons_of_mem _ hw)⟩) (fun h => kf h p e s m args below meth c ad0 n0 A C ad H locs arr ⟨x1, x2, x3, x4, x5, x6, x7, fun w hw => x8 w (List.mem_cons_of_mem _ hw)⟩)
theorem ab_icmp_gt {x y : Int32} {off : Int} {tgt : Nat} (hd : decode M.2.1 pc = .ok (.if_icmp .gt off, 3)) (ht : (pc : Int) + off = (tgt : Int)) (kt : y < x → ab_WP l G M d tgt ls st S I J P k n Q) (kf : ¬ y < x → ab_WP l G M d (pc + 3) ls st S I J P k n Q) : ab_WP l G M d pc ls (.int y :: .int x :: st) S I J P k n Q := by
  intro p e s m args below meth c ad0 n0 A C ad H locs arr X
  obtain ⟨hx, hb, hml, hr, hlk, hown, hnm, hts, hK, hSt, hA⟩ := id C
  obtain ⟨x1, x2, x3, x4, x5, x6, x7, x8⟩ := X
  exact lv_icmp_gt hx hb hd ht (fun h => kt h p e s m args below meth c ad0 n0 A C ad H locs arr ⟨x1, x2, x3, x4, x5, x6, x7, fun w hw => x8 w (List.mem_cons_of_mem _ (List.mem_cons_of_mem _ hw))⟩) (fun h => kf h p e s m args below meth c ad0 n0 A C ad H locs arr ⟨x1, x2, x3, x4, x5, x6, x7, fun w hw => x8 w (List.mem_cons_of_mem _ (List.mem_cons_of_mem _ hw))⟩)
theorem ab_if_le {x : Int32} {off : Int} {tgt : Nat} (hd : decode M.2.1 pc = .ok (.ifCond .le off, 3)) (ht : (pc : Int) + off = (tgt : Int)) (kt : x ≤ 0 → ab_WP l G M d tgt ls st S I J P k n Q) (kf : ¬ x ≤ 0 → ab_WP l G M d (pc + 3) ls st S I J P k n Q) : ab_WP l G M d pc ls (.int x :: st) S I J P k n Q := by
  intro p e s m args below meth c ad0 n0 A C ad H locs arr X
  obtain ⟨hx, hb, hml, hr, hlk, hown, hnm, hts, hK, hSt, hA⟩ := id C
  obtain ⟨x1, x2, x3, x4, x5, x6, x7, x8⟩ := X
  exact lv_if_le hx hb hd ht (fun h => kt h p e s m args below meth c ad0 n0 A C ad H locs arr ⟨x1, x2, x3, x4, x5, x6, x7, fun w hw => x8 w (List.mem_cons_of_mem _ hw)⟩) (fun h => kf h p e s m args below meth c ad0 n0 A C ad H locs arr ⟨x1, x2, x3, x4, x5, x6, x7, fun w hw => x8 w (List.mem_cons_of_mem _ hw)⟩)
theorem ab_icmp_le {x y : Int32} {off : Int} {tgt : Nat} (hd : decode M.2.1 pc = .ok (.if_icmp .le off, 3)) (ht : (pc : Int) + off = (tgt : Int)) (kt : x ≤ y → ab_WP l G M d tgt ls st S I J P k n Q) (kf : ¬ x ≤ y → ab_WP l G M d (pc + 3) ls st S I J P k n Q) : ab_WP l G M d pc ls (.int y :: .int x :: st) S I J P k n Q := by
  intro p e s m args below meth c ad0 n0 A C ad H locs arr X
  obtain ⟨hx, hb, hml, hr, hlk, hown, hnm, hts, hK, hSt, hA⟩ := id C
  obtain ⟨x1, x2, x3, x4, x5, x6, x7, x8⟩ := X
  exact lv_icmp_le hx hb hd ht (fun h => kt h p e s m args below meth c ad0 n0 A C ad H locs arr ⟨x1, x2, x3, x4, x5, x6, x7, fun w hw => x8 w (List.mem_cons_of_mem _ (List.mem_cons_of_mem _ hw))⟩) (fun h => kf h p e s m args below meth c ad0 n0 A C ad H locs arr ⟨x1, x2, x3, x4, x5, x6, x7, fun w hw => x8 w (List.mem_cons_of_mem _ (List.mem_cons_of_mem _ hw))⟩)
theorem ab_ifnonnull {x : Nat} {off : Int} {tgt : Nat} (hd : decode M.2.1 pc = .ok (.ifnonnull off, 3)) (ht : (pc : Int) + off = (tgt : Int)) (kk : ab_WP l G M d tgt ls st S I J P k n Q) : ab_WP l G M d pc ls (.ref x :: st) S I J P k n Q := by
  intro p e s m args below meth c ad0 n0 A C ad H locs arr X
  obtain ⟨hx, hb, hml, hr, hlk, hown, hnm, hts, hK, hSt, hA⟩ := id C
  obtain ⟨x1, x2, x3, x4, x5, x6, x7, x8⟩ := X
  exact lv_ifnonnull hx hb hd ht (kk p e s m args below meth c ad0 n0 A C ad H locs arr ⟨x1, x2, x3, x4, x5, x6, x7, fun w hw => x8 w (List.mem_cons_of_mem _ hw)⟩)
theorem ab_ifnonnullN {off : Int} (hd : decode M.2.1 pc = .ok (.ifnonnull off, 3)) (kk : ab_WP l G M d (pc + 3) ls st S I J P k n Q) : ab_WP l G M d pc ls (.null :: st) S I J P k n Q := by
  intro p e s m args below meth c ad0 n0 A C ad H locs arr X
  obtain ⟨hx, hb, hml, hr, hlk, hown, hnm, hts, hK, hSt, hA⟩ := id C
  obtain ⟨x1, x2, x3, x4, x5, x6, x7, x8⟩ := X
  exact lv_ifnonnullN hx hb hd (kk p e s m args below meth c ad0 n0 A C ad H locs arr ⟨x1, x2, x3, x4, x5, x6, x7, fun w hw => x8 w (List.mem_cons_of_mem _ hw)⟩)
theorem ab_tableOut {dflt lo hi : Int} {offs : Array Int} {len : Nat} {x : Int32} {tgt : Nat} (hd : decode M.2.1 pc = .ok (.tableswitch dflt lo hi offs, len)) (h : x.toInt < lo ∨ hi < x.toInt) (ht : (pc : Int) + dflt = (tgt : Int)) (kk : ab_WP l G M d tgt ls st S I J P k n Q) : ab_WP l G M d pc ls (.int x :: st) S I J P k n Q := by
  intro p e s m args below meth c ad0 n0 A C ad H locs arr X
  obtain ⟨hx, hb, hml, hr, hlk, hown, hnm, hts, hK, hSt, hA⟩ := id C
  obtain ⟨x1, x2, x3, x4, x5, x6, x7, x8⟩ := X
  exact lv_tableOut hx hb hd h ht (kk p e s m args below meth c ad0 n0 A C ad H locs arr ⟨x1, x2, x3, x4, x5, x6, x7, fun w hw => x8 w (List.mem_cons_of_mem _ hw)⟩)
theorem ab_tableIn {dflt lo hi : Int} {offs : Array Int} {len : Nat} {x : Int32} {off : Int} {tgt : Nat} (hd : decode M.2.1 pc = .ok (.tableswitch dflt lo hi offs, len)) (h1 : ¬ x.toInt < lo) (h2 : ¬ hi < x.toInt) (ho : offs[(x.toInt - lo).toNat]? = some off) (ht : (pc : Int) + off = (tgt : Int)) (kk : ab_WP l G M d tgt ls st S I J P k n Q) : ab_WP l G M d pc ls (.int x :: st) S I J P k n Q := by
  intro p e s m args below meth c ad0 n0 A C ad H locs arr X
  obtain ⟨hx, hb, hml, hr, hlk, hown, hnm, hts, hK, hSt, hA⟩ := id C
  obtain ⟨x1, x2, x3, x4, x5, x6, x7, x8⟩ := X
  exact lv_tableIn hx hb hd h1 h2 ho ht (kk p e s m args below meth c ad0 n0 A C ad H locs arr ⟨x1, x2, x3, x4, x5, x6, x7, fun w hw => x8 w (List.mem_cons_of_mem _ hw)⟩)
theorem ab_lookup {dflt : Int} {ps : Array (Int × Int)} {len : Nat} {x : Int32} {off : Int} {tgt : Nat} (hd : decode M.2.1 pc = .ok (.lookupswitch dflt ps, len)) (hp : (ps.toList.zip (ps.toList.drop 1)).all (fun (a, next) => a.1 < next.1) = true) (ho : Op.lookupswitch.offset ps.toList dflt x.toInt = off) (ht : (pc : Int) + off = (tgt : Int)) (kk : ab_WP l G M d tgt ls st S I J P k n Q) : ab_WP l G M d pc ls (.int x :: st) S I J P k n Q := by
  intro p e s m args below meth c ad0 n0 A C ad H locs arr X
  obtain ⟨hx, hb, hml, hr, hlk, hown, hnm, hts, hK, hSt, hA⟩ := id C
  obtain ⟨x1, x2, x3, x4, x5, x6, x7, x8⟩ := X
  exact lv_lookup hx hb hd hp ho ht (kk p e s m args below meth c ad0 n0 A C ad H locs arr ⟨x1, x2, x3, x4, x5, x6, x7, fun w hw => x8 w (List.mem_cons_of_mem _ hw)⟩)
end RU
