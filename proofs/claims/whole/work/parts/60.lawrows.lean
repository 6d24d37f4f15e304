/-! THE CLAIM OUT OF ONE WALK OF THE LAW'S BODY. Your part is whole_start (and what it stands on); all else here is the same for every law, but numbers. -/
def R_law : String := "BellRingersLaw"
def lw_P (b : Addr) (xs : List Int32) (args : Array Value) (s : State) : Prop := args = #[.ref b] ∧ s.IntsAt b xs ∧ xs.length ≤ 3072 ∧ (Jvm.Cond.and given_1 narrow_1).before args s = true
def lw_Q (_ : Array Value) (s : State) (o : Outcome) (t : State) : Prop := o = .returned (some (.int 1)) ∧ Framed s o t [] 600000 7302250
def lw_Z (below : List Frame) (a : Array Value) (s : State) : State → Prop := fun t => ∃ o, t.status = .running ∧ Ended t below o ∧ lw_Q a s o t
/-- the law's own end, with 1 on the stack, nothing written that was there before, its room as the claim has it -/
theorem lw_ret {p : Program} {l : Launch} {e : Env} {s : State} {m : MethodId} {below : List Frame} {meth : Method} {c : Code} {b : Nat} (hx : p.tables.exec = Jvm.exec) (hb : c.code = code) (hr : meth.sig.returnType = ret) (hlocks : meth.locks = false) {pc : Nat} {H : Heap} {ls : Array Slot} (hdg : decode code pc = .ok (.ireturn, 1)) : W p l e room_1 s m #[Value.ref b] below meth c H [] 600000 7302250 (lw_Z below #[Value.ref b] s) (F0 m pc ls [.int 1]) := by
  intro T hT X
  obtain ⟨fs, hret, hrun, hended, hW, hframe⟩ := X.leave (v := some (.int 1)) (hlocks := hlocks) (fun h => by rw [hr] at h; cases h)
  have hmeth' : T.vm.method? m = some meth := X.method'
  refine ⟨T.setFrames fs, ?_, .returned (some (.int 1)), hrun, hended, rfl, ⟨_, rfl⟩, hW, hframe⟩
  jvm_step X.here [X.here.top, hx, hb, hdg, hmeth', hr, ret, narrow_b1]
  (try refine ⟨rfl, ?_⟩); (try refine ⟨rfl, ?_⟩)
  first | (intro acts; rw [hret _ acts rfl rfl rfl]) | rw [hret _ _ rfl rfl rfl]
  exact Steps.refl _
/-- what holds at the law's entry: the machine, the code, the tables' words (any of lw_tbl by 'hts w (by decide +kernel)'), the script of L ints xs at the cell b, what the Statement gives of the start (any of its parts by flat_of_before) -/
def lw_At (p : Program) (s : State) (m : MethodId) (meth : Method) (c : Code) (b L : Nat) (xs : Nat → Int32) : Prop :=
  p.tables.exec = Jvm.exec ∧ c.code = code ∧ meth.sig.returnType = ret ∧ c.maxLocals = 4 ∧ s.vm.findClass R_law = some m.cls ∧ (∀ w ∈ lw_tbl, w.before #[Value.ref b] s = true) ∧ va_X b L xs s s.heap ∧ b < s.heap.size ∧ meth.locks = false ∧ (Jvm.Cond.and given_1 narrow_1).before #[Value.ref b] s = true
/-! ===== the law's own walk: the abstract heap, the script beside it ===== -/
def lz_A (s : State) : Nat → Prop := fun q => s.heap.size ≤ q
def lz_C (G : ab_G) (p : Program) (s : State) (m : MethodId) (meth : Method) (c : Code) (b L : Nat) (xs : Nat → Int32) : Prop := lw_At p s m meth c b L xs ∧ ab_K G s ∧ ab_St (lz_A s) s s.heap
def lz_WP (l : Launch) (G : ab_G) (p : Program) (e : Env) (s : State) (m : MethodId) (below : List Frame) (meth : Method) (c : Code) (b : Nat) (pc : Nat) (ls : List (Option Value)) (st : List Value) (S : ab_S) (I : ab_I) (J : ab_J) (P : ab_P) (k n : Nat) : Prop :=
  ∀ (ad : Nat → Nat) (H : Heap) (locs : List Loc) (arr : Array Slot), ab_X G (fun x => x) 0 (lz_A s) s 4 S I J P ls st ad H locs arr → arr[0]? = some (Slot.val (.ref b)) →
  W p l e room_1 s m #[Value.ref b] below meth c H locs k n (lw_Z below #[Value.ref b] s) (F0 m pc arr (st.map (ab_v ad)))
theorem lz_words {s : State} {b : Nat} (hts : ∀ w ∈ lw_tbl, w.before #[Value.ref b] s = true) : ∀ w ∈ ab_good, w.before #[Value.ref b] s = true := fun w h => hts w (ab_good_ok w h).1
section LZ
variable {l : Launch} {G : ab_G} {p : Program} {e : Env} {s : State} {m : MethodId} {below : List Frame} {meth : Method} {c : Code} {b L : Nat} {xs : Nat → Int32} {pc : Nat} {ls : List (Option Value)} {st : List Value} {S : ab_S} {I : ab_I} {J : ab_J} {P : ab_P} {k n : Nat}
theorem lz_iconst (C : lz_C G p s m meth c b L xs) {z : Int} {v : Int32} (hd : decode code pc = .ok (.iconst z, 1)) (hv : Int32.ofInt z = v) (kk : lz_WP l G p e s m below meth c b (pc + 1) ls (.int v :: st) S I J P k n) : lz_WP l G p e s m below meth c b pc ls st S I J P k n := by
  intro ad H locs arr X h0
  obtain ⟨⟨hx, hb, hr, hml, hown, hts, hX, hbl, hlk, hgv⟩, hK, hSt⟩ := C
  obtain ⟨x1, x2, x3, x4, x5, x6, x7, x8⟩ := X
  exact lv_iconst hx hb hd hv (kk ad H locs arr ⟨x1, x2, x3, x4, x5, x6, x7, List.forall_mem_cons.mpr ⟨trivial, x8⟩⟩ h0)
theorem lz_bipush (C : lz_C G p s m meth c b L xs) {z : Int} {v : Int32} (hd : decode code pc = .ok (.bipush z, 2)) (hv : (Int8.ofInt z).toInt32 = v) (kk : lz_WP l G p e s m below meth c b (pc + 2) ls (.int v :: st) S I J P k n) : lz_WP l G p e s m below meth c b pc ls st S I J P k n := by
  intro ad H locs arr X h0
  obtain ⟨⟨hx, hb, hr, hml, hown, hts, hX, hbl, hlk, hgv⟩, hK, hSt⟩ := C
  obtain ⟨x1, x2, x3, x4, x5, x6, x7, x8⟩ := X
  exact lv_bipush hx hb hd hv (kk ad H locs arr ⟨x1, x2, x3, x4, x5, x6, x7, List.forall_mem_cons.mpr ⟨trivial, x8⟩⟩ h0)
theorem lz_iload (C : lz_C G p s m meth c b L xs) {z : Fin 4} {i : Nat} {x : Int32} (hd : decode code pc = .ok (.iload_n z, 1)) (hi : (z : Nat) = i) (hl : ls[i]? = some (some (.int x))) (kk : lz_WP l G p e s m below meth c b (pc + 1) ls (.int x :: st) S I J P k n) : lz_WP l G p e s m below meth c b pc ls st S I J P k n := by
  intro ad H locs arr X h0
  obtain ⟨⟨hx, hb, hr, hml, hown, hts, hX, hbl, hlk, hgv⟩, hK, hSt⟩ := C
  obtain ⟨x1, x2, x3, x4, x5, x6, x7, x8⟩ := X
  exact lv_iload_n hx hb hd hi (x7.2.2 _ _ hl).2 (kk ad H locs arr ⟨x1, x2, x3, x4, x5, x6, x7, List.forall_mem_cons.mpr ⟨trivial, x8⟩⟩ h0)
theorem lz_aload (C : lz_C G p s m meth c b L xs) {z : Fin 4} {i x : Nat} (hd : decode code pc = .ok (.aload_n z, 1)) (hi : (z : Nat) = i) (hl : ls[i]? = some (some (.ref x))) (kk : lz_WP l G p e s m below meth c b (pc + 1) ls (.ref x :: st) S I J P k n) : lz_WP l G p e s m below meth c b pc ls st S I J P k n := by
  intro ad H locs arr X h0
  obtain ⟨⟨hx, hb, hr, hml, hown, hts, hX, hbl, hlk, hgv⟩, hK, hSt⟩ := C
  obtain ⟨x1, x2, x3, x4, x5, x6, x7, x8⟩ := X
  exact lv_aload_n hx hb hd hi (x7.2.2 _ _ hl).2 (kk ad H locs arr ⟨x1, x2, x3, x4, x5, x6, x7, List.forall_mem_cons.mpr ⟨(x7.2.2 _ _ hl).1, x8⟩⟩ h0)
theorem lz_dup (C : lz_C G p s m meth c b L xs) {v : Value} (hd : decode code pc = .ok (.dup, 1)) (hv : v.category = 1) (kk : lz_WP l G p e s m below meth c b (pc + 1) ls (v :: v :: st) S I J P k n) : lz_WP l G p e s m below meth c b pc ls (v :: st) S I J P k n := by
  intro ad H locs arr X h0
  obtain ⟨⟨hx, hb, hr, hml, hown, hts, hX, hbl, hlk, hgv⟩, hK, hSt⟩ := C
  obtain ⟨x1, x2, x3, x4, x5, x6, x7, x8⟩ := X
  exact lv_dup hx hb hd ((ab_cat ad v).trans hv) (kk ad H locs arr ⟨x1, x2, x3, x4, x5, x6, x7, List.forall_mem_cons.mpr ⟨x8 v List.mem_cons_self, x8⟩⟩ h0)
theorem lz_iand (C : lz_C G p s m meth c b L xs) {x y : Int32} (hd : decode code pc = .ok (.iand, 1)) (kk : lz_WP l G p e s m below meth c b (pc + 1) ls (.int (x &&& y) :: st) S I J P k n) : lz_WP l G p e s m below meth c b pc ls (.int y :: .int x :: st) S I J P k n := by
  intro ad H locs arr X h0
  obtain ⟨⟨hx, hb, hr, hml, hown, hts, hX, hbl, hlk, hgv⟩, hK, hSt⟩ := C
  obtain ⟨x1, x2, x3, x4, x5, x6, x7, x8⟩ := X
  exact lv_iand hx hb hd (kk ad H locs arr ⟨x1, x2, x3, x4, x5, x6, x7, List.forall_mem_cons.mpr ⟨trivial, fun w hw => x8 w (List.mem_cons_of_mem _ (List.mem_cons_of_mem _ hw))⟩⟩ h0)
theorem lz_isub (C : lz_C G p s m meth c b L xs) {x y : Int32} (hd : decode code pc = .ok (.isub, 1)) (kk : lz_WP l G p e s m below meth c b (pc + 1) ls (.int (x - y) :: st) S I J P k n) : lz_WP l G p e s m below meth c b pc ls (.int y :: .int x :: st) S I J P k n := by
  intro ad H locs arr X h0
  obtain ⟨⟨hx, hb, hr, hml, hown, hts, hX, hbl, hlk, hgv⟩, hK, hSt⟩ := C
  obtain ⟨x1, x2, x3, x4, x5, x6, x7, x8⟩ := X
  exact lv_isub hx hb hd (kk ad H locs arr ⟨x1, x2, x3, x4, x5, x6, x7, List.forall_mem_cons.mpr ⟨trivial, fun w hw => x8 w (List.mem_cons_of_mem _ (List.mem_cons_of_mem _ hw))⟩⟩ h0)
theorem lz_goto (C : lz_C G p s m meth c b L xs) {off : Int} {tgt : Nat} (hd : decode code pc = .ok (.goto off, 3)) (ht : (pc : Int) + off = (tgt : Int)) (kk : lz_WP l G p e s m below meth c b tgt ls st S I J P k n) : lz_WP l G p e s m below meth c b pc ls st S I J P k n := by
  intro ad H locs arr X h0
  obtain ⟨⟨hx, hb, hr, hml, hown, hts, hX, hbl, hlk, hgv⟩, hK, hSt⟩ := C
  exact lv_goto hx hb hd ht (kk ad H locs arr X h0)
theorem lz_icmp_eq (C : lz_C G p s m meth c b L xs) {x y : Int32} {off : Int} {tgt : Nat} (hd : decode code pc = .ok (.if_icmp .eq off, 3)) (ht : (pc : Int) + off = (tgt : Int)) (hxy : x = y) (kk : lz_WP l G p e s m below meth c b tgt ls st S I J P k n) : lz_WP l G p e s m below meth c b pc ls (.int y :: .int x :: st) S I J P k n := by
  intro ad H locs arr X h0
  obtain ⟨⟨hx, hb, hr, hml, hown, hts, hX, hbl, hlk, hgv⟩, hK, hSt⟩ := C
  obtain ⟨x1, x2, x3, x4, x5, x6, x7, x8⟩ := X
  exact lv_icmp_eq hx hb hd ht (fun _ => kk ad H locs arr ⟨x1, x2, x3, x4, x5, x6, x7, fun w hw => x8 w (List.mem_cons_of_mem _ (List.mem_cons_of_mem _ hw))⟩ h0) (fun hc => absurd hxy hc)
theorem lz_icmp_gt (C : lz_C G p s m meth c b L xs) {x y : Int32} {off : Int} {tgt : Nat} (hd : decode code pc = .ok (.if_icmp .gt off, 3)) (ht : (pc : Int) + off = (tgt : Int)) (kt : y < x → lz_WP l G p e s m below meth c b tgt ls st S I J P k n) (kf : ¬ y < x → lz_WP l G p e s m below meth c b (pc + 3) ls st S I J P k n) : lz_WP l G p e s m below meth c b pc ls (.int y :: .int x :: st) S I J P k n := by
  intro ad H locs arr X h0
  obtain ⟨⟨hx, hb, hr, hml, hown, hts, hX, hbl, hlk, hgv⟩, hK, hSt⟩ := C
  obtain ⟨x1, x2, x3, x4, x5, x6, x7, x8⟩ := X
  exact lv_icmp_gt hx hb hd ht (fun hc => kt hc ad H locs arr ⟨x1, x2, x3, x4, x5, x6, x7, fun w hw => x8 w (List.mem_cons_of_mem _ (List.mem_cons_of_mem _ hw))⟩ h0) (fun hc => kf hc ad H locs arr ⟨x1, x2, x3, x4, x5, x6, x7, fun w hw => x8 w (List.mem_cons_of_mem _ (List.mem_cons_of_mem _ hw))⟩ h0)
theorem lz_if_eq (C : lz_C G p s m meth c b L xs) {x : Int32} {off : Int} {tgt : Nat} (hd : decode code pc = .ok (.ifCond .eq off, 3)) (ht : (pc : Int) + off = (tgt : Int)) (kt : x = 0 → lz_WP l G p e s m below meth c b tgt ls st S I J P k n) (kf : ¬ x = 0 → lz_WP l G p e s m below meth c b (pc + 3) ls st S I J P k n) : lz_WP l G p e s m below meth c b pc ls (.int x :: st) S I J P k n := by
  intro ad H locs arr X h0
  obtain ⟨⟨hx, hb, hr, hml, hown, hts, hX, hbl, hlk, hgv⟩, hK, hSt⟩ := C
  obtain ⟨x1, x2, x3, x4, x5, x6, x7, x8⟩ := X
  exact lv_if_eq hx hb hd ht (fun hc => kt hc ad H locs arr ⟨x1, x2, x3, x4, x5, x6, x7, fun w hw => x8 w (List.mem_cons_of_mem _ hw)⟩ h0) (fun hc => kf hc ad H locs arr ⟨x1, x2, x3, x4, x5, x6, x7, fun w hw => x8 w (List.mem_cons_of_mem _ hw)⟩ h0)
theorem lz_tableIn (C : lz_C G p s m meth c b L xs) {dflt lo hi : Int} {offs : Array Int} {len : Nat} {x : Int32} {off : Int} {tgt : Nat} (hd : decode code pc = .ok (.tableswitch dflt lo hi offs, len)) (h1 : ¬ x.toInt < lo) (h2 : ¬ hi < x.toInt) (ho : offs[(x.toInt - lo).toNat]? = some off) (ht : (pc : Int) + off = (tgt : Int)) (kk : lz_WP l G p e s m below meth c b tgt ls st S I J P k n) : lz_WP l G p e s m below meth c b pc ls (.int x :: st) S I J P k n := by
  intro ad H locs arr X h0
  obtain ⟨⟨hx, hb, hr, hml, hown, hts, hX, hbl, hlk, hgv⟩, hK, hSt⟩ := C
  obtain ⟨x1, x2, x3, x4, x5, x6, x7, x8⟩ := X
  exact lv_tableIn hx hb hd h1 h2 ho ht (kk ad H locs arr ⟨x1, x2, x3, x4, x5, x6, x7, fun w hw => x8 w (List.mem_cons_of_mem _ hw)⟩ h0)
theorem lz_tableOut (C : lz_C G p s m meth c b L xs) {dflt lo hi : Int} {offs : Array Int} {len : Nat} {x : Int32} {tgt : Nat} (hd : decode code pc = .ok (.tableswitch dflt lo hi offs, len)) (h : x.toInt < lo ∨ hi < x.toInt) (ht : (pc : Int) + dflt = (tgt : Int)) (kk : lz_WP l G p e s m below meth c b tgt ls st S I J P k n) : lz_WP l G p e s m below meth c b pc ls (.int x :: st) S I J P k n := by
  intro ad H locs arr X h0
  obtain ⟨⟨hx, hb, hr, hml, hown, hts, hX, hbl, hlk, hgv⟩, hK, hSt⟩ := C
  obtain ⟨x1, x2, x3, x4, x5, x6, x7, x8⟩ := X
  exact lv_tableOut hx hb hd h ht (kk ad H locs arr ⟨x1, x2, x3, x4, x5, x6, x7, fun w hw => x8 w (List.mem_cons_of_mem _ hw)⟩ h0)
theorem lz_out (C : lz_C G p s m meth c b L xs) : ¬ lz_A s b := Nat.not_le.mpr C.1.2.2.2.2.2.2.2.1
/-- script.length -/
theorem lz_len (C : lz_C G p s m meth c b L xs) (hd : decode code pc = .ok (.aload_n 0, 1)) (hd2 : decode code (pc + 1) = .ok (.arraylength, 1)) (kk : lz_WP l G p e s m below meth c b (pc + 1 + 1) ls (.int (nI L) :: st) S I J P k n) : lz_WP l G p e s m below meth c b pc ls st S I J P k n := by
  intro ad H locs arr X h0
  have hbA := lz_out C
  obtain ⟨⟨hx, hb, hr, hml, hown, hts, hX, hbl, hlk, hgv⟩, hK, hSt⟩ := C
  obtain ⟨x1, x2, x3, x4, x5, x6, x7, x8⟩ := X
  refine lv_aload_n hx hb hd rfl h0 ?_
  exact va_slen hx hb hX hbl hbA x6 hd2 (kk ad H locs arr ⟨x1, x2, x3, x4, x5, x6, x7, List.forall_mem_cons.mpr ⟨trivial, x8⟩⟩ h0)
/-- script[i] -/
theorem lz_sc0 (C : lz_C G p s m meth c b L xs) {i : Int32} (hl : ls[3]? = some (some (.int i))) (hd : decode code pc = .ok (.aload_n 0, 1)) (hd2 : decode code (pc + 1) = .ok (.iload_n 3, 1)) (hd3 : decode code (pc + 1 + 1) = .ok (.iaload, 1)) (hin : vp_in i L) (kk : lz_WP l G p e s m below meth c b (pc + 1 + 1 + 1) ls (.int (xs i.toNatClampNeg) :: st) S I J P k n) : lz_WP l G p e s m below meth c b pc ls st S I J P k n := by
  intro ad H locs arr X h0
  have hbA := lz_out C
  obtain ⟨⟨hx, hb, hr, hml, hown, hts, hX, hbl, hlk, hgv⟩, hK, hSt⟩ := C
  obtain ⟨x1, x2, x3, x4, x5, x6, x7, x8⟩ := X
  refine lv_aload_n hx hb hd rfl h0 ?_
  refine lv_iload_n hx hb hd2 rfl (x7.2.2 _ _ hl).2 ?_
  exact va_sld hx hb hX hbl hbA x6 hin hd3 (kk ad H locs arr ⟨x1, x2, x3, x4, x5, x6, x7, List.forall_mem_cons.mpr ⟨trivial, x8⟩⟩ h0)
/-- script[i + z] -/
theorem lz_sc (C : lz_C G p s m meth c b L xs) {i v : Int32} {z : Int} (hl : ls[3]? = some (some (.int i))) (hd : decode code pc = .ok (.aload_n 0, 1)) (hd2 : decode code (pc + 1) = .ok (.iload_n 3, 1)) (hd3 : decode code (pc + 1 + 1) = .ok (.iconst z, 1)) (hv : Int32.ofInt z = v) (hd4 : decode code (pc + 1 + 1 + 1) = .ok (.iadd, 1)) (hd5 : decode code (pc + 1 + 1 + 1 + 1) = .ok (.iaload, 1)) (hin : vp_in (i + v) L) (kk : lz_WP l G p e s m below meth c b (pc + 1 + 1 + 1 + 1 + 1) ls (.int (xs (i + v).toNatClampNeg) :: st) S I J P k n) : lz_WP l G p e s m below meth c b pc ls st S I J P k n := by
  intro ad H locs arr X h0
  have hbA := lz_out C
  obtain ⟨⟨hx, hb, hr, hml, hown, hts, hX, hbl, hlk, hgv⟩, hK, hSt⟩ := C
  obtain ⟨x1, x2, x3, x4, x5, x6, x7, x8⟩ := X
  refine lv_aload_n hx hb hd rfl h0 ?_
  refine lv_iload_n hx hb hd2 rfl (x7.2.2 _ _ hl).2 ?_
  refine lv_iconst hx hb hd3 hv ?_
  refine lv_iadd hx hb hd4 ?_
  exact va_sld hx hb hX hbl hbA x6 hin hd5 (kk ad H locs arr ⟨x1, x2, x3, x4, x5, x6, x7, List.forall_mem_cons.mpr ⟨trivial, x8⟩⟩ h0)
/-- the script stays at its place among the locals -/
theorem lz_has {ad : Nat → Nat} {arr : Array Slot} {N : Nat} (h : ab_L N ad ls arr 4) (h0 : arr[0]? = some (Slot.val (.ref b))) : lv_has arr 4 ((0, .ref b) :: ab_lv ad ls) := ⟨h.1, h.2.1, List.forall_mem_cons.mpr ⟨h0, h.has.2.2⟩⟩
theorem lz_set {ad : Nat → Nat} {arr arr' : Array Slot} {N i : Nat} {v : Value} (h : ab_L N ad ls arr 4) (hk : ab_ok N v) (hc : ab_c1 ls i = true) (hi : i ≠ 0) (h' : lv_has arr' 4 ((i, ab_v ad v) :: ((0, Value.ref b) :: ab_lv ad ls).filter (fun q => !(q.1 == i) && !(q.1 + 1 == i && q.2.category == 2)))) : ab_L N ad (ls.set i (some v)) arr' 4 ∧ arr'[0]? = some (Slot.val (.ref b)) := by
  refine ⟨h.set hk hc ⟨h'.1, h'.2.1, fun q hq => ?_⟩, ?_⟩
  · rcases List.mem_cons.mp hq with rfl | hq
    · exact h'.2.2 _ List.mem_cons_self
    · exact h'.2.2 _ (List.mem_cons_of_mem _ (List.mem_filter.mpr ⟨List.mem_cons_of_mem _ (List.mem_filter.mp hq).1, (List.mem_filter.mp hq).2⟩))
  · refine h'.2.2 (0, Value.ref b) (List.mem_cons_of_mem _ (List.mem_filter.mpr ⟨List.mem_cons_self, ?_⟩))
    have h2 : ((Value.ref b).category == 2) = false := rfl
    simp only [h2, Bool.and_false, Bool.not_false, Bool.and_true, Bool.not_eq_true', beq_eq_false_iff_ne, ne_eq]
    exact fun e => hi e.symm
theorem lz_iinc (C : lz_C G p s m meth c b L xs) {i : Nat} {z : Int} {x v : Int32} (hd : decode code pc = .ok (.iinc i z, 3)) (hl : ls[i]? = some (some (.int x))) (hv : x + Int32.ofInt z = v) (hn : i < 4) (hi : i ≠ 0) (hc : ab_c1 ls i = true) (kk : lz_WP l G p e s m below meth c b (pc + 3) (ls.set i (some (.int v))) st S I J P k n) : lz_WP l G p e s m below meth c b pc ls st S I J P k n := by
  intro ad H locs arr X h0
  obtain ⟨⟨hx, hb, hr, hml, hown, hts, hX, hbl, hlk, hgv⟩, hK, hSt⟩ := C
  obtain ⟨x1, x2, x3, x4, x5, x6, x7, x8⟩ := X
  obtain ⟨j, hj⟩ := List.getElem?_of_mem (List.mem_cons_of_mem (0, Value.ref b) (ab_lv_mem (ad := ad) hl))
  refine lv_iinc hx hb hd (lz_has x7 h0) hj hv hn rfl (fun ls' h' => ?_)
  have r := lz_set (b := b) x7 (v := .int v) trivial hc hi h'
  exact kk ad H locs ls' ⟨x1, x2, x3, x4, x5, x6, r.1, x8⟩ r.2
theorem lz_istore (C : lz_C G p s m meth c b L xs) {z : Fin 4} {i : Nat} {x : Int32} (hd : decode code pc = .ok (.istore_n z, 1)) (hz : (z : Nat) = i) (hn : i < 4) (hi : i ≠ 0) (hc : ab_c1 ls i = true) (kk : lz_WP l G p e s m below meth c b (pc + 1) (ls.set i (some (.int x))) st S I J P k n) : lz_WP l G p e s m below meth c b pc ls (.int x :: st) S I J P k n := by
  intro ad H locs arr X h0
  obtain ⟨⟨hx, hb, hr, hml, hown, hts, hX, hbl, hlk, hgv⟩, hK, hSt⟩ := C
  obtain ⟨x1, x2, x3, x4, x5, x6, x7, x8⟩ := X
  refine lv_istore_n hx hb hd hz (lz_has x7 h0) hn rfl (fun ls' h' => ?_)
  have r := lz_set (b := b) x7 (v := .int x) trivial hc hi h'
  exact kk ad H locs ls' ⟨x1, x2, x3, x4, x5, x6, r.1, fun w hw => x8 w (List.mem_cons_of_mem _ hw)⟩ r.2
theorem lz_astore (C : lz_C G p s m meth c b L xs) {z : Fin 4} {i x : Nat} (hd : decode code pc = .ok (.astore_n z, 1)) (hz : (z : Nat) = i) (hn : i < 4) (hi : i ≠ 0) (hc : ab_c1 ls i = true) (kk : lz_WP l G p e s m below meth c b (pc + 1) (ls.set i (some (.ref x))) st S I J P k n) : lz_WP l G p e s m below meth c b pc ls (.ref x :: st) S I J P k n := by
  intro ad H locs arr X h0
  obtain ⟨⟨hx, hb, hr, hml, hown, hts, hX, hbl, hlk, hgv⟩, hK, hSt⟩ := C
  obtain ⟨x1, x2, x3, x4, x5, x6, x7, x8⟩ := X
  refine lv_astore_n hx hb hd hz (lz_has x7 h0) hn rfl (fun ls' h' => ?_)
  have r := lz_set (b := b) x7 (v := .ref x) (x8 _ List.mem_cons_self) hc hi h'
  exact kk ad H locs ls' ⟨x1, x2, x3, x4, x5, x6, r.1, fun w hw => x8 w (List.mem_cons_of_mem _ hw)⟩ r.2
theorem lz_widen {k' n' : Nat} (h1 : k ≤ k') (h2 : n ≤ n') (kk : lz_WP l G p e s m below meth c b pc ls st S I J P k' n') : lz_WP l G p e s m below meth c b pc ls st S I J P k n :=
  fun ad H locs arr X h0 => W.widen h1 h2 (kk ad H locs arr X h0)
/-- the end: true -/
theorem lz_end (C : lz_C G p s m meth c b L xs) (hd : decode code pc = .ok (.iconst 1, 1)) (hd2 : decode code (pc + 1) = .ok (.ireturn, 1)) (h1 : k ≤ 600000) (h2 : n ≤ 7302250) : lz_WP l G p e s m below meth c b pc ls [] S I J P k n := by
  intro ad H locs arr X h0
  obtain ⟨⟨hx, hb, hr, hml, hown, hts, hX, hbl, hlk, hgv⟩, hK, hSt⟩ := C
  obtain ⟨x1, x2, x3, x4, x5, x6, x7, x8⟩ := X
  refine va_forget x6.2.2 ?_
  refine W.widen h1 h2 ?_
  refine lv_iconst (v := 1) hx hb hd (by decide) ?_
  exact lw_ret hx hb hr hlk hd2
theorem lz_ls {ls' : List (Option Value)} (h : ls = ls') (kk : lz_WP l G p e s m below meth c b pc ls' st S I J P k n) : lz_WP l G p e s m below meth c b pc ls st S I J P k n := h ▸ kk
end LZ
