/-! ===== calls ===== -/
def ab_psh (v : Option Value) (st : List Value) : List Value := match v with
  | some w => w :: st
  | none => st
theorem ab_goodIn {M g : ab_M} (h : Cond.code g.1 g.2.1 g.2.2.1 g.2.2.2.1 ∈ ab_good) : GoodIn (ab_ws M) (ab_ws g) := by
  intro w hw
  rcases List.mem_cons.mp hw with rfl | hw
  · exact ⟨ab_ws_in h, good_of_word (ab_good_ok _ h).2⟩
  · exact ⟨ab_ws_in hw, good_of_word (ab_good_ok _ hw).2⟩
theorem ab_goodV {M g : ab_M} {ix : Nat} {C0 : String} (h : Cond.code g.1 g.2.1 g.2.2.1 g.2.2.2.1 ∈ ab_good) (h1 : Cond.methodLink M.1.cls ix g.1 ∈ ab_good) (h2 : Cond.instanceMethod g.1 ∈ ab_good) (h3 : Cond.selects C0 g.1 g.1 ∈ ab_good) (h4 : Cond.initialized C0 ∈ ab_good) : GoodIn (ab_ws M) (wsV M.1.cls ix C0 g.1 (ab_ws g)) := by
  intro w hw
  have go : ∀ w ∈ ab_good, w ∈ ab_ws M ∧ ((w.onTables && w.keeps) = true ∨ ∃ ty, w = .arrayClass ty) := fun w hw => ⟨ab_ws_in hw, good_of_word (ab_good_ok _ hw).2⟩
  rcases List.mem_append.mp hw with hw | hw
  · simp only [List.mem_cons, List.not_mem_nil, or_false] at hw
    rcases hw with rfl | rfl | rfl | rfl
    · exact go _ h1
    · exact go _ h2
    · exact go _ h3
    · exact go _ h4
  · exact ab_goodIn h w hw
theorem ab_goodS {M g : ab_M} {ix : Nat} (h : Cond.code g.1 g.2.1 g.2.2.1 g.2.2.2.1 ∈ ab_good) (h1 : Cond.methodLink M.1.cls ix g.1 ∈ ab_good) (h2 : Cond.static g.1 ∈ ab_good) (h4 : Cond.initialized g.1.cls ∈ ab_good) : GoodIn (ab_ws M) (va_wsS M.1.cls ix g.1 (ab_ws g)) := by
  intro w hw
  have go : ∀ w ∈ ab_good, w ∈ ab_ws M ∧ ((w.onTables && w.keeps) = true ∨ ∃ ty, w = .arrayClass ty) := fun w hw => ⟨ab_ws_in hw, good_of_word (ab_good_ok _ hw).2⟩
  rcases List.mem_append.mp hw with hw | hw
  · simp only [List.mem_cons, List.not_mem_nil, or_false] at hw
    rcases hw with rfl | rfl | rfl
    · exact go _ h1
    · exact go _ h2
    · exact go _ h4
  · exact ab_goodIn h w hw
section RE
variable {l : Launch} {G : ab_G} {M : ab_M} {d pc : Nat} {ls : List (Option Value)} {st : List Value} {S : ab_S} {I : ab_I} {J : ab_J} {P : ab_P} {k n : Nat} {Q : ab_Q}
/-- the start of a callee: its picture is the caller's, whole -/
theorem ab_pre {A : Nat → Prop} {s : State} {ad : Nat → Nat} {H : Heap} {locs : List Loc} (hK : ab_K G s) (hSt : ab_St A s s.heap) (hA : ∀ q, s.heap.size ≤ q → A q) (x4 : va_P (G.1, G.2.1) vwCl (ab_w G.2.2 ad S I J P) H) (x5 : va_D A (ab_w G.2.2 ad S I J P)) (x6 : va_S A s.heap H locs) {U : State} (hU : U.heap = H) (hW : s.WarmedH U.vm) :
    U.heap.size = H.size ∧ va_P (G.1, G.2.1) vwCl (ab_w G.2.2 ad S I J P) U.heap ∧ va_D (fun _ => True) (ab_w G.2.2 ad S I J P) ∧ ab_K G U ∧ ab_St (va_A (ab_w G.2.2 ad S I J P) H.size) U U.heap := by
  subst hU
  refine ⟨rfl, x4, x5.weaken (fun _ _ _ _ => trivial), hK.warm hW, ?_⟩
  have h1 : ab_St A s U.heap := hSt.kept (fun a ha hn => x6.2.1 a ha hn)
  exact (h1.moved hW.alike).narrow (fun q hq => by
    rcases hq with ⟨i, e, h⟩ | h
    · exact x5.2 i (q, e) h
    · exact hA q (Nat.le_trans x6.1 h))
theorem ab_blind {as : List Value} {ad : Nat → Nat} {sz : Nat} {A : Nat → Prop} : FrameBlind (va_Pc as (fun U => U.heap.size = sz ∧ va_P (G.1, G.2.1) vwCl (ab_w G.2.2 ad S I J P) U.heap ∧ va_D (fun _ => True) (ab_w G.2.2 ad S I J P) ∧ ab_K G U ∧ ab_St A U U.heap)) := by
  intro a U g mk q
  obtain ⟨q0, q1, q2, q3, q4, q5⟩ := q
  have hal : U.vm.Alike (U.calling g mk a).vm := Vm.Alike.refl U.vm
  refine ⟨q0, q1, q2, q3, ⟨va_K.moved hal q4.1, q4.2.1.moved hal, fun a' i x h hm => va_Nw.same rfl rfl (q4.2.2.1 a' i x h hm), fun a' i b' n' d' h hm => va_Nw.same rfl rfl (q4.2.2.2 a' i b' n' d' h hm)⟩, q5.moved hal⟩
/-- behind a call -/
theorem ab_cont {p : Program} {e : Env} {R : Room} {s : State} {m : MethodId} {args : Array Value} {below : List Frame} {meth : Method} {c : Code} {H : Heap} {locs : List Loc} {mc ms : Nat} {arr : Array Slot} {rest st0 : List Value} {a : Array Value} {A A1 : Nat → Prop} {ad : Nat → Nat} {n1 : Nat} {Qg : ab_Q} {Qw : State → Prop}
    (hr : va_Run p l e R s m args below meth c H locs k n mc ms (F0 m pc arr st0) rest (ab_post G ad n1 A1 Qg a) A1) (hS : va_S A s.heap H locs) (hA : ∀ q, A1 q → A q)
    (kk : ∀ (v : Option Value) (S' : ab_S) (I' : ab_I) (J' : ab_J) (P' : ab_P) (ad' : Nat → Nat) (H1 : Heap) (locs1 : List Loc), Qg v S' I' J' P' → (∀ w, v = some w → ab_ok S'.length w) → ab_ext n1 ad ad' → n1 ≤ S'.length → ab_wf S'.length P' → va_P (G.1, G.2.1) vwCl (ab_w G.2.2 ad' S' I' J' P') H1 → va_D A1 (ab_w G.2.2 ad' S' I' J' P') → va_S A s.heap H1 locs1 →
      W p l e R s m args below meth c H1 locs1 (k + mc) (n + ms) Qw (F0 m (pc + 3) arr ((v.map (ab_v ad')).toList ++ rest))) : W p l e R s m args below meth c H locs k n Qw (F0 m pc arr st0) := by
  intro T hT X
  obtain ⟨v0, st₀, t, T', L, h0, X', hL, e1, e2, ⟨⟨v, S', I', J', P', ad', hv, hq, ho, y1, y2, y3, y4, y5, y6⟩, hz, hk⟩, st⟩ := hr T hT X
  cases hv
  rw [h0] at hz hk
  obtain ⟨t2, a1, b1⟩ := kk v S' I' J' P' ad' T'.heap (locs ++ L) hq ho y1 y2 y3 (by rw [e1]; exact y4) y5
    ⟨Nat.le_trans hS.1 (by rw [e1]; exact hz), fun q h1 h2 => by rw [e1, hk q (Nat.lt_of_lt_of_le h1 hS.1) (fun z => h2 (hA q z))]; exact hS.2.1 q h1 h2, fun q hq => by
      rcases List.mem_append.mp hq with h | h
      · exact hS.2.2 q h
      · exact hA _ (hL q h)⟩ T' rfl X'
  exact ⟨t2, st t2 a1, b1⟩
theorem ab_free {A : Nat → Prop} {s : State} {ad : Nat → Nat} {H : Heap} {locs : List Loc} (hA : ∀ q, s.heap.size ≤ q → A q) (x5 : va_D A (ab_w G.2.2 ad S I J P)) (x6 : va_S A s.heap H locs) : ∀ q, va_A (ab_w G.2.2 ad S I J P) H.size q → A q := by
  intro q hq
  rcases hq with ⟨i, e, h⟩ | h
  · exact x5.2 i (q, e) h
  · exact hA q (Nat.le_trans x6.1 h)
theorem ab_sum {ad : Nat → Nat} {st : List Value} : ((st.map (ab_v ad)).map fun v => v.category).sum = (st.map fun v => v.category).sum := by
  rw [List.map_map]
  congr 1
  exact List.map_congr_left (fun v _ => ab_cat ad v)
/-- the walk goes on behind a call -/
theorem ab_after {p : Program} {e : Env} {s : State} {m : MethodId} {args : Array Value} {below : List Frame} {meth : Method} {c : Code} {ad0 ad : Nat → Nat} {n0 : Nat} {A : Nat → Prop} {H : Heap} {locs : List Loc} {arr : Array Slot} {g : ab_M} {st0 stk : List Value} {a : Array Value}
    (C : ab_Ctx G M p s m args meth c A) (X : ab_X G ad0 n0 A s M.2.2.1 S I J P ls stk ad H locs arr) (hst : ∀ v ∈ st, ab_ok S.length v)
    (hr : va_Run p l e (ab_rm d M.2.2.2.2.1 M.2.2.2.2.2) s m args below meth c H locs k n g.2.2.2.2.1 g.2.2.2.2.2 (F0 m pc arr st0) (st.map (ab_v ad)) (ab_post G ad S.length (va_A (ab_w G.2.2 ad S I J P) H.size) (fun v S' I' J' P' => ab_WP l G M d (pc + 3) ls (ab_psh v st) S' I' J' P' (k + g.2.2.2.2.1) (n + g.2.2.2.2.2) Q) a) (va_A (ab_w G.2.2 ad S I J P) H.size)) :
    W p l e (ab_rm d M.2.2.2.2.1 M.2.2.2.2.2) s m args below meth c H locs k n (MQ below (ab_post G ad0 n0 A Q) args s M.2.2.2.2.1 M.2.2.2.2.2 A) (F0 m pc arr st0) := by
  obtain ⟨x1, x2, x3, x4, x5, x6, x7, x8⟩ := id X
  obtain ⟨hx, hb, hml, hr2, hlk, hown, hnm, hts, hK, hSt, hA⟩ := id C
  have hF := ab_free hA x5 x6
  refine ab_cont hr x6 hF (fun v S' I' J' P' ad' H1 locs1 hq ho y1 y2 y3 y4 y5 y6 => ?_)
  have Y : ab_X G ad0 n0 A s M.2.2.1 S' I' J' P' ls (ab_psh v st) ad' H1 locs1 arr := ⟨x1.trans y1 x2, Nat.le_trans x2 y2, y3, y4, y5.weaken (fun _ q _ h => hF q.1 h), y6, x7.ext y2 y1, by
    cases v with
    | none => exact fun w hw => (hst w hw).mono y2
    | some z => exact List.forall_mem_cons.mpr ⟨ho z rfl, fun w hw => (hst w hw).mono y2⟩⟩
  have K := hq p e s m args below meth c ad0 n0 A C ad' H1 locs1 arr Y
  have he : (ab_psh v st).map (ab_v ad') = (v.map (ab_v ad')).toList ++ st.map (ab_v ad) := by
    cases v with
    | none => exact ab_map_ext hst y1
    | some z => show ab_v ad' z :: st.map (ab_v ad') = _; rw [ab_map_ext hst y1]; rfl
  rw [he] at K
  exact K
theorem ab_callV {g : ab_M} {ix dg r cc ln : Nat} {as stk : List Value} {q : vw_C} (hd : decode M.2.1 pc = .ok (.invokevirtual ix, 3)) (h1 : Cond.methodLink M.1.cls ix g.1 ∈ ab_good) (h2 : Cond.instanceMethod g.1 ∈ ab_good) (h3 : Cond.selects g.1.cls g.1 g.1 ∈ ab_good) (h4 : Cond.initialized g.1.cls ∈ ab_good) (h5 : Cond.code g.1 g.2.1 g.2.2.1 g.2.2.2.1 ∈ ab_good)
    (h6 : g.1.cls ≠ "java/lang/invoke/MethodHandle" ∧ g.1.cls ≠ "java/lang/invoke/VarHandle" ∧ (parseMethodDescriptor g.1.desc).map (fun d => d.parameters.length) = some as.length) (h7 : g.2.2.1 ≤ 45) (hc : vwCl[cc]? = some q) (hq : q.1 = g.1.cls) (hstk : stk = as.reverse ++ .ref r :: st)
    (hdg : dg + 1 ≤ d) (h8 : k + g.2.2.2.2.1 ≤ M.2.2.2.2.1) (h9 : n + g.2.2.2.2.2 ≤ M.2.2.2.2.2) (hsum : (st.map fun v => v.category).sum ≤ 8) (hs : S[r]? = some (cc + 5, ln))
    (kk : ab_Call l G g dg (.ref r :: as) S I J P (fun v S' I' J' P' => ab_WP l G M d (pc + 3) ls (ab_psh v st) S' I' J' P' (k + g.2.2.2.2.1) (n + g.2.2.2.2.2) Q)) : ab_WP l G M d pc ls stk S I J P k n Q := by
  subst hstk
  intro p e s m args below meth c ad0 n0 A C ad H locs arr X
  obtain ⟨hx, hb, hml, hr, hlk, hown, hnm, hts, hK, hSt, hA⟩ := id C
  obtain ⟨x1, x2, x3, x4, x5, x6, x7, x8⟩ := id X
  have hst : ∀ v ∈ st, ab_ok S.length v := fun v hv => x8 v (List.mem_append_right _ (List.mem_cons_of_mem _ hv))
  have hM := kk x3 (List.forall_mem_cons.mpr ⟨x8 _ (List.mem_append_right _ List.mem_cons_self), fun v hv => x8 v (List.mem_append_left _ (List.mem_reverse.mpr hv))⟩) ad H.size
  refine ab_after (g := g) (st := st) (a := (Value.ref (ad r) :: as.map (ab_v ad)).toArray) C X hst ?_
  refine va_runV (b := ad r) (As := as.map (ab_v ad)) (rest := st.map (ab_v ad)) (n := as.length) ⟨hx, hb, hml, hown, hts⟩ hM (cwV as.length hts (ab_goodV h5 h1 h2 h3 h4) rfl rfl rfl ⟨rfl, h6⟩ ⟨hdg, by show 8 + (g.2.2.1 + 11) + 64 * dg ≤ 64 * d; omega⟩) ⟨ab_blind, ?_, fun U hU hW => ⟨rfl, ab_pre hK hSt hA x4 x5 x6 hU hW⟩⟩ rfl (by rw [List.length_map]) x7.1 ?_ (lv_room (by rw [ab_sum]; exact hsum)) hd ⟨h8, h9⟩
  · rw [← hq]
    exact va_recv hK.1 x4 hc (ab_w_at hs)
  · show List.map (ab_v ad) (as.reverse ++ .ref r :: st) = (as.map (ab_v ad)).reverse ++ .ref (ad r) :: st.map (ab_v ad)
    rw [List.map_append, List.map_reverse]
    rfl
theorem ab_callS {g : ab_M} {ix dg : Nat} {as stk : List Value} (hd : decode M.2.1 pc = .ok (.invokestatic ix, 3)) (h1 : Cond.methodLink M.1.cls ix g.1 ∈ ab_good) (h2 : Cond.static g.1 ∈ ab_good) (h4 : Cond.initialized g.1.cls ∈ ab_good) (h5 : Cond.code g.1 g.2.1 g.2.2.1 g.2.2.2.1 ∈ ab_good)
    (h6 : g.1.cls ≠ "java/lang/invoke/MethodHandle" ∧ g.1.cls ≠ "java/lang/invoke/VarHandle" ∧ (parseMethodDescriptor g.1.desc).map (fun d => d.parameters.length) = some as.length) (h7 : g.2.2.1 ≤ 45) (hstk : stk = as.reverse ++ st)
    (hdg : dg + 1 ≤ d) (h8 : k + g.2.2.2.2.1 ≤ M.2.2.2.2.1) (h9 : n + g.2.2.2.2.2 ≤ M.2.2.2.2.2) (hsum : (st.map fun v => v.category).sum ≤ 8)
    (kk : ab_Call l G g dg as S I J P (fun v S' I' J' P' => ab_WP l G M d (pc + 3) ls (ab_psh v st) S' I' J' P' (k + g.2.2.2.2.1) (n + g.2.2.2.2.2) Q)) : ab_WP l G M d pc ls stk S I J P k n Q := by
  subst hstk
  intro p e s m args below meth c ad0 n0 A C ad H locs arr X
  obtain ⟨hx, hb, hml, hr, hlk, hown, hnm, hts, hK, hSt, hA⟩ := id C
  obtain ⟨x1, x2, x3, x4, x5, x6, x7, x8⟩ := id X
  have hst : ∀ v ∈ st, ab_ok S.length v := fun v hv => x8 v (List.mem_append_right _ hv)
  have hM := kk x3 (fun v hv => x8 v (List.mem_append_left _ (List.mem_reverse.mpr hv))) ad H.size
  refine ab_after (g := g) (st := st) (a := (as.map (ab_v ad)).toArray) C X hst ?_
  refine va_runS (As := as.map (ab_v ad)) (rest := st.map (ab_v ad)) (n := as.length) ⟨hx, hb, hml, hown, hts⟩ hM (va_cwS as.length hts (ab_goodS h5 h1 h2 h4) rfl rfl rfl h6 ⟨hdg, by show 8 + (g.2.2.1 + 11) + 64 * dg ≤ 64 * d; omega⟩) ⟨ab_blind, fun U hU hW => ⟨rfl, ab_pre hK hSt hA x4 x5 x6 hU hW⟩⟩ rfl (by rw [List.length_map]) x7.1 ?_ (lv_room (by rw [ab_sum]; exact hsum)) hd ⟨h8, h9⟩
  show List.map (ab_v ad) (as.reverse ++ st) = (as.map (ab_v ad)).reverse ++ st.map (ab_v ad)
  rw [List.map_append, List.map_reverse]
theorem ab_callSN {g : ab_M} {ix dg : Nat} {host : String} {as stk : List Value} (hd : decode M.2.1 pc = .ok (.invokestatic ix, 3)) (h1 : Cond.methodLinkNest M.1.cls ix g.1 host ∈ tables_1) (h2 : Cond.static g.1 ∈ ab_good) (h4 : Cond.initialized g.1.cls ∈ ab_good) (h5 : Cond.code g.1 g.2.1 g.2.2.1 g.2.2.2.1 ∈ ab_good)
    (h6 : g.1.cls ≠ "java/lang/invoke/MethodHandle" ∧ g.1.cls ≠ "java/lang/invoke/VarHandle" ∧ (parseMethodDescriptor g.1.desc).map (fun d => d.parameters.length) = some as.length) (h7 : g.2.2.1 ≤ 45) (hstk : stk = as.reverse ++ st)
    (hdg : dg + 1 ≤ d) (h8 : k + g.2.2.2.2.1 ≤ M.2.2.2.2.1) (h9 : n + g.2.2.2.2.2 ≤ M.2.2.2.2.2) (hsum : (st.map fun v => v.category).sum ≤ 8)
    (kk : ab_Call l G g dg as S I J P (fun v S' I' J' P' => ab_WP l G M d (pc + 3) ls (ab_psh v st) S' I' J' P' (k + g.2.2.2.2.1) (n + g.2.2.2.2.2) Q)) : ab_WP l G M d pc ls stk S I J P k n Q := by
  subst hstk
  intro p e s m args below meth c ad0 n0 A C ad H locs arr X
  obtain ⟨hx, hb, hml, hr, hlk, hown, hnm, hts, hK, hSt, hA⟩ := id C
  obtain ⟨x1, x2, x3, x4, x5, x6, x7, x8⟩ := id X
  have hst : ∀ v ∈ st, ab_ok S.length v := fun v hv => x8 v (List.mem_append_right _ hv)
  have hM := kk x3 (fun v hv => x8 v (List.mem_append_left _ (List.mem_reverse.mpr hv))) ad H.size
  refine ab_after (g := g) (st := st) (a := (as.map (ab_v ad)).toArray) C X hst ?_
  refine va_runSN (As := as.map (ab_v ad)) (rest := st.map (ab_v ad)) (n := as.length) ⟨hx, hb, hml, hown, hts⟩ hM ⟨va_cnB as.length hts (ab_goodIn h5) rfl rfl rfl (hK.2.2.1 _ _ _ _ h1) (hts _ (ab_ws_in h4)) h6 ⟨hdg, by show 8 + (g.2.2.1 + 11) + 64 * dg ≤ 64 * d; omega⟩, hts _ (ab_ws_in h2), trivial⟩ ⟨ab_blind, fun U hU hW => ⟨rfl, ab_pre hK hSt hA x4 x5 x6 hU hW⟩⟩ rfl (by rw [List.length_map]) x7.1 ?_ (lv_room (by rw [ab_sum]; exact hsum)) hd ⟨h8, h9⟩
  show List.map (ab_v ad) (as.reverse ++ st) = (as.map (ab_v ad)).reverse ++ st.map (ab_v ad)
  rw [List.map_append, List.map_reverse]
theorem ab_callI {g : ab_M} {ix dg r : Nat} {as stk : List Value} (hd : decode M.2.1 pc = .ok (.invokespecial ix, 3)) (h1 : Cond.methodLink M.1.cls ix g.1 ∈ ab_good) (h2 : Cond.instanceMethod g.1 ∈ ab_good) (h4 : Cond.initialized g.1.cls ∈ ab_good) (h5 : Cond.code g.1 g.2.1 g.2.2.1 g.2.2.2.1 ∈ ab_good) (hret : g.2.2.2.1 = none) (hnm1 : g.1.name = "<init>")
    (h6 : g.1.cls ≠ "java/lang/invoke/MethodHandle" ∧ g.1.cls ≠ "java/lang/invoke/VarHandle" ∧ (parseMethodDescriptor g.1.desc).map (fun d => d.parameters.length) = some as.length) (h7 : g.2.2.1 ≤ 45) (hstk : stk = as.reverse ++ .ref r :: st)
    (hdg : dg + 1 ≤ d) (h8 : k + g.2.2.2.2.1 ≤ M.2.2.2.2.1) (h9 : n + g.2.2.2.2.2 ≤ M.2.2.2.2.2) (hsum : (st.map fun v => v.category).sum ≤ 8)
    (kk : ab_Call l G g dg (.ref r :: as) S I J P (fun v S' I' J' P' => ab_WP l G M d (pc + 3) ls (ab_psh v st) S' I' J' P' (k + g.2.2.2.2.1) (n + g.2.2.2.2.2) Q)) : ab_WP l G M d pc ls stk S I J P k n Q := by
  subst hstk
  intro p e s m args below meth c ad0 n0 A C ad H locs arr X
  obtain ⟨hx, hb, hml, hr, hlk, hown, hnm, hts, hK, hSt, hA⟩ := id C
  obtain ⟨x1, x2, x3, x4, x5, x6, x7, x8⟩ := id X
  have hst : ∀ v ∈ st, ab_ok S.length v := fun v hv => x8 v (List.mem_append_right _ (List.mem_cons_of_mem _ hv))
  have hM := kk x3 (List.forall_mem_cons.mpr ⟨x8 _ (List.mem_append_right _ List.mem_cons_self), fun v hv => x8 v (List.mem_append_left _ (List.mem_reverse.mpr hv))⟩) ad H.size
  refine ab_after (g := g) (st := st) (a := (Value.ref (ad r) :: as.map (ab_v ad)).toArray) C X hst ?_
  refine va_runI (b := ad r) (As := as.map (ab_v ad)) (rest := st.map (ab_v ad)) (n := as.length) ⟨hx, hb, hml, hown, hts⟩ hM (cwI as.length hts (ab_goodIn h5) (by unfold ab_ws; rw [hret]) rfl rfl (hts _ (ab_ws_in h4)) (hts _ (ab_ws_in h1)) (hts _ (ab_ws_in h2)) hnm1 h6 ⟨hdg, by show 8 + (g.2.2.1 + 11) + 64 * dg ≤ 64 * d; omega⟩) ⟨ab_blind, fun U hU hW => ⟨rfl, ab_pre hK hSt hA x4 x5 x6 hU hW⟩⟩ rfl (by rw [List.length_map]) x7.1 ?_ (lv_room (by rw [ab_sum]; exact hsum)) hd ⟨h8, h9⟩
  show List.map (ab_v ad) (as.reverse ++ .ref r :: st) = (as.map (ab_v ad)).reverse ++ .ref (ad r) :: st.map (ab_v ad)
  rw [List.map_append, List.map_reverse]
  rfl
theorem ab_callIN {g : ab_M} {ix dg r : Nat} {host : String} {as stk : List Value} (hd : decode M.2.1 pc = .ok (.invokespecial ix, 3)) (h1 : Cond.methodLinkNest M.1.cls ix g.1 host ∈ tables_1) (h2 : Cond.instanceMethod g.1 ∈ ab_good) (h4 : Cond.initialized g.1.cls ∈ ab_good) (h5 : Cond.code g.1 g.2.1 g.2.2.1 g.2.2.2.1 ∈ ab_good) (hret : g.2.2.2.1 = none) (hnm1 : g.1.name = "<init>")
    (h6 : g.1.cls ≠ "java/lang/invoke/MethodHandle" ∧ g.1.cls ≠ "java/lang/invoke/VarHandle" ∧ (parseMethodDescriptor g.1.desc).map (fun d => d.parameters.length) = some as.length) (h7 : g.2.2.1 ≤ 45) (hstk : stk = as.reverse ++ .ref r :: st)
    (hdg : dg + 1 ≤ d) (h8 : k + g.2.2.2.2.1 ≤ M.2.2.2.2.1) (h9 : n + g.2.2.2.2.2 ≤ M.2.2.2.2.2) (hsum : (st.map fun v => v.category).sum ≤ 8)
    (kk : ab_Call l G g dg (.ref r :: as) S I J P (fun v S' I' J' P' => ab_WP l G M d (pc + 3) ls (ab_psh v st) S' I' J' P' (k + g.2.2.2.2.1) (n + g.2.2.2.2.2) Q)) : ab_WP l G M d pc ls stk S I J P k n Q := by
  subst hstk
  intro p e s m args below meth c ad0 n0 A C ad H locs arr X
  obtain ⟨hx, hb, hml, hr, hlk, hown, hnm, hts, hK, hSt, hA⟩ := id C
  obtain ⟨x1, x2, x3, x4, x5, x6, x7, x8⟩ := id X
  have hst : ∀ v ∈ st, ab_ok S.length v := fun v hv => x8 v (List.mem_append_right _ (List.mem_cons_of_mem _ hv))
  have hM := kk x3 (List.forall_mem_cons.mpr ⟨x8 _ (List.mem_append_right _ List.mem_cons_self), fun v hv => x8 v (List.mem_append_left _ (List.mem_reverse.mpr hv))⟩) ad H.size
  refine ab_after (g := g) (st := st) (a := (Value.ref (ad r) :: as.map (ab_v ad)).toArray) C X hst ?_
  refine va_runIN (b := ad r) (As := as.map (ab_v ad)) (rest := st.map (ab_v ad)) (n := as.length) ⟨hx, hb, hml, hown, hts⟩ hM ⟨va_cnB as.length hts (ab_goodIn h5) (by unfold ab_ws; rw [hret]) rfl rfl (hK.2.2.1 _ _ _ _ h1) (hts _ (ab_ws_in h4)) h6 ⟨hdg, by show 8 + (g.2.2.1 + 11) + 64 * dg ≤ 64 * d; omega⟩, hnm1, hts _ (ab_ws_in h2)⟩ ⟨ab_blind, fun U hU hW => ⟨rfl, ab_pre hK hSt hA x4 x5 x6 hU hW⟩⟩ rfl (by rw [List.length_map]) x7.1 ?_ (lv_room (by rw [ab_sum]; exact hsum)) hd ⟨h8, h9⟩
  show List.map (ab_v ad) (as.reverse ++ .ref r :: st) = (as.map (ab_v ad)).reverse ++ .ref (ad r) :: st.map (ab_v ad)
  rw [List.map_append, List.map_reverse]
  rfl
end RE
