/-! ===== the law's calls ===== -/
theorem lz_goodIn {g : ab_M} (h : Cond.code g.1 g.2.1 g.2.2.1 g.2.2.2.1 ∈ ab_good) : GoodIn ab_good (ab_ws g) := by
  intro w hw
  rcases List.mem_cons.mp hw with rfl | hw
  · exact ⟨h, good_of_word (ab_good_ok _ h).2⟩
  · exact ⟨hw, good_of_word (ab_good_ok _ hw).2⟩
theorem lz_goodV {g : ab_M} {own : String} {ix : Nat} {C0 : String} (h : Cond.code g.1 g.2.1 g.2.2.1 g.2.2.2.1 ∈ ab_good) (h1 : Cond.methodLink own ix g.1 ∈ ab_good) (h2 : Cond.instanceMethod g.1 ∈ ab_good) (h3 : Cond.selects C0 g.1 g.1 ∈ ab_good) (h4 : Cond.initialized C0 ∈ ab_good) : GoodIn ab_good (wsV own ix C0 g.1 (ab_ws g)) := by
  intro w hw
  have go : ∀ w ∈ ab_good, w ∈ ab_good ∧ ((w.onTables && w.keeps) = true ∨ ∃ ty, w = .arrayClass ty) := fun w hw => ⟨hw, good_of_word (ab_good_ok _ hw).2⟩
  rcases List.mem_append.mp hw with hw | hw
  · simp only [List.mem_cons, List.not_mem_nil, or_false] at hw
    rcases hw with rfl | rfl | rfl | rfl
    · exact go _ h1
    · exact go _ h2
    · exact go _ h3
    · exact go _ h4
  · exact lz_goodIn h w hw
section LC
variable {l : Launch} {G : ab_G} {p : Program} {e : Env} {s : State} {m : MethodId} {below : List Frame} {meth : Method} {c : Code} {b L : Nat} {xs : Nat → Int32} {pc : Nat} {ls : List (Option Value)} {st : List Value} {S : ab_S} {I : ab_I} {J : ab_J} {P : ab_P} {k n : Nat}
theorem lz_after {ad : Nat → Nat} {H : Heap} {locs : List Loc} {arr : Array Slot} {g : ab_M} {st0 stk : List Value} {a : Array Value} (hK : ab_K G s) (X : ab_X G (fun x => x) 0 (lz_A s) s 4 S I J P ls stk ad H locs arr) (h0 : arr[0]? = some (Slot.val (.ref b))) (hst : ∀ v ∈ st, ab_ok S.length v)
    (hr : va_Run p l e room_1 s m #[Value.ref b] below meth c H locs k n g.2.2.2.2.1 g.2.2.2.2.2 (F0 m pc arr st0) (st.map (ab_v ad)) (ab_post G ad S.length (va_A (ab_w G.2.2 ad S I J P) H.size) (fun v S' I' J' P' => lz_WP l G p e s m below meth c b (pc + 3) ls (ab_psh v st) S' I' J' P' (k + g.2.2.2.2.1) (n + g.2.2.2.2.2)) a) (va_A (ab_w G.2.2 ad S I J P) H.size)) :
    W p l e room_1 s m #[Value.ref b] below meth c H locs k n (lw_Z below #[Value.ref b] s) (F0 m pc arr st0) := by
  obtain ⟨x1, x2, x3, x4, x5, x6, x7, x8⟩ := id X
  have hF := ab_free (A := lz_A s) (fun q h => h) x5 x6
  refine ab_cont hr x6 hF (fun v S' I' J' P' ad' H1 locs1 hq ho y1 y2 y3 y4 y5 y6 => ?_)
  have Y : ab_X G (fun x => x) 0 (lz_A s) s 4 S' I' J' P' ls (ab_psh v st) ad' H1 locs1 arr := ⟨fun k hk => absurd hk (Nat.not_lt_zero k), Nat.zero_le _, y3, y4, y5.weaken (fun _ q _ h => hF q.1 h), y6, x7.ext y2 y1, by
    cases v with
    | none => exact fun w hw => (hst w hw).mono y2
    | some z => exact List.forall_mem_cons.mpr ⟨ho z rfl, fun w hw => (hst w hw).mono y2⟩⟩
  have K := hq ad' H1 locs1 arr Y h0
  have he : (ab_psh v st).map (ab_v ad') = (v.map (ab_v ad')).toList ++ st.map (ab_v ad) := by
    cases v with
    | none => exact ab_map_ext hst y1
    | some z => show ab_v ad' z :: st.map (ab_v ad') = _; rw [ab_map_ext hst y1]; rfl
  rw [he] at K
  exact K
theorem lz_call (C : lz_C G p s m meth c b L xs) {g : ab_M} {ix dg r cc ln : Nat} {as stk : List Value} {q : vw_C} (hd : decode code pc = .ok (.invokevirtual ix, 3)) (h1 : Cond.methodLink "BellRingersLaw" ix g.1 ∈ ab_good) (h2 : Cond.instanceMethod g.1 ∈ ab_good) (h3 : Cond.selects g.1.cls g.1 g.1 ∈ ab_good) (h4 : Cond.initialized g.1.cls ∈ ab_good) (h5 : Cond.code g.1 g.2.1 g.2.2.1 g.2.2.2.1 ∈ ab_good)
    (h6 : g.1.cls ≠ "java/lang/invoke/MethodHandle" ∧ g.1.cls ≠ "java/lang/invoke/VarHandle" ∧ (parseMethodDescriptor g.1.desc).map (fun d => d.parameters.length) = some as.length) (h7 : g.2.2.1 ≤ 45) (hc : vwCl[cc]? = some q) (hq : q.1 = g.1.cls) (hstk : stk = as.reverse ++ .ref r :: st)
    (hdg : dg ≤ 1000) (h8 : k + g.2.2.2.2.1 ≤ 600000) (h9 : n + g.2.2.2.2.2 ≤ 7302250) (hsum : (st.map fun v => v.category).sum ≤ 8) (hs : S[r]? = some (cc + 5, ln))
    (kk : ab_Call l G g dg (.ref r :: as) S I J P (fun v S' I' J' P' => lz_WP l G p e s m below meth c b (pc + 3) ls (ab_psh v st) S' I' J' P' (k + g.2.2.2.2.1) (n + g.2.2.2.2.2))) : lz_WP l G p e s m below meth c b pc ls stk S I J P k n := by
  subst hstk
  intro ad H locs arr X h0
  obtain ⟨⟨hx, hb, hr, hml, hown, hts0, hX, hbl, hlk, hgv⟩, hK, hSt⟩ := id C
  have hts := lz_words hts0
  obtain ⟨x1, x2, x3, x4, x5, x6, x7, x8⟩ := id X
  have hst : ∀ v ∈ st, ab_ok S.length v := fun v hv => x8 v (List.mem_append_right _ (List.mem_cons_of_mem _ hv))
  have hM := kk x3 (List.forall_mem_cons.mpr ⟨x8 _ (List.mem_append_right _ List.mem_cons_self), fun v hv => x8 v (List.mem_append_left _ (List.mem_reverse.mpr hv))⟩) ad H.size
  refine lz_after (g := g) (st := st) (a := (Value.ref (ad r) :: as.map (ab_v ad)).toArray) hK X h0 hst ?_
  refine va_runV (b := ad r) (As := as.map (ab_v ad)) (rest := st.map (ab_v ad)) (n := as.length) ⟨hx, hb, hml, hown, hts⟩ hM (cwV as.length hts (lz_goodV h5 h1 h2 h3 h4) rfl rfl rfl ⟨rfl, h6⟩ ⟨by show dg + 1 ≤ 2048; omega, by show 8 + (g.2.2.1 + 11) + 64 * dg ≤ 84000; omega⟩) ⟨ab_blind, ?_, fun U hU hW => ⟨rfl, ab_pre hK hSt (fun q h => h) x4 x5 x6 hU hW⟩⟩ rfl (by rw [List.length_map]) x7.1 ?_ (lv_room (by rw [ab_sum]; exact hsum)) hd ⟨h8, h9⟩
  · rw [← hq]
    exact va_recv hK.1 x4 hc (ab_w_at hs)
  · show List.map (ab_v ad) (as.reverse ++ .ref r :: st) = (as.map (ab_v ad)).reverse ++ .ref (ad r) :: st.map (ab_v ad)
    rw [List.map_append, List.map_reverse]
    rfl
theorem lz_callI (C : lz_C G p s m meth c b L xs) {g : ab_M} {ix dg r : Nat} {as stk : List Value} (hd : decode code pc = .ok (.invokespecial ix, 3)) (h1 : Cond.methodLink "BellRingersLaw" ix g.1 ∈ ab_good) (h2 : Cond.instanceMethod g.1 ∈ ab_good) (h4 : Cond.initialized g.1.cls ∈ ab_good) (h5 : Cond.code g.1 g.2.1 g.2.2.1 g.2.2.2.1 ∈ ab_good) (hret : g.2.2.2.1 = none) (hnm1 : g.1.name = "<init>")
    (h6 : g.1.cls ≠ "java/lang/invoke/MethodHandle" ∧ g.1.cls ≠ "java/lang/invoke/VarHandle" ∧ (parseMethodDescriptor g.1.desc).map (fun d => d.parameters.length) = some as.length) (h7 : g.2.2.1 ≤ 45) (hstk : stk = as.reverse ++ .ref r :: st)
    (hdg : dg ≤ 1000) (h8 : k + g.2.2.2.2.1 ≤ 600000) (h9 : n + g.2.2.2.2.2 ≤ 7302250) (hsum : (st.map fun v => v.category).sum ≤ 8)
    (kk : ab_Call l G g dg (.ref r :: as) S I J P (fun v S' I' J' P' => lz_WP l G p e s m below meth c b (pc + 3) ls (ab_psh v st) S' I' J' P' (k + g.2.2.2.2.1) (n + g.2.2.2.2.2))) : lz_WP l G p e s m below meth c b pc ls stk S I J P k n := by
  subst hstk
  intro ad H locs arr X h0
  obtain ⟨⟨hx, hb, hr, hml, hown, hts0, hX, hbl, hlk, hgv⟩, hK, hSt⟩ := id C
  have hts := lz_words hts0
  obtain ⟨x1, x2, x3, x4, x5, x6, x7, x8⟩ := id X
  have hst : ∀ v ∈ st, ab_ok S.length v := fun v hv => x8 v (List.mem_append_right _ (List.mem_cons_of_mem _ hv))
  have hM := kk x3 (List.forall_mem_cons.mpr ⟨x8 _ (List.mem_append_right _ List.mem_cons_self), fun v hv => x8 v (List.mem_append_left _ (List.mem_reverse.mpr hv))⟩) ad H.size
  refine lz_after (g := g) (st := st) (a := (Value.ref (ad r) :: as.map (ab_v ad)).toArray) hK X h0 hst ?_
  refine va_runI (b := ad r) (As := as.map (ab_v ad)) (rest := st.map (ab_v ad)) (n := as.length) ⟨hx, hb, hml, hown, hts⟩ hM (cwI as.length hts (lz_goodIn h5) (by unfold ab_ws; rw [hret]) rfl rfl (hts _ h4) (hts _ h1) (hts _ h2) hnm1 h6 ⟨by show dg + 1 ≤ 2048; omega, by show 8 + (g.2.2.1 + 11) + 64 * dg ≤ 84000; omega⟩) ⟨ab_blind, fun U hU hW => ⟨rfl, ab_pre hK hSt (fun q h => h) x4 x5 x6 hU hW⟩⟩ rfl (by rw [List.length_map]) x7.1 ?_ (lv_room (by rw [ab_sum]; exact hsum)) hd ⟨h8, h9⟩
  show List.map (ab_v ad) (as.reverse ++ .ref r :: st) = (as.map (ab_v ad)).reverse ++ .ref (ad r) :: st.map (ab_v ad)
  rw [List.map_append, List.map_reverse]
  rfl
theorem lz_new (C : lz_C G p s m meth c b L xs) {ix cc r : Nat} {C0 : String} {T : u_T} {N : Nat} {ty0 : Nat → FieldType} (hd : decode code pc = .ok (.new ix, 3)) (hc : vwCl[cc]? = some (C0, T, N)) (hin : ∀ w ∈ u_ws C0 T N, w ∈ ab_good) (hty : ∀ k, k < N → parseFieldDescriptor (T k).2.2.1 = some (ty0 k)) (hcl : Cond.classLink "BellRingersLaw" ix C0 ∈ ab_good) (hins : Cond.instantiable C0 N ∈ ab_good) (hini : Cond.initialized C0 ∈ ab_good)
    (hdef : ∀ j, j < N → ∃ t, (ab_fk cc)[j]? = some t ∧ defaultValue (ty0 j) = (match t with | 2 => .long 0 | 3 => .null | _ => .int 0)) (h1 : k + 1 ≤ 600000) (h2 : n + N ≤ 7302250) (hL : S.length = r) (hZ : bz_Z r I J P)
    (kk : lz_WP l G p e s m below meth c b (pc + 3) ls (.ref r :: st) (S ++ [(cc + 5, 0)]) I J P (k + 1) (n + N)) : lz_WP l G p e s m below meth c b pc ls st S I J P k n := by
  subst hL
  obtain ⟨e1, e2, e3⟩ := bz_Z_e hZ
  intro ad H locs arr X h0
  obtain ⟨⟨hx, hb, hr, hml, hown, hts0, hX, hbl, hlk, hgv⟩, hK, hSt⟩ := id C
  have hts := lz_words hts0
  obtain ⟨x1, x2, x3, x4, x5, x6, x7, x8⟩ := id X
  refine va_new (D := (G.1, G.2.1)) (ci := cc) (fs := ab_fs ad (ab_r I S.length (fun _ => 0)) (ab_r J S.length (fun _ => 0)) (ab_r P S.length (fun _ => none)) S.length cc) (C := C0) (T := T) (N := N) hx hb hts hin ty0 hty hown (hts _ hcl) (hts _ hins) (hts _ hini) hK.1 x4 x5 x6 (fun q h => h) hc ?_ h1 h2 hd (fun q H1 q1 q2 q3 => ?_)
  · intro j hj
    obtain ⟨t, ht, hdv⟩ := hdef j hj
    unfold vp_V
    rw [List.getD_eq_getElem?_getD, ab_fs_at ht, hdv]
    unfold ab_fv
    rw [ab_r_s, ab_r_s, ab_r_s]
    match t with
    | 0 => rfl
    | 1 => rfl
    | 2 => rfl
    | 3 => rfl
    | _ + 4 => rfl
  · have Y := X.push (sx := (cc + 5, 0)) (E := .inr (cc, ab_fs ad (ab_r I S.length (fun _ => 0)) (ab_r J S.length (fun _ => 0)) (ab_r P S.length (fun _ => none)) S.length cc)) (by
      show (Sum.inr (cc, _) : va_E) = Sum.inr (cc, ab_fs _ _ _ _ _ cc)
      unfold ab_fs ab_fv
      simp only [ab_r_s]
      rfl) q1 q2 q3
    rw [e1, e2, e3] at Y
    have K := kk (ab_up ad S.length q) H1 locs arr Y h0
    rw [List.map_cons, ab_map_ext x8 ab_up_ext] at K
    rw [show ab_v (ab_up ad S.length q) (.ref S.length) = .ref q from congrArg Value.ref ab_up_at] at K
    exact K
end LC
