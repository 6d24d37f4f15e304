section RC
variable {l : Launch} {G : ab_G} {M : ab_M} {d pc : Nat} {ls : List (Option Value)} {st : List Value} {S : ab_S} {I : ab_I} {J : ab_J} {P : ab_P} {k n : Nat} {Q : ab_Q}
theorem ab_ok.mono {a b : Nat} {v : Value} (h : ab_ok a v) (hab : a ≤ b) : ab_ok b v := by
  cases v <;> first | exact Nat.lt_of_lt_of_le h hab | trivial
theorem ab_v_ext {a : Nat} {ad ad' : Nat → Nat} {v : Value} (h : ab_ok a v) (he : ab_ext a ad ad') : ab_v ad' v = ab_v ad v := by
  cases v with
  | ref q => show Value.ref (ad' q) = Value.ref (ad q); rw [he q h]
  | _ => rfl
theorem ab_map_ext {a : Nat} {ad ad' : Nat → Nat} {vs : List Value} (h : ∀ v ∈ vs, ab_ok a v) (he : ab_ext a ad ad') : vs.map (ab_v ad') = vs.map (ab_v ad) := List.map_congr_left (fun v hv => ab_v_ext (h v hv) he)
theorem ab_L.ext {a b : Nat} {ad ad' : Nat → Nat} {ls : List (Option Value)} {arr : Array Slot} {nL : Nat} (h : ab_L a ad ls arr nL) (hab : a ≤ b) (he : ab_ext a ad ad') : ab_L b ad' ls arr nL :=
  ⟨h.1, h.2.1, fun i v hv => ⟨(h.2.2 i v hv).1.mono hab, by rw [ab_v_ext (h.2.2 i v hv).1 he]; exact (h.2.2 i v hv).2⟩⟩
theorem ab_ext.trans {a b : Nat} {x y z : Nat → Nat} (h1 : ab_ext a x y) (h2 : ab_ext b y z) (hab : a ≤ b) : ab_ext a x z := fun q hq => (h2 q (Nat.lt_of_lt_of_le hq hab)).trans (h1 q hq)
theorem ab_wf.mono {a b : Nat} {P : ab_P} (h : ab_wf a P) (hab : a ≤ b) : ab_wf b P := fun r q x hx => Nat.lt_of_lt_of_le (h r q x hx) hab
theorem ab_St.moved {A : Nat → Prop} {u U : State} {H : Heap} (hvm : u.vm.Alike U.vm) (h : ab_St A u H) : ab_St A U H := by
  obtain ⟨w, h1, h2⟩ := h
  exact ⟨w, h1.moved hvm, h2.moved hvm⟩
theorem ab_St.kept {A : Nat → Prop} {U : State} {H H1 : Heap} (h : ab_St A U H) (hq : ∀ a : Nat, a < H.size → ¬ A a → H1[a]? = H[a]?) : ab_St A U H1 := by
  obtain ⟨w, h1, h2⟩ := h
  exact ⟨w, h1.kept hq, h2.kept hq⟩
theorem ab_St.narrow {A B : Nat → Prop} {U : State} {H : Heap} (h : ab_St A U H) (hAB : ∀ q, B q → A q) : ab_St B U H := by
  obtain ⟨w, h1, h2⟩ := h
  exact ⟨w, h1.narrow hAB, h2.narrow hAB⟩
/-! ===== one more cell ===== -/
def ab_up (ad : Nat → Nat) (k x : Nat) : Nat → Nat := fun j => if j = k then x else ad j
theorem ab_up_ext {ad : Nat → Nat} {k x : Nat} : ab_ext k ad (ab_up ad k x) := fun j hj => if_neg (Nat.ne_of_lt hj)
theorem ab_up_at {ad : Nat → Nat} {k x : Nat} : ab_up ad k x k = x := if_pos rfl
theorem ab_wf_push {m : Nat} {P : ab_P} (h : ab_wf m P) (r : Nat) : ab_wf (m + 1) (ab_r P r (fun _ => none)) := by
  intro q i a hq
  by_cases e : q = r
  · subst e
    rw [ab_r_s] at hq
    cases hq
  · rw [ab_r_o e] at hq
    exact Nat.lt_succ_of_lt (h _ _ _ hq)
/-- what the walk's state is behind a new cell -/
theorem ab_X.push {ad0 : Nat → Nat} {n0 : Nat} {A : Nat → Prop} {s : State} {nL : Nat} {ad : Nat → Nat} {H H1 : Heap} {locs : List Loc} {arr : Array Slot} {q : Nat} {sx : Nat × Nat} {E : va_E}
    (X : ab_X G ad0 n0 A s nL S I J P ls st ad H locs arr) (hE : E = ab_e G.2.2 (ab_up ad S.length q) (ab_r I S.length (fun _ => 0)) (ab_r J S.length (fun _ => 0)) (ab_r P S.length (fun _ => none)) S.length sx)
    (q1 : va_P (G.1, G.2.1) vwCl (ab_w G.2.2 ad S I J P ++ [(q, E)]) H1) (q2 : va_D A (ab_w G.2.2 ad S I J P ++ [(q, E)])) (q3 : va_S A s.heap H1 locs) :
    ab_X G ad0 n0 A s nL (S ++ [sx]) (ab_r I S.length (fun _ => 0)) (ab_r J S.length (fun _ => 0)) (ab_r P S.length (fun _ => none)) ls (.ref S.length :: st) (ab_up ad S.length q) H1 locs arr := by
  obtain ⟨x1, x2, x3, x4, x5, x6, x7, x8⟩ := X
  have hp := ab_w_push (g := G.2.2) (ad := ad) (ad' := ab_up ad S.length q) (S := S) (I := I) (J := J) (P := P) (I' := ab_r I S.length (fun _ => 0)) (J' := ab_r J S.length (fun _ => 0)) (P' := ab_r P S.length (fun _ => none)) (s := sx) x3 ab_up_ext (fun _ h => ab_r_o h) (fun _ h => ab_r_o h) (fun _ h => ab_r_o h)
  rw [ab_up_at, ← hE] at hp
  rw [hp] at q1 q2
  have hl : (S ++ [sx]).length = S.length + 1 := by simp
  refine ⟨x1.trans ab_up_ext x2, by rw [hl]; omega, by rw [hl]; exact ab_wf_push x3 _, q1, q2, q3, x7.ext (by rw [hl]; omega) ab_up_ext, ?_⟩
  rw [hl]
  exact List.forall_mem_cons.mpr ⟨Nat.lt_succ_self _, fun v hv => (x8 v hv).mono (Nat.le_succ _)⟩
theorem ab_new {ix cc : Nat} {C0 : String} {T : u_T} {N : Nat} {ty0 : Nat → FieldType} (hd : decode M.2.1 pc = .ok (.new ix, 3)) (hc : vwCl[cc]? = some (C0, T, N)) (hin : ∀ w ∈ u_ws C0 T N, w ∈ ab_good) (hty : ∀ k, k < N → parseFieldDescriptor (T k).2.2.1 = some (ty0 k)) (hcl : Cond.classLink M.1.cls ix C0 ∈ ab_good) (hins : Cond.instantiable C0 N ∈ ab_good) (hini : Cond.initialized C0 ∈ ab_good)
    (hdef : ∀ j, j < N → ∃ t, (ab_fk cc)[j]? = some t ∧ defaultValue (ty0 j) = (match t with | 2 => .long 0 | 3 => .null | _ => .int 0)) (h1 : k + 1 ≤ M.2.2.2.2.1) (h2 : n + N ≤ M.2.2.2.2.2)
    (kk : ab_WP l G M d (pc + 3) ls (.ref S.length :: st) (S ++ [(cc + 5, 0)]) (ab_r I S.length (fun _ => 0)) (ab_r J S.length (fun _ => 0)) (ab_r P S.length (fun _ => none)) (k + 1) (n + N) Q) : ab_WP l G M d pc ls st S I J P k n Q := by
  intro p e s m args below meth c ad0 n0 A C ad H locs arr X
  obtain ⟨hx, hb, hml, hr, hlk, hown, hnm, hts, hK, hSt, hA⟩ := id C
  obtain ⟨x1, x2, x3, x4, x5, x6, x7, x8⟩ := id X
  refine va_new (D := (G.1, G.2.1)) (ci := cc) (fs := ab_fs ad (ab_r I S.length (fun _ => 0)) (ab_r J S.length (fun _ => 0)) (ab_r P S.length (fun _ => none)) S.length cc) (C := C0) (T := T) (N := N) hx hb (fun w h => hts w (ab_ws_in h)) hin ty0 hty hown (hts _ (ab_ws_in hcl)) (hts _ (ab_ws_in hins)) (hts _ (ab_ws_in hini)) hK.1 x4 x5 x6 hA hc ?_ h1 h2 hd (fun q H1 q1 q2 q3 => ?_)
  · intro j hj
    obtain ⟨t, ht, hdv⟩ := hdef j hj
    unfold vp_V
    rw [List.getD_eq_getElem?_getD, ab_fs_at ht, hdv]
    unfold ab_fv
    rw [ab_r_s, ab_r_s, ab_r_s]
    match t with
    | 0 => rfl
    | 1 => rfl
    | 2 => rfl
    | 3 => rfl
    | _ + 4 => rfl
  · have Y := X.push (sx := (cc + 5, 0)) (E := .inr (cc, ab_fs ad (ab_r I S.length (fun _ => 0)) (ab_r J S.length (fun _ => 0)) (ab_r P S.length (fun _ => none)) S.length cc)) (by
      show (Sum.inr (cc, _) : va_E) = Sum.inr (cc, ab_fs _ _ _ _ _ cc)
      unfold ab_fs ab_fv
      simp only [ab_r_s]
      rfl) q1 q2 q3
    have K := kk p e s m args below meth c ad0 n0 A C (ab_up ad S.length q) H1 locs arr Y
    rw [List.map_cons, ab_map_ext x8 ab_up_ext] at K
    rw [show ab_v (ab_up ad S.length q) (.ref S.length) = .ref q from congrArg Value.ref ab_up_at] at K
    exact K
end RC
