/-! ===== a method's entry; arraycopy; the static row of words; loops ===== -/
/-- locals at the entry -/
def ab_ent : List Value → List (Option Value)
  | [] => []
  | v :: vs => if v.category = 2 then some v :: none :: ab_ent vs else some v :: ab_ent vs
theorem ab_ent_of : ∀ (vs : List Value) (o i : Nat) (v : Value), (ab_ent vs)[i]? = some (some v) → (i + o, v) ∈ lv_args o vs ∧ v ∈ vs
  | [], _, _, _, h => by simp [ab_ent] at h
  | w :: vs, o, i, v, h => by
    unfold ab_ent at h
    by_cases hc : w.category = 2
    · rw [if_pos hc] at h
      unfold lv_args
      rw [if_pos hc]
      match i, h with
      | 0, h =>
        simp at h
        subst h
        exact ⟨by rw [Nat.zero_add]; exact List.mem_cons_self, List.mem_cons_self⟩
      | 1, h => simp at h
      | j + 2, h =>
        have h : (ab_ent vs)[j]? = some (some v) := by simpa using h
        have r := ab_ent_of vs (o + 2) j v h
        exact ⟨List.mem_cons_of_mem _ (by rw [show j + 2 + o = j + (o + 2) by omega]; exact r.1), List.mem_cons_of_mem _ r.2⟩
    · rw [if_neg hc] at h
      unfold lv_args
      rw [if_neg hc]
      match i, h with
      | 0, h =>
        simp at h
        subst h
        exact ⟨by rw [Nat.zero_add]; exact List.mem_cons_self, List.mem_cons_self⟩
      | j + 1, h =>
        have h : (ab_ent vs)[j]? = some (some v) := by simpa using h
        have r := ab_ent_of vs (o + 1) j v h
        exact ⟨List.mem_cons_of_mem _ (by rw [show j + 1 + o = j + (o + 1) by omega]; exact r.1), List.mem_cons_of_mem _ r.2⟩
theorem ab_ent_map (ad : Nat → Nat) : ∀ vs : List Value, ab_ent (vs.map (ab_v ad)) = (ab_ent vs).map (Option.map (ab_v ad))
  | [] => rfl
  | w :: vs => by
    have r := ab_ent_map ad vs
    simp only [List.map_cons, ab_ent, ab_cat, r]
    split <;> rfl
theorem ab_sl_map (ad : Nat → Nat) : ∀ vs : List Value, (lg_sl (vs.map (ab_v ad))).length = (lg_sl vs).length
  | [] => rfl
  | w :: vs => by
    have r := ab_sl_map ad vs
    simp only [lg_sl, List.map_cons, List.flatMap_cons, List.length_append, ab_cat] at r ⊢
    rw [r]
    split <;> rfl
section RG
variable {l : Launch} {G : ab_G} {M : ab_M} {d pc : Nat} {ls : List (Option Value)} {st : List Value} {S : ab_S} {I : ab_I} {J : ab_J} {P : ab_P} {k n : Nat} {Q : ab_Q}
theorem ab_enter {as : List Value} (hp : plainName M.1.cls = true) (hn : (lg_sl as).length ≤ M.2.2.1) (kk : ab_WP l G M d 0 (ab_ent as) [] S I J P 0 0 Q) : ab_Call l G M d as S I J P Q := by
  intro hwf hok ad sz
  refine Met.ofW (cc := M.2.1) (maxL := M.2.2.1) (ret := M.2.2.2.1) (ws' := ab_good) hp rfl ?_
  intro p e s m args below meth c s₁ B hml hv
  obtain ⟨rfl, hsz, hP, hD0, hK, hSt⟩ := hv
  subst hsz
  have hD := hD0.self (sz := s.heap.size)
  have hl := lv_entry (as.map (ab_v ad)) (n := M.2.2.1) (by rw [ab_sl_map]; exact hn)
  rw [lg_entry_eq]
  refine kk p e s m _ below meth c ad S.length (va_A (ab_w G.2.2 ad S I J P) s.heap.size) ⟨B.exec, B.bytes, hml, B.returns, B.notSynchronized, findClass_of_methodNamed B.named, (name_of_methodNamed B.named B.method).1, atoms_spec (ws := ab_ws M) B.pre, hK, hSt, fun q h => Or.inr h⟩ ad s.heap [] _ ⟨fun _ _ => rfl, Nat.le_refl _, hwf, hP, hD, va_S.rf, ⟨hl.1, hl.2.1, fun i v hi => ?_⟩, fun v hv => absurd hv List.not_mem_nil⟩
  have r := ab_ent_of as 0 i v hi
  refine ⟨hok v r.2, ?_⟩
  have hi2 : (ab_ent (as.map (ab_v ad)))[i]? = some (some (ab_v ad v)) := by
    rw [ab_ent_map, List.getElem?_map, hi]
    rfl
  exact hl.2.2 (i, ab_v ad v) (ab_ent_of _ 0 i _ hi2).1
theorem ab_copy {ix r0 r1 ln0 ln1 : Nat} {sp dp x : Int32} (hd : decode M.2.1 pc = .ok (.invokestatic ix, 3)) (hl : Cond.methodLink M.1.cls ix arraycopyName ∈ ab_good) (hnat : Cond.native arraycopyName ∈ ab_good) (hstat : Cond.static arraycopyName ∈ ab_good) (hini : Cond.initialized "java/lang/System" ∈ ab_good)
    (hs0 : S[r0]? = some (0, ln0)) (hs1 : S[r1]? = some (0, ln1)) (h1 : ¬ sp < 0) (h2 : ¬ dp < 0) (h3 : ¬ x < 0) (h4 : sp.toNatClampNeg + x.toNatClampNeg ≤ ln0) (h5 : dp.toNatClampNeg + x.toNatClampNeg ≤ ln1) (hd1 : 1 ≤ d) (hsum : (st.map fun v => v.category).sum ≤ 8)
    (kk : ab_WP l G M d (pc + 3) ls st S (ab_r I r1 (va_cpy (I r0) (I r1) sp.toNatClampNeg dp.toNatClampNeg x.toNatClampNeg)) J P k n Q) : ab_WP l G M d pc ls (.int x :: .int dp :: .ref r1 :: .int sp :: .ref r0 :: st) S I J P k n Q := by
  intro p e s m args below meth c ad0 n0 A C ad H locs arr X
  obtain ⟨hx, hb, hml, hr, hlk, hown, hnm, hts, hK, hSt, hA⟩ := id C
  obtain ⟨x1, x2, x3, x4, x5, x6, x7, x8⟩ := id X
  have hset := ab_w_set (g := G.2.2) (ad := ad) (I := I) (J := J) (P := P) (I' := ab_r I r1 (va_cpy (I r0) (I r1) sp.toNatClampNeg dp.toNatClampNeg x.toNatClampNeg)) (J' := J) (P' := P) hs1 (fun q hq => ab_r_o hq) (fun _ _ => rfl) (fun _ _ => rfl)
  refine va_copyi (D := (G.1, G.2.1)) (ty := .int) hx hb (by rw [hml]; exact x7.1.symm) hown (hts _ (ab_ws_in hl)) (hts _ (ab_ws_in hnat)) (hts _ (ab_ws_in hstat)) (hts _ (ab_ws_in hini)) hK.1 x4 x5 x6 r0 r1 0 0 (ab_w_at hs0) (ab_w_at hs1) rfl rfl rfl h1 h2 h3 h4 h5 (fun _ _ => rfl) hd1 ?_ hd (fun H1 locs1 q1 q2 q3 => ?_)
  · rw [ab_sum]
    show _ + (nativeFrameWords "java/lang/System" "arraycopy" 5 + 11) ≤ 64 * d
    have : nativeFrameWords "java/lang/System" "arraycopy" 5 ≤ 40 := by decide
    omega
  · have he : va_cpy (I r0) (I r1) sp.toNatClampNeg dp.toNatClampNeg x.toNatClampNeg = ab_r I r1 (va_cpy (I r0) (I r1) sp.toNatClampNeg dp.toNatClampNeg x.toNatClampNeg) r1 := ab_r_s.symm
    rw [he] at q1 q2
    have q1 : va_P (G.1, G.2.1) vwCl ((ab_w G.2.2 ad S I J P).set r1 (ad r1, ab_e G.2.2 ad (ab_r I r1 (va_cpy (I r0) (I r1) sp.toNatClampNeg dp.toNatClampNeg x.toNatClampNeg)) J P r1 (0, ln1))) H1 := q1
    have q2 : va_D A ((ab_w G.2.2 ad S I J P).set r1 (ad r1, ab_e G.2.2 ad (ab_r I r1 (va_cpy (I r0) (I r1) sp.toNatClampNeg dp.toNatClampNeg x.toNatClampNeg)) J P r1 (0, ln1))) := q2
    rw [hset] at q1 q2
    exact kk p e s m args below meth c ad0 n0 A C ad H1 locs1 arr ⟨x1, x2, x3, q1, q2, q3, x7, fun w hw => x8 w (List.mem_cons_of_mem _ (List.mem_cons_of_mem _ (List.mem_cons_of_mem _ (List.mem_cons_of_mem _ (List.mem_cons_of_mem _ hw)))))⟩
/-- WORDS.length -/
theorem ab_wlen {ix : Nat} {host : String} (hd : decode M.2.1 pc = .ok (.getstatic ix, 3)) (hd2 : decode M.2.1 (pc + 3) = .ok (.arraylength, 1)) (hl : Cond.fieldLinkNest M.1.cls ix "BellRingers" "WORDS" "[J" host ∈ tables_1) (kk : ab_WP l G M d (pc + 3 + 1) ls (.int 15 :: st) S I J P k n Q) : ab_WP l G M d pc ls st S I J P k n Q := by
  intro p e s m args below meth c ad0 n0 A C ad H locs arr X
  obtain ⟨hx, hb, hml, hr, hlk, hown, hnm, hts, hK, hSt, hA⟩ := id C
  obtain ⟨x1, x2, x3, x4, x5, x6, x7, x8⟩ := id X
  obtain ⟨w, hZ, hT⟩ := hSt
  refine va_getsN hx hb hZ x6 hown (va_Nw.use rfl (hK.2.2.2 _ _ _ _ _ _ hl)) (fun _ h => h) hd ?_
  exact va_tlen hx hb hT x6 rfl hd2 (kk p e s m args below meth c ad0 n0 A C ad H locs arr ⟨x1, x2, x3, x4, x5, x6, x7, List.forall_mem_cons.mpr ⟨trivial, x8⟩⟩)
/-- WORDS[i] -/
theorem ab_wat {ix : Nat} {z : Fin 4} {j : Nat} {host : String} {i : Int32} {x : Int64} (hd : decode M.2.1 pc = .ok (.getstatic ix, 3)) (hd2 : decode M.2.1 (pc + 3) = .ok (.iload_n z, 1)) (hd3 : decode M.2.1 (pc + 3 + 1) = .ok (.laload, 1)) (hl : Cond.fieldLinkNest M.1.cls ix "BellRingers" "WORDS" "[J" host ∈ tables_1) (hj : (z : Nat) = j) (hi : ls[j]? = some (some (.int i))) (hin : vp_in i 15) (hv : ab_words i.toNatClampNeg = .long x) (kk : ab_WP l G M d (pc + 3 + 1 + 1) ls (.long x :: st) S I J P k n Q) : ab_WP l G M d pc ls st S I J P k n Q := by
  intro p e s m args below meth c ad0 n0 A C ad H locs arr X
  obtain ⟨hx, hb, hml, hr, hlk, hown, hnm, hts, hK, hSt, hA⟩ := id C
  obtain ⟨x1, x2, x3, x4, x5, x6, x7, x8⟩ := id X
  obtain ⟨w, hZ, hT⟩ := hSt
  refine va_getsN hx hb hZ x6 hown (va_Nw.use rfl (hK.2.2.2 _ _ _ _ _ _ hl)) (fun _ h => h) hd ?_
  refine lv_iload_n hx hb hd2 hj (x7.2.2 _ _ hi).2 ?_
  exact va_tl hx hb hT x6 hin hv hd3 (kk p e s m args below meth c ad0 n0 A C ad H locs arr ⟨x1, x2, x3, x4, x5, x6, x7, List.forall_mem_cons.mpr ⟨trivial, x8⟩⟩)
end RG
/-! ===== what generated functions are made of ===== -/
/-- a loop: its body answers the next state, or what comes behind it -/
def ab_it {σ ρ : Type} (body : σ → Option (σ ⊕ ρ)) : Nat → σ → Option ρ
  | 0, _ => none
  | n + 1, s => match body s with
    | none => none
    | some (.inl s') => ab_it body n s'
    | some (.inr r) => some r
theorem ab_iter {σ ρ : Type} {body : σ → Option (σ ⊕ ρ)} {W : σ → Prop} {r : ρ} (h : ∀ s x, body s = some x → (∀ s', x = .inl s' → W s') → (∀ r', x = .inr r' → r' = r) → W s) : ∀ n s, ab_it body n s = some r → W s
  | 0, s, e => by cases e
  | n + 1, s, e => by
    unfold ab_it at e
    cases hb : body s with
    | none => rw [hb] at e; cases e
    | some x =>
      rw [hb] at e
      refine h s x hb (fun s' hx => ?_) (fun r' hx => ?_)
      · subst hx
        exact ab_iter h n s' e
      · subst hx
        exact Option.some.inj e
/-- a test that must hold -/
def ab_gd {α : Type} (c : Prop) [Decidable c] (x : Option α) : Option α := if c then x else none
theorem ab_gd_of {α : Type} {c : Prop} [Decidable c] {x : Option α} {y : α} (h : ab_gd c x = some y) : c ∧ x = some y := by
  unfold ab_gd at h
  split at h
  · exact ⟨‹_›, h⟩
  · cases h
theorem ab_bd_of {α β : Type} {x : Option α} {f : α → Option β} {y : β} (h : x.bind f = some y) : ∃ a, x = some a ∧ f a = some y := Option.bind_eq_some_iff.mp h
theorem ab_mp_of {α β : Type} {x : Option α} {f : α → β} {y : β} (h : x.map f = some y) : ∃ a, x = some a ∧ f a = y := Option.map_eq_some_iff.mp h
theorem ab_if_of {α : Type} {c : Prop} [Decidable c] {x y z : α} (h : (if c then x else y) = z) : (c ∧ x = z) ∨ (¬ c ∧ y = z) := by
  split at h
  · exact Or.inl ⟨‹_›, h⟩
  · exact Or.inr ⟨‹_›, h⟩
/-- an index within a row -/
def ab_ix (i : Int32) (n : Nat) : Bool := !(decide (i < 0)) && decide (i.toNatClampNeg < n)
theorem ab_ix_in {i : Int32} {n : Nat} (h : ab_ix i n = true) : vp_in i n := by
  unfold ab_ix at h
  simp only [Bool.and_eq_true, Bool.not_eq_true', decide_eq_false_iff_not, decide_eq_true_eq] at h
  intro hc
  rcases hc with hc | hc
  · exact h.1 hc
  · omega
