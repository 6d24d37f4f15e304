/-! ===== THE ABSTRACT HEAP: a cell is its number; what it holds are functions of (cell, place): ints, longs, references; its kind stands in a list ===== -/
abbrev ab_I : Type := Nat → Nat → Int32
abbrev ab_J : Type := Nat → Nat → Int64
abbrev ab_P : Type := Nat → Nat → Option Nat
abbrev ab_S : Type := List (Nat × Nat)
/-- class numbers, slots, array classes' numbers -/
abbrev ab_G : Type := (Nat → ClassId) × (Nat → Nat → Nat) × (Nat → ClassId)
def ab_fk : Nat → List Nat := fun c => match c with
  | 0 => [3, 0, 0]
  | 1 => [3, 3, 3, 3, 3, 3, 3]
  | 2 => [3, 3, 3, 0, 0]
  | 3 => [3, 3, 3, 3, 3, 0, 0]
  | 4 => [3, 3, 3, 1, 1, 1, 0, 3, 0, 0]
  | 5 => [3, 3]
  | 6 => [3, 3, 3, 0, 0, 0]
  | 7 => [3, 0]
  | 8 => [3, 0, 0, 0, 0, 2]
  | 9 => [3, 3, 3, 3, 0, 0, 0, 0, 0, 0]
  | 10 => [3, 3, 3, 3, 3, 3, 3, 3, 3, 3, 0, 0]
  | 11 => [3, 3, 3, 3, 3, 3, 3, 3, 3, 0, 3, 0, 3, 0, 0]
  | 12 => [3, 0, 0, 0, 0, 0, 0, 0, 0, 2, 3, 3, 3, 3, 3, 3, 3, 0, 0, 0, 0, 0, 0, 0, 1, 1, 3, 3, 3, 3, 3, 3, 3, 0, 0, 0, 0, 0, 0, 0, 0, 0, 0, 0, 1, 1, 3, 3, 3, 3, 0, 0, 3, 3, 0, 3, 3, 3, 3, 3, 3, 3, 3, 3, 0, 0, 3, 3, 3, 3, 3]
  | _ => []
def ab_v (ad : Nat → Nat) (v : Value) : Value := match v with
  | .ref k => .ref (ad k)
  | w => w
def ab_ok (n : Nat) (v : Value) : Prop := match v with
  | .ref k => k < n
  | _ => True
def ab_fv (ad : Nat → Nat) (I : ab_I) (J : ab_J) (P : ab_P) (r k t : Nat) : Value := match t with
  | 2 => .long (J r k)
  | 3 => va_rf ((P r k).map ad)
  | _ => .int (I r k)
def ab_fs (ad : Nat → Nat) (I : ab_I) (J : ab_J) (P : ab_P) (r c : Nat) : List Value := (ab_fk c).mapIdx (fun k t => ab_fv ad I J P r k t)
def ab_e (g : Nat → ClassId) (ad : Nat → Nat) (I : ab_I) (J : ab_J) (P : ab_P) (r : Nat) (s : Nat × Nat) : va_E := match s.1 with
  | 0 => .inl (g 0, s.2, .inl (I r))
  | 1 => .inl (g 1, s.2, .inl (I r))
  | 2 => .inl (g 2, s.2, .inl (I r))
  | 3 => .inl (g 3, s.2, .inr (.inl (J r)))
  | 4 => .inl (g 4, s.2, .inr (.inr (.inr (.inr (fun j => (P r j).map ad)))))
  | c + 5 => .inr (c, ab_fs ad I J P r c)
def ab_w (g : Nat → ClassId) (ad : Nat → Nat) (S : ab_S) (I : ab_I) (J : ab_J) (P : ab_P) : va_W := S.mapIdx (fun r s => (ad r, ab_e g ad I J P r s))
def ab_tys (g : Nat → ClassId) : List (ClassId × FieldType) := [(g 0, .int), (g 1, .byte), (g 2, .boolean), (g 3, .long), (g 4, .object "BellRingers$State")]
/-- a place of a row changes -/
def ab_u {α : Type} (I : Nat → Nat → α) (r i : Nat) (x : α) : Nat → Nat → α := fun q => if q = r then (fun j => if j = i then x else I r j) else I q
/-- a whole row changes -/
def ab_r {α : Type} (I : Nat → Nat → α) (r : Nat) (f : Nat → α) : Nat → Nat → α := fun q => if q = r then f else I q
theorem ab_u_o {α : Type} {I : Nat → Nat → α} {r i q : Nat} {x : α} (h : q ≠ r) : ab_u I r i x q = I q := if_neg h
theorem ab_u_s {α : Type} {I : Nat → Nat → α} {r i : Nat} {x : α} : ab_u I r i x r = fun j => if j = i then x else I r j := if_pos rfl
theorem ab_u_at {α : Type} {I : Nat → Nat → α} {r i : Nat} {x : α} : ab_u I r i x r i = x := by rw [ab_u_s]; exact if_pos rfl
theorem ab_u_ne {α : Type} {I : Nat → Nat → α} {r i j : Nat} {x : α} (h : j ≠ i) : ab_u I r i x r j = I r j := by rw [ab_u_s]; exact if_neg h
theorem ab_r_o {α : Type} {I : Nat → Nat → α} {r q : Nat} {f : Nat → α} (h : q ≠ r) : ab_r I r f q = I q := if_neg h
theorem ab_r_s {α : Type} {I : Nat → Nat → α} {r : Nat} {f : Nat → α} : ab_r I r f r = f := if_pos rfl
theorem ab_w_at {g : Nat → ClassId} {ad : Nat → Nat} {S : ab_S} {I : ab_I} {J : ab_J} {P : ab_P} {r : Nat} {s : Nat × Nat} (h : S[r]? = some s) : (ab_w g ad S I J P)[r]? = some (ad r, ab_e g ad I J P r s) := by
  unfold ab_w
  rw [List.getElem?_mapIdx, h]
  rfl
theorem ab_fs_at {ad : Nat → Nat} {I : ab_I} {J : ab_J} {P : ab_P} {r c k t : Nat} (h : (ab_fk c)[k]? = some t) : (ab_fs ad I J P r c)[k]? = some (ab_fv ad I J P r k t) := by
  unfold ab_fs
  rw [List.getElem?_mapIdx, h]
  rfl
theorem ab_fs_len {ad : Nat → Nat} {I : ab_I} {J : ab_J} {P : ab_P} {r c : Nat} : (ab_fs ad I J P r c).length = (ab_fk c).length := by
  unfold ab_fs
  rw [List.length_mapIdx]
/-- two heaps that differ in one row alone: the world with that cell set -/
theorem ab_w_set {g : Nat → ClassId} {ad : Nat → Nat} {S : ab_S} {I I' : ab_I} {J J' : ab_J} {P P' : ab_P} {r : Nat} {s : Nat × Nat} (h : S[r]? = some s) (hI : ∀ q, q ≠ r → I' q = I q) (hJ : ∀ q, q ≠ r → J' q = J q) (hP : ∀ q, q ≠ r → P' q = P q) :
    (ab_w g ad S I J P).set r (ad r, ab_e g ad I' J' P' r s) = ab_w g ad S I' J' P' := by
  apply List.ext_getElem?
  intro q
  have hl : r < (ab_w g ad S I J P).length := (List.getElem?_eq_some_iff.mp (ab_w_at (g := g) (ad := ad) (I := I) (J := J) (P := P) h)).1
  by_cases hq : q = r
  · subst hq
    rw [List.getElem?_set_self hl, ab_w_at h]
  · rw [List.getElem?_set_ne (Ne.symm hq)]
    unfold ab_w
    rw [List.getElem?_mapIdx, List.getElem?_mapIdx]
    cases S[q]? with
    | none => rfl
    | some z =>
      have e : ab_e g ad I' J' P' q z = ab_e g ad I J P q z := by
        unfold ab_e ab_fs ab_fv
        rw [hI q hq, hJ q hq, hP q hq]
      show some (ad q, ab_e g ad I J P q z) = some (ad q, ab_e g ad I' J' P' q z)
      rw [e]
/-- one more cell -/
theorem ab_w_push {g : Nat → ClassId} {ad ad' : Nat → Nat} {S : ab_S} {I I' : ab_I} {J J' : ab_J} {P P' : ab_P} {s : Nat × Nat} (hw : ∀ r k a, P r k = some a → a < S.length) (ha : ∀ k, k < S.length → ad' k = ad k) (hI : ∀ q, q ≠ S.length → I' q = I q) (hJ : ∀ q, q ≠ S.length → J' q = J q) (hP : ∀ q, q ≠ S.length → P' q = P q) :
    ab_w g ad S I J P ++ [(ad' S.length, ab_e g ad' I' J' P' S.length s)] = ab_w g ad' (S ++ [s]) I' J' P' := by
  have hm : ∀ q k : Nat, (P q k).map ad' = (P q k).map ad := by
    intro q k
    cases hc : P q k with
    | none => rfl
    | some a => show some (ad' a) = some (ad a); rw [ha a (hw q k a hc)]
  have hlen : (ab_w g ad S I J P).length = S.length := by unfold ab_w; rw [List.length_mapIdx]
  apply List.ext_getElem?
  intro q
  by_cases hq : q < S.length
  · rw [List.getElem?_append_left (by rw [hlen]; exact hq)]
    unfold ab_w
    rw [List.getElem?_mapIdx, List.getElem?_mapIdx, List.getElem?_append_left hq]
    cases S[q]? with
    | none => rfl
    | some z =>
      have e : ab_e g ad' I' J' P' q z = ab_e g ad I J P q z := by
        unfold ab_e ab_fs ab_fv
        rw [hI q (by omega), hJ q (by omega), hP q (by omega)]
        simp only [hm]
      show some (ad q, ab_e g ad I J P q z) = some (ad' q, ab_e g ad' I' J' P' q z)
      rw [e, ha q hq]
  · by_cases hq2 : q = S.length
    · subst hq2
      rw [List.getElem?_append_right (by rw [hlen]; exact Nat.le_refl _), hlen, Nat.sub_self]
      unfold ab_w
      rw [List.getElem?_mapIdx, List.getElem?_append_right (Nat.le_refl _), Nat.sub_self]
      rfl
    · rw [List.getElem?_append_right (by rw [hlen]; omega), hlen]
      unfold ab_w
      rw [List.getElem?_mapIdx, List.getElem?_append_right (by omega)]
      rw [show q - S.length = (q - S.length - 1) + 1 by omega]
      rfl
/-- fields: one changes -/
theorem ab_fs_set {ad : Nat → Nat} {I I' : ab_I} {J J' : ab_J} {P P' : ab_P} {r c k t : Nat} (h : (ab_fk c)[k]? = some t) (hI : ∀ q, q ≠ k → I' r q = I r q) (hJ : ∀ q, q ≠ k → J' r q = J r q) (hP : ∀ q, q ≠ k → P' r q = P r q) :
    (ab_fs ad I J P r c).set k (ab_fv ad I' J' P' r k t) = ab_fs ad I' J' P' r c := by
  apply List.ext_getElem?
  intro q
  have hl : k < (ab_fs ad I J P r c).length := (List.getElem?_eq_some_iff.mp (ab_fs_at (ad := ad) (I := I) (J := J) (P := P) (r := r) h)).1
  by_cases hq : q = k
  · subst hq
    rw [List.getElem?_set_self hl, ab_fs_at h]
  · rw [List.getElem?_set_ne (Ne.symm hq)]
    unfold ab_fs
    rw [List.getElem?_mapIdx, List.getElem?_mapIdx]
    cases (ab_fk c)[q]? with
    | none => rfl
    | some z =>
      have e : ab_fv ad I' J' P' r q z = ab_fv ad I J P r q z := by
        unfold ab_fv
        rw [hI q hq, hJ q hq, hP q hq]
      show some (ab_fv ad I J P r q z) = some (ab_fv ad I' J' P' r q z)
      rw [e]
