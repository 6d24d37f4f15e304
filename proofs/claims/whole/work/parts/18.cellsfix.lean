/-! ===== the fixed cells of class and reference, and what generated rows use ===== -/
def bz_S0 : ab_S := [(16, 0), (12, 0), (1, 1600), (14, 0), (0, 6), (0, 5), (0, 30), (7, 0), (0, 300), (0, 30), (0, 6), (9, 0), (3, 6), (3, 5), (14, 0), (0, 6), (0, 5), (0, 30), (7, 0), (0, 300), (0, 30), (0, 6), (13, 0), (10, 0), (0, 5), (6, 0), (11, 0), (0, 6), (0, 6), (0, 30), (0, 6), (0, 4), (0, 4), (0, 2), (8, 0), (11, 0), (0, 6), (0, 6), (0, 30), (0, 6), (0, 6), (15, 0), (11, 0), (0, 6), (0, 6), (0, 30), (0, 30), (0, 30), (0, 30), (2, 30), (0, 30), (0, 30), (0, 35), (5, 0), (4, 40), (0, 6), (4, 3), (11, 0), (0, 6), (0, 6), (0, 30), (11, 0), (0, 6), (0, 6), (0, 30), (11, 0), (0, 6), (0, 6), (0, 30), (11, 0), (0, 6), (0, 6), (0, 30), (17, 0), (0, 1600), (3, 11), (0, 320), (0, 320), (0, 320), (0, 320), (0, 160), (0, 64), (0, 6), (0, 6), (0, 5), (0, 30), (0, 6), (0, 5), (0, 30), (0, 45), (0, 45), (0, 5), (0, 1800), (0, 6), (0, 6), (0, 6), (0, 4), (0, 4), (0, 30), (0, 30), (0, 30), (0, 30), (0, 30), (2, 30), (0, 1260), (0, 7), (2, 21), (2, 3), (0, 135)]
def bz_P0 : List (Nat × Nat × Nat) := [(0, 0, 1), (0, 1, 3), (0, 2, 11), (0, 3, 23), (0, 4, 25), (0, 5, 34), (0, 6, 41), (0, 7, 53), (0, 8, 55), (0, 10, 56), (1, 0, 2), (3, 0, 4), (3, 1, 5), (3, 2, 6), (3, 3, 7), (7, 0, 8), (7, 1, 9), (7, 2, 10), (11, 0, 22), (11, 1, 12), (11, 2, 13), (11, 7, 14), (14, 0, 15), (14, 1, 16), (14, 2, 17), (14, 3, 18), (18, 0, 19), (18, 1, 20), (18, 2, 21), (22, 0, 1), (23, 0, 3), (23, 1, 24), (25, 0, 3), (25, 1, 23), (25, 2, 26), (25, 3, 30), (25, 4, 31), (25, 5, 32), (25, 6, 33), (26, 0, 27), (26, 1, 28), (26, 2, 29), (34, 0, 3), (34, 1, 23), (34, 2, 35), (34, 3, 39), (34, 4, 40), (35, 0, 36), (35, 1, 37), (35, 2, 38), (41, 0, 3), (41, 1, 23), (41, 2, 42), (41, 3, 46), (41, 4, 47), (41, 5, 48), (41, 6, 49), (41, 7, 50), (41, 8, 51), (41, 9, 52), (42, 0, 43), (42, 1, 44), (42, 2, 45), (53, 0, 54), (56, 0, 61), (56, 1, 65), (56, 2, 69), (57, 0, 58), (57, 1, 59), (57, 2, 60), (61, 0, 62), (61, 1, 63), (61, 2, 64), (65, 0, 66), (65, 1, 67), (65, 2, 68), (69, 0, 70), (69, 1, 71), (69, 2, 72), (73, 0, 74), (73, 10, 75), (73, 11, 76), (73, 12, 77), (73, 13, 78), (73, 14, 79), (73, 15, 80), (73, 16, 81), (73, 26, 82), (73, 27, 83), (73, 28, 84), (73, 29, 85), (73, 30, 86), (73, 31, 87), (73, 32, 88), (73, 46, 89), (73, 47, 90), (73, 48, 91), (73, 49, 92), (73, 52, 93), (73, 53, 94), (73, 55, 95), (73, 56, 96), (73, 57, 97), (73, 58, 98), (73, 59, 99), (73, 60, 100), (73, 61, 101), (73, 62, 102), (73, 63, 103), (73, 66, 104), (73, 67, 105), (73, 68, 106), (73, 69, 107), (73, 70, 108)]
/-- a State object at q: its rows stand just behind it -/
def bz_st (S : ab_S) (P : ab_P) (q : Nat) : Prop := S[q]? = some (11, 0) ∧ S[q + 1]? = some (0, 6) ∧ S[q + 2]? = some (0, 6) ∧ S[q + 3]? = some (0, 30) ∧ P q 0 = some (q + 1) ∧ P q 1 = some (q + 2) ∧ P q 2 = some (q + 3)
def bz_B (S : ab_S) (P : ab_P) : Prop := (∀ (r : Nat) (s : Nat × Nat), bz_S0[r]? = some s → S[r]? = some s) ∧ (∀ (i : Nat) (e : Nat × Nat × Nat), bz_P0[i]? = some e → P e.1 e.2.1 = some e.2.2) ∧ (∀ a, P 0 12 = some a → bz_st S P a) ∧ (∀ i a, P 54 i = some a → bz_st S P a)
theorem bz_st_26 {S : ab_S} {P : ab_P} (hB : bz_B S P) : bz_st S P 26 := ⟨(hB.1 26 _ rfl), (hB.1 27 _ rfl), (hB.1 28 _ rfl), (hB.1 29 _ rfl), (hB.2.1 39 _ rfl), (hB.2.1 40 _ rfl), (hB.2.1 41 _ rfl)⟩
theorem bz_st_35 {S : ab_S} {P : ab_P} (hB : bz_B S P) : bz_st S P 35 := ⟨(hB.1 35 _ rfl), (hB.1 36 _ rfl), (hB.1 37 _ rfl), (hB.1 38 _ rfl), (hB.2.1 47 _ rfl), (hB.2.1 48 _ rfl), (hB.2.1 49 _ rfl)⟩
theorem bz_st_42 {S : ab_S} {P : ab_P} (hB : bz_B S P) : bz_st S P 42 := ⟨(hB.1 42 _ rfl), (hB.1 43 _ rfl), (hB.1 44 _ rfl), (hB.1 45 _ rfl), (hB.2.1 60 _ rfl), (hB.2.1 61 _ rfl), (hB.2.1 62 _ rfl)⟩
theorem bz_st_61 {S : ab_S} {P : ab_P} (hB : bz_B S P) : bz_st S P 61 := ⟨(hB.1 61 _ rfl), (hB.1 62 _ rfl), (hB.1 63 _ rfl), (hB.1 64 _ rfl), (hB.2.1 70 _ rfl), (hB.2.1 71 _ rfl), (hB.2.1 72 _ rfl)⟩
theorem bz_st_65 {S : ab_S} {P : ab_P} (hB : bz_B S P) : bz_st S P 65 := ⟨(hB.1 65 _ rfl), (hB.1 66 _ rfl), (hB.1 67 _ rfl), (hB.1 68 _ rfl), (hB.2.1 73 _ rfl), (hB.2.1 74 _ rfl), (hB.2.1 75 _ rfl)⟩
theorem bz_st_69 {S : ab_S} {P : ab_P} (hB : bz_B S P) : bz_st S P 69 := ⟨(hB.1 69 _ rfl), (hB.1 70 _ rfl), (hB.1 71 _ rfl), (hB.1 72 _ rfl), (hB.2.1 76 _ rfl), (hB.2.1 77 _ rfl), (hB.2.1 78 _ rfl)⟩
theorem bz_box {S : ab_S} {P : ab_P} (hB : bz_B S P) {i : Int32} (hi : vp_in i 3) {a : Nat} (h : P 56 i.toNatClampNeg = some a) : bz_st S P a := by
  have h3 : i.toNatClampNeg < 3 := by
    unfold vp_in at hi
    omega
  generalize i.toNatClampNeg = j at h h3
  have e0 : P 56 0 = some 61 := hB.2.1 64 (56, 0, 61) rfl
  have e1 : P 56 1 = some 65 := hB.2.1 65 (56, 1, 65) rfl
  have e2 : P 56 2 = some 69 := hB.2.1 66 (56, 2, 69) rfl
  match j, h3, h with
  | 0, _, h => rw [e0] at h; cases h; exact bz_st_61 hB
  | 1, _, h => rw [e1] at h; cases h; exact bz_st_65 hB
  | 2, _, h => rw [e2] at h; cases h; exact bz_st_69 hB
def bz_word : Nat → Int64 := fun k => match ab_words k with
  | .long x => x
  | _ => 0
theorem bz_wl (k : Nat) : ab_words k = .long (bz_word k) := by
  unfold bz_word ab_words
  split <;> rfl
theorem bz_z : (0 : Int32).toNatClampNeg = 0 := by decide
theorem bz_cp {x : Int32} {n : Nat} (h : x.toNatClampNeg ≤ n) : (0 : Int32).toNatClampNeg + x.toNatClampNeg ≤ n := by rw [bz_z, Nat.zero_add]; exact h
theorem bz_lk {a o dflt : Int} {r : List (Int × Int)} {x key : Int32} (hk : key.toInt = a) (h : ¬ x = key) : Op.lookupswitch.offset ((a, o) :: r) dflt x.toInt = Op.lookupswitch.offset r dflt x.toInt := by
  rw [Op.lookupswitch.offset_cons, if_neg]
  intro e
  exact h (Int32.toInt_inj.mp (e.symm.trans hk.symm))
theorem ab_ifp {α : Type} {c : Prop} [Decidable c] {x y z : α} (h : (if c then x else y) = z) (hc : c) : x = z := by rwa [if_pos hc] at h
theorem ab_ifn {α : Type} {c : Prop} [Decidable c] {x y z : α} (h : (if c then x else y) = z) (hc : ¬ c) : y = z := by rwa [if_neg hc] at h
/-- fewer locals known -/
def ab_le (a b : List (Option Value)) : Prop := ∀ (i : Nat) (v : Value), a[i]? = some (some v) → b[i]? = some (some v)
theorem ab_le_nil {b : List (Option Value)} : ab_le [] b := fun i v h => by simp at h
theorem ab_le_some {a b : List (Option Value)} {v : Value} (h : ab_le a b) : ab_le (some v :: a) (some v :: b) := fun i w hw => by
  cases i with
  | zero => exact hw
  | succ j => exact h j w (by simpa using hw)
theorem ab_le_none {a b : List (Option Value)} {v : Option Value} (h : ab_le a b) : ab_le (none :: a) (v :: b) := fun i w hw => by
  cases i with
  | zero => simp at hw
  | succ j => exact h j w (by simpa using hw)
theorem ab_le_non0 {a : List (Option Value)} (h : ab_le a []) : ab_le (none :: a) [] := fun i w hw => by
  cases i with
  | zero => simp at hw
  | succ j => exact absurd (h j w (by simpa using hw)) (by simp)
section RW1
variable {l : Launch} {G : ab_G} {M : ab_M} {d pc : Nat} {ls ls' : List (Option Value)} {st : List Value} {S : ab_S} {I : ab_I} {J : ab_J} {P : ab_P} {k n : Nat} {Q : ab_Q}
theorem ab_wk (h : ab_le ls' ls) (kk : ab_WP l G M d pc ls' st S I J P k n Q) : ab_WP l G M d pc ls st S I J P k n Q := by
  intro p e s m args below meth c ad0 n0 A C ad H locs arr X
  obtain ⟨x1, x2, x3, x4, x5, x6, x7, x8⟩ := X
  exact kk p e s m args below meth c ad0 n0 A C ad H locs arr ⟨x1, x2, x3, x4, x5, x6, ⟨x7.1, x7.2.1, fun i v hv => x7.2.2 i v (h i v hv)⟩, x8⟩
theorem ab_ls (h : ls = ls') (kk : ab_WP l G M d pc ls' st S I J P k n Q) : ab_WP l G M d pc ls st S I J P k n Q := h ▸ kk
theorem ab_top {x y : Int32} (h : x = y) (kk : ab_WP l G M d pc ls (.int y :: st) S I J P k n Q) : ab_WP l G M d pc ls (.int x :: st) S I J P k n Q := h ▸ kk
theorem ab_topl {x y : Int64} (h : x = y) (kk : ab_WP l G M d pc ls (.long y :: st) S I J P k n Q) : ab_WP l G M d pc ls (.long x :: st) S I J P k n Q := h ▸ kk
theorem ab_tabk {dflt lo hi : Int} {offs : Array Int} {len : Nat} {x key : Int32} {off : Int} {tgt : Nat} (hx : x = key) (hd : decode M.2.1 pc = .ok (.tableswitch dflt lo hi offs, len)) (ho : ¬ key.toInt < lo ∧ ¬ hi < key.toInt ∧ offs[(key.toInt - lo).toNat]? = some off) (ht : (pc : Int) + off = (tgt : Int)) (kk : ab_WP l G M d tgt ls st S I J P k n Q) : ab_WP l G M d pc ls (.int x :: st) S I J P k n Q := by
  subst hx
  exact ab_tableIn hd ho.1 ho.2.1 ho.2.2 ht kk
theorem ab_lookk {dflt : Int} {ps : Array (Int × Int)} {len : Nat} {x key : Int32} {off : Int} {tgt : Nat} (hx : x = key) (hd : decode M.2.1 pc = .ok (.lookupswitch dflt ps, len)) (hp : (ps.toList.zip (ps.toList.drop 1)).all (fun (a, next) => a.1 < next.1) = true) (ho : Op.lookupswitch.offset ps.toList dflt key.toInt = off) (ht : (pc : Int) + off = (tgt : Int)) (kk : ab_WP l G M d tgt ls st S I J P k n Q) : ab_WP l G M d pc ls (.int x :: st) S I J P k n Q := by
  subst hx
  exact ab_lookup hd hp ho ht kk
/-! calls of methods that make nothing -/
theorem bz_kv {g : ab_M} {ix D r cc ln : Nat} {as stk : List Value} {q : vw_C} (hg : g.2.2.2.2 = (0, 0)) (hd : decode M.2.1 pc = .ok (.invokevirtual ix, 3)) (h1 : Cond.methodLink M.1.cls ix g.1 ∈ ab_good) (h2 : Cond.instanceMethod g.1 ∈ ab_good) (h3 : Cond.selects g.1.cls g.1 g.1 ∈ ab_good) (h4 : Cond.initialized g.1.cls ∈ ab_good) (h5 : Cond.code g.1 g.2.1 g.2.2.1 g.2.2.2.1 ∈ ab_good)
    (h6 : g.1.cls ≠ "java/lang/invoke/MethodHandle" ∧ g.1.cls ≠ "java/lang/invoke/VarHandle" ∧ (parseMethodDescriptor g.1.desc).map (fun d => d.parameters.length) = some as.length) (h7 : g.2.2.1 ≤ 45) (hc : vwCl[cc]? = some q) (hq : q.1 = g.1.cls) (hstk : stk = as.reverse ++ .ref r :: st)
    (hdg : D + 1 ≤ d) (hsum : (st.map fun v => v.category).sum ≤ 8) (hs : S[r]? = some (cc + 5, ln))
    (kk : ab_Call l G g D (.ref r :: as) S I J P (fun v S' I' J' P' => ab_WP l G M d (pc + 3) ls (ab_psh v st) S' I' J' P' 0 0 Q)) : ab_WP l G M d pc ls stk S I J P 0 0 Q := by
  obtain ⟨g1, g2, g3, g4, g5, g6⟩ := g
  cases hg
  exact ab_callV hd h1 h2 h3 h4 h5 h6 h7 hc hq hstk hdg (Nat.zero_le _) (Nat.zero_le _) hsum hs kk
theorem bz_ks {g : ab_M} {ix D : Nat} {as stk : List Value} (hg : g.2.2.2.2 = (0, 0)) (hd : decode M.2.1 pc = .ok (.invokestatic ix, 3)) (h1 : Cond.methodLink M.1.cls ix g.1 ∈ ab_good) (h2 : Cond.static g.1 ∈ ab_good) (h4 : Cond.initialized g.1.cls ∈ ab_good) (h5 : Cond.code g.1 g.2.1 g.2.2.1 g.2.2.2.1 ∈ ab_good)
    (h6 : g.1.cls ≠ "java/lang/invoke/MethodHandle" ∧ g.1.cls ≠ "java/lang/invoke/VarHandle" ∧ (parseMethodDescriptor g.1.desc).map (fun d => d.parameters.length) = some as.length) (h7 : g.2.2.1 ≤ 45) (hstk : stk = as.reverse ++ st)
    (hdg : D + 1 ≤ d) (hsum : (st.map fun v => v.category).sum ≤ 8)
    (kk : ab_Call l G g D as S I J P (fun v S' I' J' P' => ab_WP l G M d (pc + 3) ls (ab_psh v st) S' I' J' P' 0 0 Q)) : ab_WP l G M d pc ls stk S I J P 0 0 Q := by
  obtain ⟨g1, g2, g3, g4, g5, g6⟩ := g
  cases hg
  exact ab_callS hd h1 h2 h4 h5 h6 h7 hstk hdg (Nat.zero_le _) (Nat.zero_le _) hsum kk
theorem bz_kn {g : ab_M} {ix D : Nat} {host : String} {as stk : List Value} (hg : g.2.2.2.2 = (0, 0)) (hd : decode M.2.1 pc = .ok (.invokestatic ix, 3)) (h1 : Cond.methodLinkNest M.1.cls ix g.1 host ∈ tables_1) (h2 : Cond.static g.1 ∈ ab_good) (h4 : Cond.initialized g.1.cls ∈ ab_good) (h5 : Cond.code g.1 g.2.1 g.2.2.1 g.2.2.2.1 ∈ ab_good)
    (h6 : g.1.cls ≠ "java/lang/invoke/MethodHandle" ∧ g.1.cls ≠ "java/lang/invoke/VarHandle" ∧ (parseMethodDescriptor g.1.desc).map (fun d => d.parameters.length) = some as.length) (h7 : g.2.2.1 ≤ 45) (hstk : stk = as.reverse ++ st)
    (hdg : D + 1 ≤ d) (hsum : (st.map fun v => v.category).sum ≤ 8)
    (kk : ab_Call l G g D as S I J P (fun v S' I' J' P' => ab_WP l G M d (pc + 3) ls (ab_psh v st) S' I' J' P' 0 0 Q)) : ab_WP l G M d pc ls stk S I J P 0 0 Q := by
  obtain ⟨g1, g2, g3, g4, g5, g6⟩ := g
  cases hg
  exact ab_callSN hd h1 h2 h4 h5 h6 h7 hstk hdg (Nat.zero_le _) (Nat.zero_le _) hsum kk
end RW1
theorem inX0 : ∀ w ∈ u_ws RX0 TX0 3, w ∈ ab_good := by decide +kernel
theorem inX1 : ∀ w ∈ u_ws RX1 TX1 7, w ∈ ab_good := by decide +kernel
theorem inX2 : ∀ w ∈ u_ws RX2 TX2 5, w ∈ ab_good := by decide +kernel
theorem inX3 : ∀ w ∈ u_ws RX3 TX3 7, w ∈ ab_good := by decide +kernel
theorem inX4 : ∀ w ∈ u_ws RX4 TX4 10, w ∈ ab_good := by decide +kernel
theorem inX5 : ∀ w ∈ u_ws RX5 TX5 2, w ∈ ab_good := by decide +kernel
theorem inX6 : ∀ w ∈ u_ws RX6 TX6 6, w ∈ ab_good := by decide +kernel
theorem inX7 : ∀ w ∈ u_ws RX7 TX7 2, w ∈ ab_good := by decide +kernel
theorem inX8 : ∀ w ∈ u_ws RX8 TX8 6, w ∈ ab_good := by decide +kernel
theorem inX9 : ∀ w ∈ u_ws RX9 TX9 10, w ∈ ab_good := by decide +kernel
theorem inX10 : ∀ w ∈ u_ws RX10 TX10 12, w ∈ ab_good := by decide +kernel
theorem inX11 : ∀ w ∈ u_ws RX11 TX11 15, w ∈ ab_good := by decide +kernel
theorem inX12 : ∀ w ∈ u_ws RX12 TX12 71, w ∈ ab_good := by decide +kernel
