/-! ===== Math.max, Math.min ===== -/
section RM
variable {l : Launch} {G : ab_G} {M : ab_M} {d pc : Nat} {ls : List (Option Value)} {st : List Value} {S : ab_S} {I : ab_I} {J : ab_J} {P : ab_P} {k n : Nat} {Q : ab_Q}
theorem ab_mmax {ix : Nat} {x y : Int32} (hd : decode M.2.1 pc = .ok (.invokestatic ix, 3)) (hl : Cond.methodLink M.1.cls ix Lib.Math.max.name ∈ ab_good) (hst : Cond.static Lib.Math.max.name ∈ ab_good) (hini : Cond.initialized "java/lang/Math" ∈ ab_good) (hcode : Cond.code Lib.Math.max.name Lib.Math.max.code 2 (some .int) ∈ ab_good) (hd1 : 1 ≤ d) (hsum : (st.map fun v => v.category).sum ≤ 8) (h1 : k ≤ M.2.2.2.2.1) (h2 : n ≤ M.2.2.2.2.2)
    (kk : ab_WP l G M d (pc + 3) ls (.int (if x < y then y else x) :: st) S I J P k n Q) : ab_WP l G M d pc ls (.int y :: .int x :: st) S I J P k n Q := by
  intro p e s m args below meth c ad0 n0 A C ad H locs arr X
  obtain ⟨hx, hb, hml, hr, hlk, hown, hnm, hts, hK, hSt, hA⟩ := id C
  obtain ⟨x1, x2, x3, x4, x5, x6, x7, x8⟩ := id X
  refine va_mmax hx hb (by rw [hml]; exact x7.1.symm) hown (hts _ (ab_ws_in hl)) (hts _ (ab_ws_in hst)) (hts _ (ab_ws_in hini)) (hts _ (ab_ws_in hcode)) hd1 ?_ h1 h2 hd (kk p e s m args below meth c ad0 n0 A C ad H locs arr ⟨x1, x2, x3, x4, x5, x6, x7, List.forall_mem_cons.mpr ⟨trivial, fun w hw => x8 w (List.mem_cons_of_mem _ (List.mem_cons_of_mem _ hw))⟩⟩)
  rw [ab_sum]
  show _ + 13 ≤ 64 * d
  omega
theorem ab_mmin {ix : Nat} {x y : Int32} (hd : decode M.2.1 pc = .ok (.invokestatic ix, 3)) (hl : Cond.methodLink M.1.cls ix Lib.Math.min.name ∈ ab_good) (hst : Cond.static Lib.Math.min.name ∈ ab_good) (hini : Cond.initialized "java/lang/Math" ∈ ab_good) (hcode : Cond.code Lib.Math.min.name Lib.Math.min.code 2 (some .int) ∈ ab_good) (hd1 : 1 ≤ d) (hsum : (st.map fun v => v.category).sum ≤ 8) (h1 : k ≤ M.2.2.2.2.1) (h2 : n ≤ M.2.2.2.2.2)
    (kk : ab_WP l G M d (pc + 3) ls (.int (if y < x then y else x) :: st) S I J P k n Q) : ab_WP l G M d pc ls (.int y :: .int x :: st) S I J P k n Q := by
  intro p e s m args below meth c ad0 n0 A C ad H locs arr X
  obtain ⟨hx, hb, hml, hr, hlk, hown, hnm, hts, hK, hSt, hA⟩ := id C
  obtain ⟨x1, x2, x3, x4, x5, x6, x7, x8⟩ := id X
  refine va_mmin hx hb (by rw [hml]; exact x7.1.symm) hown (hts _ (ab_ws_in hl)) (hts _ (ab_ws_in hst)) (hts _ (ab_ws_in hini)) (hts _ (ab_ws_in hcode)) hd1 ?_ h1 h2 hd (kk p e s m args below meth c ad0 n0 A C ad H locs arr ⟨x1, x2, x3, x4, x5, x6, x7, List.forall_mem_cons.mpr ⟨trivial, fun w hw => x8 w (List.mem_cons_of_mem _ (List.mem_cons_of_mem _ hw))⟩⟩)
  rw [ab_sum]
  show _ + 13 ≤ 64 * d
  omega
end RM
