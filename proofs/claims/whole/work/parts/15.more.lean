section RD
variable {l : Launch} {G : ab_G} {M : ab_M} {d pc : Nat} {ls : List (Option Value)} {st : List Value} {S : ab_S} {I : ab_I} {J : ab_J} {P : ab_P} {k n : Nat} {Q : ab_Q}
theorem ab_newi {ln : Nat} {x : Int32} (hd : decode M.2.1 pc = .ok (.newarray .int, 2)) (hcl : Cond.arrayClass .int ∈ ab_good) (hn : ¬ x < 0) (hN : x.toNatClampNeg = ln) (hby : ln * 8 ≤ 536870912) (h1 : k + 1 ≤ M.2.2.2.2.1) (h2 : n + ln ≤ M.2.2.2.2.2)
    (kk : ab_WP l G M d (pc + 2) ls (.ref S.length :: st) (S ++ [(0, ln)]) (ab_r I S.length (fun _ => 0)) (ab_r J S.length (fun _ => 0)) (ab_r P S.length (fun _ => none)) (k + 1) (n + ln) Q) : ab_WP l G M d pc ls (.int x :: st) S I J P k n Q := by
  intro p e s m args below meth c ad0 n0 A C ad H locs arr X
  obtain ⟨hx, hb, hml, hr, hlk, hown, hnm, hts, hK, hSt, hA⟩ := id C
  obtain ⟨x1, x2, x3, x4, x5, x6, x7, x8⟩ := id X
  have X' : ab_X G ad0 n0 A s M.2.2.1 S I J P ls st ad H locs arr := ⟨x1, x2, x3, x4, x5, x6, x7, fun w hw => x8 w (List.mem_cons_of_mem _ hw)⟩
  refine va_newa (D := (G.1, G.2.1)) (atype := .int) (ty := .int) (a0 := (ln, .inl (fun _ => 0))) hx hb (hts _ (ab_ws_in hcl)) rfl hK.1 x4 x5 x6 hA (fun _ => rfl) hn hN (Nat.le_trans (Nat.mul_le_mul_left _ (by decide)) hby) h1 h2 hd (fun q cA H1 q0 q1 q2 q3 => ?_)
  have hcA : cA = G.2.2 0 := by
    have h3 := (q0.2 5 (cA, .int) rfl).2
    have h4 := (hK.1.2 0 (G.2.2 0, .int) rfl).2
    exact Option.some.inj (h3.symm.trans h4)
  subst hcA
  have Y := X'.push (sx := (0, ln)) (E := .inl (G.2.2 0, ln, .inl (fun _ => 0))) (by
    unfold ab_e
    simp only [ab_r_s]) q1 q2 q3
  have K := kk p e s m args below meth c ad0 n0 A C (ab_up ad S.length q) H1 locs arr Y
  rw [List.map_cons, ab_map_ext X'.2.2.2.2.2.2.2 ab_up_ext] at K
  rw [show ab_v (ab_up ad S.length q) (.ref S.length) = .ref q from congrArg Value.ref ab_up_at] at K
  exact K
theorem ab_newb {ln : Nat} {x : Int32} (hd : decode M.2.1 pc = .ok (.newarray .byte, 2)) (hcl : Cond.arrayClass .byte ∈ ab_good) (hn : ¬ x < 0) (hN : x.toNatClampNeg = ln) (hby : ln * 8 ≤ 536870912) (h1 : k + 1 ≤ M.2.2.2.2.1) (h2 : n + ln ≤ M.2.2.2.2.2)
    (kk : ab_WP l G M d (pc + 2) ls (.ref S.length :: st) (S ++ [(1, ln)]) (ab_r I S.length (fun _ => 0)) (ab_r J S.length (fun _ => 0)) (ab_r P S.length (fun _ => none)) (k + 1) (n + ln) Q) : ab_WP l G M d pc ls (.int x :: st) S I J P k n Q := by
  intro p e s m args below meth c ad0 n0 A C ad H locs arr X
  obtain ⟨hx, hb, hml, hr, hlk, hown, hnm, hts, hK, hSt, hA⟩ := id C
  obtain ⟨x1, x2, x3, x4, x5, x6, x7, x8⟩ := id X
  have X' : ab_X G ad0 n0 A s M.2.2.1 S I J P ls st ad H locs arr := ⟨x1, x2, x3, x4, x5, x6, x7, fun w hw => x8 w (List.mem_cons_of_mem _ hw)⟩
  refine va_newa (D := (G.1, G.2.1)) (atype := .byte) (ty := .byte) (a0 := (ln, .inl (fun _ => 0))) hx hb (hts _ (ab_ws_in hcl)) rfl hK.1 x4 x5 x6 hA (fun _ => rfl) hn hN (Nat.le_trans (Nat.mul_le_mul_left _ (by decide)) hby) h1 h2 hd (fun q cA H1 q0 q1 q2 q3 => ?_)
  have hcA : cA = G.2.2 1 := by
    have h3 := (q0.2 5 (cA, .byte) rfl).2
    have h4 := (hK.1.2 1 (G.2.2 1, .byte) rfl).2
    exact Option.some.inj (h3.symm.trans h4)
  subst hcA
  have Y := X'.push (sx := (1, ln)) (E := .inl (G.2.2 1, ln, .inl (fun _ => 0))) (by
    unfold ab_e
    simp only [ab_r_s]) q1 q2 q3
  have K := kk p e s m args below meth c ad0 n0 A C (ab_up ad S.length q) H1 locs arr Y
  rw [List.map_cons, ab_map_ext X'.2.2.2.2.2.2.2 ab_up_ext] at K
  rw [show ab_v (ab_up ad S.length q) (.ref S.length) = .ref q from congrArg Value.ref ab_up_at] at K
  exact K
theorem ab_newz {ln : Nat} {x : Int32} (hd : decode M.2.1 pc = .ok (.newarray .boolean, 2)) (hcl : Cond.arrayClass .boolean ∈ ab_good) (hn : ¬ x < 0) (hN : x.toNatClampNeg = ln) (hby : ln * 8 ≤ 536870912) (h1 : k + 1 ≤ M.2.2.2.2.1) (h2 : n + ln ≤ M.2.2.2.2.2)
    (kk : ab_WP l G M d (pc + 2) ls (.ref S.length :: st) (S ++ [(2, ln)]) (ab_r I S.length (fun _ => 0)) (ab_r J S.length (fun _ => 0)) (ab_r P S.length (fun _ => none)) (k + 1) (n + ln) Q) : ab_WP l G M d pc ls (.int x :: st) S I J P k n Q := by
  intro p e s m args below meth c ad0 n0 A C ad H locs arr X
  obtain ⟨hx, hb, hml, hr, hlk, hown, hnm, hts, hK, hSt, hA⟩ := id C
  obtain ⟨x1, x2, x3, x4, x5, x6, x7, x8⟩ := id X
  have X' : ab_X G ad0 n0 A s M.2.2.1 S I J P ls st ad H locs arr := ⟨x1, x2, x3, x4, x5, x6, x7, fun w hw => x8 w (List.mem_cons_of_mem _ hw)⟩
  refine va_newa (D := (G.1, G.2.1)) (atype := .boolean) (ty := .boolean) (a0 := (ln, .inl (fun _ => 0))) hx hb (hts _ (ab_ws_in hcl)) rfl hK.1 x4 x5 x6 hA (fun _ => rfl) hn hN (Nat.le_trans (Nat.mul_le_mul_left _ (by decide)) hby) h1 h2 hd (fun q cA H1 q0 q1 q2 q3 => ?_)
  have hcA : cA = G.2.2 2 := by
    have h3 := (q0.2 5 (cA, .boolean) rfl).2
    have h4 := (hK.1.2 2 (G.2.2 2, .boolean) rfl).2
    exact Option.some.inj (h3.symm.trans h4)
  subst hcA
  have Y := X'.push (sx := (2, ln)) (E := .inl (G.2.2 2, ln, .inl (fun _ => 0))) (by
    unfold ab_e
    simp only [ab_r_s]) q1 q2 q3
  have K := kk p e s m args below meth c ad0 n0 A C (ab_up ad S.length q) H1 locs arr Y
  rw [List.map_cons, ab_map_ext X'.2.2.2.2.2.2.2 ab_up_ext] at K
  rw [show ab_v (ab_up ad S.length q) (.ref S.length) = .ref q from congrArg Value.ref ab_up_at] at K
  exact K
theorem ab_newl {ln : Nat} {x : Int32} (hd : decode M.2.1 pc = .ok (.newarray .long, 2)) (hcl : Cond.arrayClass .long ∈ ab_good) (hn : ¬ x < 0) (hN : x.toNatClampNeg = ln) (hby : ln * 8 ≤ 536870912) (h1 : k + 1 ≤ M.2.2.2.2.1) (h2 : n + ln ≤ M.2.2.2.2.2)
    (kk : ab_WP l G M d (pc + 2) ls (.ref S.length :: st) (S ++ [(3, ln)]) (ab_r I S.length (fun _ => 0)) (ab_r J S.length (fun _ => 0)) (ab_r P S.length (fun _ => none)) (k + 1) (n + ln) Q) : ab_WP l G M d pc ls (.int x :: st) S I J P k n Q := by
  intro p e s m args below meth c ad0 n0 A C ad H locs arr X
  obtain ⟨hx, hb, hml, hr, hlk, hown, hnm, hts, hK, hSt, hA⟩ := id C
  obtain ⟨x1, x2, x3, x4, x5, x6, x7, x8⟩ := id X
  have X' : ab_X G ad0 n0 A s M.2.2.1 S I J P ls st ad H locs arr := ⟨x1, x2, x3, x4, x5, x6, x7, fun w hw => x8 w (List.mem_cons_of_mem _ hw)⟩
  refine va_newa (D := (G.1, G.2.1)) (atype := .long) (ty := .long) (a0 := (ln, .inr (.inl (fun _ => 0)))) hx hb (hts _ (ab_ws_in hcl)) rfl hK.1 x4 x5 x6 hA (fun _ => rfl) hn hN (Nat.le_trans (Nat.mul_le_mul_left _ (by decide)) hby) h1 h2 hd (fun q cA H1 q0 q1 q2 q3 => ?_)
  have hcA : cA = G.2.2 3 := by
    have h3 := (q0.2 5 (cA, .long) rfl).2
    have h4 := (hK.1.2 3 (G.2.2 3, .long) rfl).2
    exact Option.some.inj (h3.symm.trans h4)
  subst hcA
  have Y := X'.push (sx := (3, ln)) (E := .inl (G.2.2 3, ln, .inr (.inl (fun _ => 0)))) (by
    unfold ab_e
    simp only [ab_r_s]) q1 q2 q3
  have K := kk p e s m args below meth c ad0 n0 A C (ab_up ad S.length q) H1 locs arr Y
  rw [List.map_cons, ab_map_ext X'.2.2.2.2.2.2.2 ab_up_ext] at K
  rw [show ab_v (ab_up ad S.length q) (.ref S.length) = .ref q from congrArg Value.ref ab_up_at] at K
  exact K
theorem ab_newq {ix ln : Nat} {x : Int32} (hd : decode M.2.1 pc = .ok (.anewarray ix, 3)) (hcl : Cond.classLink M.1.cls ix "BellRingers$State" ∈ ab_good) (hn : ¬ x < 0) (hN : x.toNatClampNeg = ln) (hby : ln * 8 ≤ 536870912) (h1 : k + 1 ≤ M.2.2.2.2.1) (h2 : n + ln ≤ M.2.2.2.2.2)
    (kk : ab_WP l G M d (pc + 3) ls (.ref S.length :: st) (S ++ [(4, ln)]) (ab_r I S.length (fun _ => 0)) (ab_r J S.length (fun _ => 0)) (ab_r P S.length (fun _ => none)) (k + 1) (n + ln) Q) : ab_WP l G M d pc ls (.int x :: st) S I J P k n Q := by
  intro p e s m args below meth c ad0 n0 A C ad H locs arr X
  obtain ⟨hx, hb, hml, hr, hlk, hown, hnm, hts, hK, hSt, hA⟩ := id C
  obtain ⟨x1, x2, x3, x4, x5, x6, x7, x8⟩ := id X
  have X' : ab_X G ad0 n0 A s M.2.2.1 S I J P ls st ad H locs arr := ⟨x1, x2, x3, x4, x5, x6, x7, fun w hw => x8 w (List.mem_cons_of_mem _ hw)⟩
  refine va_newq (D := (G.1, G.2.1)) (C := "BellRingers$State") hx hb hown (hts _ (ab_ws_in hcl)) hK.2.1 hK.1 x4 x5 x6 hA hn hN (Nat.le_trans (Nat.mul_le_mul_left _ (by decide)) hby) h1 h2 hd (fun q cA H1 q0 q1 q2 q3 => ?_)
  have hcA : cA = G.2.2 4 := by
    obtain ⟨kA, comp, -, -, -, h3⟩ := (q0.2 5 (cA, .object "BellRingers$State") rfl).2
    obtain ⟨kB, comp2, -, -, -, h4⟩ := (hK.1.2 4 (G.2.2 4, .object "BellRingers$State") rfl).2
    exact Option.some.inj (h3.symm.trans h4)
  subst hcA
  have Y := X'.push (sx := (4, ln)) (E := .inl (G.2.2 4, ln, .inr (.inr (.inr (.inr (fun _ => none)))))) (by
    unfold ab_e
    simp only [ab_r_s]
    rfl) q1 q2 q3
  have K := kk p e s m args below meth c ad0 n0 A C (ab_up ad S.length q) H1 locs arr Y
  rw [List.map_cons, ab_map_ext X'.2.2.2.2.2.2.2 ab_up_ext] at K
  rw [show ab_v (ab_up ad S.length q) (.ref S.length) = .ref q from congrArg Value.ref ab_up_at] at K
  exact K
theorem ab_objInit {ix r : Nat} (hd : decode M.2.1 pc = .ok (.invokespecial ix, 3)) (hl : Cond.methodLink M.1.cls ix objectInit ∈ ab_good) (hi : Cond.instanceMethod objectInit ∈ ab_good) (hc : Cond.code objectInit ⟨#[0xb1]⟩ 1 none ∈ ab_good) (hd1 : 1 ≤ d) (hst : (st.map fun v => v.category).sum ≤ 8)
    (kk : ab_WP l G M d (pc + 3) ls st S I J P k n Q) : ab_WP l G M d pc ls (.ref r :: st) S I J P k n Q := by
  intro p e s m args below meth c ad0 n0 A C ad H locs arr X
  obtain ⟨hx, hb, hml, hr, hlk, hown, hnm, hts, hK, hSt, hA⟩ := id C
  obtain ⟨x1, x2, x3, x4, x5, x6, x7, x8⟩ := id X
  have hsum : ((st.map (ab_v ad)).map fun v => v.category).sum = (st.map fun v => v.category).sum := by
    rw [List.map_map]
    congr 1
    exact List.map_congr_left (fun v _ => ab_cat ad v)
  refine W.objInit hx hb hown (hts _ (ab_ws_in hl)) (hts _ (ab_ws_in hi)) (hts _ (ab_ws_in hc)) rfl (by rw [hml]; exact x7.1) rfl hd hd1 ?_ (kk p e s m args below meth c ad0 n0 A C ad H locs arr ⟨x1, x2, x3, x4, x5, x6, x7, fun w hw => x8 w (List.mem_cons_of_mem _ hw)⟩)
  show 2 * 0 + ((st.map (ab_v ad)).map fun v => v.category).sum + 12 ≤ 64 * d
  rw [hsum]
  omega
end RD
