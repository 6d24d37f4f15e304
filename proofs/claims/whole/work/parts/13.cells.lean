section RA
variable {l : Launch} {G : ab_G} {M : ab_M} {d pc : Nat} {ls : List (Option Value)} {st : List Value} {S : ab_S} {I : ab_I} {J : ab_J} {P : ab_P} {k n : Nat} {Q : ab_Q}
theorem ab_iald {r ln : Nat} {i : Int32} (hd : decode M.2.1 pc = .ok (.iaload, 1)) (hs : S[r]? = some (0, ln)) (hi : vp_in i ln) (kk : ab_WP l G M d (pc + 1) ls (.int (I r i.toNatClampNeg) :: st) S I J P k n Q) : ab_WP l G M d pc ls (.int i :: .ref r :: st) S I J P k n Q := by
  intro p e s m args below meth c ad0 n0 A C ad H locs arr X
  obtain ⟨hx, hb, hml, hr, hlk, hown, hnm, hts, hK, hSt, hA⟩ := id C
  obtain ⟨x1, x2, x3, x4, x5, x6, x7, x8⟩ := X
  exact va_iald (D := (G.1, G.2.1)) hx hb hK.1 x4 r 0 (ab_w_at hs) rfl hi hd (kk p e s m args below meth c ad0 n0 A C ad H locs arr ⟨x1, x2, x3, x4, x5, x6, x7, List.forall_mem_cons.mpr ⟨trivial, fun w hw => x8 w (List.mem_cons_of_mem _ (List.mem_cons_of_mem _ hw))⟩⟩)
theorem ab_bald {r ln : Nat} {i : Int32} (hd : decode M.2.1 pc = .ok (.baload, 1)) (hs : S[r]? = some (1, ln)) (hi : vp_in i ln) (kk : ab_WP l G M d (pc + 1) ls (.int (I r i.toNatClampNeg) :: st) S I J P k n Q) : ab_WP l G M d pc ls (.int i :: .ref r :: st) S I J P k n Q := by
  intro p e s m args below meth c ad0 n0 A C ad H locs arr X
  obtain ⟨hx, hb, hml, hr, hlk, hown, hnm, hts, hK, hSt, hA⟩ := id C
  obtain ⟨x1, x2, x3, x4, x5, x6, x7, x8⟩ := X
  exact va_bald (D := (G.1, G.2.1)) hx hb hK.1 x4 r 1 (ab_w_at hs) rfl hi hd (kk p e s m args below meth c ad0 n0 A C ad H locs arr ⟨x1, x2, x3, x4, x5, x6, x7, List.forall_mem_cons.mpr ⟨trivial, fun w hw => x8 w (List.mem_cons_of_mem _ (List.mem_cons_of_mem _ hw))⟩⟩)
theorem ab_zald {r ln : Nat} {i : Int32} (hd : decode M.2.1 pc = .ok (.baload, 1)) (hs : S[r]? = some (2, ln)) (hi : vp_in i ln) (kk : ab_WP l G M d (pc + 1) ls (.int (I r i.toNatClampNeg) :: st) S I J P k n Q) : ab_WP l G M d pc ls (.int i :: .ref r :: st) S I J P k n Q := by
  intro p e s m args below meth c ad0 n0 A C ad H locs arr X
  obtain ⟨hx, hb, hml, hr, hlk, hown, hnm, hts, hK, hSt, hA⟩ := id C
  obtain ⟨x1, x2, x3, x4, x5, x6, x7, x8⟩ := X
  exact va_zald (D := (G.1, G.2.1)) hx hb hK.1 x4 r 2 (ab_w_at hs) rfl hi hd (kk p e s m args below meth c ad0 n0 A C ad H locs arr ⟨x1, x2, x3, x4, x5, x6, x7, List.forall_mem_cons.mpr ⟨trivial, fun w hw => x8 w (List.mem_cons_of_mem _ (List.mem_cons_of_mem _ hw))⟩⟩)
theorem ab_lald {r ln : Nat} {i : Int32} (hd : decode M.2.1 pc = .ok (.laload, 1)) (hs : S[r]? = some (3, ln)) (hi : vp_in i ln) (kk : ab_WP l G M d (pc + 1) ls (.long (J r i.toNatClampNeg) :: st) S I J P k n Q) : ab_WP l G M d pc ls (.int i :: .ref r :: st) S I J P k n Q := by
  intro p e s m args below meth c ad0 n0 A C ad H locs arr X
  obtain ⟨hx, hb, hml, hr, hlk, hown, hnm, hts, hK, hSt, hA⟩ := id C
  obtain ⟨x1, x2, x3, x4, x5, x6, x7, x8⟩ := X
  exact va_lald (D := (G.1, G.2.1)) hx hb hK.1 x4 r 3 (ab_w_at hs) rfl hi hd (kk p e s m args below meth c ad0 n0 A C ad H locs arr ⟨x1, x2, x3, x4, x5, x6, x7, List.forall_mem_cons.mpr ⟨trivial, fun w hw => x8 w (List.mem_cons_of_mem _ (List.mem_cons_of_mem _ hw))⟩⟩)
theorem ab_aald {r ln a : Nat} {i : Int32} (hd : decode M.2.1 pc = .ok (.aaload, 1)) (hs : S[r]? = some (4, ln)) (hi : vp_in i ln) (ho : P r i.toNatClampNeg = some a) (kk : ab_WP l G M d (pc + 1) ls (.ref a :: st) S I J P k n Q) : ab_WP l G M d pc ls (.int i :: .ref r :: st) S I J P k n Q := by
  intro p e s m args below meth c ad0 n0 A C ad H locs arr X
  obtain ⟨hx, hb, hml, hr, hlk, hown, hnm, hts, hK, hSt, hA⟩ := id C
  obtain ⟨x1, x2, x3, x4, x5, x6, x7, x8⟩ := X
  refine va_aldq (D := (G.1, G.2.1)) (C := "BellRingers$State") hx hb hK.1 x4 r 4 (ab_w_at hs) rfl hi hd ?_
  rw [ho]
  exact kk p e s m args below meth c ad0 n0 A C ad H locs arr ⟨x1, x2, x3, x4, x5, x6, x7, List.forall_mem_cons.mpr ⟨x3 _ _ _ ho, fun w hw => x8 w (List.mem_cons_of_mem _ (List.mem_cons_of_mem _ hw))⟩⟩
theorem ab_aaldN {r ln : Nat} {i : Int32} (hd : decode M.2.1 pc = .ok (.aaload, 1)) (hs : S[r]? = some (4, ln)) (hi : vp_in i ln) (ho : P r i.toNatClampNeg = none) (kk : ab_WP l G M d (pc + 1) ls (.null :: st) S I J P k n Q) : ab_WP l G M d pc ls (.int i :: .ref r :: st) S I J P k n Q := by
  intro p e s m args below meth c ad0 n0 A C ad H locs arr X
  obtain ⟨hx, hb, hml, hr, hlk, hown, hnm, hts, hK, hSt, hA⟩ := id C
  obtain ⟨x1, x2, x3, x4, x5, x6, x7, x8⟩ := X
  refine va_aldq (D := (G.1, G.2.1)) (C := "BellRingers$State") hx hb hK.1 x4 r 4 (ab_w_at hs) rfl hi hd ?_
  rw [ho]
  exact kk p e s m args below meth c ad0 n0 A C ad H locs arr ⟨x1, x2, x3, x4, x5, x6, x7, List.forall_mem_cons.mpr ⟨trivial, fun w hw => x8 w (List.mem_cons_of_mem _ (List.mem_cons_of_mem _ hw))⟩⟩
theorem ab_alen {r kd ln : Nat} {v : Int32} (hd : decode M.2.1 pc = .ok (.arraylength, 1)) (hs : S[r]? = some (kd, ln)) (hk : kd < 5) (hv : Int32.ofNat ln = v) (kk : ab_WP l G M d (pc + 1) ls (.int v :: st) S I J P k n Q) : ab_WP l G M d pc ls (.ref r :: st) S I J P k n Q := by
  intro p e s m args below meth c ad0 n0 A C ad H locs arr X
  obtain ⟨hx, hb, hml, hr, hlk, hown, hnm, hts, hK, hSt, hA⟩ := id C
  obtain ⟨x1, x2, x3, x4, x5, x6, x7, x8⟩ := X
  have K := kk p e s m args below meth c ad0 n0 A C ad H locs arr ⟨x1, x2, x3, x4, x5, x6, x7, List.forall_mem_cons.mpr ⟨trivial, fun w hw => x8 w (List.mem_cons_of_mem _ hw)⟩⟩
  have hw := ab_w_at (g := G.2.2) (ad := ad) (I := I) (J := J) (P := P) hs
  match kd, hk, hw with
  | 0, _, hw => exact va_alen (D := (G.1, G.2.1)) hx hb hK.1 x4 r 0 hw rfl hv hd K
  | 1, _, hw => exact va_alen (D := (G.1, G.2.1)) hx hb hK.1 x4 r 1 hw rfl hv hd K
  | 2, _, hw => exact va_alen (D := (G.1, G.2.1)) hx hb hK.1 x4 r 2 hw rfl hv hd K
  | 3, _, hw => exact va_alen (D := (G.1, G.2.1)) hx hb hK.1 x4 r 3 hw rfl hv hd K
  | 4, _, hw => exact va_alen (D := (G.1, G.2.1)) hx hb hK.1 x4 r 4 hw rfl hv hd K
theorem ab_upd_u {I : ab_I} {r j : Nat} {x : Int32} : upd (I r) j x = ab_u I r j x r := by
  rw [ab_u_s]
  funext q
  simp [upd]
theorem ab_iast {r ln : Nat} {i x : Int32} (hd : decode M.2.1 pc = .ok (.iastore, 1)) (hs : S[r]? = some (0, ln)) (hi : vp_in i ln) (kk : ab_WP l G M d (pc + 1) ls st S (ab_u I r i.toNatClampNeg x) J P k n Q) : ab_WP l G M d pc ls (.int x :: .int i :: .ref r :: st) S I J P k n Q := by
  intro p e s m args below meth c ad0 n0 A C ad H locs arr X
  obtain ⟨hx, hb, hml, hr, hlk, hown, hnm, hts, hK, hSt, hA⟩ := id C
  obtain ⟨x1, x2, x3, x4, x5, x6, x7, x8⟩ := X
  have hset := ab_w_set (g := G.2.2) (ad := ad) (I := I) (J := J) (P := P) (I' := ab_u I r i.toNatClampNeg x) (J' := J) (P' := P) hs (fun q hq => ab_u_o hq) (fun _ _ => rfl) (fun _ _ => rfl)
  refine va_iast (D := (G.1, G.2.1)) hx hb hK.1 x4 x5 x6 r 0 (ab_w_at hs) rfl hi hd (fun H1 locs1 q1 q2 q3 => ?_)
  rw [ab_upd_u] at q1 q2
  have q1 : va_P (G.1, G.2.1) vwCl ((ab_w G.2.2 ad S I J P).set r (ad r, ab_e G.2.2 ad (ab_u I r i.toNatClampNeg x) J P r (0, ln))) H1 := q1
  have q2 : va_D A ((ab_w G.2.2 ad S I J P).set r (ad r, ab_e G.2.2 ad (ab_u I r i.toNatClampNeg x) J P r (0, ln))) := q2
  rw [hset] at q1 q2
  exact kk p e s m args below meth c ad0 n0 A C ad H1 locs1 arr ⟨x1, x2, x3, q1, q2, q3, x7, fun w hw => x8 w (List.mem_cons_of_mem _ (List.mem_cons_of_mem _ (List.mem_cons_of_mem _ hw)))⟩
theorem ab_bast {r ln : Nat} {i x : Int32} (hd : decode M.2.1 pc = .ok (.bastore, 1)) (hs : S[r]? = some (1, ln)) (hi : vp_in i ln) (kk : ab_WP l G M d (pc + 1) ls st S (ab_u I r i.toNatClampNeg x.toInt8.toInt32) J P k n Q) : ab_WP l G M d pc ls (.int x :: .int i :: .ref r :: st) S I J P k n Q := by
  intro p e s m args below meth c ad0 n0 A C ad H locs arr X
  obtain ⟨hx, hb, hml, hr, hlk, hown, hnm, hts, hK, hSt, hA⟩ := id C
  obtain ⟨x1, x2, x3, x4, x5, x6, x7, x8⟩ := X
  have hset := ab_w_set (g := G.2.2) (ad := ad) (I := I) (J := J) (P := P) (I' := ab_u I r i.toNatClampNeg x.toInt8.toInt32) (J' := J) (P' := P) hs (fun q hq => ab_u_o hq) (fun _ _ => rfl) (fun _ _ => rfl)
  refine va_bast (D := (G.1, G.2.1)) hx hb hK.1 x4 x5 x6 r 1 (ab_w_at hs) rfl hi hd (fun H1 locs1 q1 q2 q3 => ?_)
  rw [vp_nar_byte, ab_upd_u] at q1 q2
  have q1 : va_P (G.1, G.2.1) vwCl ((ab_w G.2.2 ad S I J P).set r (ad r, ab_e G.2.2 ad (ab_u I r i.toNatClampNeg x.toInt8.toInt32) J P r (1, ln))) H1 := q1
  have q2 : va_D A ((ab_w G.2.2 ad S I J P).set r (ad r, ab_e G.2.2 ad (ab_u I r i.toNatClampNeg x.toInt8.toInt32) J P r (1, ln))) := q2
  rw [hset] at q1 q2
  exact kk p e s m args below meth c ad0 n0 A C ad H1 locs1 arr ⟨x1, x2, x3, q1, q2, q3, x7, fun w hw => x8 w (List.mem_cons_of_mem _ (List.mem_cons_of_mem _ (List.mem_cons_of_mem _ hw)))⟩
theorem ab_zast {r ln : Nat} {i x : Int32} (hd : decode M.2.1 pc = .ok (.bastore, 1)) (hs : S[r]? = some (2, ln)) (hi : vp_in i ln) (hz : x = 0 ∨ x = 1) (kk : ab_WP l G M d (pc + 1) ls st S (ab_u I r i.toNatClampNeg x) J P k n Q) : ab_WP l G M d pc ls (.int x :: .int i :: .ref r :: st) S I J P k n Q := by
  intro p e s m args below meth c ad0 n0 A C ad H locs arr X
  obtain ⟨hx, hb, hml, hr, hlk, hown, hnm, hts, hK, hSt, hA⟩ := id C
  obtain ⟨x1, x2, x3, x4, x5, x6, x7, x8⟩ := X
  have hset := ab_w_set (g := G.2.2) (ad := ad) (I := I) (J := J) (P := P) (I' := ab_u I r i.toNatClampNeg x) (J' := J) (P' := P) hs (fun q hq => ab_u_o hq) (fun _ _ => rfl) (fun _ _ => rfl)
  have hnar : vp_nar .boolean x = x := by rcases hz with rfl | rfl <;> decide
  refine va_zast (D := (G.1, G.2.1)) hx hb hK.1 x4 x5 x6 r 2 (ab_w_at hs) rfl hi hd (fun H1 locs1 q1 q2 q3 => ?_)
  rw [hnar, ab_upd_u] at q1 q2
  have q1 : va_P (G.1, G.2.1) vwCl ((ab_w G.2.2 ad S I J P).set r (ad r, ab_e G.2.2 ad (ab_u I r i.toNatClampNeg x) J P r (2, ln))) H1 := q1
  have q2 : va_D A ((ab_w G.2.2 ad S I J P).set r (ad r, ab_e G.2.2 ad (ab_u I r i.toNatClampNeg x) J P r (2, ln))) := q2
  rw [hset] at q1 q2
  exact kk p e s m args below meth c ad0 n0 A C ad H1 locs1 arr ⟨x1, x2, x3, q1, q2, q3, x7, fun w hw => x8 w (List.mem_cons_of_mem _ (List.mem_cons_of_mem _ (List.mem_cons_of_mem _ hw)))⟩
theorem ab_updL_u {J : ab_J} {r j : Nat} {x : Int64} : vp_updL (J r) j x = ab_u J r j x r := by
  rw [ab_u_s]
  funext q
  simp [vp_updL]
theorem ab_last {r ln : Nat} {i : Int32} {x : Int64} (hd : decode M.2.1 pc = .ok (.lastore, 1)) (hs : S[r]? = some (3, ln)) (hi : vp_in i ln) (kk : ab_WP l G M d (pc + 1) ls st S I (ab_u J r i.toNatClampNeg x) P k n Q) : ab_WP l G M d pc ls (.long x :: .int i :: .ref r :: st) S I J P k n Q := by
  intro p e s m args below meth c ad0 n0 A C ad H locs arr X
  obtain ⟨hx, hb, hml, hr, hlk, hown, hnm, hts, hK, hSt, hA⟩ := id C
  obtain ⟨x1, x2, x3, x4, x5, x6, x7, x8⟩ := X
  have hset := ab_w_set (g := G.2.2) (ad := ad) (I := I) (J := J) (P := P) (I' := I) (J' := ab_u J r i.toNatClampNeg x) (P' := P) hs (fun _ _ => rfl) (fun q hq => ab_u_o hq) (fun _ _ => rfl)
  refine va_last (D := (G.1, G.2.1)) hx hb hK.1 x4 x5 x6 r 3 (ab_w_at hs) rfl hi hd (fun H1 locs1 q1 q2 q3 => ?_)
  rw [ab_updL_u] at q1 q2
  have q1 : va_P (G.1, G.2.1) vwCl ((ab_w G.2.2 ad S I J P).set r (ad r, ab_e G.2.2 ad I (ab_u J r i.toNatClampNeg x) P r (3, ln))) H1 := q1
  have q2 : va_D A ((ab_w G.2.2 ad S I J P).set r (ad r, ab_e G.2.2 ad I (ab_u J r i.toNatClampNeg x) P r (3, ln))) := q2
  rw [hset] at q1 q2
  exact kk p e s m args below meth c ad0 n0 A C ad H1 locs1 arr ⟨x1, x2, x3, q1, q2, q3, x7, fun w hw => x8 w (List.mem_cons_of_mem _ (List.mem_cons_of_mem _ (List.mem_cons_of_mem _ hw)))⟩
theorem ab_wf_u {m : Nat} {P : ab_P} {r j : Nat} {o : Option Nat} (h : ab_wf m P) (ho : ∀ a, o = some a → a < m) : ab_wf m (ab_u P r j o) := by
  intro q i a hq
  by_cases e : q = r
  · subst e
    by_cases e2 : i = j
    · subst e2
      rw [ab_u_at] at hq
      exact ho a hq
    · rw [ab_u_ne e2] at hq
      exact h _ _ _ hq
  · rw [ab_u_o e] at hq
    exact h _ _ _ hq
theorem ab_aast {r ln a la : Nat} {i : Int32} (hd : decode M.2.1 pc = .ok (.aastore, 1)) (hs : S[r]? = some (4, ln)) (ha : S[a]? = some (11, la)) (hi : vp_in i ln) (kk : ab_WP l G M d (pc + 1) ls st S I J (ab_u P r i.toNatClampNeg (some a)) k n Q) : ab_WP l G M d pc ls (.ref a :: .int i :: .ref r :: st) S I J P k n Q := by
  intro p e s m args below meth c ad0 n0 A C ad H locs arr X
  obtain ⟨hx, hb, hml, hr, hlk, hown, hnm, hts, hK, hSt, hA⟩ := id C
  obtain ⟨x1, x2, x3, x4, x5, x6, x7, x8⟩ := X
  have hset := ab_w_set (g := G.2.2) (ad := ad) (I := I) (J := J) (P := P) (I' := I) (J' := J) (P' := ab_u P r i.toNatClampNeg (some a)) hs (fun _ _ => rfl) (fun _ _ => rfl) (fun q hq => ab_u_o hq)
  refine va_astq (D := (G.1, G.2.1)) (r := (RX6, TX6, 6)) hx hb hK.1 x4 x5 x6 r 4 a 6 (ab_w_at hs) rfl (ab_w_at ha) rfl hi hd (fun H1 locs1 q1 q2 q3 => ?_)
  have he : va_up (fun j => (P r j).map ad) i.toNatClampNeg (some (ad a)) = fun j => (ab_u P r i.toNatClampNeg (some a) r j).map ad := by
    funext j
    by_cases e : j = i.toNatClampNeg
    · subst e
      rw [ab_u_at]
      simp [va_up]
    · rw [ab_u_ne e]
      simp [va_up, e]
  rw [he] at q1 q2
  have q1 : va_P (G.1, G.2.1) vwCl ((ab_w G.2.2 ad S I J P).set r (ad r, ab_e G.2.2 ad I J (ab_u P r i.toNatClampNeg (some a)) r (4, ln))) H1 := q1
  have q2 : va_D A ((ab_w G.2.2 ad S I J P).set r (ad r, ab_e G.2.2 ad I J (ab_u P r i.toNatClampNeg (some a)) r (4, ln))) := q2
  rw [hset] at q1 q2
  exact kk p e s m args below meth c ad0 n0 A C ad H1 locs1 arr ⟨x1, x2, ab_wf_u x3 (fun b hb2 => by cases hb2; exact (List.getElem?_eq_some_iff.mp ha).1), q1, q2, q3, x7, fun w hw => x8 w (List.mem_cons_of_mem _ (List.mem_cons_of_mem _ (List.mem_cons_of_mem _ hw)))⟩
end RA
