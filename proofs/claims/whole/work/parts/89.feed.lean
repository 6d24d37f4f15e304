/-! ===== pairs: feed ===== -/
theorem px_b255 (x : Int32) : x.toInt8.toInt32 &&& 255 = x &&& 255 := by
  apply Int32.toBitVec_inj.mp
  simp only [Int32.toBitVec_and, Int8.toBitVec_toInt32, Int32.toBitVec_toInt8]
  apply BitVec.eq_of_getLsbD_eq
  intro i hi
  have h255 : (Int32.toBitVec 255).getLsbD i = decide (i < 8) := by
    have : ∀ i, i < 32 → (Int32.toBitVec 255).getLsbD i = decide (i < 8) := by decide
    exact this i hi
  rw [BitVec.getLsbD_and, BitVec.getLsbD_and, h255]
  by_cases h8 : i < 8
  · rw [BitVec.getLsbD_signExtend, if_pos h8, BitVec.getLsbD_signExtend, if_pos hi, decide_eq_true hi, decide_eq_true h8, Bool.true_and, Bool.true_and]
  · simp [h8]
/-- one byte more -/
def fd_c (c : Nat → Int32) (z : Nat) (a sh : Int32) : Nat → Int32 := fun i => if i = z then (a >>> (sh &&& 31)) &&& 255 else c i
def fd_4 (c : Nat → Int32) (z : Nat) (a : Int32) : Nat → Int32 := fd_c (fd_c (fd_c (fd_c c z a 24) (z + 1) a 16) (z + 2) a 8) (z + 3) a 0
def fd_X (I : ab_I) (z : Nat) (c : Nat → Int32) : Prop := I 1 1 = nI z ∧ ∀ i, i < z → I 2 i &&& 255 = c i
def fd_M (I : ab_I) (z : Nat) (c : Nat → Int32) : Prop := I 73 1 = nI z ∧ ∀ i, i < z → I 74 i = c i
section FEED
variable {I : ab_I} {z : Nat} {c : Nat → Int32}
theorem fd_stepX {a sh : Int32} (h : fd_X I z c) (hz : z < 1600) (hs : ¬ sh < 0) : ∃ I', fX7_put_3 a sh I = some (.inl (sh + (-8 : Int32), I')) ∧ fd_X I' (z + 1) (fd_c c z a sh) ∧ ∀ r k, r ≠ 2 → ¬ (r = 1 ∧ k = 1) → I' r k = I r k := by
  obtain ⟨h1, h2⟩ := h
  refine ⟨ab_u (ab_u I 2 z ((a >>> (sh &&& 31)).toInt8.toInt32)) 1 1 (nI (z + 1)), ?_, ⟨ab_u_at, fun i hi => ?_⟩, fun r k r1 r2 => ?_⟩
  · unfold fX7_put_3 fX7_put_42
    rw [if_neg hs, h1, if_neg (show ¬ (1600 : Int32) ≤ nI z from nI_ge (b := 1600) hz (by decide)), px_gd (px_ix hz (by decide)), nI_clamp (by omega), Int8.toInt8_toInt32, nI_succ]
  · rw [px_u (by omega)]
    unfold fd_c
    by_cases e : i = z
    · rw [if_pos e, e, ab_u_at, px_b255]
    · rw [if_neg e, ab_u_ne e]
      exact h2 i (by omega)
  · rw [px_u r2, px_u (by omega)]
theorem fd_stepM {a sh : Int32} (h : fd_M I z c) (hz : z < 1600) (hs : ¬ sh < 0) : ∃ I', fX12_four_3 a sh I = some (.inl (sh + (-8 : Int32), I')) ∧ fd_M I' (z + 1) (fd_c c z a sh) ∧ ∀ r k, r ≠ 74 → ¬ (r = 73 ∧ k = 1) → I' r k = I r k := by
  obtain ⟨h1, h2⟩ := h
  refine ⟨ab_u (ab_u I 74 z ((a >>> (sh &&& 31)) &&& (255 : Int32))) 73 1 (nI (z + 1)), ?_, ⟨ab_u_at, fun i hi => ?_⟩, fun r k r1 r2 => ?_⟩
  · unfold fX12_four_3
    rw [if_neg hs, h1, px_gd (px_ix hz (by decide)), nI_clamp (by omega), nI_succ]
  · rw [px_u (by omega)]
    unfold fd_c
    by_cases e : i = z
    · rw [if_pos e, e, ab_u_at]
    · rw [if_neg e, ab_u_ne e]
      exact h2 i (by omega)
  · rw [px_u r2, px_u (by omega)]
theorem fd_put {a : Int32} (h : fd_X I z c) (hz : z + 4 ≤ 1600) : ∃ I', fX7_put a I = some I' ∧ fd_X I' (z + 4) (fd_4 c z a) ∧ ∀ r k, r ≠ 2 → ¬ (r = 1 ∧ k = 1) → I' r k = I r k := by
  obtain ⟨I1, s1, t1, f1⟩ := fd_stepX (a := a) (sh := 24) h (by omega) (by decide)
  obtain ⟨I2, s2, t2, f2⟩ := fd_stepX (a := a) (sh := 16) t1 (by omega) (by decide)
  obtain ⟨I3, s3, t3, f3⟩ := fd_stepX (a := a) (sh := 8) t2 (by omega) (by decide)
  obtain ⟨I4, s4, t4, f4⟩ := fd_stepX (a := a) (sh := 0) t3 (by omega) (by decide)
  refine ⟨I4, ?_, t4, fun r k r1 r2 => by rw [f4 r k r1 r2, f3 r k r1 r2, f2 r k r1 r2, f1 r k r1 r2]⟩
  have e : ∀ n, ab_it (fun s : Int32 × ab_I => fX7_put_3 a s.1 s.2) (n + 1 + 1 + 1 + 1 + 1) (24, I) = some I4 := by
    intro n
    rw [px_itL (s' := (16, I1)) s1, px_itL (s' := (8, I2)) s2, px_itL (s' := (0, I3)) s3, px_itL (s' := (-8, I4)) s4]
    exact px_itR (by
      show fX7_put_3 a (-8) I4 = _
      unfold fX7_put_3 fX7_put_48
      rw [if_pos (by decide)]
      rfl)
  exact e 4995
theorem fd_four {a : Int32} (h : fd_M I z c) (hz : z + 4 ≤ 1600) : ∃ I', fX12_four a I = some I' ∧ fd_M I' (z + 4) (fd_4 c z a) ∧ ∀ r k, r ≠ 74 → ¬ (r = 73 ∧ k = 1) → I' r k = I r k := by
  obtain ⟨I1, s1, t1, f1⟩ := fd_stepM (a := a) (sh := 24) h (by omega) (by decide)
  obtain ⟨I2, s2, t2, f2⟩ := fd_stepM (a := a) (sh := 16) t1 (by omega) (by decide)
  obtain ⟨I3, s3, t3, f3⟩ := fd_stepM (a := a) (sh := 8) t2 (by omega) (by decide)
  obtain ⟨I4, s4, t4, f4⟩ := fd_stepM (a := a) (sh := 0) t3 (by omega) (by decide)
  refine ⟨I4, ?_, t4, fun r k r1 r2 => by rw [f4 r k r1 r2, f3 r k r1 r2, f2 r k r1 r2, f1 r k r1 r2]⟩
  have e : ∀ n, ab_it (fun s : Int32 × ab_I => fX12_four_3 a s.1 s.2) (n + 1 + 1 + 1 + 1 + 1) (24, I) = some I4 := by
    intro n
    rw [px_itL (s' := (16, I1)) s1, px_itL (s' := (8, I2)) s2, px_itL (s' := (0, I3)) s3, px_itL (s' := (-8, I4)) s4]
    exact px_itR (by
      show fX12_four_3 a (-8) I4 = _
      unfold fX12_four_3 fX12_four_39
      rw [if_pos (by decide)]
      rfl)
  exact e 4995
end FEED
section PR11
variable {S : ab_S} {I : ab_I} {J : ab_J} {P : ab_P} {l : Launch} {G : ab_G}
theorem pr_feed (hR : rx_R S I J P) (a1 a2 a3 a4 a5 : Int32) : lz_pr l G rx_R mX11_feed 1 mX12_feed 1 [.int a1, .int a2, .int a3, .int a4, .int a5] S I J P := by
  obtain ⟨hB, hZ, ⟨i, hS⟩, np, nb, nl, fa, lc, dr, t, F, hG, ⟨q, w, hN⟩, ⟨dn, kp, hA⟩, ⟨bf, hX⟩, ⟨c, hL⟩, ⟨z, hP⟩, hU, cn, tm, hW⟩ := id hR
  obtain ⟨p1, p2, p3, p4⟩ := id hP
  have h20 : nI z + (20 : Int32) = nI (z + 20) := by rw [show (20 : Int32) = nI 20 from rfl, px_add]
  by_cases hb : z + 20 ≤ 1600
  · have hle : nI (z + 20) ≤ (1600 : Int32) := nI_le (b := 1600) hb (by decide)
    have x0 : fd_X I z (I 74) := ⟨p2, fun i hi => (p4 i hi).symm⟩
    obtain ⟨I1, s1, t1, f1⟩ := fd_put (a := a1) x0 (by omega)
    obtain ⟨I2, s2, t2, f2⟩ := fd_put (a := a2) t1 (by omega)
    obtain ⟨I3, s3, t3, f3⟩ := fd_put (a := a3) t2 (by omega)
    obtain ⟨I4, s4, t4, f4⟩ := fd_put (a := a4) t3 (by omega)
    obtain ⟨I5, s5, t5, f5⟩ := fd_put (a := a5) t4 (by omega)
    have fx : ∀ r k, r ≠ 2 → ¬ (r = 1 ∧ k = 1) → I5 r k = I r k := fun r k r1 r2 => by rw [f5 r k r1 r2, f4 r k r1 r2, f3 r k r1 r2, f2 r k r1 r2, f1 r k r1 r2]
    have hx : fX11_feed a1 a2 a3 a4 a5 I = some (nI (z + 20), I5) := by
      unfold fX11_feed
      rw [p2, h20, if_pos hle, s1, px_bd, s2, px_bd, s3, px_bd, s4, px_bd, s5, px_bd, t5.1]
    have y0 : fd_M I5 z (I 74) := ⟨by rw [fx 73 1 (by decide) (by omega)]; exact p3, fun i hi => fx 74 i (by decide) (by omega)⟩
    obtain ⟨J1, u1, v1, g1⟩ := fd_four (a := a1) y0 (by omega)
    obtain ⟨J2, u2, v2, g2⟩ := fd_four (a := a2) v1 (by omega)
    obtain ⟨J3, u3, v3, g3⟩ := fd_four (a := a3) v2 (by omega)
    obtain ⟨J4, u4, v4, g4⟩ := fd_four (a := a4) v3 (by omega)
    obtain ⟨J5, u5, v5, g5⟩ := fd_four (a := a5) v4 (by omega)
    have gx : ∀ r k, r ≠ 74 → ¬ (r = 73 ∧ k = 1) → J5 r k = I5 r k := fun r k r1 r2 => by rw [g5 r k r1 r2, g4 r k r1 r2, g3 r k r1 r2, g2 r k r1 r2, g1 r k r1 r2]
    have hm : fX12_feed a1 a2 a3 a4 a5 I5 = some (nI (z + 20), J5) := by
      unfold fX12_feed
      rw [y0.1, h20, if_pos hle, u1, px_bd, u2, px_bd, u3, px_bd, u4, px_bd, u5, px_bd, v5.1]
    refine ⟨nI (z + 20), S, I5, J, P, S, J5, J, P, fun Q hQ => mX11_feed_ok hB hx hQ, fun Q hQ => mX12_feed_ok hB hm hQ, hB.1 73 _ rfl, ?_⟩
    refine rx_R_P (z2 := z + 20) hB hZ ⟨i, hS⟩ hG hN hA hX hL hU hW (fun r k hd _ => ?_) ⟨hb, ?_, v5.1, fun k hk => ?_⟩
    · rw [gx r k (by unfold rx_dP at hd; omega) (by unfold rx_dP at hd; omega), fx r k (by unfold rx_dP at hd; omega) (by unfold rx_dP at hd; omega)]
    · rw [gx 1 1 (by decide) (by omega)]
      exact t5.1
    · rw [gx 2 k (by decide) (by omega)]
      exact (v5.2 k hk).trans (t5.2 k hk).symm
  · have hle : ¬ nI (z + 20) ≤ (1600 : Int32) := nI_ge (a := 1600) (by omega) (by omega)
    have hx : fX11_feed a1 a2 a3 a4 a5 I = some (-1, I) := by
      unfold fX11_feed
      rw [p2, h20, if_neg hle]
    have hm : fX12_feed a1 a2 a3 a4 a5 I = some (-1, I) := by
      unfold fX12_feed
      rw [p3, h20, if_neg hle]
    exact lz_q _ hR (fun Q hQ => mX11_feed_ok hB hx hQ) (fun Q hQ => mX12_feed_ok hB hm hQ) (fun _ _ => rfl)
end PR11
