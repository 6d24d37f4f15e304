/-! ===== village: a unit, and every level ===== -/
section UNM
variable {I0 K0 : ab_I} {J0 L0 : ab_J} {z a b : Nat} {B : Nat → Nat}
theorem lv_unit (hB0 : tk_B I0 K0 z B) {rd : Int32 → Int32 → ab_I → ab_J → Option (Int32 × ab_I × ab_J)} {dep : Nat} (hd7 : dep ≤ 7) (ih : dep < 7 → fM I0 K0 J0 L0 z a b rd 0 (dep + 1)) {I K : ab_I} {J L : ab_J} {p0 c s u h j k : Nat} {σ : List Nat} (hq : fq I0 K0 J0 L0 z a b I J K L p0 c s u h [] σ) (hs : s ≤ 9 * u) (hl : σ.length ≤ u + dl σ) (hdl : dl σ = dep) (hn : c = 214 → ∃ e l, σ = e :: l ∧ e ≠ 20 ∧ 4 ≤ tg e) (hj : j ≤ p0) (hj2 : j ≤ 1601) (hk : k ≤ p0) (hk2 : k ≤ 1601) : fP I0 K0 J0 L0 z a b 5 dep s u h σ p0 k (fX4_readsUnit rd (nI dep) I J) (fU j k K L) := by
  obtain ⟨hT, f2, t2, t3⟩ := fq_tR hq
  obtain ⟨u1, u2, u3, u4⟩ := hq.2.2.2.1
  have hk1 : K 73 19 = nI σ.length := hq.2.2.2.2.1.1
  have hk3 : K 73 23 = nI (dl σ) := hq.2.2.2.2.1.2.2.1
  have cc : ∀ t : Nat, t < 300 → (nI c = nI t ↔ c = t) := fun t ht => nI_eq (by omega) (by omega)
  have e73 : ∀ I', fX4_refuses 2 I = some (0, I') → fX4_readsUnit_73 rd (nI dep) I J = some (0, I', J) := fun I' e => by
    unfold fX4_readsUnit_73
    rw [e, px_bd, px_gd (Or.inl rfl)]
  have full : u = 30 → (30 : Int32) ≤ I 18 4 := fun e => by rw [u1, e]; decide
  have nfull : u ≠ 30 → ¬ (30 : Int32) ≤ I 18 4 := fun e => by rw [u1]; exact nI_ge (b := 30) (by omega) (by decide)
  unfold fX4_readsUnit fX4_readsUnit_19
  rw [t2]
  by_cases e40 : c = 40
  · rw [if_pos (show nI c = 40 from (cc 40 (by omega)).mpr e40), if_neg (show ¬ nI c = 3 from fun h => by have := (cc 3 (by omega)).mp h; omega), show fX2_isValue (nI c) = some 0 by rw [e40]; decide +kernel, px_bd, if_pos (show (0 : Int32) = 0 from rfl)]
    unfold fX4_readsUnit_37 fX4_readsUnit_63
    by_cases hf : u = 30 ∨ dep = 7
    · refine br_no hq hs (by omega) hdl hd7 hj2 hk2 e40 hf (fun I' e => ?_)
      by_cases e3 : u = 30
      · rw [if_pos (full e3)]; exact e73 I' e
      · rw [if_neg (nfull e3), if_neg (show ¬ (1 : Int32) = 0 by decide), if_neg (show ¬ (1 : Int32) = 0 by decide), if_neg (show ¬ nI dep < 7 from nI_nlt (b := 7) (by omega) (by omega))]; exact e73 I' e
    · have q1 := fq_cnt hq (by omega)
      have q2 := fq_push (e := 20) q1 (by decide)
      obtain ⟨I1, J1, K1, L1, c1, p1, x1, x2, x3, x4, x5⟩ := fq_A hB0 q2 (by omega) (by omega)
      have ed : dl (20 :: σ) = dep + 1 := by rw [dl, if_pos (Or.inl rfl), hdl]; omega
      have eU : fU j k K L = fU (j + 1) k K1 L1 := by
        unfold fU
        rw [show 5000 - j = (5000 - (j + 1)) + 1 by omega, px_itL (s := (1, K, L)) (s' := (1, K1, L1)) ?_]
        dsimp only
        rw [un_turn hq (by omega) hn]
        unfold fX12_unit_53 fX12_unit_83 fX12_countUnit fX12_openUp fX12_openUp_41
        have x2' : fX12_token (ab_u (ab_u (ab_u (ab_u (ab_u K 73 20 (nI (u + 1))) 73 22 (nI (u + 1))) 80 σ.length 20) 73 19 (nI (σ.length + 1))) 73 23 (nI (dep + 1))) L = some (K1, L1) := by rw [← ed]; exact x2
        rw [if_pos (show K 73 6 = 40 from ((tk_sort hT).2.2.2.2 40 (by decide)).mp e40), if_ok u2 u3 u4, px_bd, if_neg (show ¬ u = 30 by omega), if_pos (show (0 : Int32) = 0 from rfl), if_pos (show K 73 23 ≤ 6 by rw [hk3, hdl]; exact nI_le (b := 6) (by omega) (by decide)), px_bd, u2, u3, ← nI_succ]
        have g : ∀ k, k ≠ 20 → k ≠ 22 → ab_u (ab_u K 73 20 (nI (u + 1))) 73 22 (nI (u + 1)) 73 k = K 73 k := fun k h1 h2 => by rw [px_u (by omega), px_u (by omega)]
        rw [g 19 (by decide) (by decide), g 2 (by decide) (by decide), g 23 (by decide) (by decide), hk1, px_gd (px_ix (by omega) (by decide)), if_pos f2, nI_clamp (by omega), hk3, hdl, ← nI_succ, ← nI_succ, x2', px_bd, px_bd]
      rw [if_neg (nfull (by omega)), if_neg (show ¬ (1 : Int32) = 0 by decide), if_neg (show ¬ (1 : Int32) = 0 by decide), if_pos (show nI dep < 7 from nI_lt (b := 7) (by omega) (by decide))]
      unfold fX4_readsUnit_79 fX4_readsUnit_127 fX4_readsUnit_163 fX4_readsUnit_159 fX4_readsUnit_164
      rw [if_pos (show (0 : Int32) = 0 from rfl), u1, ← nI_succ, x1, px_bd, if_pos (show (0 : Int32) = 0 from rfl)]
      dsimp only
      rw [← nI_succ]
      rcases ih (by omega) I1 J1 K1 L1 p1 c1 s (u + 1) h (20 :: σ) (j + 1) k x3 (by omega) (by rw [List.length_cons, ed]; omega) ed ⟨by decide, Or.inl rfl⟩ (fun _ h => by omega) (by omega) (by omega) (by omega) hk2 with ⟨I2, J2, K2, L2, p2, c2, s2, u2', pd, k2, r1, r2, r3, r4, r5, r6, r7, r8, r9, r10, r11, r12⟩ | ⟨I2, J2, K2, L2, r1, r2, r3⟩
      · have r1' : rd 0 (nI (dep + 1)) I1 J1 = some (1, I2, J2) := r1
        have u2le : u2' ≤ 30 := r3.2.2.2.1.2.2.2
        rw [r1', px_bd]
        dsimp only
        rw [if_neg (show ¬ (1 : Int32) = 0 by decide)]
        rcases br_end hB0 r3 (by omega) (by omega) (fun e he => ok_le (r4 e he) (Nat.zero_le _)) r5 r10 r11 with ⟨I3, J3, K3, L3, c3, p3, y1, y2, y3, y4, y5⟩ | ⟨I3, K3, y1, y2, y3⟩
        · left
          rw [y1, px_bd]
          dsimp only
          rw [if_neg (show ¬ (1 : Int32) = 0 by decide), px_gd (Or.inr rfl)]
          refine ⟨I3, J3, K3, L3, p3, c3, s2 + pd.length, u2', [], k2 + 1, rfl, by rw [eU, r2, y2], y3, fun e he => absurd he (by simp), Or.inr (Or.inl (by have := (tg_le (sgn c3)).1; show tg (sgn c3) < 7; omega)), by omega, by show s2 + pd.length + 0 + dep + 1 + 9 * u ≤ s + 9 * u2'; omega, by show σ.length + 1 ≤ u2' + dl σ; omega, by omega, by omega, y5, by show dl σ ≤ 7; omega⟩
        · right
          rw [y1, px_bd]
          dsimp only
          rw [if_pos (show (0 : Int32) = 0 from rfl), px_gd (Or.inl rfl)]
          exact ⟨I3, J2, K3, L2, rfl, by rw [eU, r2, y2], y3⟩
      · have r1' : rd 0 (nI (dep + 1)) I1 J1 = some (0, I2, J2) := r1
        right
        rw [r1', px_bd]
        dsimp only
        rw [if_pos (show (0 : Int32) = 0 from rfl), px_gd (Or.inl rfl)]
        exact ⟨I2, J2, K2, L2, rfl, by rw [eU, r2], r3⟩
  · rw [if_neg (show ¬ nI c = 40 from fun h => e40 ((cc 40 (by omega)).mp h))]
    have iv : fX2_isValue (nI c) = some (if 206 ≤ c ∧ c ≤ 211 then 1 else 0) := (by decide +kernel : ∀ c, c < 300 → fX2_isValue (nI c) = some (if 206 ≤ c ∧ c ≤ 211 then 1 else 0)) c t3
    rw [iv, px_bd]
    unfold fX4_readsUnit_32 fX4_readsUnit_37 fX4_readsUnit_63
    by_cases hv : c = 3 ∨ (206 ≤ c ∧ c ≤ 211)
    · by_cases e3 : u = 30
      · refine un_no hq hs (by omega) hn hj2 hk2 e40 (fun _ => e3) (fun I' e => ?_)
        rw [if_pos (full e3), if_pos (full e3), e73 I' e]
        split <;> first | rfl | (split <;> rfl)
      · have hx : (if nI c = 3 then I 22 4 else -(nI c)) = (if c = 3 then I 22 4 else -(nI c)) := by
          by_cases h3 : c = 3
          · rw [if_pos h3, if_pos (show nI c = 3 from (cc 3 (by omega)).mpr h3)]
          · rw [if_neg h3, if_neg (show ¬ nI c = 3 from fun h => h3 ((cc 3 (by omega)).mp h))]
        refine un_val (x := if c = 3 then I 22 4 else -(nI c)) hB0 hq hs hl hdl hd7 (by omega) hj2 hk hk2 (by rcases hv with h3 | h6; exact Or.inl ⟨h3, if_pos h3⟩; exact Or.inr ⟨h6.1, h6.2, if_neg (by omega)⟩) (fun I1 I2 J2 g1 g2 => ?_)
        unfold fX4_readsUnit_79 fX4_readsUnit_124 fX4_readsUnit_127 fX4_readsUnit_159 fX4_readsUnit_164
        by_cases h3 : c = 3
        · rw [if_pos h3] at g1
          rw [if_pos (show nI c = 3 from (cc 3 (by omega)).mpr h3), if_neg (nfull e3), if_pos (show (0 : Int32) = 0 from rfl), if_neg (show ¬ (1 : Int32) = 0 by decide), if_pos (show (0 : Int32) = 0 from rfl), if_neg (show ¬ (1 : Int32) = 0 by decide), if_pos (show nI c = 3 from (cc 3 (by omega)).mpr h3), u1, ← nI_succ, g1, px_bd, g2, px_bd, if_neg (show ¬ (1 : Int32) = 0 by decide), px_gd (Or.inr rfl)]
        · rw [if_neg h3] at g1
          have n3 : ¬ nI c = 3 := fun h => h3 ((cc 3 (by omega)).mp h)
          rw [if_neg n3, if_pos (show 206 ≤ c ∧ c ≤ 211 by omega), if_neg (show ¬ (1 : Int32) = 0 by decide), if_neg (nfull e3), if_pos (show (0 : Int32) = 0 from rfl), if_neg (show ¬ (1 : Int32) = 0 by decide), if_pos (show (0 : Int32) = 0 from rfl), if_neg (show ¬ (1 : Int32) = 0 by decide), if_neg n3, u1, ← nI_succ, g1, px_bd, g2, px_bd, if_neg (show ¬ (1 : Int32) = 0 by decide), px_gd (Or.inr rfl)]
    · refine un_no hq hs (by omega) hn hj2 hk2 e40 (fun h => absurd h hv) (fun I' e => ?_)
      rw [if_neg (show ¬ nI c = 3 from fun h => hv (Or.inl ((cc 3 (by omega)).mp h))), if_neg (show ¬ (206 ≤ c ∧ c ≤ 211) from fun h => hv (Or.inr h)), if_pos (show (0 : Int32) = 0 from rfl), if_pos (show (0 : Int32) = 0 from rfl), if_pos (show (0 : Int32) = 0 from rfl), e73 I' e]
      split <;> rfl
end UNM
