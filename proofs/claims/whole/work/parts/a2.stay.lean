/-! ===== two who stay or go ===== -/
theorem px_it4 {σ ρ : Type} {body : σ → Option (σ ⊕ ρ)} {n : Nat} {s0 s1 s2 s3 s4 : σ} {o : Option ρ} (h0 : body s0 = some (.inl s1)) (h1 : body s1 = some (.inl s2)) (h2 : body s2 = some (.inl s3)) (h3 : body s3 = some (.inl s4)) (h4 : body s4 = o.map .inr) : ab_it body (n + 1 + 1 + 1 + 1 + 1) s0 = o := by
  rw [px_itL h0, px_itL h1, px_itL h2, px_itL h3]
  show (match body s4 with | none => none | some (.inl s') => ab_it body n s' | some (.inr r) => some r) = _
  rw [h4]
  cases o <;> rfl
theorem px_itO {σ ρ : Type} {body : σ → Option (σ ⊕ ρ)} {n : Nat} {s : σ} {o : Option ρ} (h : body s = o.map .inr) : ab_it body (n + 1) s = o := by
  show (match body s with | none => none | some (.inl s') => ab_it body n s' | some (.inr r) => some r) = _
  rw [h]
  cases o <;> rfl
section PR17
variable {S : ab_S} {I : ab_I} {J : ab_J} {P : ab_P} {l : Launch} {G : ab_G} {np nb fa q : Nat} {hrs : Nat → Int32} {F : Int32 → Int32 → Int32 → Int32 → Int32 → Int32 → Int32} {w : Nat → Nat}
theorem px_passWithoutR (hQ : rx_Q I P np nb fa hrs F q w) {s : Nat} (hs : s < 64) : ∃ I', fX1_passWithout q (nI s) I = some (nI (sp_dy F hrs np false fa (sp_up w 12 (sp_wo (w 12) s)) nb).2, I') ∧ rx_is np (rx_v I' 26) (sp_day F hrs np false fa (sp_up w 12 (sp_wo (w 12) s)) nb) ∧ (∀ j, j < nb → I' 24 j = sp_rgr F hrs np false fa (sp_up w 12 (sp_wo (w 12) s)) j) ∧ ∀ r, r ≠ 9 → r ≠ 10 → r ≠ 24 → (r < 26 ∨ 29 < r) → I' r = I r := by
  obtain ⟨h1, h2, h3, h4, h5, h6, h7, h8, h9, h10, h11, h12, h13, h14, h15, h16, h17, h18⟩ := id hQ
  obtain ⟨I1, c1, c2, c3⟩ := px_copy (I := I) (q0 := 26) (q1 := q) (by rcases h15 with rfl | ⟨i, rfl⟩ <;> omega)
  have c2' : rx_is np (rx_v I1 26) w := fun k a b => by rw [c2 k a]; exact h16 k a b
  have hw2 := rx_uq (x := sp_wo (w 12) s) (Or.inl ⟨rfl, rfl⟩) c2'
  have hQ2 : rx_Q (ab_u I1 26 3 (nI (sp_wo (w 12) s))) P np nb fa hrs F q w := rx_Q_sc hQ (fun r hr => by rw [ab_u_o (by unfold rx_sc at hr; omega)]; exact c3 r (by unfold rx_sc at hr; omega))
  obtain ⟨g1, g2, g3, g4, g5, g6, g7, g8, g9, g10, g11, g12, g13, g14, g15, g16, g17, g18⟩ := id hQ2
  obtain ⟨I2, d1, d2, d3, d4⟩ := px_passDay (q := 26) (by omega) h1 h2 g4 g5 g6 h3 g12 g10 hw2 (sp_wo_ok h1 h18) false
  rw [show ((if false = true then 1 else 0) : Int32) = 0 from rfl] at d1
  refine ⟨I2, ?_, d2, d3, fun r a b c d => ?_⟩
  · unfold fX1_passWithout
    rw [c1, px_bd, rx_here c2', px_wo _ (rx_ok_h h18 h1) _ hs, d1, px_bd]
  · rw [d4 r a b c d, ab_u_o (by omega)]
    exact c3 r d
theorem px_dayWithoutR (hQ : rx_Q I P np nb fa hrs F q w) {s : Nat} (hs : s < 64) : ∃ I', fX12_dayWithout (nI s) I = some (nI (sp_dy F hrs np false fa (sp_up w 12 (sp_wo (w 12) s)) nb).2, I') ∧ rx_is np (I' 90) (sp_day F hrs np false fa (sp_up w 12 (sp_wo (w 12) s)) nb) ∧ (∀ j, j < nb → I' 91 j = sp_rgr F hrs np false fa (sp_up w 12 (sp_wo (w 12) s)) j) ∧ ∀ r, r ≠ 81 → r ≠ 82 → r ≠ 90 → r ≠ 91 → I' r = I r := by
  obtain ⟨h1, h2, h3, h4, h5, h6, h7, h8, h9, h10, h11, h12, h13, h14, h15, h16, h17, h18⟩ := id hQ
  obtain ⟨I1, c1, c2, c3⟩ := px_fill (I := I)
  have c2' : rx_is np (I1 90) w := fun k a b => by rw [c2 k a]; exact h17 k a b
  have hw2 := rx_m (r := 90) (k := 12) (x := sp_wo (w 12) s) c2'
  have hQ2 : rx_Q (ab_u I1 90 12 (nI (sp_wo (w 12) s))) P np nb fa hrs F q w := rx_Q_sc hQ (fun r hr => by rw [ab_u_o (by unfold rx_sc at hr; omega)]; exact c3 r (by unfold rx_sc at hr; omega))
  obtain ⟨g1, g2, g3, g4, g5, g6, g7, g8, g9, g10, g11, g12, g13, g14, g15, g16, g17, g18⟩ := id hQ2
  obtain ⟨I2, d1, d2, d3, d4⟩ := px_goDay h1 h2 g7 g8 g9 h3 g13 g11 hw2 (sp_wo_ok h1 h18) false
  rw [show ((if false = true then 1 else 0) : Int32) = 0 from rfl] at d1
  refine ⟨I2, ?_, d2, d3, fun r a b c d => ?_⟩
  · unfold fX12_dayWithout
    rw [c1, px_bd, px_gd (by decide), px_gd (by decide), show (12 : Int32).toNatClampNeg = 12 by decide, c2' 12 (by decide) (fun h => absurd h (by decide)), px_wo _ (rx_ok_h h18 h1) _ hs, d1, px_bd]
  · rw [d4 r a b c d, ab_u_o c]
    exact c3 r c
theorem sp_day_12 (hn : np ≤ 6) (w : Nat → Nat) : sp_day F hrs np false fa w nb 12 = w 12 := by
  unfold sp_day
  rw [sp_up_ne (by decide)]
  exact sp_dy_12 hn nb
theorem px_lostBy {D : Nat → Nat} {p : Nat} {b : Bool} (hq : rx_dyn q) (hn : np ≤ 6) (hp : p < np) (hw : rx_is np (rx_v I q) w) (hD : rx_is np (rx_v I 26) D) (hh : D 12 < 64) (hb : (D 12).testBit p = b) : fX1_lostBy q (nI p) I = some (if b = true then nI (w p) - nI (D p) else 3) := by
  unfold fX1_lostBy fX1_lostBy_31
  rw [px_isHere (rx_here hD) hh (by omega), px_bd, hb]
  by_cases e : b = true
  · rw [if_pos e, if_neg (by decide), if_pos e, px_gd (px_ix (by omega) (by decide)), px_gd (px_ix (by omega) (by decide)), nI_clamp (by omega), rx_has hw hn hp, rx_has hD hn hp]
  · rw [if_neg e, if_pos rfl, if_neg e]
variable {p o : Nat} {D : Nat → Nat → Nat}
def sp_sA (w : Nat → Nat) (D : Nat → Nat → Nat) (p k : Nat) : Int32 := if k / 2 = 0 then 3 else nI (w p) - nI (D k p)
def sp_sB (w : Nat → Nat) (D : Nat → Nat → Nat) (o k : Nat) : Int32 := if k % 2 = 0 then 3 else nI (w o) - nI (D k o)
theorem px_rests1 (hQ : rx_Q I P np nb fa hrs F q w) (hp : p < np) (ho : o < np) (hpo : p ≠ o) (hbp : (w 12).testBit p = true) (hbo : (w 12).testBit o = true) (hD : ∀ k, D k = sp_day F hrs np false fa (sp_up w 12 (sp_wo (w 12) (sp_aw p o k))) nb) :
    ∃ I', ab_it (fun s : Int32 × ab_I => fX1_restsOfTwo_3 q (nI p) (nI o) s.1 s.2) 5000 (0, I) = fX1_restsOfTwo_84 q (nI p) (nI o) I' ∧ (∀ k, k < 4 → I' 31 k = sp_sA w D p k ∧ I' 32 k = sp_sB w D o k) ∧ ∀ r, ¬ rx_sc r → I' r = I r := by
  obtain ⟨h1, h2, h3, h4, h5, h6, h7, h8, h9, h10, h11, h12, h13, h14, h15, h16, h17, h18⟩ := id hQ
  have hh := rx_ok_h h18 h1
  have st : ∀ k I2, k < 4 → (∀ j, j < k → I2 31 j = sp_sA w D p j ∧ I2 32 j = sp_sB w D o j) → (∀ r, ¬ rx_sc r → I2 r = I r) → ∃ I3, fX1_restsOfTwo_3 q (nI p) (nI o) (nI k) I2 = some (.inl (nI (k + 1), I3)) ∧ (∀ j, j < k + 1 → I3 31 j = sp_sA w D p j ∧ I3 32 j = sp_sB w D o j) ∧ (∀ r, ¬ rx_sc r → I3 r = I r) := by
    intro k I2 hk e1 e2
    have hQ2 := rx_Q_sc hQ e2
    obtain ⟨I3, c1, c2, c3, c4⟩ := px_passWithoutR hQ2 (s := sp_aw p o k) (sp_aw64 p (by omega) o (by omega) k hk)
    rw [← hD k] at c2
    have hD12 : D k 12 = sp_wo (w 12) (sp_aw p o k) := by rw [hD, sp_day_12 h1, sp_up_at]
    have h64 : D k 12 < 64 := by rw [hD12]; exact Nat.lt_of_le_of_lt (sp_wo_le _ _) hh
    have hw3 : rx_is np (rx_v I3 q) w := rx_is_c (fun j hj g => by rw [c4 (q + j) (by rcases h15 with rfl | ⟨i, rfl⟩ <;> omega) (by rcases h15 with rfl | ⟨i, rfl⟩ <;> omega) (by rcases h15 with rfl | ⟨i, rfl⟩ <;> omega) (by rcases h15 with rfl | ⟨i, rfl⟩ <;> omega)]) hQ2.2.2.2.2.2.2.2.2.2.2.2.2.2.2.2.1
    have l1 := px_lostBy (b := decide (¬ k / 2 = 0)) h15 h1 hp hw3 c2 h64 (by rw [hD12]; exact sp_aw_p _ hh p (by omega) o (by omega) k hk hpo hbp)
    have hw4 : ∀ x, rx_is np (rx_v (ab_u I3 31 k x) q) w := fun x => rx_is_c (fun j hj g => by rw [ab_u_o (by rcases h15 with rfl | ⟨i, rfl⟩ <;> omega)]) hw3
    have hc4 : ∀ x, rx_is np (rx_v (ab_u I3 31 k x) 26) (D k) := fun x => rx_is_c (fun j hj g => by rw [ab_u_o (by omega)]) c2
    have l2 := fun x => px_lostBy (b := decide (¬ k % 2 = 0)) h15 h1 ho (hw4 x) (hc4 x) h64 (by rw [hD12]; exact sp_aw_o _ hh p (by omega) o (by omega) k hk hpo hbo)
    have eA : (if decide (¬ k / 2 = 0) = true then nI (w p) - nI (D k p) else 3) = sp_sA w D p k := by
      unfold sp_sA
      by_cases e : k / 2 = 0
      · rw [if_pos e, if_neg (by simp [e])]
      · rw [if_neg e, if_pos (by simp [e])]
    have eB : (if decide (¬ k % 2 = 0) = true then nI (w o) - nI (D k o) else 3) = sp_sB w D o k := by
      unfold sp_sB
      by_cases e : k % 2 = 0
      · rw [if_pos e, if_neg (by simp [e])]
      · rw [if_neg e, if_pos (by simp [e])]
    rw [eA] at l1
    refine ⟨ab_u (ab_u I3 31 k (sp_sA w D p k)) 32 k (sp_sB w D o k), ?_, fun j hj => ?_, fun r hr => ?_⟩
    · have hb : ∀ s0 s1, s0 ||| s1 = nI (sp_aw p o k) → fX1_restsOfTwo_41 q (nI p) (nI o) (nI k) s0 s1 I2 = some (.inl (nI (k + 1), ab_u (ab_u I3 31 k (sp_sA w D p k)) 32 k (sp_sB w D o k))) := fun s0 s1 hs => by
        unfold fX1_restsOfTwo_41
        rw [hs, c1, px_bd]
        dsimp only
        rw [l1, px_bd, px_gd (px_ix hk (by decide)), nI_clamp (by omega), l2, px_bd, px_gd (px_ix hk (by decide)), eB, ← nI_succ]
      have hx := sp_aw_x p (by omega) o (by omega) k hk
      unfold fX1_restsOfTwo_3 fX1_restsOfTwo_23
      rw [if_neg (show ¬ (4 : Int32) ≤ nI k from nI_ge (b := 4) hk (by decide))]
      by_cases x1 : (nI k &&& (2 : Int32)) = 0
      · rw [if_pos x1]
        rw [if_pos x1] at hx
        by_cases x2 : (nI k &&& (1 : Int32)) = 0
        · rw [if_pos x2]; rw [if_pos x2] at hx
          exact hb _ _ hx
        · rw [if_neg x2]; rw [if_neg x2] at hx
          exact hb _ _ hx
      · rw [if_neg x1]
        rw [if_neg x1] at hx
        by_cases x2 : (nI k &&& (1 : Int32)) = 0
        · rw [if_pos x2]; rw [if_pos x2] at hx
          exact hb _ _ hx
        · rw [if_neg x2]; rw [if_neg x2] at hx
          exact hb _ _ hx
    · by_cases ej : j = k
      · subst ej
        exact ⟨by rw [ab_u_o (by decide), ab_u_at], ab_u_at⟩
      · obtain ⟨y1, y2⟩ := e1 j (by omega)
        exact ⟨by rw [ab_u_o (by decide), ab_u_ne ej, c4 31 (by decide) (by decide) (by decide) (by decide)]; exact y1, by rw [ab_u_ne ej, ab_u_o (by decide), c4 32 (by decide) (by decide) (by decide) (by decide)]; exact y2⟩
    · have hr' := hr
      unfold rx_sc at hr
      rw [ab_u_o (by omega), ab_u_o (by omega), c4 r (by omega) (by omega) (by omega) (by omega)]
      exact e2 r hr'
  obtain ⟨J1, s1, t1, u1⟩ := st 0 I (by decide) (fun j hj => absurd hj (Nat.not_lt_zero j)) (fun _ _ => rfl)
  obtain ⟨J2, s2, t2, u2⟩ := st 1 J1 (by decide) t1 u1
  obtain ⟨J3, s3, t3, u3⟩ := st 2 J2 (by decide) t2 u2
  obtain ⟨J4, s4, t4, u4⟩ := st 3 J3 (by decide) t3 u3
  refine ⟨J4, ?_, t4, u4⟩
  refine px_it4 (n := 4995) (body := fun s : Int32 × ab_I => fX1_restsOfTwo_3 q (nI p) (nI o) s.1 s.2) (s0 := (nI 0, I)) (s1 := (nI 1, J1)) (s2 := (nI 2, J2)) (s3 := (nI 3, J3)) (s4 := (nI 4, J4)) s1 s2 s3 s4 ?_
  dsimp only
  unfold fX1_restsOfTwo_3
  rw [if_pos (show (4 : Int32) ≤ nI 4 by decide)]
def sp_st (A B : Nat → Int32) (k : Nat) : Bool := decide (¬ A (k ^^^ 2) < A k) && decide (¬ B (k ^^^ 1) < B k)
theorem px_rests2 {A B : Nat → Int32} (hA : ∀ k, k < 4 → I 31 k = A k ∧ I 32 k = B k) :
    ∃ I', fX1_restsOfTwo_84 q (nI p) (nI o) I = some (nI ((sp_st A B 0).toNat + (sp_st A B 1).toNat + (sp_st A B 2).toNat + (sp_st A B 3).toNat), I') ∧ (∀ k, k < 4 → sp_st A B k = true → (∀ j, j < k → sp_st A B j = false) → I' 33 0 = nI (k / 2) ∧ I' 33 1 = nI (k % 2)) ∧ ∀ r, r ≠ 33 → I' r = I r := by
  have st : ∀ k c I2, k < 4 → (∀ r, r ≠ 33 → I2 r = I r) → ∃ I3, fX1_restsOfTwo_90 q (nI p) (nI o) (nI c) (nI k) I2 = some (.inl (nI (c + (sp_st A B k).toNat), nI k + (-1 : Int32), I3)) ∧ (sp_st A B k = true → I3 33 0 = nI (k / 2) ∧ I3 33 1 = nI (k % 2)) ∧ (sp_st A B k = false → I3 = I2) ∧ (∀ r, r ≠ 33 → I3 r = I r) := by
    intro k c I2 hk e
    have x2 : ∀ k, k < 4 → nI k ^^^ (2 : Int32) = nI (k ^^^ 2) ∧ k ^^^ 2 < 4 := by decide
    have x1 : ∀ k, k < 4 → nI k ^^^ (1 : Int32) = nI (k ^^^ 1) ∧ k ^^^ 1 < 4 := by decide
    have x3 : ∀ k, k < 4 → nI k >>> ((1 : Int32) &&& 31) = nI (k / 2) ∧ nI k &&& (1 : Int32) = nI (k % 2) := by decide
    unfold fX1_restsOfTwo_90 fX1_restsOfTwo_119 fX1_restsOfTwo_145 fX1_restsOfTwo_180
    rw [if_neg (nI_pos (by omega)), (x2 k hk).1, (x1 k hk).1, px_gd (px_ix (x2 k hk).2 (by decide)), px_gd (px_ix hk (by decide)), nI_clamp (n := k ^^^ 2) (by have := (x2 k hk).2; omega), nI_clamp (n := k) (by omega), e 31 (by decide), e 32 (by decide), (hA _ (x2 k hk).2).1, (hA k hk).1, nI_clamp (n := k ^^^ 1) (by have := (x1 k hk).2; omega), (hA _ (x1 k hk).2).2, (hA k hk).2, (x3 k hk).1, (x3 k hk).2, px_gd (px_ix (x1 k hk).2 (by decide)), px_gd (px_ix hk (by decide)), px_gd (px_ix (x1 k hk).2 (by decide)), px_gd (px_ix hk (by decide))]
    by_cases a : A (k ^^^ 2) < A k
    · have hs : sp_st A B k = false := by unfold sp_st; simp [a]
      rw [if_pos a, if_pos rfl, hs]
      refine ⟨I2, ?_, fun h => absurd h (by decide), fun _ => rfl, e⟩
      split <;> rfl
    · rw [if_neg a]
      by_cases b : B (k ^^^ 1) < B k
      · have hs : sp_st A B k = false := by unfold sp_st; simp [b]
        rw [if_pos b, if_neg (by decide), if_pos rfl, hs]
        exact ⟨I2, rfl, fun h => absurd h (by decide), fun _ => rfl, e⟩
      · have hs : sp_st A B k = true := by unfold sp_st; simp [a, b]
        rw [if_neg b, if_neg (by decide), if_neg (by decide), px_gd (by decide), px_gd (by decide), hs, ← nI_succ]
        refine ⟨_, rfl, fun _ => ⟨?_, ?_⟩, fun h => absurd h (by decide), fun r hr => ?_⟩
        · rw [show (0 : Int32).toNatClampNeg = 0 from rfl, show (1 : Int32).toNatClampNeg = 1 from rfl, ab_u_ne (by decide), ab_u_at]
        · rw [show (1 : Int32).toNatClampNeg = 1 from rfl, ab_u_at]
        · rw [ab_u_o hr, ab_u_o hr]; exact e r hr
  obtain ⟨J1, s1, t1, v1, u1⟩ := st 3 0 I (by decide) (fun _ _ => rfl)
  obtain ⟨J2, s2, t2, v2, u2⟩ := st 2 (0 + (sp_st A B 3).toNat) J1 (by decide) u1
  obtain ⟨J3, s3, t3, v3, u3⟩ := st 1 (0 + (sp_st A B 3).toNat + (sp_st A B 2).toNat) J2 (by decide) u2
  obtain ⟨J4, s4, t4, v4, u4⟩ := st 0 (0 + (sp_st A B 3).toNat + (sp_st A B 2).toNat + (sp_st A B 1).toNat) J3 (by decide) u3
  refine ⟨J4, ?_, fun k hk e1 e2 => ?_, u4⟩
  · unfold fX1_restsOfTwo_84
    refine px_it4 (n := 4995) (body := fun s : Int32 × Int32 × ab_I => fX1_restsOfTwo_90 q (nI p) (nI o) s.1 s.2.1 s.2.2) (s0 := (nI 0, nI 3, I)) (s1 := (nI (0 + (sp_st A B 3).toNat), nI 2, J1)) (s2 := (nI (0 + (sp_st A B 3).toNat + (sp_st A B 2).toNat), nI 1, J2)) (s3 := (nI (0 + (sp_st A B 3).toNat + (sp_st A B 2).toNat + (sp_st A B 1).toNat), nI 0, J3)) (s4 := (nI (0 + (sp_st A B 3).toNat + (sp_st A B 2).toNat + (sp_st A B 1).toNat + (sp_st A B 0).toNat), -1, J4)) s1 s2 s3 s4 ?_
    dsimp only
    unfold fX1_restsOfTwo_90 fX1_restsOfTwo_186
    rw [if_pos (by decide)]
    rw [show 0 + (sp_st A B 3).toNat + (sp_st A B 2).toNat + (sp_st A B 1).toNat + (sp_st A B 0).toNat = (sp_st A B 0).toNat + (sp_st A B 1).toNat + (sp_st A B 2).toNat + (sp_st A B 3).toNat by omega]
  · match k, hk with
    | 0, _ => exact t4 e1
    | 1, _ => rw [v4 (e2 0 (by decide))]; exact t3 e1
    | 2, _ => rw [v4 (e2 0 (by decide)), v3 (e2 1 (by decide))]; exact t2 e1
    | 3, _ => rw [v4 (e2 0 (by decide)), v3 (e2 1 (by decide)), v2 (e2 2 (by decide))]; exact t1 e1
theorem px_mstays (hQ : rx_Q I P np nb fa hrs F q w) (hp : p < np) (ho : o < np) (hD : ∀ k, D k = sp_day F hrs np false fa (sp_up w 12 (sp_wo (w 12) (sp_aw p o k))) nb) :
    ∃ I', fX12_layStays (nI p) (nI o) I = some I' ∧ (∀ k, k < 4 → I' 96 k = sp_sA w D p k ∧ I' 97 k = sp_sB w D o k) ∧ ∀ r, ¬ rx_sc r → I' r = I r := by
  obtain ⟨h1, h2, h3, h4, h5, h6, h7, h8, h9, h10, h11, h12, h13, h14, h15, h16, h17, h18⟩ := id hQ
  have hh := rx_ok_h h18 h1
  have key := px_for (body := fun s : Int32 × ab_I => fX12_layStays_2 (nI p) (nI o) s.1 s.2) (Out := fun x : ab_I => (∀ k, k < 4 → x 96 k = sp_sA w D p k ∧ x 97 k = sp_sB w D o k) ∧ ∀ r, ¬ rx_sc r → x r = I r)
    (fun i s => s.1 = nI i ∧ (∀ k, k < i → s.2 96 k = sp_sA w D p k ∧ s.2 97 k = sp_sB w D o k) ∧ ∀ r, ¬ rx_sc r → s.2 r = I r) 4 ?_ ?_ 4 0 5000 (0, I) (by omega) (by omega) ⟨rfl, fun k hk => absurd hk (Nat.not_lt_zero k), fun _ _ => rfl⟩
  · obtain ⟨x, k1, k2⟩ := key
    exact ⟨x, k1, k2⟩
  · rintro k ⟨a1, I2⟩ hk ⟨e1, e2, e3⟩
    dsimp only at e1 e2 e3 ⊢
    subst e1
    have hQ2 := rx_Q_sc hQ e3
    obtain ⟨I3, c1, c2, c3, c4⟩ := px_dayWithoutR hQ2 (s := sp_aw p o k) (sp_aw64 p (by omega) o (by omega) k hk)
    rw [← hD k] at c2
    have n89 : ∀ x, x < np → I3 89 x = nI (w x) := fun x hx => by rw [c4 89 (by decide) (by decide) (by decide) (by decide)]; exact hQ2.2.2.2.2.2.2.2.2.2.2.2.2.2.2.2.2.1 x (by omega) (fun _ => hx)
    have n90 : ∀ x, x < np → I3 90 x = nI (D k x) := fun x hx => c2 x (by omega) (fun _ => hx)
    have d2 : ∀ k, k < 4 → (nI k / (2 : Int32) = 0 ↔ k / 2 = 0) ∧ (nI k - nI k / (2 : Int32) * (2 : Int32) = 0 ↔ k % 2 = 0) := by decide
    have hb : ∀ s2, s2 = sp_sA w D p k → fX12_layStays_55 (nI p) (nI o) (nI k) (nI k) s2 I3 = some (.inl (nI (k + 1), ab_u (ab_u I3 96 k (sp_sA w D p k)) 97 k (sp_sB w D o k))) := fun s2 hs => by
      subst hs
      unfold fX12_layStays_55 fX12_layStays_84
      rw [px_gd (px_ix hk (by decide)), nI_clamp (n := k) (by omega), nI_clamp (n := o) (by omega), n89 o ho, n90 o ho, ← nI_succ]
      unfold sp_sB
      by_cases x : k % 2 = 0
      · rw [if_pos ((d2 k hk).2.mpr x), if_pos x, px_gd (px_ix hk (by decide))]
      · rw [if_neg (fun h => x ((d2 k hk).2.mp h)), if_neg x, px_gd (px_ix (by omega) (by decide)), px_gd (px_ix (by omega) (by decide)), px_gd (px_ix hk (by decide))]
    refine ⟨(nI (k + 1), ab_u (ab_u I3 96 k (sp_sA w D p k)) 97 k (sp_sB w D o k)), ?_, rfl, fun j hj => ?_, fun r hr => ?_⟩
    · unfold fX12_layStays_2
      rw [if_neg (show ¬ (4 : Int32) ≤ nI k from nI_ge (b := 4) hk (by decide)), sp_aw_m p (by omega) o (by omega) k hk, c1, px_bd]
      dsimp only
      by_cases x : k / 2 = 0
      · rw [if_pos ((d2 k hk).1.mpr x)]
        exact hb _ (by unfold sp_sA; rw [if_pos x])
      · rw [if_neg (fun h => x ((d2 k hk).1.mp h)), px_gd (px_ix (by omega) (by decide)), px_gd (px_ix (by omega) (by decide)), nI_clamp (n := p) (by omega), n89 p hp, n90 p hp]
        exact hb _ (by unfold sp_sA; rw [if_neg x])
    · show ab_u (ab_u I3 96 k (sp_sA w D p k)) 97 k (sp_sB w D o k) 96 j = _ ∧ ab_u (ab_u I3 96 k (sp_sA w D p k)) 97 k (sp_sB w D o k) 97 j = _
      by_cases ej : j = k
      · subst ej
        exact ⟨by rw [ab_u_o (by decide), ab_u_at], ab_u_at⟩
      · obtain ⟨y1, y2⟩ := e2 j (by omega)
        exact ⟨by rw [ab_u_o (by decide), ab_u_ne ej, c4 96 (by decide) (by decide) (by decide) (by decide)]; exact y1, by rw [ab_u_ne ej, ab_u_o (by decide), c4 97 (by decide) (by decide) (by decide) (by decide)]; exact y2⟩
    · show ab_u (ab_u I3 96 k (sp_sA w D p k)) 97 k (sp_sB w D o k) r = _
      have hr' := hr
      unfold rx_sc at hr
      rw [ab_u_o (by omega), ab_u_o (by omega), c4 r (by omega) (by omega) (by omega) (by omega)]
      exact e3 r hr'
  · rintro ⟨a1, I2⟩ ⟨e1, e2, e3⟩
    dsimp only at e1 e2 e3 ⊢
    subst e1
    unfold fX12_layStays_2 fX12_layStays_91
    rw [if_pos (show (4 : Int32) ≤ nI 4 by decide)]
    exact ⟨_, rfl, e2, e3⟩
theorem px_mstay2 {A B : Nat → Int32} (hA : ∀ k, k < 4 → I 96 k = A k ∧ I 97 k = B k) (h0 : I 73 54 = 0) :
    ∃ I', ab_it (fun s : Int32 × Int32 × ab_I => fX12_staying_55 (nI p) (nI o) s.1 s.2.1 s.2.2) 5000 (0, 0, I) = some (nI ((sp_st A B 0).toNat + (sp_st A B 1).toNat + (sp_st A B 2).toNat + (sp_st A B 3).toNat), I') ∧ (∀ k, k < 4 → sp_st A B k = true → (∀ j, j < k → sp_st A B j = false) → I' 93 0 = nI (k / 2) ∧ I' 93 1 = nI (k % 2) ∧ I' 73 54 = 2) ∧ ((∀ j, j < 4 → sp_st A B j = false) → I' = I) ∧ ∀ r k, r ≠ 93 → ¬ (r = 73 ∧ k = 54) → I' r k = I r k := by
  have st : ∀ k c I2, k < 4 → c < 100 → (∀ r k, r ≠ 93 → ¬ (r = 73 ∧ k = 54) → I2 r k = I r k) → ∃ I3, fX12_staying_55 (nI p) (nI o) (nI c) (nI k) I2 = some (.inl (nI (c + (sp_st A B k).toNat), nI k + (1 : Int32), I3)) ∧ (sp_st A B k = true → c = 0 → I3 93 0 = nI (k / 2) ∧ I3 93 1 = nI (k % 2) ∧ I3 73 54 = 2) ∧ (sp_st A B k = false ∨ 0 < c → I3 = I2) ∧ (∀ r k, r ≠ 93 → ¬ (r = 73 ∧ k = 54) → I3 r k = I r k) := by
    intro k c I2 hk hc e
    have x2 : ∀ k, k < 4 → (nI k + (2 : Int32)) - (nI k + (2 : Int32)) / (4 : Int32) * (4 : Int32) = nI (k ^^^ 2) ∧ k ^^^ 2 < 4 := by decide
    have x1 : ∀ k, k < 4 → (((nI k / (2 : Int32)) * (2 : Int32)) + (1 : Int32)) - (nI k - nI k / (2 : Int32) * (2 : Int32)) = nI (k ^^^ 1) ∧ k ^^^ 1 < 4 := by decide
    have x3 : ∀ k, k < 4 → nI k / (2 : Int32) = nI (k / 2) ∧ nI k - nI k / (2 : Int32) * (2 : Int32) = nI (k % 2) := by decide
    have f1 : ∀ j, I2 96 j = I 96 j := fun j => e 96 j (by decide) (by omega)
    have f2 : ∀ j, I2 97 j = I 97 j := fun j => e 97 j (by decide) (by omega)
    unfold fX12_staying_55 fX12_staying_142 fX12_staying_145
    rw [if_neg (show ¬ (4 : Int32) ≤ nI k from nI_ge (b := 4) hk (by decide)), (x2 k hk).1, (x1 k hk).1, px_gd (px_ix (x2 k hk).2 (by decide)), px_gd (px_ix hk (by decide)), nI_clamp (n := k ^^^ 2) (by have := (x2 k hk).2; omega), nI_clamp (n := k) (by omega), nI_clamp (n := k ^^^ 1) (by have := (x1 k hk).2; omega), f1, f1, f2, f2, (hA _ (x2 k hk).2).1, (hA k hk).1, (hA _ (x1 k hk).2).2, (hA k hk).2, (x3 k hk).2, (x3 k hk).1]
    by_cases a : A (k ^^^ 2) < A k
    · have hs : sp_st A B k = false := by unfold sp_st; simp [a]
      rw [if_pos a, hs]
      exact ⟨I2, rfl, fun h => absurd h (by decide), fun _ => rfl, e⟩
    · rw [if_neg a, px_gd (px_ix (x1 k hk).2 (by decide)), px_gd (px_ix hk (by decide))]
      by_cases b : B (k ^^^ 1) < B k
      · have hs : sp_st A B k = false := by unfold sp_st; simp [b]
        have b' : ¬ B k ≤ B (k ^^^ 1) := fun h => Int32.lt_irrefl (Int32.lt_of_lt_of_le b h)
        rw [if_neg b', hs]
        exact ⟨I2, rfl, fun h => absurd h (by decide), fun _ => rfl, e⟩
      · have hs : sp_st A B k = true := by unfold sp_st; simp [a, b]
        have b' : B k ≤ B (k ^^^ 1) := Int32.not_lt.mp b
        rw [if_pos b', hs]
        by_cases c0 : c = 0
        · subst c0
          rw [if_pos (by decide), px_gd (by decide), px_gd (by decide), ← nI_succ]
          refine ⟨_, rfl, fun _ _ => ⟨?_, ?_, ?_⟩, fun h => h.elim (fun h => absurd h (by decide)) (fun h => absurd h (by decide)), fun r k h1 h2 => ?_⟩
          · rw [show (0 : Int32).toNatClampNeg = 0 from rfl, show (1 : Int32).toNatClampNeg = 1 from rfl, ab_u_o (by decide), ab_u_ne (by decide), ab_u_at]
          · rw [show (1 : Int32).toNatClampNeg = 1 from rfl, ab_u_o (by decide), ab_u_at]
          · rw [ab_u_at]
          · rw [px_u h2, ab_u_o h1, ab_u_o h1]; exact e r k h1 h2
        · rw [if_neg (nI_ne0 (by omega) (by omega)), ← nI_succ]
          exact ⟨_, rfl, fun _ h => absurd h c0, fun _ => rfl, e⟩
  have tl : ∀ b : Bool, b.toNat ≤ 1 := by decide
  have l0 := tl (sp_st A B 0)
  have l1 := tl (sp_st A B 1)
  have l2 := tl (sp_st A B 2)
  obtain ⟨J1, s1, t1, v1, u1⟩ := st 0 0 I (by decide) (by decide) (fun _ _ _ _ => rfl)
  obtain ⟨J2, s2, t2, v2, u2⟩ := st 1 (0 + (sp_st A B 0).toNat) J1 (by decide) (by omega) u1
  obtain ⟨J3, s3, t3, v3, u3⟩ := st 2 (0 + (sp_st A B 0).toNat + (sp_st A B 1).toNat) J2 (by decide) (by omega) u2
  obtain ⟨J4, s4, t4, v4, u4⟩ := st 3 (0 + (sp_st A B 0).toNat + (sp_st A B 1).toNat + (sp_st A B 2).toNat) J3 (by decide) (by omega) u3
  refine ⟨J4, ?_, fun k hk e1 e2 => ?_, fun e => ?_, u4⟩
  · refine px_it4 (n := 4995) (body := fun s : Int32 × Int32 × ab_I => fX12_staying_55 (nI p) (nI o) s.1 s.2.1 s.2.2) (s0 := (nI 0, nI 0, I)) (s1 := (nI (0 + (sp_st A B 0).toNat), nI 1, J1)) (s2 := (nI (0 + (sp_st A B 0).toNat + (sp_st A B 1).toNat), nI 2, J2)) (s3 := (nI (0 + (sp_st A B 0).toNat + (sp_st A B 1).toNat + (sp_st A B 2).toNat), nI 3, J3)) (s4 := (nI (0 + (sp_st A B 0).toNat + (sp_st A B 1).toNat + (sp_st A B 2).toNat + (sp_st A B 3).toNat), nI 4, J4)) s1 s2 s3 s4 ?_
    dsimp only
    unfold fX12_staying_55 fX12_staying_151
    rw [if_pos (by decide), Nat.zero_add]
  · match k, hk with
    | 0, _ =>
      have p0 : 0 < 0 + (sp_st A B 0).toNat := by rw [e1]; decide
      rw [v4 (Or.inr (by omega)), v3 (Or.inr (by omega)), v2 (Or.inr (by omega))]
      exact t1 e1 rfl
    | 1, _ =>
      have z0 := e2 0 (by decide)
      have p0 : 0 < 0 + (sp_st A B 0).toNat + (sp_st A B 1).toNat := by rw [e1, z0]; decide
      rw [v4 (Or.inr (by omega)), v3 (Or.inr (by omega))]
      exact t2 e1 (by rw [z0]; rfl)
    | 2, _ =>
      have z0 := e2 0 (by decide)
      have z1 := e2 1 (by decide)
      have p0 : 0 < 0 + (sp_st A B 0).toNat + (sp_st A B 1).toNat + (sp_st A B 2).toNat := by rw [e1, z0, z1]; decide
      rw [v4 (Or.inr (by omega))]
      exact t3 e1 (by rw [z0, z1]; rfl)
    | 3, _ =>
      exact t4 e1 (by rw [e2 0 (by decide), e2 1 (by decide), e2 2 (by decide)]; rfl)
  · rw [v4 (Or.inl (e 3 (by decide))), v3 (Or.inl (e 2 (by decide))), v2 (Or.inl (e 1 (by decide))), v1 (Or.inl (e 0 (by decide)))]
end PR17
