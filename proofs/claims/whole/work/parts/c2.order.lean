/-! ===== pairs: order ===== -/
section ORDP
variable {S : ab_S} {I : ab_I} {J : ab_J} {P : ab_P} {l : Launch} {G : ab_G} {np nb fa q dm : Nat} {hrs : Nat → Int32} {F : Int32 → Int32 → Int32 → Int32 → Int32 → Int32 → Int32} {w : Nat → Nat} {f : Nat → Nat}
/-- the bells rung in the order f -/
def or_go (F : Int32 → Int32 → Int32 → Int32 → Int32 → Int32 → Int32) (hrs : Nat → Int32) (np fa : Nat) (w : Nat → Nat) (f : Nat → Nat) : Nat → (Nat → Nat) × Nat
  | 0 => (w, 0)
  | n + 1 => (sp_ring F (hrs (f n)) (or_go F hrs np fa w f n).1 (f n) np false fa, (or_go F hrs np fa w f n).2 + sp_lost F (hrs (f n)) (or_go F hrs np fa w f n).1 (f n) np)
theorem or_go_ok (hn : np ≤ 6) (ho : rx_ok np nb dm w) (hf : ∀ j, j < nb → f j < 5) : ∀ i, i ≤ nb → rx_ok np nb dm (or_go F hrs np fa w f i).1
  | 0, _ => ho
  | i + 1, h => sp_ring_ok hn (hf i (by omega)) (or_go_ok hn ho hf i (by omega))
theorem or_go_le (hn : np ≤ 6) (ho : rx_ok np nb dm w) (hf : ∀ j, j < nb → f j < 5) : ∀ i, i ≤ nb → (or_go F hrs np fa w f i).2 ≤ 20 * i
  | 0, _ => Nat.le_refl _
  | i + 1, h => by
    have ih := or_go_le hn ho hf i (by omega)
    have := sp_lost_le (F := F) (hr := hrs (f i)) hn (hf i (by omega)) (or_go_ok (F := F) (hrs := hrs) (fa := fa) hn ho hf i (by omega))
    rw [or_go]
    dsimp only
    omega
theorem px_lostT (hQ : rx_Q I P np nb fa hrs F q w) (hf : ∀ j, j < nb → I 39 j = nI (f j) ∧ f j < nb) : ∃ I', fX3_lostByTried q I = some (nI (or_go F hrs np fa w f nb).2, I') ∧ ∀ r, r ≠ 9 → r ≠ 10 → r ≠ 24 → (r < 35 ∨ 38 < r) → I' r = I r := by
  obtain ⟨h1, h2, h3, h4, h5, h6, h7, h8, h9, h10, h11, h12, h13, h14, h15, h16, h17, h18⟩ := id hQ
  obtain ⟨I1, c1, c2, c3⟩ := px_copy (I := I) (q0 := 35) (q1 := q) (by rcases h15 with rfl | ⟨i, rfl⟩ <;> omega)
  have c2' : rx_is np (rx_v I1 35) w := fun k a b => by rw [c2 k a]; exact h16 k a b
  have hf5 : ∀ j, j < nb → f j < 5 := fun j hj => by have := (hf j hj).2; omega
  have key := px_for (body := fun s : Int32 × Int32 × ab_I => fX3_lostByTried_12 q s.1 s.2.1 s.2.2) (Out := fun x : Int32 × ab_I => x.1 = nI (or_go F hrs np fa w f nb).2 ∧ ∀ r, r ≠ 9 → r ≠ 10 → r ≠ 24 → (r < 35 ∨ 38 < r) → x.2 r = I r)
    (fun i s => s.1 = nI (or_go F hrs np fa w f i).2 ∧ s.2.1 = nI i ∧ rx_is np (rx_v s.2.2 35) (or_go F hrs np fa w f i).1 ∧ ∀ r, r ≠ 9 → r ≠ 10 → r ≠ 24 → (r < 35 ∨ 38 < r) → s.2.2 r = I r) nb ?_ ?_ nb 0 5000 (0, 0, I1) (by omega) (by omega) ⟨rfl, rfl, c2', fun r _ _ _ hr => c3 r hr⟩
  · obtain ⟨⟨x, I2⟩, k1, k2, k3⟩ := key
    dsimp only at k2 k3
    refine ⟨I2, ?_, k3⟩
    unfold fX3_lostByTried
    rw [c1, px_bd, k1, k2]
  · rintro i ⟨s1, s2, I2⟩ hi ⟨e1, e2, e3, e4⟩
    dsimp only at e1 e2 e3 e4 ⊢
    subst e1 e2
    have r1 : ∀ r, r < 9 → I2 r = I r := fun r hr => e4 r (by omega) (by omega) (by omega) (by omega)
    obtain ⟨y1, y2⟩ := hf i hi
    obtain ⟨I3, d1, d2, d3, d4⟩ := px_ringBell (I := I2) (q := 35) (by omega) h1 (hf5 i hi) (by rw [r1 3 (by omega)]; exact h4) (by rw [r1 3 (by omega)]; exact h6) h3 (by rw [r1 8 (by omega), r1 7 (by omega)]; exact h12) e3 (or_go_ok h1 h18 hf5 i (by omega)) false
    rw [show ((if false = true then 1 else 0) : Int32) = 0 from rfl, r1 5 (by omega), h10 _ y2] at d1
    rw [r1 5 (by omega), h10 _ y2] at d2
    unfold fX3_lostByTried_12
    rw [r1 3 (by omega), h5, if_neg (nI_ge hi (by omega)), px_gd (px_ix (by omega) (by decide)), nI_clamp (by omega), e4 39 (by decide) (by decide) (by decide) (by decide), y1, d1, px_bd, px_add]
    refine ⟨_, rfl, rfl, (nI_succ i).symm, d2, fun r a b c d => ?_⟩
    dsimp only
    rw [d4 r a b c d]; exact e4 r a b c d
  · rintro ⟨s1, s2, I2⟩ ⟨e1, e2, e3, e4⟩
    dsimp only at e1 e2 e3 e4 ⊢
    subst e1 e2
    unfold fX3_lostByTried_12 fX3_lostByTried_50
    rw [e4 3 (by decide) (by decide) (by decide) (by decide), h5, if_pos (nI_le (Nat.le_refl _) (by omega))]
    exact ⟨_, rfl, rfl, e4⟩
/-- the reference: the bells are rung, then the body goes on -/
theorem px_lostM {a1 : Int32} (hQ : rx_Q I P np nb fa hrs F q w) (hf : ∀ j, j < nb → I 94 j = nI (f j) ∧ f j < nb) (h90 : rx_is np (I 90) w) : ∃ I', ab_it (fun s : Int32 × Int32 × Int32 × ab_I => fX12_order_42 s.1 s.2.1 s.2.2.1 s.2.2.2) 5000 (a1, 0, 0, I) = fX12_order_72 a1 (nI (or_go F hrs np fa w f nb).2) I' ∧ ∀ r, r ≠ 81 → r ≠ 82 → r ≠ 90 → r ≠ 91 → I' r = I r := by
  obtain ⟨h1, h2, h3, h4, h5, h6, h7, h8, h9, h10, h11, h12, h13, h14, h15, h16, h17, h18⟩ := id hQ
  have hf5 : ∀ j, j < nb → f j < 5 := fun j hj => by have := (hf j hj).2; omega
  have st : ∀ d i n I2, i + d = nb → rx_is np (I2 90) (or_go F hrs np fa w f i).1 → (∀ r, r ≠ 81 → r ≠ 82 → r ≠ 90 → r ≠ 91 → I2 r = I r) → ∃ I', ab_it (fun s : Int32 × Int32 × Int32 × ab_I => fX12_order_42 s.1 s.2.1 s.2.2.1 s.2.2.2) (n + d + 1) (a1, nI (or_go F hrs np fa w f i).2, nI i, I2) = fX12_order_72 a1 (nI (or_go F hrs np fa w f nb).2) I' ∧ ∀ r, r ≠ 81 → r ≠ 82 → r ≠ 90 → r ≠ 91 → I' r = I r := by
    intro d
    induction d with
    | zero =>
      intro i n I2 hi e3 e4
      obtain rfl : i = nb := by omega
      refine ⟨I2, ?_, e4⟩
      refine px_itO (body := fun s : Int32 × Int32 × Int32 × ab_I => fX12_order_42 s.1 s.2.1 s.2.2.1 s.2.2.2) ?_
      dsimp only
      unfold fX12_order_42
      rw [e4 73 (by decide) (by decide) (by decide) (by decide), h8, if_pos (nI_le (Nat.le_refl _) (by omega))]
    | succ d ih =>
      intro i n I2 hi e3 e4
      obtain ⟨y1, y2⟩ := hf i (by omega)
      have r1 : ∀ r, r = 73 ∨ r = 78 ∨ r = 79 ∨ r = 87 ∨ r = 94 → I2 r = I r := fun r hr => e4 r (by omega) (by omega) (by omega) (by omega)
      obtain ⟨I3, d1, d2, d3, d4⟩ := px_ring (I := I2) h1 (hf5 i (by omega)) (by rw [r1 73 (by omega)]; exact h7) (by rw [r1 73 (by omega)]; exact h9) h3 (by rw [r1 78 (by omega), r1 79 (by omega), r1 73 (by omega)]; exact h13) e3 (or_go_ok h1 h18 hf5 i (by omega)) false
      rw [show ((if false = true then 1 else 0) : Int32) = 0 from rfl, r1 87 (by omega), h11 _ y2] at d1
      rw [r1 87 (by omega), h11 _ y2] at d2
      obtain ⟨I', k1, k2⟩ := ih (i + 1) n I3 (by omega) d2 (fun r a b c d => (d4 r a b c d).trans (e4 r a b c d))
      refine ⟨I', ?_, k2⟩
      rw [show n + (d + 1) + 1 = (n + d + 1) + 1 by omega]
      refine (px_itL (body := fun s : Int32 × Int32 × Int32 × ab_I => fX12_order_42 s.1 s.2.1 s.2.2.1 s.2.2.2) (s := (a1, nI (or_go F hrs np fa w f i).2, nI i, I2)) (s' := (a1, nI (or_go F hrs np fa w f (i + 1)).2, nI (i + 1), I3)) ?_).trans k1
      dsimp only
      unfold fX12_order_42
      rw [r1 73 (by omega), h8, if_neg (nI_ge (by omega) (by omega)), px_gd (px_ix (by omega) (by decide)), nI_clamp (by omega), r1 94 (by omega), y1, d1, px_bd, px_add, ← nI_succ]
      rfl
  obtain ⟨I', k1, k2⟩ := st nb 0 (4999 - nb) I (by omega) h90 (fun _ _ _ _ _ => rfl)
  rw [show 4999 - nb + nb + 1 = 5000 by omega] at k1
  exact ⟨I', k1, k2⟩
theorem or_stepS (hnb : nb ≤ 5) {i : Nat} (h : i + 1 < or_f nb) : (or_nr (or_r nb i) (nb - 1)).isSome = true ∧ ∀ j, j < nb → or_nx nb (or_r nb i) j = or_r nb (i + 1) j := by
  have := or_step nb (by omega) i (by omega)
  rw [if_pos h, Bool.and_eq_true, List.all_eq_true] at this
  exact ⟨this.1, fun j hj => by simpa using this.2 j (List.mem_range.mpr hj)⟩
theorem or_stepE (hnb : nb ≤ 5) {i : Nat} (h1 : i < or_f nb) (h : ¬ i + 1 < or_f nb) : or_nr (or_r nb i) (nb - 1) = none := by
  have := or_step nb (by omega) i h1
  rw [if_neg h] at this
  simpa using this
theorem or_ltj (hnb : nb ≤ 5) {i j : Nat} (h : i < or_f nb) (hj : j < nb) : or_r nb i j < nb := by
  have := or_lt nb (by omega) i h
  rw [List.all_eq_true] at this
  simpa using this j (List.mem_range.mpr hj)
theorem or_0j (hnb : nb ≤ 5) {j : Nat} (hj : j < nb) : or_r nb 0 j = j := by
  have := or_0 nb (by omega)
  rw [List.all_eq_true] at this
  simpa using this j (List.mem_range.mpr hj)
theorem px_bestOrder (hQ : rx_Q I P np nb fa hrs F q w) {c : Nat → Nat} (hc : ∀ i, c i = (or_go F hrs np fa w (or_r nb i) nb).2) : ∃ m I', sp_lst (fun _ => true) c (or_f nb) = some m ∧ fX3_bestOrder q I = some (nI (c m), I') ∧ (∀ j, j < nb → I' 40 j = nI (or_r nb m j)) ∧ ∀ r, ¬ rx_sc r → I' r = I r := by
  obtain ⟨h1, h2, h3, h4, h5, h6, h7, h8, h9, h10, h11, h12, h13, h14, h15, h16, h17, h18⟩ := id hQ
  obtain ⟨p1, p2⟩ := or_f1 nb (by omega)
  have hcl : ∀ i, i < or_f nb → c i ≤ 100 := fun i hi => by
    have := or_go_le (F := F) (hrs := hrs) (fa := fa) h1 h18 (f := or_r nb i) (fun j hj => by have := or_ltj h2 hi hj; omega) nb (Nat.le_refl _)
    rw [hc]; omega
  -- the main loop
  have main : ∀ I0 : ab_I, (∀ r, ¬ rx_sc r → I0 r = I r) → (∀ j, j < nb → I0 39 j = nI j) → ∃ x, ab_it (fun s : Int32 × Int32 × Int32 × ab_I => fX3_bestOrder_56 q s.1 s.2.1 s.2.2.1 s.2.2.2) 5000 (nI (or_f nb), 0, 0, I0) = some x ∧ (∃ m, sp_lst (fun _ => true) c (or_f nb) = some m ∧ x.1 = nI (c m) ∧ (∀ j, j < nb → x.2 40 j = nI (or_r nb m j)) ∧ ∀ r, ¬ rx_sc r → x.2 r = I r) := by
    intro I0 hI0 h39
    refine px_for (body := fun s : Int32 × Int32 × Int32 × ab_I => fX3_bestOrder_56 q s.1 s.2.1 s.2.2.1 s.2.2.2) (Out := fun x : Int32 × ab_I => ∃ m, sp_lst (fun _ => true) c (or_f nb) = some m ∧ x.1 = nI (c m) ∧ (∀ j, j < nb → x.2 40 j = nI (or_r nb m j)) ∧ ∀ r, ¬ rx_sc r → x.2 r = I r)
      (fun i s => s.1 = nI (or_f nb) ∧ s.2.2.1 = nI i ∧ (i < or_f nb → ∀ j, j < nb → s.2.2.2 39 j = nI (or_r nb i j)) ∧ (match sp_lst (fun _ => true) c i with
        | none => i = 0
        | some m => s.2.1 = nI (c m) ∧ ∀ j, j < nb → s.2.2.2 40 j = nI (or_r nb m j)) ∧ ∀ r, ¬ rx_sc r → s.2.2.2 r = I r) (or_f nb) ?_ ?_ (or_f nb) 0 5000 (nI (or_f nb), 0, 0, I0) (by omega) (by omega) ⟨rfl, rfl, fun _ j hj => by rw [or_0j h2 hj]; exact h39 j hj, rfl, hI0⟩
    · rintro i ⟨s1, s2, s3, I2⟩ hi ⟨e1, e2, e3, e4, e5⟩
      dsimp only at e1 e2 e3 e4 e5 ⊢
      subst e1 e2
      have hQ2 := rx_Q_sc hQ e5
      obtain ⟨I3, c1, c2⟩ := px_lostT (f := or_r nb i) hQ2 (fun j hj => ⟨e3 hi j hj, or_ltj h2 hi hj⟩)
      rw [← hc i] at c1
      have ci := hcl i hi
      have f3 : ∀ r, ¬ rx_sc r → I3 r = I r := fun r hr => by
        have hr' := hr
        unfold rx_sc at hr
        rw [c2 r (by omega) (by omega) (by omega) (by omega)]; exact e5 r hr'
      have g35 : I3 3 5 = nI nb := by rw [f3 3 (by unfold rx_sc; omega)]; exact h5
      have g39 : ∀ j, j < nb → I3 39 j = nI (or_r nb i j) := fun j hj => by rw [c2 39 (by decide) (by decide) (by decide) (by decide)]; exact e3 hi j hj
      have g40 : ∀ j, I3 40 j = I2 40 j := fun j => by rw [c2 40 (by decide) (by decide) (by decide) (by decide)]
      -- the next order behind any heap that is I3 but for row 40
      have nx : ∀ (K : ab_I) (a : Int32), (∀ r, r ≠ 40 → K r = I3 r) → ∃ K', fX3_bestOrder_103 q (nI (or_f nb)) a (nI i) K = some (.inl (nI (or_f nb), a, nI i + 1, K')) ∧ (i + 1 < or_f nb → ∀ j, j < nb → K' 39 j = nI (or_r nb (i + 1) j)) ∧ K' 40 = K 40 ∧ ∀ r, ¬ rx_sc r → K' r = I r := fun K a hK => by
        obtain ⟨K', y1, y2, y3⟩ := px_next (I := K) (f := or_r nb i) h2 (by rw [hK 3 (by decide)]; exact g35) (fun j hj => ⟨by rw [hK 39 (by decide)]; exact g39 j hj, by have := or_ltj h2 hi hj; omega⟩)
        refine ⟨K', ?_, fun hlt j hj => ?_, y3 40 (by decide), fun r hr => ?_⟩
        · unfold fX3_bestOrder_103
          rw [y1, px_bd]
        · rw [← (or_stepS h2 hlt).2 j hj]
          exact (y2 j hj).1
        · have hr' := hr
          unfold rx_sc at hr
          rw [y3 r (by omega), hK r (by omega)]; exact f3 r hr'
      unfold fX3_bestOrder_56
      rw [if_neg (nI_ge hi (by omega)), c1, px_bd]
      dsimp only
      have take : ∃ s', fX3_bestOrder_80 q (nI (or_f nb)) (nI i) (nI (c i)) I3 = some (.inl s') ∧ s'.1 = nI (or_f nb) ∧ s'.2.2.1 = nI (i + 1) ∧ (i + 1 < or_f nb → ∀ j, j < nb → s'.2.2.2 39 j = nI (or_r nb (i + 1) j)) ∧ (s'.2.1 = nI (c i) ∧ ∀ j, j < nb → s'.2.2.2 40 j = nI (or_r nb i j)) ∧ ∀ r, ¬ rx_sc r → s'.2.2.2 r = I r := by
        obtain ⟨K', y1, y2, y3, y4⟩ := nx (ab_r I3 40 (va_cpy (I3 39) (I3 40) (0 : Int32).toNatClampNeg (0 : Int32).toNatClampNeg (I3 3 5).toNatClampNeg)) (nI (c i)) (fun r hr => ab_r_o hr)
        refine ⟨(nI (or_f nb), nI (c i), nI i + 1, K'), ?_, rfl, (nI_succ i).symm, y2, ⟨rfl, fun j hj => ?_⟩, y4⟩
        · unfold fX3_bestOrder_80
          rw [px_gd, y1]
          rw [g35, nI_clamp (by omega)]
          exact ⟨nI_pos (by omega), by omega, by omega⟩
        · dsimp only
          rw [y3, ab_r_s, g35, px_cpy0 (n := nb) (nI_clamp (by omega)) hj]
          exact g39 j hj
      cases ht : sp_lst (fun _ => true) c i with
      | none =>
        rw [ht] at e4
        have hn : sp_lst (fun _ => true) c (i + 1) = some i := by rw [sp_lst, if_pos rfl, ht]
        rw [if_pos (show nI i = 0 by rw [show i = 0 from e4]; rfl), hn]
        exact take
      | some m =>
        rw [ht] at e4
        have hm := sp_lst_lt _ c i m ht
        have cm := hcl m (by omega)
        rw [if_neg (nI_ne0 (by omega) (by omega)), e4.1]
        by_cases e : c m ≤ c i
        · have hn : sp_lst (fun _ => true) c (i + 1) = some m := by rw [sp_lst, if_pos rfl, ht]; exact if_pos e
          obtain ⟨K', y1, y2, y3, y4⟩ := nx I3 (nI (c m)) (fun _ _ => rfl)
          rw [if_pos (nI_le e (by omega)), y1, hn]
          exact ⟨_, rfl, rfl, (nI_succ i).symm, y2, ⟨rfl, fun j hj => by dsimp only; rw [y3, g40]; exact e4.2 j hj⟩, y4⟩
        · have hn : sp_lst (fun _ => true) c (i + 1) = some i := by rw [sp_lst, if_pos rfl, ht]; exact if_neg e
          rw [if_neg (nI_ge (by omega) (by omega)), hn]
          exact take
    · rintro ⟨s1, s2, s3, I2⟩ ⟨e1, e2, e3, e4, e5⟩
      dsimp only at e1 e2 e3 e4 e5 ⊢
      subst e1 e2
      unfold fX3_bestOrder_56 fX3_bestOrder_113
      rw [if_pos (nI_le (Nat.le_refl _) (by omega))]
      cases ht : sp_lst (fun _ => true) c (or_f nb) with
      | none => rw [ht] at e4; have := show or_f nb = 0 from e4; omega
      | some m =>
        rw [ht] at e4
        exact ⟨_, rfl, m, rfl, e4.1, e4.2, e5⟩
  -- how many orders
  have fac : ∀ I0 : ab_I, (∀ r, ¬ rx_sc r → I0 r = I r) → (∀ j, j < nb → I0 39 j = nI j) → ∃ x, fX3_bestOrder_26 q I0 = some x ∧ (∃ m, sp_lst (fun _ => true) c (or_f nb) = some m ∧ x.1 = nI (c m) ∧ (∀ j, j < nb → x.2 40 j = nI (or_r nb m j)) ∧ ∀ r, ¬ rx_sc r → x.2 r = I r) := by
    intro I0 hI0 h39
    have g35 : I0 3 5 = nI nb := by rw [hI0 3 (by unfold rx_sc; omega)]; exact h5
    unfold fX3_bestOrder_26
    refine px_for (body := fun s : Int32 × Int32 × ab_I => fX3_bestOrder_30 q s.1 s.2.1 s.2.2) (Out := fun x : Int32 × ab_I => ∃ m, sp_lst (fun _ => true) c (or_f nb) = some m ∧ x.1 = nI (c m) ∧ (∀ j, j < nb → x.2 40 j = nI (or_r nb m j)) ∧ ∀ r, ¬ rx_sc r → x.2 r = I r)
      (fun i s => s.1 = nI (or_f (i + 1)) ∧ s.2.1 = nI (i + 2) ∧ s.2.2 = I0) (nb - 1) ?_ ?_ (nb - 1) 0 5000 (1, 2, I0) (by omega) (by omega) ⟨rfl, rfl, rfl⟩
    · rintro i ⟨s1, s2, I2⟩ hi ⟨e1, e2, e3⟩
      dsimp only at e1 e2 e3 ⊢
      subst e1 e2
      rw [e3]
      unfold fX3_bestOrder_30
      rw [g35, if_neg (nI_nlt (by omega) (by omega)), pk_mul]
      exact ⟨_, rfl, by show nI (or_f (i + 1) * (i + 2)) = nI ((i + 1 + 1) * or_f (i + 1)); rw [Nat.mul_comm], (nI_succ (i + 2)).symm, rfl⟩
    · rintro ⟨s1, s2, I2⟩ ⟨e1, e2, e3⟩
      dsimp only at e1 e2 e3 ⊢
      subst e1 e2
      rw [e3]
      obtain ⟨x, k1, k2⟩ := main I0 hI0 h39
      have ef : or_f (nb - 1 + 1) = or_f nb := by
        by_cases h0 : nb = 0
        · rw [h0]; rfl
        · rw [show nb - 1 + 1 = nb by omega]
      unfold fX3_bestOrder_30 fX3_bestOrder_51
      rw [g35, if_pos (nI_lt (by omega) (by omega)), ef, k1]
      exact ⟨_, rfl, k2⟩
  have key := px_cpl (body := fun s : Int32 × ab_I => fX3_bestOrder_2 q s.1 s.2) (I := I) (Out := fun x : Int32 × ab_I => ∃ m, sp_lst (fun _ => true) c (or_f nb) = some m ∧ x.1 = nI (c m) ∧ (∀ j, j < nb → x.2 40 j = nI (or_r nb m j)) ∧ ∀ r, ¬ rx_sc r → x.2 r = I r) nb 39 0 nI ?_ ?_ (m := 5000) (by omega)
  · obtain ⟨⟨x, I2⟩, k1, m, k2, k3, k4, k5⟩ := key
    dsimp only at k3 k4 k5
    exact ⟨m, I2, k2, by unfold fX3_bestOrder; rw [k1, k3], k4, k5⟩
  · intro i I2 hi f1 f2
    dsimp only
    unfold fX3_bestOrder_2
    rw [f1 3 (by decide), h5, if_neg (nI_ge hi (by omega)), px_gd (px_ix (by omega) (by decide)), nI_clamp (by omega), Nat.zero_add]
  · intro I2 f1 f2
    dsimp only
    obtain ⟨x, k1, k2⟩ := fac I2 (fun r hr => f1 r (by unfold rx_sc at hr; omega)) (fun j hj => by rw [f2 j, if_pos (by omega), Nat.sub_zero])
    unfold fX3_bestOrder_2
    rw [f1 3 (by decide), h5, if_pos (nI_le (Nat.le_refl _) (by omega)), k1]
    exact ⟨_, rfl, k2⟩
end ORDP
