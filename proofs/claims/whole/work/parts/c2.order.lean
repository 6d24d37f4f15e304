/-! ===== pairs: order ===== -/
section ORDP
variable {S : ab_S} {I : ab_I} {J : ab_J} {P : ab_P} {l : Launch} {G : ab_G} {np nb fa q dm : Nat} {hrs : Nat → Int32} {F : Int32 → Int32 → Int32 → Int32 → Int32 → Int32 → Int32} {w : Nat → Nat} {f : Nat → Nat}
/-- the bells rung in the order f -/
def or_go (F : Int32 → Int32 → Int32 → Int32 → Int32 → Int32 → Int32) (hrs : Nat → Int32) (np fa : Nat) (w : Nat → Nat) (f : Nat → Nat) : Nat → (Nat → Nat) × Nat
  | 0 => (w, 0)
  | n + 1 => (sp_ring F (hrs (f n)) (or_go F hrs np fa w f n).1 (f n) np false fa, (or_go F hrs np fa w f n).2 + sp_lost F (hrs (f n)) (or_go F hrs np fa w f n).1 (f n) np)
theorem or_go_ok (hn : np ≤ 6) (ho : rx_ok np nb dm w) (hf : ∀ j, j < nb → f j < 5) : ∀ i, i ≤ nb → rx_ok np nb dm (or_go F hrs np fa w f i).1
  | 0, _ => ho
  | i + 1, h => sp_ring_ok hn (hf i (by omega)) (or_go_ok hn ho hf i (by omega))
theorem or_go_le (hn : np ≤ 6) (ho : rx_ok np nb dm w) (hf : ∀ j, j < nb → f j < 5) : ∀ i, i ≤ nb → (or_go F hrs np fa w f i).2 ≤ 20 * i
  | 0, _ => Nat.le_refl _
  | i + 1, h => by
    have ih := or_go_le (F := F) (hrs := hrs) (fa := fa) hn ho hf i (by omega)
    have := sp_lost_le (F := F) (hr := hrs (f i)) hn (hf i (by omega)) (or_go_ok (F := F) (hrs := hrs) (fa := fa) hn ho hf i (by omega))
    rw [or_go]
    dsimp only
    omega
theorem px_lostT (hQ : rx_Q I P np nb fa hrs F q w) (hf : ∀ j, j < nb → I 39 j = nI (f j) ∧ f j < nb) : ∃ I', fX3_lostByTried q I = some (nI (or_go F hrs np fa w f nb).2, I') ∧ ∀ r, r ≠ 9 → r ≠ 10 → r ≠ 24 → (r < 35 ∨ 38 < r) → I' r = I r := by
  obtain ⟨h1, h2, h3, h4, h5, h6, h7, h8, h9, h10, h11, h12, h13, h14, h15, h16, h17, h18⟩ := id hQ
  obtain ⟨I1, c1, c2, c3⟩ := px_copy (I := I) (q0 := 35) (q1 := q) (by rcases h15 with rfl | ⟨i, rfl⟩ <;> omega)
  have c2' : rx_is np (rx_v I1 35) w := fun k a b => by rw [c2 k a]; exact h16 k a b
  have hf5 : ∀ j, j < nb → f j < 5 := fun j hj => by have := (hf j hj).2; omega
  have key := px_for (body := fun s : Int32 × Int32 × ab_I => fX3_lostByTried_12 q s.1 s.2.1 s.2.2) (Out := fun x : Int32 × ab_I => x.1 = nI (or_go F hrs np fa w f nb).2 ∧ ∀ r, r ≠ 9 → r ≠ 10 → r ≠ 24 → (r < 35 ∨ 38 < r) → x.2 r = I r)
    (fun i s => s.1 = nI (or_go F hrs np fa w f i).2 ∧ s.2.1 = nI i ∧ rx_is np (rx_v s.2.2 35) (or_go F hrs np fa w f i).1 ∧ ∀ r, r ≠ 9 → r ≠ 10 → r ≠ 24 → (r < 35 ∨ 38 < r) → s.2.2 r = I r) nb ?_ ?_ nb 0 5000 (0, 0, I1) (by omega) (by omega) ⟨rfl, rfl, c2', fun r _ _ _ hr => c3 r hr⟩
  · obtain ⟨⟨x, I2⟩, k1, k2, k3⟩ := key
    dsimp only at k2 k3
    refine ⟨I2, ?_, k3⟩
    unfold fX3_lostByTried
    rw [c1, px_bd, k1, k2]
  · rintro i ⟨s1, s2, I2⟩ hi ⟨e1, e2, e3, e4⟩
    dsimp only at e1 e2 e3 e4 ⊢
    subst e1 e2
    have r1 : ∀ r, r < 9 → I2 r = I r := fun r hr => e4 r (by omega) (by omega) (by omega) (by omega)
    obtain ⟨y1, y2⟩ := hf i hi
    obtain ⟨I3, d1, d2, d3, d4⟩ := px_ringBell (I := I2) (q := 35) (by omega) h1 (hf5 i hi) (by rw [r1 3 (by omega)]; exact h4) (by rw [r1 3 (by omega)]; exact h6) h3 (by rw [r1 8 (by omega), r1 7 (by omega)]; exact h12) e3 (or_go_ok h1 h18 hf5 i (by omega)) false
    rw [show ((if false = true then 1 else 0) : Int32) = 0 from rfl, r1 5 (by omega), h10 _ y2] at d1
    rw [r1 5 (by omega), h10 _ y2] at d2
    unfold fX3_lostByTried_12
    rw [r1 3 (by omega), h5, if_neg (nI_ge hi (by omega)), px_gd (px_ix (by omega) (by decide)), nI_clamp (by omega), e4 39 (by decide) (by decide) (by decide) (by decide), y1, d1, px_bd, px_add]
    refine ⟨_, rfl, rfl, (nI_succ i).symm, d2, fun r a b c d => ?_⟩
    dsimp only
    rw [d4 r a b c d]; exact e4 r a b c d
  · rintro ⟨s1, s2, I2⟩ ⟨e1, e2, e3, e4⟩
    dsimp only at e1 e2 e3 e4 ⊢
    subst e1 e2
    unfold fX3_lostByTried_12 fX3_lostByTried_50
    rw [e4 3 (by decide) (by decide) (by decide) (by decide), h5, if_pos (nI_le (Nat.le_refl _) (by omega))]
    exact ⟨_, rfl, rfl, e4⟩
/-- the reference: the bells are rung, then the body goes on -/
theorem px_lostM {a1 : Int32} (hQ : rx_Q I P np nb fa hrs F q w) (hf : ∀ j, j < nb → I 94 j = nI (f j) ∧ f j < nb) (h90 : rx_is np (I 90) w) : ∃ I', ab_it (fun s : Int32 × Int32 × Int32 × ab_I => fX12_order_42 s.1 s.2.1 s.2.2.1 s.2.2.2) 5000 (a1, 0, 0, I) = fX12_order_72 a1 (nI (or_go F hrs np fa w f nb).2) I' ∧ ∀ r, r ≠ 81 → r ≠ 82 → r ≠ 90 → r ≠ 91 → I' r = I r := by
  obtain ⟨h1, h2, h3, h4, h5, h6, h7, h8, h9, h10, h11, h12, h13, h14, h15, h16, h17, h18⟩ := id hQ
  have hf5 : ∀ j, j < nb → f j < 5 := fun j hj => by have := (hf j hj).2; omega
  have st : ∀ d i n I2, i + d = nb → rx_is np (I2 90) (or_go F hrs np fa w f i).1 → (∀ r, r ≠ 81 → r ≠ 82 → r ≠ 90 → r ≠ 91 → I2 r = I r) → ∃ I', ab_it (fun s : Int32 × Int32 × Int32 × ab_I => fX12_order_42 s.1 s.2.1 s.2.2.1 s.2.2.2) (n + d + 1) (a1, nI (or_go F hrs np fa w f i).2, nI i, I2) = fX12_order_72 a1 (nI (or_go F hrs np fa w f nb).2) I' ∧ ∀ r, r ≠ 81 → r ≠ 82 → r ≠ 90 → r ≠ 91 → I' r = I r := by
    intro d
    induction d with
    | zero =>
      intro i n I2 hi e3 e4
      obtain rfl : i = nb := by omega
      refine ⟨I2, ?_, e4⟩
      refine px_itO (body := fun s : Int32 × Int32 × Int32 × ab_I => fX12_order_42 s.1 s.2.1 s.2.2.1 s.2.2.2) ?_
      dsimp only
      unfold fX12_order_42
      rw [e4 73 (by decide) (by decide) (by decide) (by decide), h8, if_pos (nI_le (Nat.le_refl _) (by omega))]
    | succ d ih =>
      intro i n I2 hi e3 e4
      obtain ⟨y1, y2⟩ := hf i (by omega)
      have r1 : ∀ r, r = 73 ∨ r = 78 ∨ r = 79 ∨ r = 87 ∨ r = 94 → I2 r = I r := fun r hr => e4 r (by omega) (by omega) (by omega) (by omega)
      obtain ⟨I3, d1, d2, d3, d4⟩ := px_ring (I := I2) h1 (hf5 i (by omega)) (by rw [r1 73 (by omega)]; exact h7) (by rw [r1 73 (by omega)]; exact h9) h3 (by rw [r1 78 (by omega), r1 79 (by omega), r1 73 (by omega)]; exact h13) e3 (or_go_ok h1 h18 hf5 i (by omega)) false
      rw [show ((if false = true then 1 else 0) : Int32) = 0 from rfl, r1 87 (by omega), h11 _ y2] at d1
      rw [r1 87 (by omega), h11 _ y2] at d2
      obtain ⟨I', k1, k2⟩ := ih (i + 1) n I3 (by omega) d2 (fun r a b c d => (d4 r a b c d).trans (e4 r a b c d))
      refine ⟨I', ?_, k2⟩
      rw [show n + (d + 1) + 1 = (n + d + 1) + 1 by omega]
      refine (px_itL (body := fun s : Int32 × Int32 × Int32 × ab_I => fX12_order_42 s.1 s.2.1 s.2.2.1 s.2.2.2) (s := (a1, nI (or_go F hrs np fa w f i).2, nI i, I2)) (s' := (a1, nI (or_go F hrs np fa w f (i + 1)).2, nI (i + 1), I3)) ?_).trans k1
      dsimp only
      unfold fX12_order_42
      rw [r1 73 (by omega), h8, if_neg (nI_ge (by omega) (by omega)), px_gd (px_ix (by omega) (by decide)), nI_clamp (by omega), r1 94 (by omega), y1, d1, px_bd, px_add, ← nI_succ]
      rfl
  obtain ⟨I', k1, k2⟩ := st nb 0 (4999 - nb) I (by omega) h90 (fun _ _ _ _ _ => rfl)
  rw [show 4999 - nb + nb + 1 = 5000 by omega] at k1
  exact ⟨I', k1, k2⟩
end ORDP
