/-! ===== a day ===== -/
section SPD
variable (F : Int32 → Int32 → Int32 → Int32 → Int32 → Int32 → Int32) (hrs : Nat → Int32) (np : Nat) (fo : Bool) (fa : Nat) (w : Nat → Nat)
/-- behind the first n bells of a day: the numbers, what is lost -/
def sp_dy : Nat → (Nat → Nat) × Nat
  | 0 => (w, 0)
  | n + 1 => (sp_ring F (hrs n) (sp_dy n).1 n np fo fa, (sp_dy n).2 + sp_lost F (hrs n) (sp_dy n).1 n np)
def sp_day (nb : Nat) : Nat → Nat := sp_up (sp_dy F hrs np fo fa w nb).1 43 ((sp_dy F hrs np fo fa w nb).1 43 + 1)
/-- who rings b on that day -/
def sp_rgr (b : Nat) : Int32 := sp_who F (hrs b) (sp_dy F hrs np fo fa w b).1 b np
end SPD
section DAY
variable {F : Int32 → Int32 → Int32 → Int32 → Int32 → Int32 → Int32} {hrs : Nat → Int32} {np nb dm fa : Nat} {w : Nat → Nat} {fo : Bool}
theorem sp_ring_ok {hr : Int32} {b : Nat} (hn : np ≤ 6) (hb : b < 5) (ho : rx_ok np nb dm w) : rx_ok np nb dm (sp_ring F hr w b np fo fa) := by
  rcases sp_rg_cases F hr w b np with h | ⟨p, hp, h, hbit, h0⟩
  · unfold sp_ring sp_who
    rw [h, if_pos rfl]
    exact ho
  · rw [sp_ring_p h (by omega)]
    have hh9 : w p ≤ 999 := ho.1 p hp
    have o1 : rx_ok np nb dm (sp_up (sp_up w (6 + p) (min 999 (w (6 + p) + 1))) p (w p - min (w p) (w (13 + 5 * p + b)))) :=
      rx_ok_up hn (rx_ok_up hn ho (by omega) (by omega) (by omega) (by omega) (by omega) (by omega)) (by omega) (by omega) (by omega) (by omega) (by omega) (by omega)
    unfold sp_rung
    cases fo with
    | false => exact o1
    | true =>
      have o2 := rx_ok_up (k := 44) (x := (w 44 * 137 + 71) % 1000) hn o1 (by omega) (by omega) (by omega) (by omega) (by omega) (by omega)
      rw [if_pos rfl]
      dsimp only
      split
      · exact rx_ok_up hn o2 (by omega) (by omega) (by omega) (by omega) (by omega) (by omega)
      · exact o2
theorem sp_dy_ok (hn : np ≤ 6) (ho : rx_ok np nb dm w) : ∀ i, i ≤ 5 → rx_ok np nb dm (sp_dy F hrs np fo fa w i).1
  | 0, _ => ho
  | i + 1, hi => sp_ring_ok hn (by omega) (sp_dy_ok hn ho i (by omega))
theorem sp_day_ok (hn : np ≤ 6) (hnb : nb ≤ 5) (ho : rx_ok np nb dm w) : rx_ok np nb (dm + 1) (sp_day F hrs np fo fa w nb) := by
  have o := sp_dy_ok (F := F) (hrs := hrs) (fo := fo) (fa := fa) hn ho nb hnb
  have o' : rx_ok np nb (dm + 1) (sp_dy F hrs np fo fa w nb).1 := ⟨o.1, o.2.1, o.2.2.1, o.2.2.2.1, o.2.2.2.2.1, Nat.le_succ_of_le o.2.2.2.2.2.1, o.2.2.2.2.2.2⟩
  exact rx_ok_up hn o' (by omega) (by omega) (by omega) (by omega) (fun _ => Nat.succ_le_succ o.2.2.2.2.2.1) (by omega)
theorem px_passDay {I : ab_I} {q : Nat} (hq : 25 < q) (hn : np ≤ 6) (hnb : nb ≤ 5) (h34 : I 3 4 = nI np) (h35 : I 3 5 = nI nb) (h38 : I 3 8 = nI fa) (hfa : fa ≤ 100) (hF : rx_FX F (I 8) (I 7 3)) (hh : ∀ b, b < nb → I 5 b = hrs b) (hw : rx_is np (rx_v I q) w) (ho : rx_ok np nb dm w) (fo : Bool) :
    ∃ I', fX5_passDay q (if fo = true then 1 else 0) I = some (nI (sp_dy F hrs np fo fa w nb).2, I') ∧ rx_is np (rx_v I' q) (sp_day F hrs np fo fa w nb) ∧ (∀ j, j < nb → I' 24 j = sp_rgr F hrs np fo fa w j) ∧ ∀ r, r ≠ 9 → r ≠ 10 → r ≠ 24 → (r < q ∨ q + 3 < r) → I' r = I r := by
  have key := px_for (body := fun s : Int32 × Int32 × ab_I => fX5_passDay_5 q (if fo = true then 1 else 0) s.1 s.2.1 s.2.2) (Out := fun r : Int32 × ab_I => r.1 = nI (sp_dy F hrs np fo fa w nb).2 ∧ rx_is np (rx_v r.2 q) (sp_day F hrs np fo fa w nb) ∧ (∀ j, j < nb → r.2 24 j = sp_rgr F hrs np fo fa w j) ∧ ∀ k, k ≠ 9 → k ≠ 10 → k ≠ 24 → (k < q ∨ q + 3 < k) → r.2 k = I k)
    (fun i s => s.1 = nI (sp_dy F hrs np fo fa w i).2 ∧ s.2.1 = nI i ∧ rx_is np (rx_v s.2.2 q) (sp_dy F hrs np fo fa w i).1 ∧ (∀ j, j < i → s.2.2 24 j = sp_rgr F hrs np fo fa w j) ∧ ∀ k, k ≠ 9 → k ≠ 10 → k ≠ 24 → (k < q ∨ q + 3 < k) → s.2.2 k = I k) nb ?_ ?_ nb 0 5000 (0, 0, I) (by omega) (by omega) ⟨rfl, rfl, hw, fun j hj => absurd hj (Nat.not_lt_zero j), fun _ _ _ _ _ => rfl⟩
  · obtain ⟨r, h1, h2, h3, h4, h5⟩ := key
    refine ⟨r.2, ?_, h3, h4, h5⟩
    unfold fX5_passDay
    rw [h1, ← h2]
  · rintro i ⟨a3, a4, I2⟩ hi ⟨e3, e4, ew, er, eI⟩
    dsimp only at e3 e4 ew er eI ⊢
    subst e3 e4
    have r3 : I2 3 = I 3 := eI 3 (by decide) (by decide) (by decide) (by omega)
    have r5 : I2 5 = I 5 := eI 5 (by decide) (by decide) (by decide) (by omega)
    obtain ⟨I3, h1, h2, h3, h4⟩ := px_ringBell (I := I2) (b := i) (nb := nb) (dm := dm) hq hn (by omega) (by rw [r3]; exact h34) (by rw [r3]; exact h38) hfa (by rw [eI 8 (by decide) (by decide) (by decide) (by omega), eI 7 (by decide) (by decide) (by decide) (by omega)]; exact hF) ew (sp_dy_ok hn ho i (by omega)) fo
    rw [r5, hh i hi] at h1 h2 h3
    unfold fX5_passDay_5
    rw [r3, h35, if_neg (nI_ge hi (by omega)), h1, px_bd]
    refine ⟨_, rfl, ?_, (nI_succ i).symm, h2, fun j hj => ?_, fun k k1 k2 k3 k4 => (h4 k k1 k2 k3 k4).trans (eI k k1 k2 k3 k4)⟩
    · show nI _ + nI _ = _
      rw [px_add]
      rfl
    · show I3 24 j = _
      rw [h3]
      by_cases e : j = i
      · subst e
        exact if_pos rfl
      · show (if j = i then _ else _) = _
        rw [if_neg e]
        exact er j (by omega)
  · rintro ⟨a3, a4, I2⟩ ⟨e3, e4, ew, er, eI⟩
    dsimp only at e3 e4 ew er eI ⊢
    subst e3 e4
    have r3 : I2 3 = I 3 := eI 3 (by decide) (by decide) (by decide) (by omega)
    refine ⟨(nI (sp_dy F hrs np fo fa w nb).2, ab_u I2 q 4 (nI ((sp_dy F hrs np fo fa w nb).1 43 + 1))), ?_, rfl, rx_uq (Or.inr (Or.inl ⟨rfl, rfl⟩)) ew, fun j hj => ?_, fun k k1 k2 k3 k4 => ?_⟩
    · unfold fX5_passDay_5 fX5_passDay_34
      rw [r3, h35, if_pos (nI_le (Nat.le_refl _) (by omega)), rx_day ew, ← nI_succ]
      rfl
    · show ab_u I2 q 4 (nI ((sp_dy F hrs np fo fa w nb).1 43 + 1)) 24 j = _
      rw [px_u (by omega)]
      exact er j hj
    · show ab_u I2 q 4 (nI ((sp_dy F hrs np fo fa w nb).1 43 + 1)) k = _
      rw [ab_u_o (by omega)]
      exact eI k k1 k2 k3 k4
theorem px_goDay {I : ab_I} (hn : np ≤ 6) (hnb : nb ≤ 5) (h39 : I 73 39 = nI np) (h40 : I 73 40 = nI nb) (h43 : I 73 43 = nI fa) (hfa : fa ≤ 100) (hF : rx_FM F (I 78) (I 79) (I 73 18) (I 73 25)) (hh : ∀ b, b < nb → I 87 b = hrs b) (hw : rx_is np (I 90) w) (ho : rx_ok np nb dm w) (fo : Bool) :
    ∃ I', fX12_goDay (if fo = true then 1 else 0) I = some (nI (sp_dy F hrs np fo fa w nb).2, I') ∧ rx_is np (I' 90) (sp_day F hrs np fo fa w nb) ∧ (∀ j, j < nb → I' 91 j = sp_rgr F hrs np fo fa w j) ∧ ∀ r, r ≠ 81 → r ≠ 82 → r ≠ 90 → r ≠ 91 → I' r = I r := by
  have key := px_for (body := fun s : Int32 × Int32 × ab_I => fX12_goDay_4 (if fo = true then 1 else 0) s.1 s.2.1 s.2.2) (Out := fun r : Int32 × ab_I => r.1 = nI (sp_dy F hrs np fo fa w nb).2 ∧ rx_is np (r.2 90) (sp_day F hrs np fo fa w nb) ∧ (∀ j, j < nb → r.2 91 j = sp_rgr F hrs np fo fa w j) ∧ ∀ k, k ≠ 81 → k ≠ 82 → k ≠ 90 → k ≠ 91 → r.2 k = I k)
    (fun i s => s.1 = nI (sp_dy F hrs np fo fa w i).2 ∧ s.2.1 = nI i ∧ rx_is np (s.2.2 90) (sp_dy F hrs np fo fa w i).1 ∧ (∀ j, j < i → s.2.2 91 j = sp_rgr F hrs np fo fa w j) ∧ ∀ k, k ≠ 81 → k ≠ 82 → k ≠ 90 → k ≠ 91 → s.2.2 k = I k) nb ?_ ?_ nb 0 5000 (0, 0, I) (by omega) (by omega) ⟨rfl, rfl, hw, fun j hj => absurd hj (Nat.not_lt_zero j), fun _ _ _ _ _ => rfl⟩
  · obtain ⟨r, h1, h2, h3, h4, h5⟩ := key
    refine ⟨r.2, ?_, h3, h4, h5⟩
    unfold fX12_goDay
    rw [h1, ← h2]
  · rintro i ⟨a3, a4, I2⟩ hi ⟨e3, e4, ew, er, eI⟩
    dsimp only at e3 e4 ew er eI ⊢
    subst e3 e4
    have r3 : I2 73 = I 73 := eI 73 (by decide) (by decide) (by decide) (by decide)
    have r5 : I2 87 = I 87 := eI 87 (by decide) (by decide) (by decide) (by decide)
    obtain ⟨I3, h1, h2, h3, h4⟩ := px_ring (I := I2) (b := i) (nb := nb) (dm := dm) hn (by omega) (by rw [r3]; exact h39) (by rw [r3]; exact h43) hfa (by rw [eI 78 (by decide) (by decide) (by decide) (by decide), eI 79 (by decide) (by decide) (by decide) (by decide), r3]; exact hF) ew (sp_dy_ok hn ho i (by omega)) fo
    rw [r5, hh i hi] at h1 h2 h3
    unfold fX12_goDay_4
    rw [r3, h40, if_neg (nI_ge hi (by omega)), h1, px_bd]
    refine ⟨_, rfl, ?_, (nI_succ i).symm, h2, fun j hj => ?_, fun k k1 k2 k3 k4 => (h4 k k1 k2 k3 k4).trans (eI k k1 k2 k3 k4)⟩
    · show nI _ + nI _ = _
      rw [px_add]
      rfl
    · show I3 91 j = _
      rw [h3]
      by_cases e : j = i
      · subst e
        exact if_pos rfl
      · show (if j = i then _ else _) = _
        rw [if_neg e]
        exact er j (by omega)
  · rintro ⟨a3, a4, I2⟩ ⟨e3, e4, ew, er, eI⟩
    dsimp only at e3 e4 ew er eI ⊢
    subst e3 e4
    have r3 : I2 73 = I 73 := eI 73 (by decide) (by decide) (by decide) (by decide)
    have e43 : I2 90 43 = nI ((sp_dy F hrs np fo fa w nb).1 43) := ew 43 (by decide) (fun h => absurd h (by decide))
    refine ⟨(nI (sp_dy F hrs np fo fa w nb).2, ab_u I2 90 43 (nI ((sp_dy F hrs np fo fa w nb).1 43 + 1))), ?_, rfl, rx_m ew, fun j hj => ?_, fun k k1 k2 k3 k4 => ?_⟩
    · unfold fX12_goDay_4 fX12_goDay_27
      rw [r3, h40, if_pos (nI_le (Nat.le_refl _) (by omega)), show (43 : Int32).toNatClampNeg = 43 by decide, e43, ← nI_succ]
      rfl
    · show ab_u I2 90 43 (nI ((sp_dy F hrs np fo fa w nb).1 43 + 1)) 91 j = _
      rw [px_u (by omega)]
      exact er j hj
    · show ab_u I2 90 43 (nI ((sp_dy F hrs np fo fa w nb).1 43 + 1)) k = _
      rw [ab_u_o (by omega)]
      exact eI k k1 k2 k3 k4
end DAY
