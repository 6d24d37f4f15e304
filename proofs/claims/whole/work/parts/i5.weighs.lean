/-! ===== village: the line of a formula ===== -/
theorem lw_ok {I0 K0 : ab_I} {J0 L0 : ab_J} {z : Nat} {B : Nat → Nat} (hB0 : tk_B I0 K0 z B) : lw_W I0 K0 J0 L0 z := by
  intro I J K L p0 a b h h24
  obtain ⟨w1, w2, w3, w4, w5⟩ : I 11 3 = 0 ∧ K 73 24 = 0 ∧ I 18 3 = 0 ∧ I 18 4 = 0 ∧ K 73 20 = 0 := by
    rcases h.2.2.2.2.2.2.2.2.2.2.2 with h | ⟨_, h, _⟩
    · exact h
    · rw [h24] at h; exact absurd h (by decide)
  have z1 : pz I0 K0 J0 L0 z (ab_u I 11 3 1) J K L p0 203 a b := pz_w (ps_pz h) (fun r k hr => px_u (by omega)) (fun r k _ => rfl)
  obtain ⟨I1, J1, K1, L1, c1, p1, x1, x2, x3, x4, x5, x6, x7⟩ := pz_adv hB0 z1 (by decide) (by decide)
  obtain ⟨K2, eK2⟩ : ∃ K2, K2 = ab_u (ab_u (ab_u (ab_u (ab_u K1 73 24 1) 73 17 0) 73 19 0) 73 23 0) 73 22 0 := ⟨_, rfl⟩
  have g : ∀ r k, ¬ (r = 73 ∧ (k = 17 ∨ k = 19 ∨ k = 22 ∨ k = 23 ∨ k = 24)) → K2 r k = K1 r k := fun r k hr => by rw [eK2, px_u (by omega), px_u (by omega), px_u (by omega), px_u (by omega), px_u (by omega)]
  have z2 : pz I0 K0 J0 L0 z I1 J1 K2 L1 p1 c1 a b := pz_w x3 (fun r k _ => rfl) (fun r k hr => g r k (by omega))
  have q : fq I0 K0 J0 L0 z a b I1 J1 K2 L1 p1 c1 0 0 0 [] [] := by
    refine ⟨z2, ⟨by rw [x6.1 11 3 (by omega), ab_u_at], by rw [eK2]; rfl⟩, ⟨by rw [x6.1 18 3 (by omega), px_u (by omega)]; exact w3, by rw [eK2]; rfl, trivial, fun i hi => absurd hi (Nat.not_lt_zero i)⟩, ⟨by rw [x6.1 18 4 (by omega), px_u (by omega)]; exact w4, by rw [g 73 20 (by omega), x7.1 73 20 (by omega)]; exact w5, by rw [eK2]; rfl, by decide⟩, ⟨by rw [eK2]; rfl, trivial, by rw [eK2]; rfl, fun e he => absurd he (by simp)⟩, rfl, by decide, fun i hi => ⟨0, ?_, by decide⟩⟩
    have : i = 0 := Nat.le_zero.mp hi
    rw [this]; rfl
  have hf : fX12_formula K L = fU 0 0 K2 L1 := by
    unfold fX12_formula
    rw [x2, px_bd, ← eK2]
    rfl
  rw [hf]
  unfold fX4_readsWeighs
  rw [if_pos w1, x1, px_bd]
  dsimp only
  rcases lv_main (a := a) (b := b) hB0 60 0 0 (by decide) (by decide) (by decide) I1 J1 K2 L1 p1 c1 0 0 0 [] 0 0 q (by decide) (by decide) rfl trivial (fun _ h => by omega) (Nat.zero_le _) (by decide) (Nat.zero_le _) (by decide) with ⟨I2, J2, K3, L3, p2, c2, s2, u2, pd, k2, r1, r2, r3, r4, r5, r6, r7, r8, r9, r10, r11, r12⟩ | ⟨I2, J2, K3, L3, r1, r2, r3⟩
  · left
    have u2le : u2 ≤ 30 := r3.2.2.2.1.2.2.2
    have hl : pd.length ≤ 100 := by rw [List.append_nil] at r8 r12; omega
    obtain ⟨K4, y1, y2⟩ := fm_end r3 (by omega) hl r4 r5 r11
    have r1' : fX4_readsLevel 60 0 0 I1 J1 = some (1, I2, J2) := r1
    rw [r1', px_bd, px_gd (Or.inr rfl), r2, y1]
    obtain ⟨hz, ⟨b1, b2⟩, ⟨o1, o2, o3, o4⟩, ⟨v1, v2, v3, v4⟩, _, m1, m2, m3⟩ := y2
    refine ⟨I2, J2, K4, L3, c2, p2, a, b, rfl, rfl, ?_, by omega⟩
    obtain ⟨hF, hT, f8, f9, f2, f3, dP, dB, dL, dF, dD⟩ := hz
    have m1' : fm_h (I2 19) (s2 + pd.length) = some 1 := m1
    refine ⟨hF, hT, f8, f9, f2, f3, dP, dB, dL, dF, dD, Or.inr ⟨b1, b2, by rw [v1, v2], s2 + pd.length, o1, o2, ?_, by omega, o4, m1', m3⟩⟩
    rcases Nat.eq_zero_or_pos (s2 + pd.length) with e | e
    · rw [e] at m1'
      cases m1'
    · exact e
  · right
    have r1' : fX4_readsLevel 60 0 0 I1 J1 = some (0, I2, J2) := r1
    rw [r1', px_bd, px_gd (Or.inl rfl), r2]
    exact ⟨I2, J2, K3, L3, rfl, rfl, r3.1⟩
