/-! ===== who rings a bell ===== -/
/-- the weight of p by b, the numbers being w -/
def sp_wt (F : Int32 → Int32 → Int32 → Int32 → Int32 → Int32 → Int32) (hr : Int32) (w : Nat → Nat) (p b : Nat) : Int32 := F (nI (w (13 + 5 * p + b))) (nI (w p)) (nI (w (6 + p))) hr (nI (rx_pop (w 12))) (nI (w 43))
/-- the best of the first n, and its weight -/
def sp_rg (F : Int32 → Int32 → Int32 → Int32 → Int32 → Int32 → Int32) (hr : Int32) (w : Nat → Nat) (b : Nat) : Nat → Int32 × Int32
  | 0 => (-1, 0)
  | n + 1 => if (w 12).testBit n = true ∧ 0 < w (13 + 5 * n + b) ∧ (sp_rg F hr w b n).2 < sp_wt F hr w n b then (nI n, sp_wt F hr w n b) else sp_rg F hr w b n
theorem px_bit : ∀ h, h < 64 → ∀ p, p < 6 → ((((nI h) >>> (nI p &&& 31)) &&& (1 : Int32)) = (1 : Int32) ↔ h.testBit p = true) := by decide +kernel
theorem px_isHere {I : ab_I} {q h p : Nat} (hI : I q 3 = nI h) (hh : h < 64) (hp : p < 6) : fX6_isHere q (nI p) I = some (if h.testBit p = true then 1 else 0) := by
  unfold fX6_isHere fX6_isHere_17
  rw [hI]
  by_cases hb : h.testBit p = true
  · rw [if_pos ((px_bit h hh p hp).mpr hb), if_pos hb, px_gd (Or.inr rfl)]
  · rw [if_neg (fun h2 => hb ((px_bit h hh p hp).mp h2)), if_neg hb, px_gd (Or.inl rfl)]
theorem px_mIsHere {I : ab_I} {h p : Nat} (hI : I 90 12 = nI h) (hh : h < 64) (hp : p < 6) : fX12_isHere (nI p) I = some (if h.testBit p = true then 1 else 0) := by
  unfold fX12_isHere fX12_isHere_20
  rw [show (12 : Int32).toNatClampNeg = 12 by decide, hI, px_gd (by decide)]
  by_cases hb : h.testBit p = true
  · rw [if_pos ((px_bit h hh p hp).mpr hb), if_pos hb, px_gd (Or.inr rfl)]
  · rw [if_neg (fun h2 => hb ((px_bit h hh p hp).mp h2)), if_neg hb, px_gd (Or.inl rfl)]
theorem px_le0 {n : Nat} (hn : n < 2 ^ 31) : nI n ≤ 0 ↔ n = 0 := by
  constructor
  · intro h
    by_cases h0 : n = 0
    · exact h0
    · exact absurd h (nI_nle (by omega) hn)
  · rintro rfl
    decide
theorem px_mMayLose {I : ab_I} {x p b : Nat} (hp : p < 6) (hb : b < 5) (hI : I 90 (13 + 5 * p + b) = nI x) (hx : x < 2 ^ 31) : fX12_mayLose (nI p) (nI b) I = some (if 0 < x then 1 else 0) := by
  unfold fX12_mayLose fX12_mayLose_21
  rw [px_mcell, px_gd (px_ix (by omega) (by decide)), nI_clamp (by omega), hI]
  by_cases h0 : 0 < x
  · rw [if_neg (fun h => by rw [px_le0 hx] at h; omega), if_pos h0, px_gd (Or.inr rfl)]
  · rw [if_pos ((px_le0 hx).mpr (by omega)), if_neg h0, px_gd (Or.inl rfl)]
theorem rx_ok_h {np nb dm : Nat} {w : Nat → Nat} (h : rx_ok np nb dm w) (hn : np ≤ 6) : w 12 < 64 := Nat.lt_of_lt_of_le h.2.2.1 (Nat.pow_le_pow_right (by decide) hn)
section RG
variable {I : ab_I} {F : Int32 → Int32 → Int32 → Int32 → Int32 → Int32 → Int32} {np nb dm b : Nat} {w : Nat → Nat}
/-- the class: who is chosen -/
theorem px_chosen {q : Nat} (hq : 25 < q) (hn : np ≤ 6) (hb : b < 5) (h34 : I 3 4 = nI np) (hF : rx_FX F (I 8) (I 7 3)) (hw : rx_is np (rx_v I q) w) (ho : rx_ok np nb dm w) : ∃ I', fX5_chosen q (nI b) I = some ((sp_rg F (I 5 b) w b np).1, I') ∧ ∀ r, r ≠ 9 → r ≠ 10 → I' r = I r := by
  have hh := rx_ok_h ho hn
  have key := px_for (body := fun s : Int32 × Int32 × Int32 × ab_I => fX5_chosen_8 q (nI b) s.1 s.2.1 s.2.2.1 s.2.2.2) (Out := fun r : Int32 × ab_I => r.1 = (sp_rg F (I 5 b) w b np).1 ∧ ∀ k, k ≠ 9 → k ≠ 10 → r.2 k = I k)
    (fun i s => s.1 = (sp_rg F (I 5 b) w b i).1 ∧ s.2.1 = (sp_rg F (I 5 b) w b i).2 ∧ s.2.2.1 = nI i ∧ ∀ k, k ≠ 9 → k ≠ 10 → s.2.2.2 k = I k) np ?_ ?_ np 0 5000 (-1, 0, 0, I) (by omega) (by omega) ⟨rfl, rfl, rfl, fun _ _ _ => rfl⟩
  · obtain ⟨r, h1, h2, h3⟩ := key
    refine ⟨r.2, ?_, h3⟩
    unfold fX5_chosen
    rw [h1, ← h2]
  · rintro i ⟨a3, a4, a5, I2⟩ hi ⟨e3, e4, e5, eI⟩
    dsimp only at e3 e4 e5 eI ⊢
    subst e3 e4 e5
    have r3 : I2 3 4 = nI np := by rw [eI 3 (by decide) (by decide)]; exact h34
    have rq : I2 q 3 = nI (w 12) := by rw [eI q (by omega) (by omega)]; exact rx_here hw
    have rl : I2 (q + 3) (5 * i + b) = nI (w (13 + 5 * i + b)) := by rw [eI (q + 3) (by omega) (by omega), rx_loss hw (by omega), Nat.add_assoc]
    have hl20 : w (13 + 5 * i + b) ≤ 20 := by have := ho.2.2.2.1 (5 * i + b) (by omega); rwa [← Nat.add_assoc] at this
    have next : ∀ (x y : Int32) (I3 : ab_I), fX5_chosen_82 q (nI b) x y (nI i) I3 = some (.inl (x, y, nI (i + 1), I3)) := fun x y I3 => by unfold fX5_chosen_82; rw [nI_succ]
    unfold fX5_chosen_8
    rw [r3, if_neg (nI_ge hi (by omega)), px_isHere rq hh (by omega), px_bd]
    by_cases hbit : (w 12).testBit i = true
    · rw [if_pos hbit, if_neg (by decide), px_cell, px_bd, px_gd (px_ix (by omega) (by decide)), nI_clamp (by omega), rl]
      by_cases h0 : 0 < w (13 + 5 * i + b)
      · rw [if_neg (fun h => by rw [px_le0 (by omega)] at h; omega), px_gd (px_ix hb (by decide)), nI_clamp (by omega)]
        obtain ⟨I3, h1, h2⟩ := hF I2 q i b (w 12) (I2 5 b) (eI 8 (by decide) (by decide)) (by rw [eI 7 (by decide) (by decide)]) hq (by omega) hb rq hh
        have ev : F (I2 (q + 3) (5 * i + b)) (I2 (q + 1) i) (I2 (q + 2) i) (I2 5 b) (nI (rx_pop (w 12))) (I2 q 4) = sp_wt F (I 5 b) w i b := by
          unfold sp_wt
          rw [rl, eI (q + 1) (by omega) (by omega), rx_has hw hn hi, eI (q + 2) (by omega) (by omega), rx_rang hw (by omega), eI 5 (by decide) (by decide), eI q (by omega) (by omega), rx_day hw]
        rw [ev] at h1
        rw [h1, px_bd]
        by_cases hlt : (sp_rg F (I 5 b) w b i).2 < sp_wt F (I 5 b) w i b
        · rw [if_neg (Int32.not_le.mpr hlt), next]
          refine ⟨_, rfl, ?_, ?_, rfl, fun k k1 k2 => (h2 k k1 k2).trans (eI k k1 k2)⟩
          · show nI i = (sp_rg F (I 5 b) w b (i + 1)).1
            unfold sp_rg
            rw [if_pos ⟨hbit, h0, hlt⟩]
          · show sp_wt F (I 5 b) w i b = (sp_rg F (I 5 b) w b (i + 1)).2
            rw [sp_rg, if_pos ⟨hbit, h0, hlt⟩]
        · rw [if_pos (Int32.not_lt.mp hlt), next]
          refine ⟨_, rfl, ?_, ?_, rfl, fun k k1 k2 => (h2 k k1 k2).trans (eI k k1 k2)⟩
          · show (sp_rg F (I 5 b) w b i).1 = (sp_rg F (I 5 b) w b (i + 1)).1
            rw [sp_rg, if_neg (fun h => hlt h.2.2)]
          · show (sp_rg F (I 5 b) w b i).2 = (sp_rg F (I 5 b) w b (i + 1)).2
            rw [sp_rg, if_neg (fun h => hlt h.2.2)]
      · rw [if_pos ((px_le0 (by omega)).mpr (by omega)), next]
        refine ⟨_, rfl, ?_, ?_, rfl, eI⟩
        · show (sp_rg F (I 5 b) w b i).1 = (sp_rg F (I 5 b) w b (i + 1)).1
          rw [sp_rg, if_neg (fun h => h0 h.2.1)]
        · show (sp_rg F (I 5 b) w b i).2 = (sp_rg F (I 5 b) w b (i + 1)).2
          rw [sp_rg, if_neg (fun h => h0 h.2.1)]
    · rw [if_neg hbit, if_pos rfl, next]
      refine ⟨_, rfl, ?_, ?_, rfl, eI⟩
      · show (sp_rg F (I 5 b) w b i).1 = (sp_rg F (I 5 b) w b (i + 1)).1
        rw [sp_rg, if_neg (fun h => hbit h.1)]
      · show (sp_rg F (I 5 b) w b i).2 = (sp_rg F (I 5 b) w b (i + 1)).2
        rw [sp_rg, if_neg (fun h => hbit h.1)]
  · rintro ⟨a3, a4, a5, I2⟩ ⟨e3, e4, e5, eI⟩
    dsimp only at e3 e4 e5 eI ⊢
    subst e3 e4 e5
    refine ⟨((sp_rg F (I 5 b) w b np).1, I2), ?_, rfl, eI⟩
    unfold fX5_chosen_8 fX5_chosen_88
    rw [eI 3 (by decide) (by decide), h34, if_pos (nI_le (Nat.le_refl _) (by omega))]
    rfl
/-- the reference: who is chosen -/
theorem px_ringerOf (hn : np ≤ 6) (hb : b < 5) (h39 : I 73 39 = nI np) (hF : rx_FM F (I 78) (I 79) (I 73 18) (I 73 25)) (hw : rx_is np (I 90) w) (ho : rx_ok np nb dm w) : ∃ I', fX12_ringerOf (nI b) I = some ((sp_rg F (I 87 b) w b np).1, I') ∧ ∀ r, r ≠ 81 → r ≠ 82 → I' r = I r := by
  have hh := rx_ok_h ho hn
  have key := px_for (body := fun s : Int32 × Int32 × Int32 × ab_I => fX12_ringerOf_7 (nI b) s.1 s.2.1 s.2.2.1 s.2.2.2) (Out := fun r : Int32 × ab_I => r.1 = (sp_rg F (I 87 b) w b np).1 ∧ ∀ k, k ≠ 81 → k ≠ 82 → r.2 k = I k)
    (fun i s => s.1 = (sp_rg F (I 87 b) w b i).1 ∧ s.2.1 = (sp_rg F (I 87 b) w b i).2 ∧ s.2.2.1 = nI i ∧ ∀ k, k ≠ 81 → k ≠ 82 → s.2.2.2 k = I k) np ?_ ?_ np 0 5000 (-1, 0, 0, I) (by omega) (by omega) ⟨rfl, rfl, rfl, fun _ _ _ => rfl⟩
  · obtain ⟨r, h1, h2, h3⟩ := key
    refine ⟨r.2, ?_, h3⟩
    unfold fX12_ringerOf
    rw [h1, ← h2]
  · rintro i ⟨a3, a4, a5, I2⟩ hi ⟨e3, e4, e5, eI⟩
    dsimp only at e3 e4 e5 eI ⊢
    subst e3 e4 e5
    have r3 : I2 73 39 = nI np := by rw [eI 73 (by decide) (by decide)]; exact h39
    have e90 : I2 90 = I 90 := eI 90 (by decide) (by decide)
    have rq : I2 90 12 = nI (w 12) := by rw [e90]; exact hw 12 (by decide) (fun h => absurd h (by decide))
    have rl : I2 90 (13 + 5 * i + b) = nI (w (13 + 5 * i + b)) := by rw [e90]; exact hw _ (by omega) (fun h => by omega)
    have hl20 : w (13 + 5 * i + b) ≤ 20 := by have := ho.2.2.2.1 (5 * i + b) (by omega); rwa [← Nat.add_assoc] at this
    have next : ∀ (x y : Int32) (I3 : ab_I), fX12_ringerOf_62 (nI b) x y (nI i) I3 = some (.inl (x, y, nI (i + 1), I3)) := fun x y I3 => by unfold fX12_ringerOf_62; rw [nI_succ]
    unfold fX12_ringerOf_7
    rw [r3, if_neg (nI_ge hi (by omega)), px_mIsHere rq hh (by omega), px_bd]
    by_cases hbit : (w 12).testBit i = true
    · rw [if_pos hbit, if_neg (by decide), px_mMayLose (by omega) hb rl (by omega), px_bd]
      by_cases h0 : 0 < w (13 + 5 * i + b)
      · rw [if_pos h0, if_neg (by decide)]
        obtain ⟨I3, h1, h2⟩ := hF I2 i b (w 12) (eI 78 (by decide) (by decide)) (eI 79 (by decide) (by decide)) (by rw [eI 73 (by decide) (by decide)]) (by rw [eI 73 (by decide) (by decide)]) (by omega) hb rq hh
        have ev : F (I2 90 (13 + 5 * i + b)) (I2 90 i) (I2 90 (6 + i)) (I2 87 b) (nI (rx_pop (w 12))) (I2 90 43) = sp_wt F (I 87 b) w i b := by
          unfold sp_wt
          rw [rl, e90, hw i (by omega) (fun _ => hi), hw (6 + i) (by omega) (fun h => by omega), hw 43 (by decide) (fun h => absurd h (by decide)), eI 87 (by decide) (by decide)]
        rw [ev] at h1
        rw [h1, px_bd]
        by_cases hlt : (sp_rg F (I 87 b) w b i).2 < sp_wt F (I 87 b) w i b
        · rw [if_pos hlt, next]
          refine ⟨_, rfl, ?_, ?_, rfl, fun k k1 k2 => (h2 k k1 k2).trans (eI k k1 k2)⟩
          · show nI i = (sp_rg F (I 87 b) w b (i + 1)).1
            rw [sp_rg, if_pos ⟨hbit, h0, hlt⟩]
          · show sp_wt F (I 87 b) w i b = (sp_rg F (I 87 b) w b (i + 1)).2
            rw [sp_rg, if_pos ⟨hbit, h0, hlt⟩]
        · rw [if_neg hlt, next]
          refine ⟨_, rfl, ?_, ?_, rfl, fun k k1 k2 => (h2 k k1 k2).trans (eI k k1 k2)⟩
          · show (sp_rg F (I 87 b) w b i).1 = (sp_rg F (I 87 b) w b (i + 1)).1
            rw [sp_rg, if_neg (fun h => hlt h.2.2)]
          · show (sp_rg F (I 87 b) w b i).2 = (sp_rg F (I 87 b) w b (i + 1)).2
            rw [sp_rg, if_neg (fun h => hlt h.2.2)]
      · rw [if_neg h0, if_pos rfl, next]
        refine ⟨_, rfl, ?_, ?_, rfl, eI⟩
        · show (sp_rg F (I 87 b) w b i).1 = (sp_rg F (I 87 b) w b (i + 1)).1
          rw [sp_rg, if_neg (fun h => h0 h.2.1)]
        · show (sp_rg F (I 87 b) w b i).2 = (sp_rg F (I 87 b) w b (i + 1)).2
          rw [sp_rg, if_neg (fun h => h0 h.2.1)]
    · rw [if_neg hbit, if_pos rfl, next]
      refine ⟨_, rfl, ?_, ?_, rfl, eI⟩
      · show (sp_rg F (I 87 b) w b i).1 = (sp_rg F (I 87 b) w b (i + 1)).1
        rw [sp_rg, if_neg (fun h => hbit h.1)]
      · show (sp_rg F (I 87 b) w b i).2 = (sp_rg F (I 87 b) w b (i + 1)).2
        rw [sp_rg, if_neg (fun h => hbit h.1)]
  · rintro ⟨a3, a4, a5, I2⟩ ⟨e3, e4, e5, eI⟩
    dsimp only at e3 e4 e5 eI ⊢
    subst e3 e4 e5
    refine ⟨((sp_rg F (I 87 b) w b np).1, I2), ?_, rfl, eI⟩
    unfold fX12_ringerOf_7 fX12_ringerOf_68
    rw [eI 73 (by decide) (by decide), h39, if_pos (nI_le (Nat.le_refl _) (by omega))]
    rfl
end RG
