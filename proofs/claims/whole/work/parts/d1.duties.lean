/-! ===== duties: the reference, the pair ===== -/
section DUM
variable {S : ab_S} {I : ab_I} {J : ab_J} {P : ab_P} {l : Launch} {G : ab_G} {np nb dm : Nat} {w : Nat → Nat}
/-- the first bells' part of a number -/
def du_pc (np : Nat) (c : Nat) : Nat → Nat
  | 0 => c
  | i + 1 => du_pc np c i / (np + 1)
theorem du_pc_s {c : Nat} : ∀ i, du_pc np (c / (np + 1)) i = du_pc np c (i + 1)
  | 0 => rfl
  | i + 1 => by
    show du_pc np (c / (np + 1)) i / (np + 1) = du_pc np c (i + 1) / (np + 1)
    rw [du_pc_s i]
theorem du_pc_le {c : Nat} : ∀ i, du_pc np c i ≤ c
  | 0 => Nat.le_refl _
  | i + 1 => Nat.le_trans (Nat.div_le_self _ _) (du_pc_le i)
theorem du_dg_pc : ∀ n c j, j < n → du_dg np n c j = du_pc np c (n - 1 - j) % (np + 1)
  | 0, c, j, h => absurd h (Nat.not_lt_zero j)
  | n + 1, c, j, h => by
    rw [du_dg]
    by_cases e : j = n
    · subst e
      rw [if_pos rfl, show j + 1 - 1 - j = 0 by omega]
      rfl
    · rw [if_neg e, du_dg_pc n _ j (by omega), du_pc_s, show n - 1 - j + 1 = n + 1 - 1 - j by omega]
def du_dj (a b : Nat) : Prop := ∀ x, x < 6 → ¬ (a.testBit x = true ∧ b.testBit x = true)
/-- one bell of a number, from its last on -/
theorem px_layD {code : Nat} (hn : np ≤ 6) (hnb : nb ≤ 5) (hcode : code < 20000) (h39 : I 73 39 = nI np) (h40 : I 73 40 = nI nb) (hw : rx_is np (I 90) w) (ho : rx_ok np nb dm w) :
    ∃ I', fX12_layDuties (nI code) I = some (if du_fe np w nb code = true then nI (du_ct np nb code) else -1, I') ∧ (du_fe np w nb code = true → ∀ j, j < nb → I' 94 j = du_di np (du_dg np nb code j)) ∧ ∀ r, r ≠ 94 → I' r = I r := by
  have hh := rx_ok_h ho hn
  have key := px_forE (body := fun s : Int32 × Int32 × Int32 × Int32 × ab_I => fX12_layDuties_15 (nI code) s.1 s.2.1 s.2.2.1 s.2.2.2.1 s.2.2.2.2) (Out := fun x : Int32 × ab_I => x.1 = (if du_fe np w nb code = true then nI (du_ct np nb code) else -1) ∧ (du_fe np w nb code = true → ∀ j, j < nb → x.2 94 j = du_di np (du_dg np nb code j)) ∧ ∀ r, r ≠ 94 → x.2 r = I r)
    (fun i s => ∃ had n, s.1 = nI (du_pc np code i) ∧ s.2.1 = nI had ∧ had < 2 ^ np ∧ s.2.2.1 = nI n ∧ s.2.2.2.1 = nI (nb - i) - 1 ∧ (∀ j, j < nb → nb ≤ j + i → s.2.2.2.2 94 j = du_di np (du_dg np nb code j)) ∧ (du_fe np w nb code = true ↔ (du_fe np w (nb - i) (du_pc np code i) = true ∧ du_dj (du_us np (nb - i) (du_pc np code i)) had)) ∧ n + du_ct np (nb - i) (du_pc np code i) = du_ct np nb code ∧ ∀ r, r ≠ 94 → s.2.2.2.2 r = I r) nb ?_ ?_ nb 0 5000 (nI code, 0, 0, nI nb - 1, I) (by omega) (by omega) ⟨0, 0, rfl, rfl, Nat.pow_pos (by decide), rfl, rfl, fun j h1 h2 => by omega, ⟨fun h => ⟨h, fun x _ h => absurd h.2 (by simp)⟩, fun h => h.1⟩, Nat.zero_add _, fun _ _ => rfl⟩
  · obtain ⟨⟨x, I2⟩, k1, k2, k3⟩ := key
    dsimp only at k2 k3
    refine ⟨I2, ?_, k3⟩
    unfold fX12_layDuties
    rw [h40, k1, k2]
  · rintro i ⟨s1, s2, s3, s4, I2⟩ hi ⟨had, n, e1, e2, e3, e4, e5, e6, e7, e8, e9⟩
    dsimp only at e1 e2 e4 e5 e6 e9 ⊢
    subst e1 e2 e4 e5
    obtain ⟨b, hb⟩ : ∃ b, nb - i = b + 1 := ⟨nb - i - 1, by omega⟩
    rw [hb] at e7 e8 ⊢
    have hpc : du_pc np code i < 20000 := Nat.lt_of_le_of_lt (du_pc_le i) hcode
    have hmod := Nat.mod_lt (du_pc np code i) (show 0 < np + 1 by omega)
    have hK : nI np + 1 = nI (np + 1) := (nI_succ np).symm
    have hKz : ¬ nI (np + 1) = 0 := nI_ne0 (by omega) (by omega)
    have hdiv : nI (du_pc np code i) / nI (np + 1) = nI (du_pc np code i / (np + 1)) := pk_div (by omega) (by omega) (by omega)
    have hrem : nI (du_pc np code i) - nI (du_pc np code i) / nI (np + 1) * nI (np + 1) = nI (du_pc np code i % (np + 1)) := pk_rem (by omega) (by omega) (by omega)
    have h39' : I2 73 39 = nI np := by rw [e9 73 (by decide)]; exact h39
    have edg : du_dg np nb code b = du_pc np code i % (np + 1) := by rw [du_dg_pc nb code b (by omega), show nb - 1 - b = i by omega]
    have had64 : had < 64 := Nat.lt_of_lt_of_le e3 (sp_two64 hn)
    have e7' := e7
    rw [du_fe, du_us] at e7'
    rw [du_ct] at e8
    have hi1 : nb - (i + 1) = b := by omega
    have epc : du_pc np code (i + 1) = du_pc np code i / (np + 1) := rfl
    generalize hd : du_pc np code i % (np + 1) = d at *
    have row : ∀ x, x = du_di np d → ∀ j, j < nb → nb ≤ j + (i + 1) → ab_u I2 94 b x 94 j = du_di np (du_dg np nb code j) := fun x hx j h1 h2 => by
      by_cases ej : j = b
      · rw [ej, ab_u_at, hx, edg]
      · rw [ab_u_ne ej]; exact e6 j h1 (by omega)
    unfold fX12_layDuties_15
    rw [nI_pred, if_neg (nI_pos (by omega)), h39', hK, hrem, hdiv, px_gd hKz, px_gd hKz]
    by_cases dn : d = np
    · rw [if_pos (by rw [dn])]
      left
      unfold fX12_layDuties_60 fX12_layDuties_115
      rw [px_gd (px_ix (by omega) (by decide)), h39', if_pos (by rw [dn]), nI_clamp (by omega)]
      refine ⟨_, rfl, had, n, rfl, rfl, e3, rfl, ?_, row _ (by rw [du_di, if_pos dn]), ?_, ?_, fun r hr => by dsimp only; rw [ab_u_o hr]; exact e9 r hr⟩
      · dsimp only
        rw [px_dec, hi1]
      · rw [hi1, epc]
        rw [e7', decide_eq_true dn, Bool.true_or, Bool.and_true, if_pos dn]
      · rw [hi1, epc]
        rw [if_pos dn, Nat.add_zero] at e8
        exact e8
    · have dlt : d < np := by omega
      rw [if_neg (fun h => dn ((nI_eq (by omega) (by omega)).mp h))]
      have w20 := ho.2.2.2.1 (5 * d + b) (by omega)
      rw [← Nat.add_assoc] at w20
      rw [decide_eq_false dn, Bool.false_or, if_neg dn] at e7'
      have no : (had.testBit d = true ∨ ¬ (w 12).testBit d = true ∨ w (13 + 5 * d + b) = 0) → ∃ x : Int32 × ab_I, (fX12_layDuties_103 (nI code) (ab_u I2 94 b (nI d))).map (Sum.inr (α := Int32 × Int32 × Int32 × Int32 × ab_I)) = some (.inr x) ∧ x.1 = (if du_fe np w nb code = true then nI (du_ct np nb code) else -1) ∧ (du_fe np w nb code = true → ∀ j, j < nb → x.2 94 j = du_di np (du_dg np nb code j)) ∧ ∀ r, r ≠ 94 → x.2 r = I r := fun hbad => by
        have hnf : ¬ du_fe np w nb code = true := fun hf => by
          obtain ⟨x1, x2⟩ := e7'.mp hf
          rw [Bool.and_eq_true, Bool.and_eq_true, Bool.and_eq_true, decide_eq_true_eq] at x1
          rcases hbad with h | h | h
          · exact x2 d (by omega) ⟨by rw [px_or_tb _ (Nat.lt_of_lt_of_le (du_us64 hn b _) (sp_two64 hn)) d (by omega) d (by omega)]; simp, h⟩
          · exact h x1.2.1.2
          · have := x1.2.2; omega
        refine ⟨_, rfl, by rw [if_neg hnf], fun h => absurd h hnf, fun r hr => ?_⟩
        dsimp only
        rw [ab_u_o hr]; exact e9 r hr
      have hx : ∀ r, r ≠ 94 → ab_u I2 94 b (nI d) r = I r := fun r hr => by rw [ab_u_o hr]; exact e9 r hr
      unfold fX12_layDuties_60 fX12_layDuties_115
      rw [px_gd (px_ix (by omega) (by decide)), h39', if_neg (fun h => dn ((nI_eq (by omega) (by omega)).mp h)), nI_clamp (by omega)]
      by_cases b1 : had.testBit d = true
      · rw [if_pos ((px_bit had had64 d (by omega)).mpr b1)]
        exact Or.inr (no (Or.inl b1))
      · rw [if_neg (fun h => b1 ((px_bit had had64 d (by omega)).mp h)), px_mIsHere (h := w 12) (by rw [hx 90 (by decide)]; exact hw 12 (by decide) (fun h => absurd h (by decide))) hh (by omega), px_bd]
        by_cases b2 : (w 12).testBit d = true
        · rw [if_pos b2, if_neg (by decide), px_mMayLose (x := w (13 + 5 * d + b)) (by omega) (by omega) (by rw [hx 90 (by decide)]; exact hw _ (by omega) (fun h => by omega)) (by omega), px_bd]
          by_cases b3 : w (13 + 5 * d + b) = 0
          · rw [if_neg (show ¬ 0 < w (13 + 5 * d + b) by omega), if_pos (show (0 : Int32) = 0 from rfl)]
            exact Or.inr (no (Or.inr (Or.inr b3)))
          · rw [if_pos (show 0 < w (13 + 5 * d + b) by omega), if_neg (show ¬ (1 : Int32) = 0 by decide), px_or_nI had had64 d (by omega)]
            left
            refine ⟨_, rfl, had ||| 2 ^ d, n + 1, rfl, rfl, px_or_lt np (by omega) had e3 d dlt, (nI_succ n).symm, ?_, row _ (by rw [du_di, if_neg dn]), ?_, ?_, hx⟩
            · dsimp only
              rw [px_dec, hi1]
            · rw [hi1, epc, e7', Bool.and_eq_true, Bool.and_eq_true, Bool.and_eq_true, decide_eq_true_eq]
              have us64 : du_us np b (du_pc np code i / (np + 1)) < 64 := Nat.lt_of_lt_of_le (du_us64 hn b _) (sp_two64 hn)
              constructor
              · rintro ⟨⟨x1, ⟨x2, x3⟩, x4⟩, x5⟩
                refine ⟨x1, fun y hy ⟨z1, z2⟩ => ?_⟩
                rw [px_or_tb had had64 d (by omega) y hy] at z2
                by_cases ey : y = d
                · rw [ey] at z1; rw [z1] at x2; exact absurd x2 (by decide)
                · rw [decide_eq_false ey, Bool.false_or] at z2
                  exact x5 y hy ⟨by rw [px_or_tb _ us64 d (by omega) y hy, z1]; simp, z2⟩
              · rintro ⟨x1, x5⟩
                refine ⟨⟨x1, ⟨?_, b2⟩, by omega⟩, fun y hy ⟨z1, z2⟩ => ?_⟩
                · cases hz : (du_us np b (du_pc np code i / (np + 1))).testBit d with
                  | false => rfl
                  | true => exact absurd ⟨hz, by rw [px_or_tb had had64 d (by omega) d (by omega)]; simp⟩ (x5 d (by omega))
                · rw [px_or_tb _ us64 d (by omega) y hy] at z1
                  by_cases ey : y = d
                  · rw [ey] at z2; exact b1 z2
                  · rw [decide_eq_false ey, Bool.false_or] at z1
                    exact x5 y hy ⟨z1, by rw [px_or_tb had had64 d (by omega) y hy, z2]; simp⟩
            · rw [hi1, epc]
              rw [if_neg dn] at e8
              omega
        · rw [if_neg b2, if_pos rfl]
          exact Or.inr (no (Or.inr (Or.inl b2)))
  · rintro ⟨s1, s2, s3, s4, I2⟩ ⟨had, n, e1, e2, e3, e4, e5, e6, e7, e8, e9⟩
    dsimp only at e1 e2 e4 e5 e6 e9 ⊢
    subst e1 e2 e4 e5
    rw [Nat.sub_self] at e7 e8 ⊢
    have hf : du_fe np w nb code = true := e7.mpr ⟨rfl, fun x _ h => absurd h.1 (by rw [du_us]; simp)⟩
    unfold fX12_layDuties_15 fX12_layDuties_121
    rw [if_pos (by decide)]
    refine ⟨_, rfl, ?_, fun _ j hj => e6 j hj (by omega), e9⟩
    rw [if_pos hf, ← e8]
    rfl
theorem px_lossR {code : Nat} (hn : np ≤ 6) (hnb : nb ≤ 5) (h40 : I 73 40 = nI nb) (hw : rx_is np (I 90) w) (ho : rx_ok np nb dm w) (h94 : ∀ j, j < nb → I 94 j = du_di np (du_dg np nb code j)) : fX12_lossOfRow I = some (nI (du_ls np w nb code)) := by
  have key := px_for (body := fun s : Int32 × Int32 => fX12_lossOfRow_4 I s.1 s.2) (Out := fun x : Int32 => x = nI (du_ls np w nb code))
    (fun b s => s.1 = nI (du_ls np w b (du_pc np code (nb - b))) ∧ s.2 = nI b) nb ?_ ?_ nb 0 5000 (0, 0) (by omega) (by omega) ⟨rfl, rfl⟩
  · obtain ⟨x, k1, k2⟩ := key
    unfold fX12_lossOfRow
    rw [k1, k2]
  · rintro b ⟨s1, s2⟩ hb ⟨e1, e2⟩
    dsimp only at e1 e2 ⊢
    subst e1 e2
    have epc : du_pc np code (nb - b) = du_pc np code (nb - (b + 1)) / (np + 1) := by rw [show nb - b = nb - (b + 1) + 1 by omega]; rfl
    have edg : du_dg np nb code b = du_pc np code (nb - (b + 1)) % (np + 1) := by rw [du_dg_pc nb code b hb, show nb - 1 - b = nb - (b + 1) by omega]
    have hmod := Nat.mod_lt (du_pc np code (nb - (b + 1))) (show 0 < np + 1 by omega)
    have els : du_ls np w (b + 1) (du_pc np code (nb - (b + 1))) = du_ls np w b (du_pc np code (nb - b)) + (if du_dg np nb code b = np then 0 else w (13 + 5 * du_dg np nb code b + b)) := by
      rw [du_ls, ← epc, ← edg]
    rw [← edg] at hmod
    have h94b := h94 b hb
    generalize du_dg np nb code b = d at *
    unfold fX12_lossOfRow_4 fX12_lossOfRow_44
    rw [h40, if_neg (nI_ge hb (by omega)), px_gd (px_ix (by omega) (by decide)), nI_clamp (by omega), h94b]
    by_cases dn : d = np
    · rw [if_pos dn] at els
      rw [du_di, if_pos dn, if_neg (by decide), Int32.add_zero]
      exact ⟨_, rfl, by dsimp only; rw [els, Nat.add_zero], (nI_succ b).symm⟩
    · rw [if_neg dn] at els
      rw [du_di, if_neg dn, if_pos (nI_pos' (by omega)), px_gd (px_ix (by omega) (by decide)), px_mcell, px_gd (px_ix (by omega) (by decide)), nI_clamp (by omega), hw _ (by omega) (fun h => by omega), px_add]
      exact ⟨_, rfl, by dsimp only; rw [els], (nI_succ b).symm⟩
  · rintro ⟨s1, s2⟩ ⟨e1, e2⟩
    dsimp only at e1 e2 ⊢
    subst e1 e2
    unfold fX12_lossOfRow_4 fX12_lossOfRow_52
    rw [h40, if_pos (nI_le (Nat.le_refl _) (by omega)), Nat.sub_self]
    exact ⟨_, rfl, rfl⟩
theorem px_power (hn : np ≤ 6) (hnb : nb ≤ 5) : fX12_power (nI np + 1) (nI nb) = some (nI ((np + 1) ^ nb)) := by
  rw [← nI_succ]
  have key := px_for (body := fun s : Int32 × Int32 => fX12_power_4 (nI (np + 1)) (nI nb) s.1 s.2) (Out := fun x : Int32 => x = nI ((np + 1) ^ nb))
    (fun i s => s.1 = nI ((np + 1) ^ i) ∧ s.2 = nI i) nb ?_ ?_ nb 0 5000 (1, 0) (by omega) (by omega) ⟨rfl, rfl⟩
  · obtain ⟨x, k1, k2⟩ := key
    unfold fX12_power
    rw [k1, k2]
  · rintro i ⟨s1, s2⟩ hi ⟨e1, e2⟩
    dsimp only at e1 e2 ⊢
    subst e1 e2
    unfold fX12_power_4
    rw [if_neg (nI_ge hi (by omega)), pk_mul, ← Nat.pow_succ]
    exact ⟨_, rfl, rfl, (nI_succ i).symm⟩
  · rintro ⟨s1, s2⟩ ⟨e1, e2⟩
    dsimp only at e1 e2 ⊢
    subst e1 e2
    unfold fX12_power_4 fX12_power_19
    rw [if_pos (nI_le (Nat.le_refl _) (by omega))]
    exact ⟨_, rfl, rfl⟩
theorem du_pow : ∀ n, n < 7 → ∀ b, b < 6 → (n + 1) ^ b < 17000 := by decide
theorem px_cp87 {a1 a2 a3 a4 : Int32} (hnb : nb ≤ 5) (h40 : I 73 40 = nI nb) : ∃ I', ab_it (fun s : Int32 × Int32 × Int32 × Int32 × ab_I => fX12_duties_87 a1 s.1 s.2.1 s.2.2.1 s.2.2.2.1 s.2.2.2.2) 5000 (a2, a3, a4, 0, I) = some (.inl (a2, a3, a4 + 1, I')) ∧ (∀ j, j < nb → I' 93 j = I 94 j) ∧ ∀ r, r ≠ 93 → I' r = I r := by
  have key := px_for (body := fun s : Int32 × Int32 × Int32 × Int32 × ab_I => fX12_duties_87 a1 s.1 s.2.1 s.2.2.1 s.2.2.2.1 s.2.2.2.2) (Out := fun x : (Int32 × Int32 × Int32 × ab_I) ⊕ (Int32 × ab_I) => ∃ I', x = .inl (a2, a3, a4 + 1, I') ∧ (∀ j, j < nb → I' 93 j = I 94 j) ∧ ∀ r, r ≠ 93 → I' r = I r)
    (fun i s => s.1 = a2 ∧ s.2.1 = a3 ∧ s.2.2.1 = a4 ∧ s.2.2.2.1 = nI i ∧ (∀ j, j < i → s.2.2.2.2 93 j = I 94 j) ∧ ∀ r, r ≠ 93 → s.2.2.2.2 r = I r) nb ?_ ?_ nb 0 5000 (a2, a3, a4, 0, I) (by omega) (by omega) ⟨rfl, rfl, rfl, rfl, fun j hj => absurd hj (Nat.not_lt_zero j), fun _ _ => rfl⟩
  · obtain ⟨x, k1, I', k2, k3⟩ := key
    exact ⟨I', by rw [k1, k2], k3⟩
  · rintro i ⟨s1, s2, s3, s4, I2⟩ hi ⟨e1, e2, e3, e4, e5, e6⟩
    dsimp only at e1 e2 e3 e4 e5 e6 ⊢
    subst e1 e2 e3 e4
    unfold fX12_duties_87
    rw [e6 73 (by decide), h40, if_neg (nI_ge hi (by omega)), px_gd (px_ix (by omega) (by decide)), px_gd (px_ix (by omega) (by decide)), nI_clamp (by omega)]
    refine ⟨_, rfl, rfl, rfl, rfl, (nI_succ i).symm, fun j hj => ?_, fun r hr => by dsimp only; rw [ab_u_o hr]; exact e6 r hr⟩
    dsimp only
    by_cases ej : j = i
    · rw [ej, ab_u_at, e6 94 (by decide)]
    · rw [ab_u_ne ej]; exact e5 j (by omega)
  · rintro ⟨s1, s2, s3, s4, I2⟩ ⟨e1, e2, e3, e4, e5, e6⟩
    dsimp only at e1 e2 e3 e4 e5 e6 ⊢
    subst e1 e2 e3 e4
    unfold fX12_duties_87 fX12_duties_116
    rw [e6 73 (by decide), h40, if_pos (nI_le (Nat.le_refl _) (by omega))]
    exact ⟨_, rfl, _, rfl, e5, e6⟩
theorem du_last : ∀ b, du_fe np w b ((np + 1) ^ b - 1) = true
  | 0 => rfl
  | b + 1 => by
    have hp : 0 < (np + 1) ^ b := Nat.pow_pos (by omega)
    have e : (np + 1) ^ (b + 1) - 1 = ((np + 1) ^ b - 1) * (np + 1) + np := by
      obtain ⟨x, hx⟩ : ∃ x, (np + 1) ^ b = x + 1 := ⟨(np + 1) ^ b - 1, by omega⟩
      rw [Nat.pow_succ, hx, Nat.add_sub_cancel, Nat.add_mul, Nat.one_mul]
      omega
    obtain ⟨v1, v2⟩ := du_div (c := (np + 1) ^ b - 1) (Nat.le_refl np)
    rw [e, du_fe, v1, v2, du_last b]
    simp
theorem du_some : ∃ m, du_fr np w nb none 0 ((np + 1) ^ nb) = some m := by
  have hp : 0 < (np + 1) ^ nb := Nat.pow_pos (by omega)
  obtain ⟨x, hx⟩ : ∃ x, (np + 1) ^ nb = x + 1 := ⟨(np + 1) ^ nb - 1, by omega⟩
  have hl := du_last (np := np) (w := w) nb
  rw [hx, Nat.add_sub_cancel] at hl
  rw [hx, du_fr, Nat.zero_add, du_st_y hl]
  cases du_fr np w nb none 0 x with
  | none => exact ⟨x, rfl⟩
  | some m =>
    dsimp only
    split
    · exact ⟨_, rfl⟩
    · exact ⟨_, rfl⟩
theorem px_mduties {a1 : Int32} (hn : np ≤ 6) (hnb : nb ≤ 5) (h39 : I 73 39 = nI np) (h40 : I 73 40 = nI nb) (hw : rx_is np (I 90) w) (ho : rx_ok np nb dm w) :
    ∃ m I', du_fr np w nb none 0 ((np + 1) ^ nb) = some m ∧ ab_it (fun s : Int32 × Int32 × Int32 × ab_I => fX12_duties_22 a1 s.1 s.2.1 s.2.2.1 s.2.2.2) 20000 (-1, 0, 0, I) = some (if a1 = 0 then nI (du_ct np nb m) else nI (du_ls np w nb m), I') ∧ (∀ j, j < nb → I' 93 j = du_di np (du_dg np nb m j)) ∧ I' 73 54 = nI nb ∧ ∀ r k, r ≠ 93 → r ≠ 94 → ¬ (r = 73 ∧ k = 54) → I' r k = I r k := by
  have hpow := du_pow np (by omega) nb (by omega)
  obtain ⟨mm, hmm⟩ := du_some (np := np) (nb := nb) (w := w)
  have key := px_for (body := fun s : Int32 × Int32 × Int32 × ab_I => fX12_duties_22 a1 s.1 s.2.1 s.2.2.1 s.2.2.2) (Out := fun x : Int32 × ab_I => x.1 = (if a1 = 0 then nI (du_ct np nb mm) else nI (du_ls np w nb mm)) ∧ (∀ j, j < nb → x.2 93 j = du_di np (du_dg np nb mm j)) ∧ x.2 73 54 = nI nb ∧ ∀ r k, r ≠ 93 → r ≠ 94 → ¬ (r = 73 ∧ k = 54) → x.2 r k = I r k)
    (fun c s => s.2.2.1 = nI c ∧ (match du_fr np w nb none 0 c with
      | none => s.1 = -1 ∧ s.2.1 = 0
      | some m => s.1 = nI (du_ct np nb m) ∧ s.2.1 = nI (du_ls np w nb m) ∧ ∀ j, j < nb → s.2.2.2 93 j = du_di np (du_dg np nb m j)) ∧ ∀ r, r ≠ 93 → r ≠ 94 → s.2.2.2 r = I r) ((np + 1) ^ nb) ?_ ?_ ((np + 1) ^ nb) 0 20000 (-1, 0, 0, I) (by omega) (by omega) ⟨rfl, ⟨rfl, rfl⟩, fun _ _ _ => rfl⟩
  · obtain ⟨x, k1, k2, k3⟩ := key
    exact ⟨mm, x.2, hmm, by rw [k1, ← k2], k3⟩
  · rintro c ⟨s1, s2, s3, I2⟩ hc ⟨e1, e2, e3⟩
    dsimp only at e1 e2 e3 ⊢
    subst e1
    have r73 : I2 73 = I 73 := e3 73 (by decide) (by decide)
    have r90 : I2 90 = I 90 := e3 90 (by decide) (by decide)
    obtain ⟨I3, c1, c2, c3⟩ := px_layD (I := I2) (code := c) hn hnb (by omega) (by rw [r73]; exact h39) (by rw [r73]; exact h40) (by rw [r90]; exact hw) ho
    have f3 : ∀ r, r ≠ 93 → r ≠ 94 → I3 r = I r := fun r a b => by rw [c3 r b]; exact e3 r a b
    have c5 := du_ct_le (np := np) nb c
    have l5 := du_ls_le hn ho nb c hnb
    have hfr : du_fr np w nb none 0 (c + 1) = du_st np w nb (du_fr np w nb none 0 c) c := by rw [du_fr, Nat.zero_add]
    unfold fX12_duties_22
    rw [r73, h39, h40, px_power hn hnb, px_bd, if_neg (nI_ge hc (by omega)), c1, px_bd]
    dsimp only
    have keep : ∀ a b, (match du_fr np w nb none 0 (c + 1) with
      | none => a = -1 ∧ b = 0
      | some m => a = nI (du_ct np nb m) ∧ b = nI (du_ls np w nb m) ∧ ∀ j, j < nb → I3 93 j = du_di np (du_dg np nb m j)) → ∃ s', fX12_duties_116 a1 a b (nI c) I3 = some (.inl s') ∧ s'.2.2.1 = nI (c + 1) ∧ (match du_fr np w nb none 0 (c + 1) with
      | none => s'.1 = -1 ∧ s'.2.1 = 0
      | some m => s'.1 = nI (du_ct np nb m) ∧ s'.2.1 = nI (du_ls np w nb m) ∧ ∀ j, j < nb → s'.2.2.2 93 j = du_di np (du_dg np nb m j)) ∧ ∀ r, r ≠ 93 → r ≠ 94 → s'.2.2.2 r = I r := fun a b h => ⟨(a, b, nI c + 1, I3), rfl, (nI_succ c).symm, h, f3⟩
    by_cases hf : du_fe np w nb c = true
    · rw [if_pos hf, if_neg (nI_pos (by omega))]
      have hls := px_lossR (I := I3) (code := c) hn hnb (by rw [f3 73 (by decide) (by decide)]; exact h40) (by rw [f3 90 (by decide) (by decide)]; exact hw) ho (c2 hf)
      obtain ⟨I4, d1, d2, d3⟩ := px_cp87 (I := I3) (a1 := a1) (a2 := nI (du_ct np nb c)) (a3 := nI (du_ls np w nb c)) (a4 := nI c) hnb (by rw [f3 73 (by decide) (by decide)]; exact h40)
      have take : du_fr np w nb none 0 (c + 1) = some c → ∃ s', fX12_duties_76 a1 (nI c) (nI (du_ct np nb c)) I3 = some (.inl s') ∧ s'.2.2.1 = nI (c + 1) ∧ (match du_fr np w nb none 0 (c + 1) with
        | none => s'.1 = -1 ∧ s'.2.1 = 0
        | some m => s'.1 = nI (du_ct np nb m) ∧ s'.2.1 = nI (du_ls np w nb m) ∧ ∀ j, j < nb → s'.2.2.2 93 j = du_di np (du_dg np nb m j)) ∧ ∀ r, r ≠ 93 → r ≠ 94 → s'.2.2.2 r = I r := fun h => by
        refine ⟨(nI (du_ct np nb c), nI (du_ls np w nb c), nI c + 1, I4), ?_, (nI_succ c).symm, ?_, fun r a b => by dsimp only; rw [d3 r a]; exact f3 r a b⟩
        · unfold fX12_duties_76
          rw [hls, px_bd, d1]
        · rw [h]
          exact ⟨rfl, rfl, fun j hj => by dsimp only; rw [d2 j hj]; exact c2 hf j hj⟩
      rw [du_st_y hf] at hfr
      cases ho2 : du_fr np w nb none 0 c with
      | none =>
        rw [ho2] at e2 hfr
        have n1 : ¬ nI (du_ct np nb c) < (-1 : Int32) := fun h => absurd (Int32.lt_of_lt_of_le h (by decide : (-1 : Int32) ≤ 0)) (nI_pos (by omega))
        rw [e2.1, if_neg n1, if_neg (px_m1 (by omega))]
        exact take hfr
      | some m =>
        rw [ho2] at e2 hfr
        obtain ⟨x1, x2, x3⟩ := e2
        have c6 := du_ct_le (np := np) nb m
        have l6 := du_ls_le hn ho nb m hnb
        have kp : ∀ j, j < nb → I3 93 j = du_di np (du_dg np nb m j) := fun j hj => by rw [c3 93 (by decide)]; exact x3 j hj
        dsimp only at hfr
        rw [x1, x2]
        by_cases g1 : du_ct np nb c < du_ct np nb m
        · rw [if_neg (by omega)] at hfr
          rw [if_pos (nI_lt g1 (by omega))]
          exact keep _ _ (by rw [hfr]; exact ⟨rfl, rfl, kp⟩)
        · rw [if_neg (nI_nlt (by omega) (by omega))]
          by_cases g2 : du_ct np nb c = du_ct np nb m
          · rw [if_pos (by rw [g2]), hls, px_bd]
            by_cases g3 : du_ls np w nb c < du_ls np w nb m
            · rw [if_pos (Or.inr ⟨g2, g3⟩)] at hfr
              rw [if_pos (nI_lt g3 (by omega))]
              exact take hfr
            · rw [if_neg (by omega)] at hfr
              rw [if_neg (nI_nlt (by omega) (by omega))]
              exact keep _ _ (by rw [hfr]; exact ⟨rfl, rfl, kp⟩)
          · rw [if_pos (by omega)] at hfr
            rw [if_neg (fun h => g2 ((nI_eq (by omega) (by omega)).mp h))]
            exact take hfr
    · rw [if_neg hf, if_pos (by decide)]
      rw [du_st_n hf] at hfr
      refine keep _ _ ?_
      rw [hfr]
      cases ho2 : du_fr np w nb none 0 c with
      | none => rw [ho2] at e2; exact e2
      | some m =>
        rw [ho2] at e2
        exact ⟨e2.1, e2.2.1, fun j hj => by rw [c3 93 (by decide)]; exact e2.2.2 j hj⟩
  · rintro ⟨s1, s2, s3, I2⟩ ⟨e1, e2, e3⟩
    dsimp only at e1 e2 e3 ⊢
    subst e1
    rw [hmm] at e2
    obtain ⟨x1, x2, x3⟩ := e2
    have r73 : I2 73 = I 73 := e3 73 (by decide) (by decide)
    unfold fX12_duties_22 fX12_duties_122 fX12_duties_139
    rw [r73, h39, h40, px_power hn hnb, px_bd, if_pos (nI_le (Nat.le_refl _) (by omega)), x1, x2]
    have fin : ∀ y, ∃ x : Int32 × ab_I, (some (y, ab_u I2 73 54 (nI nb))).map (Sum.inr (α := Int32 × Int32 × Int32 × ab_I)) = some (.inr x) ∧ x.1 = y ∧ (∀ j, j < nb → x.2 93 j = du_di np (du_dg np nb mm j)) ∧ x.2 73 54 = nI nb ∧ ∀ r k, r ≠ 93 → r ≠ 94 → ¬ (r = 73 ∧ k = 54) → x.2 r k = I r k := fun y => ⟨(y, ab_u I2 73 54 (nI nb)), rfl, rfl, fun j hj => by show ab_u I2 73 54 (nI nb) 93 j = _; rw [px_u (by omega)]; exact x3 j hj, by show ab_u I2 73 54 (nI nb) 73 54 = _; rw [ab_u_at], fun r k a b x => by show ab_u I2 73 54 (nI nb) r k = _; rw [px_u x, e3 r a b]⟩
    by_cases ea : a1 = 0
    · rw [if_pos ea, if_pos ea]; exact fin _
    · rw [if_neg ea, if_neg ea]; exact fin _
theorem du_wo0 : ∀ h, h < 64 → sp_wo h 0 = h := by decide +kernel
theorem pr_duties (hR : rx_R S I J P) (a1 : Int32) : lz_pr l G rx_R mX11_duties 25 mX12_duties 2 [.int a1] S I J P := by
  obtain ⟨hB, hZ, ⟨i, hS⟩, np, nb, nl, fa, lc, dr, t, F, hG, ⟨q, w, hN⟩, ⟨dn, kp, hA⟩, ⟨bf, hX⟩, ⟨c0, hL⟩, ⟨z, hP⟩, hU, cn, tm, hW⟩ := id hR
  obtain ⟨v1, v2, v3, v4, v5, v6, v7, v8, v9, v10, v11, v12, v13, v14⟩ := hG.1
  obtain ⟨n1, n2, n3, n4, n5⟩ := id hN
  by_cases ha : a1 < 0 ∨ (1 : Int32) < a1
  · have hx : fX11_duties a1 I P = some (-1, I) := by
      unfold fX11_duties
      rw [px_within, if_pos ha, px_bd, if_pos rfl]
    have hm : fX12_dutiesL a1 I = some (-1, I) := by
      unfold fX12_dutiesL
      rw [px_isIn, if_pos ha, px_bd, if_pos rfl]
    exact lz_q _ hR (fun Q hQ => mX11_duties_ok hB hx hQ) (fun Q hQ => mX12_dutiesL_ok hB hm hQ) (fun _ _ => rfl)
  have hh := rx_ok_h n5 v1
  have g0 : ∀ r, r ≠ 34 → ab_u (ab_u I 34 5 (-1 : Int32)) 34 6 (0 : Int32) r = I r := fun r hr => by rw [ab_u_o hr, ab_u_o hr]
  obtain ⟨I1, x1, x2, x3, x4⟩ := px_share (q := q) v1 v2 n2 n5 nb 0 0 10 (ab_u (ab_u I 34 5 (-1 : Int32)) 34 6 (0 : Int32)) none (by omega) (by omega) rfl (by rw [g0 3 (by decide)]; exact v5) (by rw [g0 3 (by decide)]; exact v7) (rx_is_c (fun e he g => by rw [g0 (q + e) (by rcases n2 with rfl | ⟨i, rfl⟩ <;> omega)]) n3) (fun j hj => absurd hj (Nat.not_lt_zero j)) ⟨by rw [ab_u_ne (by decide), ab_u_at], by rw [ab_u_at]⟩
  rw [show du_us np 0 0 = 0 from rfl, du_wo0 _ hh, show du_ct np 0 0 = 0 from rfl, show du_ls np w 0 0 = 0 from rfl] at x1
  have x1' : fX3_shareFrom 10 q 0 (nI (w 12)) 0 0 (ab_u (ab_u I 34 5 (-1 : Int32)) 34 6 (0 : Int32)) = some I1 := x1
  rw [Nat.zero_mul] at x2
  obtain ⟨m, hm⟩ := du_some (np := np) (nb := nb) (w := w)
  rw [hm] at x2
  obtain ⟨b1, b2, b3⟩ := x2
  have f1 : ∀ r, r ≠ 34 → r ≠ 39 → r ≠ 40 → I1 r = I r := fun r a b c => by rw [x4 r a b c, g0 r a]
  obtain ⟨I2, d1, d2, d3, d4⟩ := px_lay (I := I1) (r1 := 40) (n1 := 6) (m := nb) (by decide) (by omega) (Or.inl rfl)
  have hx : fX11_duties a1 I P = some (if a1 = 0 then nI (du_ct np nb m) else nI (du_ls np w nb m), I2) := by
    unfold fX11_duties fX11_duties_61 fX3_shareOut
    rw [px_within, if_neg ha, px_bd, if_neg (by decide), n1, px_bd, g0 q (by rcases n2 with rfl | ⟨i, rfl⟩ <;> omega), rx_here n3, x1', px_bd, px_bd, f1 3 (by decide) (by decide) (by decide), v7, d1, px_bd, d4 34 5 (by decide) (by decide), d4 34 6 (by decide) (by decide), b1, b2]
    by_cases ea : a1 = 0
    · rw [if_pos ea, if_pos ea]
    · rw [if_neg ea, if_neg ea]
  have g2 : ∀ r k, ¬ rx_dL r k → ¬ rx_sc r → I2 r k = I r k := fun r k hd hs => by
    unfold rx_dL at hd
    unfold rx_sc at hs
    rw [d4 r k (by omega) (by omega), f1 r (by omega) (by omega) (by omega)]
  have hQ : rx_Q I P np nb fa (I 5) F q w := ⟨v1, v2, v4, v5, v7, v11, v6, v8, v12, fun _ _ => rfl, v13, hG.2.2.1, hG.2.2.2, n1, n2, n3, n4, n5⟩
  have hQ2 : rx_Q I2 P np nb fa (I 5) F q w := rx_Q_L hQ g2
  obtain ⟨I3, c1, c2, c3⟩ := px_fill (I := I2)
  obtain ⟨m', I4, y0, y1, y2, y3, y4⟩ := px_mduties (I := I3) (a1 := a1) (w := w) v1 v2 (by rw [c3 73 (by decide)]; exact hQ2.2.2.2.2.2.2.1) (by rw [c3 73 (by decide)]; exact hQ2.2.2.2.2.2.2.2.1) (fun k a b => by rw [c2 k a]; exact hQ2.2.2.2.2.2.2.2.2.2.2.2.2.2.2.2.2.1 k a b) n5
  obtain rfl : m = m' := by rw [hm] at y0; cases y0; rfl
  have hmm : fX12_dutiesL a1 I2 = some (if a1 = 0 then nI (du_ct np nb m) else nI (du_ls np w nb m), I4) := by
    unfold fX12_dutiesL
    rw [px_isIn, if_neg ha, px_bd, if_neg (by decide), c1, px_bd]
    exact y1
  refine ⟨_, S, I2, J, P, S, I4, J, P, fun Q hQ => mX11_duties_ok hB hx hQ, fun Q hQ => mX12_dutiesL_ok hB hmm hQ, hB.1 73 _ rfl, ?_⟩
  refine rx_R_L (c2 := nb) hB hZ ⟨i, hS⟩ hG hN hA hX hP hU hW (fun r k hd hs => ?_) ⟨by omega, ?_, y3, fun j hj => ?_⟩
  · have hd' := hd
    have hs' := hs
    unfold rx_dL at hd
    unfold rx_sc at hs
    rw [y4 r k (by omega) (by omega) (by omega), c3 r (by omega)]; exact g2 r k hd' hs'
  · rw [y4 0 9 (by decide) (by decide) (by decide), c3 0 (by decide)]; exact d2
  · rw [y2 j hj, y4 55 j (by decide) (by decide) (by omega), c3 55 (by decide), d3 j hj, b3 j hj]
end DUM
