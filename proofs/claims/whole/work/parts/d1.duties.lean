/-! ===== duties: the reference, the pair ===== -/
section DUM
variable {S : ab_S} {I : ab_I} {J : ab_J} {P : ab_P} {l : Launch} {G : ab_G} {np nb dm : Nat} {w : Nat → Nat}
/-- the first bells' part of a number -/
def du_pc (np : Nat) (c : Nat) : Nat → Nat
  | 0 => c
  | i + 1 => du_pc np c i / (np + 1)
theorem du_pc_s {c : Nat} : ∀ i, du_pc np (c / (np + 1)) i = du_pc np c (i + 1)
  | 0 => rfl
  | i + 1 => by
    show du_pc np (c / (np + 1)) i / (np + 1) = du_pc np c (i + 1) / (np + 1)
    rw [du_pc_s i]
theorem du_pc_le {c : Nat} : ∀ i, du_pc np c i ≤ c
  | 0 => Nat.le_refl _
  | i + 1 => Nat.le_trans (Nat.div_le_self _ _) (du_pc_le i)
theorem du_dg_pc : ∀ n c j, j < n → du_dg np n c j = du_pc np c (n - 1 - j) % (np + 1)
  | 0, c, j, h => absurd h (Nat.not_lt_zero j)
  | n + 1, c, j, h => by
    rw [du_dg]
    by_cases e : j = n
    · subst e
      rw [if_pos rfl, show j + 1 - 1 - j = 0 by omega]
      rfl
    · rw [if_neg e, du_dg_pc n _ j (by omega), du_pc_s, show n - 1 - j + 1 = n + 1 - 1 - j by omega]
def du_dj (a b : Nat) : Prop := ∀ x, x < 6 → ¬ (a.testBit x = true ∧ b.testBit x = true)
/-- one bell of a number, from its last on -/
theorem px_layD {code : Nat} (hn : np ≤ 6) (hnb : nb ≤ 5) (hcode : code < 20000) (h39 : I 73 39 = nI np) (h40 : I 73 40 = nI nb) (hw : rx_is np (I 90) w) (ho : rx_ok np nb dm w) :
    ∃ I', fX12_layDuties (nI code) I = some (if du_fe np w nb code = true then nI (du_ct np nb code) else -1, I') ∧ (du_fe np w nb code = true → ∀ j, j < nb → I' 94 j = du_di np (du_dg np nb code j)) ∧ ∀ r, r ≠ 94 → I' r = I r := by
  have hh := rx_ok_h ho hn
  have key := px_forE (body := fun s : Int32 × Int32 × Int32 × Int32 × ab_I => fX12_layDuties_15 (nI code) s.1 s.2.1 s.2.2.1 s.2.2.2.1 s.2.2.2.2) (Out := fun x : Int32 × ab_I => x.1 = (if du_fe np w nb code = true then nI (du_ct np nb code) else -1) ∧ (du_fe np w nb code = true → ∀ j, j < nb → x.2 94 j = du_di np (du_dg np nb code j)) ∧ ∀ r, r ≠ 94 → x.2 r = I r)
    (fun i s => ∃ had n, s.1 = nI (du_pc np code i) ∧ s.2.1 = nI had ∧ had < 2 ^ np ∧ s.2.2.1 = nI n ∧ s.2.2.2.1 = nI (nb - i) - 1 ∧ (∀ j, j < nb → nb ≤ j + i → s.2.2.2.2 94 j = du_di np (du_dg np nb code j)) ∧ (du_fe np w nb code = true ↔ (du_fe np w (nb - i) (du_pc np code i) = true ∧ du_dj (du_us np (nb - i) (du_pc np code i)) had)) ∧ n + du_ct np (nb - i) (du_pc np code i) = du_ct np nb code ∧ ∀ r, r ≠ 94 → s.2.2.2.2 r = I r) nb ?_ ?_ nb 0 5000 (nI code, 0, 0, nI nb - 1, I) (by omega) (by omega) ⟨0, 0, rfl, rfl, Nat.pow_pos (by decide), rfl, rfl, fun j h1 h2 => by omega, ⟨fun h => ⟨h, fun x _ h => absurd h.2 (by simp)⟩, fun h => h.1⟩, Nat.zero_add _, fun _ _ => rfl⟩
  · obtain ⟨⟨x, I2⟩, k1, k2, k3⟩ := key
    dsimp only at k2 k3
    refine ⟨I2, ?_, k3⟩
    unfold fX12_layDuties
    rw [h40, k1, k2]
  · rintro i ⟨s1, s2, s3, s4, I2⟩ hi ⟨had, n, e1, e2, e3, e4, e5, e6, e7, e8, e9⟩
    dsimp only at e1 e2 e4 e5 e6 e9 ⊢
    subst e1 e2 e4 e5
    obtain ⟨b, hb⟩ : ∃ b, nb - i = b + 1 := ⟨nb - i - 1, by omega⟩
    rw [hb] at e7 e8 ⊢
    have hpc : du_pc np code i < 20000 := Nat.lt_of_le_of_lt (du_pc_le i) hcode
    have hmod := Nat.mod_lt (du_pc np code i) (show 0 < np + 1 by omega)
    have hK : nI np + 1 = nI (np + 1) := (nI_succ np).symm
    have hKz : ¬ nI (np + 1) = 0 := nI_ne0 (by omega) (by omega)
    have hdiv : nI (du_pc np code i) / nI (np + 1) = nI (du_pc np code i / (np + 1)) := pk_div (by omega) (by omega) (by omega)
    have hrem : nI (du_pc np code i) - nI (du_pc np code i) / nI (np + 1) * nI (np + 1) = nI (du_pc np code i % (np + 1)) := pk_rem (by omega) (by omega) (by omega)
    have h39' : I2 73 39 = nI np := by rw [e9 73 (by decide)]; exact h39
    have edg : du_dg np nb code b = du_pc np code i % (np + 1) := by rw [du_dg_pc nb code b (by omega), show nb - 1 - b = i by omega]
    have had64 : had < 64 := Nat.lt_of_lt_of_le e3 (sp_two64 hn)
    have e7' := e7
    rw [du_fe, du_us] at e7'
    rw [du_ct] at e8
    have hi1 : nb - (i + 1) = b := by omega
    have epc : du_pc np code (i + 1) = du_pc np code i / (np + 1) := rfl
    generalize hd : du_pc np code i % (np + 1) = d at *
    have row : ∀ x, x = du_di np d → ∀ j, j < nb → nb ≤ j + (i + 1) → ab_u I2 94 b x 94 j = du_di np (du_dg np nb code j) := fun x hx j h1 h2 => by
      by_cases ej : j = b
      · rw [ej, ab_u_at, hx, edg]
      · rw [ab_u_ne ej]; exact e6 j h1 (by omega)
    unfold fX12_layDuties_15
    rw [nI_pred, if_neg (nI_pos (by omega)), h39', hK, hrem, hdiv, px_gd hKz, px_gd hKz]
    by_cases dn : d = np
    · rw [if_pos (by rw [dn])]
      left
      unfold fX12_layDuties_60 fX12_layDuties_115
      rw [px_gd (px_ix (by omega) (by decide)), h39', if_pos (by rw [dn]), nI_clamp (by omega)]
      refine ⟨_, rfl, had, n, rfl, rfl, e3, rfl, ?_, row _ (by rw [du_di, if_pos dn]), ?_, ?_, fun r hr => by dsimp only; rw [ab_u_o hr]; exact e9 r hr⟩
      · dsimp only
        rw [px_dec, hi1]
      · rw [hi1, epc]
        rw [e7', decide_eq_true dn, Bool.true_or, Bool.and_true, if_pos dn]
      · rw [hi1, epc]
        rw [if_pos dn, Nat.add_zero] at e8
        exact e8
    · have dlt : d < np := by omega
      rw [if_neg (fun h => dn ((nI_eq (by omega) (by omega)).mp h))]
      have w20 := ho.2.2.2.1 (5 * d + b) (by omega)
      rw [← Nat.add_assoc] at w20
      rw [decide_eq_false dn, Bool.false_or, if_neg dn] at e7'
      have no : (had.testBit d = true ∨ ¬ (w 12).testBit d = true ∨ w (13 + 5 * d + b) = 0) → ∃ x : Int32 × ab_I, (fX12_layDuties_103 (nI code) (ab_u I2 94 b (nI d))).map (Sum.inr (α := Int32 × Int32 × Int32 × Int32 × ab_I)) = some (.inr x) ∧ x.1 = (if du_fe np w nb code = true then nI (du_ct np nb code) else -1) ∧ (du_fe np w nb code = true → ∀ j, j < nb → x.2 94 j = du_di np (du_dg np nb code j)) ∧ ∀ r, r ≠ 94 → x.2 r = I r := fun hbad => by
        have hnf : ¬ du_fe np w nb code = true := fun hf => by
          obtain ⟨x1, x2⟩ := e7'.mp hf
          rw [Bool.and_eq_true, Bool.and_eq_true, Bool.and_eq_true, decide_eq_true_eq] at x1
          rcases hbad with h | h | h
          · exact x2 d (by omega) ⟨by rw [px_or_tb _ (Nat.lt_of_lt_of_le (du_us64 hn b _) (sp_two64 hn)) d (by omega) d (by omega)]; simp, h⟩
          · exact h x1.2.1.2
          · have := x1.2.2; omega
        refine ⟨_, rfl, by rw [if_neg hnf], fun h => absurd h hnf, fun r hr => ?_⟩
        dsimp only
        rw [ab_u_o hr]; exact e9 r hr
      have hx : ∀ r, r ≠ 94 → ab_u I2 94 b (nI d) r = I r := fun r hr => by rw [ab_u_o hr]; exact e9 r hr
      unfold fX12_layDuties_60 fX12_layDuties_115
      rw [px_gd (px_ix (by omega) (by decide)), h39', if_neg (fun h => dn ((nI_eq (by omega) (by omega)).mp h)), nI_clamp (by omega)]
      by_cases b1 : had.testBit d = true
      · rw [if_pos ((px_bit had had64 d (by omega)).mpr b1)]
        exact Or.inr (no (Or.inl b1))
      · rw [if_neg (fun h => b1 ((px_bit had had64 d (by omega)).mp h)), px_mIsHere (h := w 12) (by rw [hx 90 (by decide)]; exact hw 12 (by decide) (fun h => absurd h (by decide))) hh (by omega), px_bd]
        by_cases b2 : (w 12).testBit d = true
        · rw [if_pos b2, if_neg (by decide), px_mMayLose (x := w (13 + 5 * d + b)) (by omega) (by omega) (by rw [hx 90 (by decide)]; exact hw _ (by omega) (fun h => by omega)) (by omega), px_bd]
          by_cases b3 : w (13 + 5 * d + b) = 0
          · rw [if_neg (by omega), if_pos rfl]
            exact Or.inr (no (Or.inr (Or.inr b3)))
          · rw [if_pos (by omega), if_neg (by decide), px_or_nI had had64 d (by omega)]
            left
            refine ⟨_, rfl, had ||| 2 ^ d, n + 1, rfl, rfl, px_or_lt np (by omega) had e3 d dlt, (nI_succ n).symm, ?_, row _ (by rw [du_di, if_neg dn]), ?_, ?_, hx⟩
            · dsimp only
              rw [px_dec, hi1]
            · rw [hi1, epc, e7', Bool.and_eq_true, Bool.and_eq_true, Bool.and_eq_true, decide_eq_true_eq]
              have us64 : du_us np b (du_pc np code i / (np + 1)) < 64 := Nat.lt_of_lt_of_le (du_us64 hn b _) (sp_two64 hn)
              constructor
              · rintro ⟨⟨x1, ⟨x2, x3⟩, x4⟩, x5⟩
                refine ⟨x1, fun y hy ⟨z1, z2⟩ => ?_⟩
                rw [px_or_tb had had64 d (by omega) y hy] at z2
                by_cases ey : y = d
                · rw [ey] at z1; rw [z1] at x2; exact absurd x2 (by decide)
                · rw [decide_eq_false ey, Bool.false_or] at z2
                  exact x5 y hy ⟨by rw [px_or_tb _ us64 d (by omega) y hy, z1]; simp, z2⟩
              · rintro ⟨x1, x5⟩
                refine ⟨⟨x1, ⟨?_, b2⟩, by omega⟩, fun y hy ⟨z1, z2⟩ => ?_⟩
                · cases hz : (du_us np b (du_pc np code i / (np + 1))).testBit d with
                  | false => rfl
                  | true => exact absurd ⟨hz, by rw [px_or_tb had had64 d (by omega) d (by omega)]; simp⟩ (x5 d (by omega))
                · rw [px_or_tb _ us64 d (by omega) y hy] at z1
                  by_cases ey : y = d
                  · rw [ey] at z2; exact b1 z2
                  · rw [decide_eq_false ey, Bool.false_or] at z1
                    exact x5 y hy ⟨z1, by rw [px_or_tb had had64 d (by omega) y hy, z2]; simp⟩
            · rw [hi1, epc]
              rw [if_neg dn] at e8
              omega
        · rw [if_neg b2, if_pos rfl]
          exact Or.inr (no (Or.inr (Or.inl b2)))
  · rintro ⟨s1, s2, s3, s4, I2⟩ ⟨had, n, e1, e2, e3, e4, e5, e6, e7, e8, e9⟩
    dsimp only at e1 e2 e4 e5 e6 e9 ⊢
    subst e1 e2 e4 e5
    rw [Nat.sub_self] at e7 e8 ⊢
    have hf : du_fe np w nb code = true := e7.mpr ⟨rfl, fun x _ h => absurd h.1 (by rw [du_us]; simp)⟩
    unfold fX12_layDuties_15 fX12_layDuties_121
    rw [if_pos (by decide)]
    refine ⟨_, rfl, ?_, fun _ j hj => e6 j hj (by omega), e9⟩
    rw [if_pos hf, ← e8]
    rfl
end DUM
