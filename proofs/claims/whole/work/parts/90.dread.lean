/-! ===== pair: dreaded ===== -/
/-- what those here, of the first n, say they lose by b -/
def sp_dr (w : Nat → Nat) (b : Nat) : Nat → Nat
  | 0 => 0
  | n + 1 => sp_dr w b n + (if (w 12).testBit n = true then w (13 + 5 * n + b) else 0)
theorem sp_dr_le {w : Nat → Nat} {b : Nat} (hb : b < 5) (h : ∀ c, c < 30 → w (13 + c) ≤ 20) : ∀ n, n ≤ 6 → sp_dr w b n ≤ 20 * n
  | 0, _ => Nat.le_refl _
  | n + 1, hn => by
    have h1 := sp_dr_le hb h n (by omega)
    have h2 := h (5 * n + b) (by omega)
    rw [← Nat.add_assoc] at h2
    rw [sp_dr]
    split <;> omega
def sp_topv (f : Nat → Nat) (o : Option Nat) : Nat := match o with
  | none => 0
  | some m => f m
section PR9
variable {S : ab_S} {I : ab_I} {J : ab_J} {P : ab_P} {l : Launch} {G : ab_G}
theorem px_dreadOf {np b : Nat} {w : Nat → Nat} (hnp : np ≤ 6) (h39 : I 73 39 = nI np) (hw : rx_is np (I 90) w) (hh : w 12 < 64) (hb : b < 5) : fX12_dreadOf (nI b) I = some (nI (sp_dr w b np)) := by
  have key := px_for (body := fun s : Int32 × Int32 => fX12_dreadOf_4 (nI b) I s.1 s.2) (Out := fun x : Int32 => x = nI (sp_dr w b np)) (fun i s => s.1 = nI (sp_dr w b i) ∧ s.2 = nI i) np ?_ ?_ np 0 5000 (0, 0) (by omega) (by omega) ⟨rfl, rfl⟩
  · obtain ⟨x, k1, k2⟩ := key
    unfold fX12_dreadOf
    rw [k1, k2]
  · rintro i ⟨a2, a3⟩ hi ⟨e2, e3⟩
    dsimp only at e2 e3 ⊢
    subst e2 e3
    unfold fX12_dreadOf_4 fX12_dreadOf_38
    rw [h39, if_neg (nI_ge hi (by omega)), px_mIsHere (hw 12 (by decide) (fun h => absurd h (by decide))) hh (by omega), px_bd]
    by_cases e : (w 12).testBit i = true
    · rw [if_pos e, if_neg (by decide), px_mcell, px_gd (px_ix (by omega) (by decide)), nI_clamp (by omega), hw _ (by omega) (fun h => by omega), px_add]
      refine ⟨_, rfl, ?_, (nI_succ i).symm⟩
      show nI _ = nI (sp_dr w b (i + 1))
      rw [sp_dr, if_pos e]
    · rw [if_neg e, if_pos rfl, show (0 : Int32) = nI 0 from rfl, px_add]
      refine ⟨_, rfl, ?_, (nI_succ i).symm⟩
      show nI _ = nI (sp_dr w b (i + 1))
      rw [sp_dr, if_neg e]
  · rintro ⟨a2, a3⟩ ⟨e2, e3⟩
    dsimp only at e2 e3 ⊢
    subst e2 e3
    unfold fX12_dreadOf_4 fX12_dreadOf_46
    rw [h39, if_pos (nI_le (Nat.le_refl _) (by omega))]
    exact ⟨_, rfl, rfl⟩
theorem pr_dreaded (hR : rx_R S I J P) : lz_pr l G rx_R mX11_dreaded 2 mX12_dreaded 2 [] S I J P := by
  have hB := hR.1
  obtain ⟨np, nb, fa, hrs, F, q, w, hQ⟩ := rx_R_Q hR
  obtain ⟨h1, h2, h3, h4, h5, h6, h7, h8, h9, h10, h11, h12, h13, h14, h15, h16, h17, h18⟩ := id hQ
  have hh := rx_ok_h h18 h1
  generalize hd : (fun b => sp_dr w b np) = d
  have hdi : ∀ b, sp_dr w b np = d b := fun b => by rw [← hd]
  have hd9 : ∀ b, b < 5 → d b ≤ 120 := fun b hb => by
    have := sp_dr_le hb h18.2.2.2.1 np h1
    rw [hdi] at this
    omega
  have keyX := px_for (body := fun s : Int32 × Int32 × Int32 => fX3_mostFeared_7 q I s.1 s.2.1 s.2.2) (Out := fun x : Int32 => x = sp_int (sp_top d nb)) (fun i s => s.1 = sp_int (sp_top d i) ∧ s.2.1 = nI (sp_topv d (sp_top d i)) ∧ s.2.2 = nI i) nb ?_ ?_ nb 0 5000 (-1, 0, 0) (by omega) (by omega) ⟨rfl, rfl, rfl⟩
  · obtain ⟨x, k1, k2⟩ := keyX
    have hx : fX11_dreaded I P = some (sp_int (sp_top d nb)) := by
      unfold fX11_dreaded fX3_mostFeared
      rw [h14, px_bd, k1, px_bd, k2]
    obtain ⟨I2, d1, d2, d3⟩ := px_mfill hQ
    have hQ2 := rx_Q_sc hQ d3
    have keyM := px_for (body := fun s : Int32 × Int32 × ab_I => fX12_dreaded_8 s.1 s.2.1 s.2.2) (Out := fun x : Int32 × ab_I => x.1 = sp_int (sp_top d nb) ∧ x.2 = I2) (fun i s => s.1 = sp_int (sp_top d i) ∧ s.2.1 = nI i ∧ s.2.2 = I2) nb ?_ ?_ nb 0 5000 (-1, 0, I2) (by omega) (by omega) ⟨rfl, rfl, rfl⟩
    · obtain ⟨y, m1, m2, m3⟩ := keyM
      have hm : fX12_dreaded I = some (sp_int (sp_top d nb), I2) := by
        unfold fX12_dreaded
        rw [d1, px_bd, m1, ← m2, ← m3]
      exact lz_q _ hR (fun Q hQ => mX11_dreaded_ok hB hx hQ) (fun Q hQ => mX12_dreaded_ok hB hm hQ) d3
    · rintro i ⟨a1, a2, I3⟩ hi ⟨e1, e2, e3⟩
      dsimp only at e1 e2 e3 ⊢
      subst e1 e2 e3
      unfold fX12_dreaded_8 fX12_dreaded_33 fX12_dreaded_35
      rw [hQ2.2.2.2.2.2.2.2.1, if_neg (nI_ge hi (by omega))]
      cases ht : sp_top d i with
      | none =>
        rw [show sp_int none = -1 from rfl, if_pos (by decide)]
        refine ⟨_, rfl, ?_, (nI_succ i).symm, rfl⟩
        show nI i = sp_int (sp_top d (i + 1))
        rw [sp_top, ht]
        rfl
      | some m =>
        have hm := sp_top_lt d i m ht
        have b1 := hd9 i (by omega)
        have b2 := hd9 m (by omega)
        rw [show sp_int (some m) = nI m from rfl, if_neg (nI_pos (by omega)), px_dreadOf h1 hQ2.2.2.2.2.2.2.1 d2 hh (by omega), px_bd, px_dreadOf h1 hQ2.2.2.2.2.2.2.1 d2 hh (by omega), px_bd, hdi, hdi]
        by_cases e : d i ≤ d m
        · rw [if_pos (nI_le e (by omega))]
          refine ⟨_, rfl, ?_, (nI_succ i).symm, rfl⟩
          show nI m = sp_int (sp_top d (i + 1))
          rw [sp_top, ht]
          show _ = sp_int (if d i ≤ d m then some m else some i)
          rw [if_pos e]
          rfl
        · rw [if_neg (nI_ge (by omega) (by omega))]
          refine ⟨_, rfl, ?_, (nI_succ i).symm, rfl⟩
          show nI i = sp_int (sp_top d (i + 1))
          rw [sp_top, ht]
          show _ = sp_int (if d i ≤ d m then some m else some i)
          rw [if_neg e]
          rfl
    · rintro ⟨a1, a2, I3⟩ ⟨e1, e2, e3⟩
      dsimp only at e1 e2 e3 ⊢
      subst e1 e2 e3
      unfold fX12_dreaded_8 fX12_dreaded_41
      rw [hQ2.2.2.2.2.2.2.2.1, if_pos (nI_le (Nat.le_refl _) (by omega))]
      exact ⟨_, rfl, rfl, rfl⟩
  · rintro i ⟨a1, a2, a3⟩ hi ⟨e1, e2, e3⟩
    dsimp only at e1 e2 e3 ⊢
    subst e1 e2 e3
    unfold fX3_mostFeared_7
    rw [h5, if_neg (nI_ge hi (by omega))]
    have key := px_for (body := fun s : Int32 × Int32 × Int32 × Int32 × Int32 => fX3_mostFeared_25 q I s.1 s.2.1 s.2.2.1 s.2.2.2.1 s.2.2.2.2) (Out := fun x : (Int32 × Int32 × Int32) ⊕ Int32 => x = .inl (sp_int (sp_top d (i + 1)), nI (sp_topv d (sp_top d (i + 1))), nI (i + 1))) (fun j s => s.1 = sp_int (sp_top d i) ∧ s.2.1 = nI (sp_topv d (sp_top d i)) ∧ s.2.2.1 = nI i ∧ s.2.2.2.1 = nI (sp_dr w i j) ∧ s.2.2.2.2 = nI j) np ?_ ?_ np 0 5000 (sp_int (sp_top d i), nI (sp_topv d (sp_top d i)), nI i, 0, 0) (by omega) (by omega) ⟨rfl, rfl, rfl, rfl, rfl⟩
    · obtain ⟨x, k1, k2⟩ := key
      rw [k1, k2]
      exact ⟨_, rfl, rfl, rfl, rfl⟩
    · rintro j ⟨a1, a2, a3, a4, a5⟩ hj ⟨e1, e2, e3, e4, e5⟩
      dsimp only at e1 e2 e3 e4 e5 ⊢
      subst e1 e2 e3 e4 e5
      unfold fX3_mostFeared_25 fX3_mostFeared_63
      rw [h4, if_neg (nI_ge hj (by omega)), px_isHere (rx_here h16) hh (by omega), px_bd]
      by_cases e : (w 12).testBit j = true
      · rw [if_pos e, if_neg (by decide), px_cell, px_bd, px_gd (px_ix (by omega) (by decide)), nI_clamp (by omega), rx_loss h16 (by omega), px_add, ← Nat.add_assoc 13]
        refine ⟨_, rfl, rfl, rfl, rfl, ?_, (nI_succ j).symm⟩
        show nI _ = nI (sp_dr w i (j + 1))
        rw [sp_dr, if_pos e]
      · rw [if_neg e, if_pos rfl]
        refine ⟨_, rfl, rfl, rfl, rfl, ?_, (nI_succ j).symm⟩
        show nI _ = nI (sp_dr w i (j + 1))
        rw [sp_dr, if_neg e, Nat.add_zero]
    · rintro ⟨a1, a2, a3, a4, a5⟩ ⟨e1, e2, e3, e4, e5⟩
      dsimp only at e1 e2 e3 e4 e5 ⊢
      subst e1 e2 e3 e4 e5
      unfold fX3_mostFeared_25 fX3_mostFeared_69 fX3_mostFeared_80 fX3_mostFeared_86
      rw [h4, if_pos (nI_le (Nat.le_refl _) (by omega)), hdi]
      cases ht : sp_top d i with
      | none =>
        rw [show sp_int none = -1 from rfl, if_pos rfl, ← nI_succ]
        refine ⟨_, rfl, ?_⟩
        rw [sp_top, ht]
        rfl
      | some m =>
        have hm := sp_top_lt d i m ht
        have b1 := hd9 i (by omega)
        have b2 := hd9 m (by omega)
        rw [show sp_int (some m) = nI m from rfl, if_neg (px_m1 (by omega)), show sp_topv d (some m) = d m from rfl]
        by_cases e : d i ≤ d m
        · rw [if_pos (nI_le e (by omega)), ← nI_succ]
          refine ⟨_, rfl, ?_⟩
          rw [show sp_top d (i + 1) = some m by rw [sp_top, ht]; exact if_pos e]
          rfl
        · rw [if_neg (nI_ge (by omega) (by omega)), ← nI_succ]
          refine ⟨_, rfl, ?_⟩
          rw [show sp_top d (i + 1) = some i by rw [sp_top, ht]; exact if_neg e]
          rfl
  · rintro ⟨a1, a2, a3⟩ ⟨e1, e2, e3⟩
    dsimp only at e1 e2 e3 ⊢
    subst e1 e2 e3
    unfold fX3_mostFeared_7 fX3_mostFeared_92
    rw [h5, if_pos (nI_le (Nat.le_refl _) (by omega))]
    exact ⟨_, rfl, rfl⟩
end PR9
