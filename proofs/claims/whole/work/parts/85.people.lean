/-! ===== pairs: untouched, richest, busiest, person ===== -/
theorem px_pop : ∀ h, h < 64 → fJ6_bitCount_0f7a4 (nI h) = some (nI (rx_pop h)) := by decide +kernel
theorem px_members : ∀ h, h < 64 → fX12_members (nI h) = some (nI (rx_pop h)) := by decide +kernel
theorem rx_pop_le (h : Nat) : rx_pop h ≤ 6 := by unfold rx_pop; omega
theorem sp_msk64 (g : Nat → Bool) {n : Nat} (hn : n ≤ 6) : sp_msk g n < 64 := Nat.lt_of_lt_of_le (sp_msk_lt g n) (Nat.pow_le_pow_right (by decide) hn)
section PR7
variable {S : ab_S} {I : ab_I} {J : ab_J} {P : ab_P} {l : Launch} {G : ab_G}
/-- bells by which one has a loss, told bells or all -/
theorem sp_fear_nb {np nb dm p : Nat} {w : Nat → Nat} (ho : rx_ok np nb dm w) (hp : p < 6) (hnb : nb ≤ 5) : sp_msk (fun b => decide (0 < w (13 + 5 * p + b))) 5 = sp_msk (fun b => decide (0 < w (13 + 5 * p + b))) nb :=
  sp_msk_z 5 hnb (fun j h1 h2 => by
    have := ho.2.2.2.2.1 p j hp h1 h2
    exact decide_eq_false (by omega))
theorem pr_untouched (hR : rx_R S I J P) : lz_pr l G rx_R mX11_untouched 2 mX12_untouched 2 [] S I J P := by
  have hB := hR.1
  obtain ⟨np, nb, fa, hrs, F, q, w, hQ⟩ := rx_R_Q hR
  obtain ⟨h1, h2, h3, h4, h5, h6, h7, h8, h9, h10, h11, h12, h13, h14, h15, h16, h17, h18⟩ := id hQ
  generalize hg : (fun p => decide (sp_msk (fun b => decide (0 < w (13 + 5 * p + b))) nb = 0)) = g
  have hgi : ∀ p, g p = true ↔ sp_msk (fun b => decide (0 < w (13 + 5 * p + b))) nb = 0 := fun p => by rw [← hg]; exact decide_eq_true_iff
  have keyX := px_for (body := fun s : Int32 × Int32 => fX11_untouched_4 I P s.1 s.2) (Out := fun x : Int32 => x = nI (sp_msk g np)) (fun i s => s.1 = nI (sp_msk g i) ∧ s.2 = nI i) np ?_ ?_ np 0 5000 (0, 0) (by omega) (by omega) ⟨rfl, rfl⟩
  · obtain ⟨x, k1, k2⟩ := keyX
    have hx : fX11_untouched I P = some (nI (sp_msk g np)) := by
      unfold fX11_untouched
      rw [k1, k2]
    obtain ⟨I2, d1, d2, d3⟩ := px_mfill hQ
    have hQ2 := rx_Q_sc hQ d3
    have keyM := px_for (body := fun s : Int32 × Int32 × ab_I => fX12_untouched_8 s.1 s.2.1 s.2.2) (Out := fun x : Int32 × ab_I => x.1 = nI (sp_msk g np) ∧ x.2 = I2) (fun i s => s.1 = nI (sp_msk g i) ∧ s.2.1 = nI i ∧ s.2.2 = I2) np ?_ ?_ np 0 5000 (0, 0, I2) (by omega) (by omega) ⟨rfl, rfl, rfl⟩
    · obtain ⟨y, m1, m2, m3⟩ := keyM
      have hm : fX12_untouched I = some (nI (sp_msk g np), I2) := by
        unfold fX12_untouched
        rw [d1, px_bd, m1, ← m2, ← m3]
      exact lz_q _ hR (fun Q hQ => mX11_untouched_ok hB hx hQ) (fun Q hQ => mX12_untouched_ok hB hm hQ) d3
    · rintro i ⟨a1, a2, I3⟩ hi ⟨e1, e2, e3⟩
      dsimp only at e1 e2 e3 ⊢
      subst e1 e2 e3
      unfold fX12_untouched_8 fX12_untouched_30
      rw [hQ2.2.2.2.2.2.2.1, if_neg (nI_ge hi (by omega)), px_losing h2 hQ2.2.2.2.2.2.2.2.1 d2 (by omega) h18.2.2.2.1, px_bd, px_truth0, px_truth1, px_bd, px_bd]
      have hl := sp_msk64 (fun b => decide (0 < w (13 + 5 * i + b))) (n := nb) (by omega)
      by_cases e : sp_msk (fun b => decide (0 < w (13 + 5 * i + b))) nb = 0
      · rw [if_pos ((px_eq0 (by omega)).mpr e), px_or1 i (by omega) _ (sp_msk_lt _ i)]
        refine ⟨_, rfl, ?_, (nI_succ i).symm, rfl⟩
        show nI _ = nI (sp_msk _ (i + 1))
        rw [sp_msk, if_pos ((hgi i).mpr e)]
      · rw [if_neg (fun h => e ((px_eq0 (by omega)).mp h)), px_or0 i (by omega) _ (sp_msk_lt _ i)]
        refine ⟨_, rfl, ?_, (nI_succ i).symm, rfl⟩
        show nI _ = nI (sp_msk _ (i + 1))
        rw [sp_msk, if_neg (fun h => e ((hgi i).mp h)), Nat.add_zero]
    · rintro ⟨a1, a2, I3⟩ ⟨e1, e2, e3⟩
      dsimp only at e1 e2 e3 ⊢
      subst e1 e2 e3
      unfold fX12_untouched_8 fX12_untouched_43
      rw [hQ2.2.2.2.2.2.2.1, if_pos (nI_le (Nat.le_refl _) (by omega))]
      exact ⟨_, rfl, rfl, rfl⟩
  · rintro i ⟨a1, a2⟩ hi ⟨e1, e2⟩
    dsimp only at e1 e2 ⊢
    subst e1 e2
    unfold fX11_untouched_4 fX11_untouched_32
    rw [h4, if_neg (nI_ge hi (by omega)), h14, px_bd, px_fears h16 (by omega) h18.2.2.2.1, px_bd, sp_fear_nb h18 (by omega) h2]
    have hl := sp_msk64 (fun b => decide (0 < w (13 + 5 * i + b))) (n := nb) (by omega)
    by_cases e : sp_msk (fun b => decide (0 < w (13 + 5 * i + b))) nb = 0
    · rw [if_pos ((px_eq0 (by omega)).mpr e), px_or1 i (by omega) _ (sp_msk_lt _ i)]
      refine ⟨_, rfl, ?_, (nI_succ i).symm⟩
      show nI _ = nI (sp_msk _ (i + 1))
      rw [sp_msk, if_pos ((hgi i).mpr e)]
    · rw [if_neg (fun h => e ((px_eq0 (by omega)).mp h))]
      refine ⟨_, rfl, ?_, (nI_succ i).symm⟩
      show nI _ = nI (sp_msk _ (i + 1))
      rw [sp_msk, if_neg (fun h => e ((hgi i).mp h)), Nat.add_zero]
  · rintro ⟨a1, a2⟩ ⟨e1, e2⟩
    dsimp only at e1 e2 ⊢
    subst e1 e2
    unfold fX11_untouched_4 fX11_untouched_38
    rw [h4, if_pos (nI_le (Nat.le_refl _) (by omega))]
    exact ⟨_, rfl, rfl⟩
/-- the first of the greatest among the first n, as an int; -1 if there is none -/
def sp_top (f : Nat → Nat) : Nat → Option Nat
  | 0 => none
  | n + 1 => match sp_top f n with
    | none => some n
    | some m => if f n ≤ f m then some m else some n
def sp_int (o : Option Nat) : Int32 := match o with
  | none => -1
  | some m => nI m
theorem sp_top_lt (f : Nat → Nat) : ∀ n m, sp_top f n = some m → m < n
  | 0, m, h => by cases h
  | n + 1, m, h => by
    unfold sp_top at h
    split at h
    · cases h; exact Nat.lt_succ_self n
    · rename_i k hk
      split at h
      · cases h; exact Nat.lt_succ_of_lt (sp_top_lt f n m hk)
      · cases h; exact Nat.lt_succ_self n
theorem pr_richest (hR : rx_R S I J P) : lz_pr l G rx_R mX11_richest 0 mX12_richest 0 [] S I J P := by
  have hB := hR.1
  obtain ⟨np, nb, fa, hrs, F, q, w, hQ⟩ := rx_R_Q hR
  obtain ⟨h1, h2, h3, h4, h5, h6, h7, h8, h9, h10, h11, h12, h13, h14, h15, h16, h17, h18⟩ := id hQ
  have keyX := px_for (body := fun s : Int32 × Int32 => fX11_richest_4 I P s.1 s.2) (Out := fun x : Int32 => x = sp_int (sp_top w np)) (fun i s => s.1 = sp_int (sp_top w i) ∧ s.2 = nI i) np ?_ ?_ np 0 5000 (-1, 0) (by omega) (by omega) ⟨rfl, rfl⟩
  · obtain ⟨x, k1, k2⟩ := keyX
    have hx : fX11_richest I P = some (sp_int (sp_top w np)) := by
      unfold fX11_richest
      rw [k1, k2]
    have keyM := px_for (body := fun s : Int32 × Int32 => fX12_richest_4 I s.1 s.2) (Out := fun x : Int32 => x = sp_int (sp_top w np)) (fun i s => s.1 = sp_int (sp_top w i) ∧ s.2 = nI i) np ?_ ?_ np 0 5000 (-1, 0) (by omega) (by omega) ⟨rfl, rfl⟩
    · obtain ⟨y, m1, m2⟩ := keyM
      have hm : fX12_richest I = some (sp_int (sp_top w np)) := by
        unfold fX12_richest
        rw [m1, m2]
      exact lz_q _ hR (fun Q hQ => mX11_richest_ok hB hx hQ) (fun Q hQ => mX12_richest_ok hB hm hQ) (fun _ _ => rfl)
    · rintro i ⟨a1, a2⟩ hi ⟨e1, e2⟩
      dsimp only at e1 e2 ⊢
      subst e1 e2
      unfold fX12_richest_4 fX12_richest_31 fX12_richest_33
      rw [h7, if_neg (nI_ge hi (by omega))]
      cases ht : sp_top w i with
      | none =>
        rw [show sp_int none = -1 from rfl, if_pos (by decide)]
        refine ⟨_, rfl, ?_, (nI_succ i).symm⟩
        show nI i = sp_int (sp_top w (i + 1))
        rw [sp_top, ht]
        rfl
      | some m =>
        have hm := sp_top_lt w i m ht
        have b1 := h18.1 i hi
        have b2 := h18.1 m (by omega)
        rw [show sp_int (some m) = nI m from rfl, if_neg (nI_pos (by omega)), px_gd (px_ix (by omega) (by decide)), px_gd (px_ix (by omega) (by decide)), nI_clamp (by omega), nI_clamp (by omega), h17 i (by omega) (fun _ => hi), h17 m (by omega) (fun _ => by omega)]
        by_cases e : w i ≤ w m
        · rw [if_pos (nI_le e (by omega))]
          refine ⟨_, rfl, ?_, (nI_succ i).symm⟩
          show nI m = sp_int (sp_top w (i + 1))
          rw [sp_top, ht]
          show _ = sp_int (if w i ≤ w m then some m else some i)
          rw [if_pos e]
          rfl
        · rw [if_neg (nI_ge (by omega) (by omega))]
          refine ⟨_, rfl, ?_, (nI_succ i).symm⟩
          show nI i = sp_int (sp_top w (i + 1))
          rw [sp_top, ht]
          show _ = sp_int (if w i ≤ w m then some m else some i)
          rw [if_neg e]
          rfl
    · rintro ⟨a1, a2⟩ ⟨e1, e2⟩
      dsimp only at e1 e2 ⊢
      subst e1 e2
      unfold fX12_richest_4 fX12_richest_39
      rw [h7, if_pos (nI_le (Nat.le_refl _) (by omega))]
      exact ⟨_, rfl, rfl⟩
  · rintro i ⟨a1, a2⟩ hi ⟨e1, e2⟩
    dsimp only at e1 e2 ⊢
    subst e1 e2
    unfold fX11_richest_4 fX11_richest_41 fX11_richest_43
    rw [h4, if_neg (nI_ge hi (by omega))]
    cases ht : sp_top w i with
    | none =>
      rw [show sp_int none = -1 from rfl, if_pos rfl]
      refine ⟨_, rfl, ?_, (nI_succ i).symm⟩
      show nI i = sp_int (sp_top w (i + 1))
      rw [sp_top, ht]
      rfl
    | some m =>
      have hm := sp_top_lt w i m ht
      have b1 := h18.1 i hi
      have b2 := h18.1 m (by omega)
      rw [show sp_int (some m) = nI m from rfl, if_neg (px_m1 (by omega)), h14, px_bd, px_gd (px_ix (by omega) (by decide)), px_bd, px_gd (px_ix (by omega) (by decide)), nI_clamp (by omega), nI_clamp (by omega), rx_has h16 h1 hi, rx_has h16 h1 (by omega)]
      by_cases e : w i ≤ w m
      · rw [if_pos (nI_le e (by omega))]
        refine ⟨_, rfl, ?_, (nI_succ i).symm⟩
        show nI m = sp_int (sp_top w (i + 1))
        rw [sp_top, ht]
        show _ = sp_int (if w i ≤ w m then some m else some i)
        rw [if_pos e]
        rfl
      · rw [if_neg (nI_ge (by omega) (by omega))]
        refine ⟨_, rfl, ?_, (nI_succ i).symm⟩
        show nI i = sp_int (sp_top w (i + 1))
        rw [sp_top, ht]
        show _ = sp_int (if w i ≤ w m then some m else some i)
        rw [if_neg e]
        rfl
  · rintro ⟨a1, a2⟩ ⟨e1, e2⟩
    dsimp only at e1 e2 ⊢
    subst e1 e2
    unfold fX11_richest_4 fX11_richest_49
    rw [h4, if_pos (nI_le (Nat.le_refl _) (by omega))]
    exact ⟨_, rfl, rfl⟩
end PR7
