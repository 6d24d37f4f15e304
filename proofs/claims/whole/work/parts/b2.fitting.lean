/-! ===== what fits: the class ===== -/
/-- the last day that counts -/
def sp_ld (D : Nat → Nat) (ct : Nat → Bool) : Nat → Nat
  | 0 => 0
  | n + 1 => if ct n = true then (if sp_ld D ct n < D n then D n else sp_ld D ct n) else sp_ld D ct n
theorem sp_ld_le {D : Nat → Nat} {ct : Nat → Bool} {cn : Nat} (h : ∀ i, i < cn → D i ≤ 12) : ∀ n, n ≤ cn → sp_ld D ct n ≤ 12
  | 0, _ => Nat.zero_le _
  | n + 1, hn => by
    have ih := sp_ld_le (ct := ct) h n (by omega)
    have := h n (by omega)
    rw [sp_ld]
    split
    · split <;> omega
    · omega
theorem sp_ld_ge {D : Nat → Nat} {ct : Nat → Bool} : ∀ n i, i < n → ct i = true → D i ≤ sp_ld D ct n
  | 0, i, h, _ => absurd h (Nat.not_lt_zero i)
  | n + 1, i, h, hc => by
    rw [sp_ld]
    by_cases e : i = n
    · subst e
      rw [if_pos hc]
      split <;> omega
    · have ih := sp_ld_ge (D := D) n i (by omega) hc
      split
      · split <;> omega
      · exact ih
section FITX
variable {I : ab_I} {P : ab_P} {np nb nl fa lc dr q cn : Nat} {t w : Nat → Nat} {F : Int32 → Int32 → Int32 → Int32 → Int32 → Int32 → Int32} {hrs : Nat → Int32} {D B Q : Nat → Nat} {is ct : Nat → Bool} {k : Int32}
theorem px_holds {v L : Nat} (hH : rx_H I P np nb nl fa lc dr t F hrs q w) (hW : rx_Wd I np nb cn D B Q is ct k) (hl : 0 < nl) (hv : v ≤ 20) (hL : L ≤ 12) (hLd : ∀ i, i < cn → ct i = true → D i ≤ L) :
    ∃ I', fX10_holds (nI v) (nI L) k I = some (if sp_fit (sp_r F hrs np fa nb t lc dr v) cn D B Q is ct = true then 1 else 0, I') ∧ ∀ r, ¬ rx_sc r → I' r = I r := by
  obtain ⟨h1, h2, h3, h4, h5, h6, h7, h8, h9, h10, h11, h12, h13, h14, h15, h16, h17, h18⟩ := id hH.1
  obtain ⟨I1, c1, c2, c3⟩ := px_beginWith (v := v) h1 h4 hH.2.1 hl
  have ho0 := sp_bw_ok (s := dr) (v := v) h1 h2 hH.2.1 hH.2.1.2.2.2.2.2 hl hv
  have hW4 := hW.2.2.2
  have key := px_forE (body := fun s : Int32 × ab_I => fX10_holds_8 (nI v) (nI L) k s.1 s.2) (Out := fun x : Int32 × ab_I => x.1 = (if sp_fit (sp_r F hrs np fa nb t lc dr v) cn D B Q is ct = true then 1 else 0) ∧ ∀ r, ¬ rx_sc r → x.2 r = I r)
    (fun j s => s.1 = nI (j + 1) ∧ rx_is np (rx_v s.2 42) (sp_go F hrs np false fa nb (sp_bw np t lc dr v) j).1 ∧ (∀ r, ¬ rx_sc r → s.2 r = I r) ∧ ∀ i, i < cn → ct i = true → D i ≤ j → sp_fok (sp_r F hrs np fa nb t lc dr v) D B Q is i = true) L ?_ ?_ L 0 5000 (1, I1) (by omega) (by omega) ⟨rfl, c2, fun r hr => c3 r (by unfold rx_sc at hr; omega), fun i hi _ hd => by have := (hW4 i hi).1; omega⟩
  · obtain ⟨⟨x, I2⟩, k1, k2, k3⟩ := key
    dsimp only at k2 k3
    refine ⟨I2, ?_, k3⟩
    unfold fX10_holds
    rw [c1, px_bd, k1, k2]
  · rintro j ⟨a, I2⟩ hj ⟨e1, e2, e3, e4⟩
    dsimp only at e1 e2 e3 ⊢
    subst e1
    have hH2 := rx_H_sc hH e3
    obtain ⟨I3, d1, d2, d3, d4⟩ := px_day hH2.1 (qt := 42) (Or.inr (Or.inr rfl)) e2 (sp_go_ok h1 h2 ho0 j) false
    rw [show ((if false = true then 1 else 0) : Int32) = 0 from rfl] at d1
    have f3 : ∀ r, ¬ rx_sc r → I3 r = I r := fun r hr => (d4 r hr).trans (e3 r hr)
    obtain ⟨x, y1, y2⟩ := px_holdsIn (v := v) (a2 := nI L) (d := j) (r := sp_r F hrs np fa nb t lc dr v) (rx_Wd_sc hW f3) h2 (by omega) d3
    unfold fX10_holds_8
    rw [if_neg (nI_nlt (by omega) (by omega)), d1, px_bd]
    dsimp only
    rw [y1]
    rcases y2 with ⟨z1, z2⟩ | ⟨z1, i, z2, z3, z4⟩
    · subst z1
      refine Or.inl ⟨_, rfl, (nI_succ (j + 1)).symm, ?_, f3, fun i hi hc hd => ?_⟩
      · exact d2
      · by_cases e : D i = j + 1
        · exact z2 i hi hc e
        · exact e4 i hi hc (by omega)
    · subst z1
      refine Or.inr ⟨_, rfl, ?_, f3⟩
      rw [if_neg]
      intro hf
      have := of_decide_eq_true hf i z2 z3
      rw [z4] at this
      exact absurd this (by decide)
  · rintro ⟨a, I2⟩ ⟨e1, e2, e3, e4⟩
    dsimp only at e1 e2 e3 ⊢
    subst e1
    unfold fX10_holds_8 fX10_holds_127
    rw [if_pos (nI_lt (by omega) (by omega))]
    refine ⟨_, rfl, ?_, e3⟩
    have hf : sp_fit (sp_r F hrs np fa nb t lc dr v) cn D B Q is ct = true := decide_eq_true (fun i hi hc => e4 i hi hc (hLd i hi hc))
    rw [if_pos hf]
theorem px_fitting (hH : rx_H I P np nb nl fa lc dr t F hrs q w) (hW : rx_Wd I np nb cn D B Q is ct k) (hl : 0 < nl) {g : Nat → Bool} (hg : ∀ v, g v = sp_fit (sp_r F hrs np fa nb t lc dr v) cn D B Q is ct) :
    ∃ I', fX10_fitting k I = some (nI (sp_msk g 21), I') ∧ ∀ r, ¬ rx_sc r → I' r = I r := by
  obtain ⟨w1, w2, w3, w4⟩ := id hW
  have key2 := px_for (body := fun s : Int32 × Int32 × Int32 × ab_I => fX10_fitting_55 k s.1 s.2.1 s.2.2.1 s.2.2.2) (Out := fun x : Int32 × ab_I => x.1 = nI (sp_msk g 21) ∧ ∀ r, ¬ rx_sc r → x.2 r = I r)
    (fun v s => s.1 = nI (sp_ld D ct cn) ∧ s.2.1 = nI (sp_msk g v) ∧ s.2.2.1 = nI v ∧ ∀ r, ¬ rx_sc r → s.2.2.2 r = I r) 21 ?_ ?_ 21 0 5000 (nI (sp_ld D ct cn), 0, 0, I) (by omega) (by omega) ⟨rfl, rfl, rfl, fun _ _ => rfl⟩
  · have key := px_for (body := fun s : Int32 × Int32 × ab_I => fX10_fitting_16 k s.1 s.2.1 s.2.2) (Out := fun x : Int32 × ab_I => x.1 = nI (sp_msk g 21) ∧ ∀ r, ¬ rx_sc r → x.2 r = I r)
      (fun i s => s.1 = nI (sp_ld D ct i) ∧ s.2.1 = nI i ∧ s.2.2 = I) cn ?_ ?_ cn 0 5000 (0, 0, I) (by omega) (by omega) ⟨rfl, rfl, rfl⟩
    · obtain ⟨⟨x, I2⟩, k1, k2, k3⟩ := key
      dsimp only at k2 k3
      refine ⟨I2, ?_, k3⟩
      unfold fX10_fitting
      rw [hH.2.2.1, if_neg (nI_ne0 hl (by have := hH.2.2.2.2; omega)), k1, k2]
    · rintro i ⟨a, b, I2⟩ hi ⟨e1, e2, e3⟩
      dsimp only at e1 e2 e3 ⊢
      subst e1 e2
      have e3 := e3.symm
      subst e3
      obtain ⟨c1, c2, c3, c4, c5, _⟩ := w4 i hi
      have b1 := sp_ld_le (ct := ct) (fun i hi => (w4 i hi).2.1) i (by omega)
      unfold fX10_fitting_16 fX10_fitting_44
      rw [w2, if_neg (nI_ge hi (by omega)), px_counts hW hi, px_bd]
      by_cases ec : ct i = true
      · rw [if_pos ec, if_neg (by decide), px_gd (px_ix (by omega) (by decide)), nI_clamp (by omega), c5]
        refine ⟨_, rfl, ?_, (nI_succ i).symm, rfl⟩
        dsimp only
        rw [sp_ld, if_pos ec]
        by_cases e : sp_ld D ct i < D i
        · rw [if_pos (nI_lt e (by omega)), if_pos e]
        · rw [if_neg (nI_nlt (by omega) (by omega)), if_neg e]
      · rw [if_neg ec, if_pos rfl]
        refine ⟨_, rfl, ?_, (nI_succ i).symm, rfl⟩
        dsimp only
        rw [sp_ld, if_neg ec]
    · rintro ⟨a, b, I2⟩ ⟨e1, e2, e3⟩
      dsimp only at e1 e2 e3 ⊢
      subst e1 e2
      have e3 := e3.symm
      subst e3
      obtain ⟨x, k1, k2⟩ := key2
      unfold fX10_fitting_16 fX10_fitting_50
      rw [w2, if_pos (nI_le (Nat.le_refl _) (by omega)), k1]
      exact ⟨_, rfl, k2⟩
  · rintro v ⟨a, b, c, I2⟩ hv ⟨e1, e2, e3, e4⟩
    dsimp only at e1 e2 e3 e4 ⊢
    subst e1 e2 e3
    have h20 : ¬ (20 : Int32) < nI v := nI_nlt (a := 20) (by omega) (by decide)
    have ml := sp_msk_lt g v
    obtain ⟨I3, d1, d2⟩ := px_holds (v := v) (L := sp_ld D ct cn) (rx_H_sc hH e4) (rx_Wd_sc hW e4) hl (by omega) (sp_ld_le (fun i hi => (w4 i hi).2.1) cn (Nat.le_refl _)) (fun i hi hc => sp_ld_ge cn i hi hc)
    have f3 : ∀ r, ¬ rx_sc r → I3 r = I r := fun r hr => (d2 r hr).trans (e4 r hr)
    unfold fX10_fitting_55 fX10_fitting_80
    rw [if_neg h20, d1, px_bd, ← hg v]
    dsimp only
    by_cases e : g v = true
    · rw [if_pos e, if_neg (by decide), wz_or1 (by omega) ml]
      refine ⟨_, rfl, rfl, ?_, (nI_succ v).symm, f3⟩
      dsimp only
      rw [sp_msk, if_pos e]
    · rw [if_neg e, if_pos rfl]
      refine ⟨_, rfl, rfl, ?_, (nI_succ v).symm, f3⟩
      dsimp only
      rw [sp_msk, if_neg e, Nat.add_zero]
  · rintro ⟨a, b, c, I2⟩ ⟨e1, e2, e3, e4⟩
    dsimp only at e1 e2 e3 e4 ⊢
    subst e1 e2 e3
    unfold fX10_fitting_55 fX10_fitting_86
    rw [if_pos (by decide)]
    exact ⟨_, rfl, rfl, e4⟩
end FITX
