/-! ===== pairs: fits, sure ===== -/
section SURE
variable {S : ab_S} {I : ab_I} {J : ab_J} {P : ab_P} {l : Launch} {G : ab_G}
theorem rx_R_H (hR : rx_R S I J P) (k : Int32) : ∃ np nb nl fa lc dr t F hrs q w cn D B Q is ct, rx_H I P np nb nl fa lc dr t F hrs q w ∧ rx_Wd I np nb cn D B Q is ct k := by
  obtain ⟨hB, hZ, ⟨i, hS⟩, np, nb, nl, fa, lc, dr, t, F, hG, ⟨q, w, hN⟩, ⟨dn, kp, hA⟩, ⟨bf, hX⟩, ⟨c, hL⟩, ⟨z, hP⟩, hU, cn, tm, hW⟩ := id hR
  obtain ⟨v1, v2, v3, v4, v5, v6, v7, v8, v9, v10, v11, v12, v13, v14⟩ := hG.1
  obtain ⟨n1, n2, n3, n4, n5⟩ := id hN
  obtain ⟨D, B, Q, is, ct, hD⟩ := rx_W_d hW k
  exact ⟨np, nb, nl, fa, lc, dr, t, F, I 5, q, w, cn, D, B, Q, is, ct, ⟨⟨v1, v2, v4, v5, v7, v11, v6, v8, v12, fun _ _ => rfl, v13, hG.2.2.1, hG.2.2.2, n1, n2, n3, n4, n5⟩, hG.2.1, v9, v10, v3⟩, hD⟩
theorem px_fit0 {k : Int32} (h : I 3 6 = 0) : fX10_fitting k I = some (0, I) := by
  unfold fX10_fitting
  rw [h, if_pos rfl]
theorem px_lay0 {k : Int32} (h : I 73 41 = 0) : fX12_layFits k I = some (0, I) := by
  unfold fX12_layFits
  refine px_itR ?_
  dsimp only
  unfold fX12_layFits_4 fX12_layFits_128
  rw [if_neg (by decide), h, if_pos (by decide)]
  rfl
theorem pr_fits (hR : rx_R S I J P) (a1 : Int32) : lz_pr l G rx_R mX11_fits 7 mX12_fits 7 [.int a1] S I J P := by
  have hB := hR.1
  obtain ⟨np, nb, nl, fa, lc, dr, t, F, hrs, q, w, cn, D, B, Q, is, ct, hH, hW⟩ := rx_R_H hR a1
  by_cases hl : nl = 0
  · subst hl
    have hx : fX11_fits a1 I = some (0, I) := by
      unfold fX11_fits
      rw [px_fit0 hH.2.2.1, px_bd]
      dsimp only
      rw [show (0 : Int32) = nI 0 from rfl, px_pop 0 (by decide), px_bd]
      rfl
    have hm : fX12_fits a1 I = some (0, I) := by
      unfold fX12_fits
      rw [px_lay0 hH.2.2.2.1, px_bd]
    exact lz_q _ hR (fun Q hQ => mX11_fits_ok hB hx hQ) (fun Q hQ => mX12_fits_ok hB hm hQ) (fun _ _ => rfl)
  · obtain ⟨g, hg⟩ : ∃ g : Nat → Bool, ∀ v, g v = sp_fit (sp_r F hrs np fa nb t lc dr v) cn D B Q is ct := ⟨_, fun _ => rfl⟩
    obtain ⟨I1, x1, x2⟩ := px_fitting hH hW (by omega) hg
    obtain ⟨I2, y1, y2, y3, y4⟩ := px_layFits (rx_H_sc hH x2) (rx_Wd_sc hW x2) (by omega) hg
    have hx : fX11_fits a1 I = some (nI (sp_cnt g 21), I1) := by
      unfold fX11_fits
      rw [x1, px_bd]
      dsimp only
      rw [wz_msk, px_bd]
    have hm : fX12_fits a1 I1 = some (nI (sp_cnt g 21), I2) := by
      unfold fX12_fits
      rw [y1, px_bd]
    exact lz_q _ hR (fun Q hQ => mX11_fits_ok hB hx hQ) (fun Q hQ => mX12_fits_ok hB hm hQ) (fun r hr => (y4 r hr).trans (x2 r hr))
theorem sp_msk_g {g : Nat → Bool} {v : Nat} (hv : v < 21) : (nI (sp_msk g 21) >>> (nI v &&& 31)) &&& (1 : Int32) = if g v = true then 1 else 0 := by
  have := sp_msk_lt g 21
  rw [wz_bit (by omega) (by omega), sp_msk_tb g 21 v hv]
theorem px_leastX {g : Nat → Bool} : ∃ m, fX10_least (nI (sp_msk g 21)) = some (nI m) ∧ m ≤ 20 ∧ (m < 20 → g m = true) ∧ ∀ j, j < m → g j = false := by
  have key := px_forE (body := fun s : Int32 => fX10_least_2 (nI (sp_msk g 21)) s) (Out := fun x : Int32 => ∃ m, x = nI m ∧ m ≤ 20 ∧ (m < 20 → g m = true) ∧ ∀ j, j < m → g j = false)
    (fun i s => s = nI i ∧ ∀ j, j < i → g j = false) 20 ?_ ?_ 20 0 5000 0 (by omega) (by omega) ⟨rfl, fun j hj => absurd hj (Nat.not_lt_zero j)⟩
  · obtain ⟨x, k1, m, k2, k3⟩ := key
    exact ⟨m, by unfold fX10_least; rw [k1, k2], k3⟩
  · rintro i s hi ⟨e1, e2⟩
    subst e1
    unfold fX10_least_2 fX10_least_22
    rw [if_neg (show ¬ (20 : Int32) ≤ nI i from nI_ge (b := 20) hi (by decide)), sp_msk_g (by omega)]
    by_cases e : g i = true
    · rw [if_pos e, if_neg (by decide)]
      exact Or.inr ⟨_, rfl, i, rfl, by omega, fun _ => e, e2⟩
    · rw [if_neg e, if_pos rfl]
      refine Or.inl ⟨_, rfl, (nI_succ i).symm, fun j hj => ?_⟩
      by_cases ej : j = i
      · subst ej; simpa using e
      · exact e2 j (by omega)
  · rintro s ⟨e1, e2⟩
    subst e1
    unfold fX10_least_2 fX10_least_22
    rw [if_pos (by decide)]
    exact ⟨_, rfl, 20, rfl, by omega, fun h => absurd h (by decide), e2⟩
theorem px_greatX {g : Nat → Bool} : ∃ m, fX10_greatest (nI (sp_msk g 21)) = some (nI m) ∧ m ≤ 20 ∧ (0 < m → g m = true) ∧ ∀ j, m < j → j < 21 → g j = false := by
  have key := px_forE (body := fun s : Int32 => fX10_greatest_3 (nI (sp_msk g 21)) s) (Out := fun x : Int32 => ∃ m, x = nI m ∧ m ≤ 20 ∧ (0 < m → g m = true) ∧ ∀ j, m < j → j < 21 → g j = false)
    (fun i s => s = nI (20 - i) ∧ ∀ j, 20 - i < j → j < 21 → g j = false) 20 ?_ ?_ 20 0 5000 20 (by omega) (by omega) ⟨rfl, fun j h1 h2 => by omega⟩
  · obtain ⟨x, k1, m, k2, k3⟩ := key
    exact ⟨m, by unfold fX10_greatest; rw [k1, k2], k3⟩
  · rintro i s hi ⟨e1, e2⟩
    subst e1
    obtain ⟨y, hy⟩ : ∃ y, 20 - i = y + 1 := ⟨20 - i - 1, by omega⟩
    unfold fX10_greatest_3 fX10_greatest_21
    rw [if_neg (nI_nle (by omega) (by omega)), sp_msk_g (by omega), px_dec, hy, nI_pred]
    by_cases e : g (y + 1) = true
    · rw [if_pos e, if_neg (by decide)]
      exact Or.inr ⟨_, rfl, y + 1, rfl, by omega, fun _ => e, by rw [← hy]; exact e2⟩
    · rw [if_neg e, if_pos rfl]
      refine Or.inl ⟨_, rfl, by rw [show 20 - (i + 1) = y by omega], fun j h1 h2 => ?_⟩
      by_cases ej : j = y + 1
      · subst ej; simpa using e
      · exact e2 j (by omega) h2
  · rintro s ⟨e1, e2⟩
    subst e1
    unfold fX10_greatest_3 fX10_greatest_21
    rw [if_pos (by decide)]
    exact ⟨_, rfl, 0, rfl, by omega, fun h => absurd h (by decide), e2⟩
/-- what the reference has found among those below n -/
def sp_fd (g : Nat → Bool) (all : Bool) : Nat → Option Nat
  | 0 => none
  | n + 1 => if g n = true then (match sp_fd g all n with
      | none => some n
      | some m => if all = true then some n else some m) else sp_fd g all n
theorem sp_fd_lt (g : Nat → Bool) (all : Bool) : ∀ n m, sp_fd g all n = some m → m < n ∧ g m = true
  | 0, m, h => by cases h
  | n + 1, m, h => by
    rw [sp_fd] at h
    have ih := sp_fd_lt g all n
    by_cases e : g n = true
    · rw [if_pos e] at h
      cases hf : sp_fd g all n with
      | none => rw [hf] at h; cases h; exact ⟨Nat.lt_succ_self _, e⟩
      | some x =>
        rw [hf] at h
        have h' : (if all = true then some n else some x) = some m := h
        by_cases ea : all = true
        · rw [if_pos ea] at h'; cases h'; exact ⟨Nat.lt_succ_self _, e⟩
        · rw [if_neg ea] at h'; cases h'
          have := ih m hf
          exact ⟨by omega, this.2⟩
    · rw [if_neg e] at h
      have := ih m h
      exact ⟨by omega, this.2⟩
theorem sp_fd_none (g : Nat → Bool) (all : Bool) : ∀ n, sp_fd g all n = none → ∀ j, j < n → g j = false
  | 0, _, j, hj => absurd hj (Nat.not_lt_zero j)
  | n + 1, h, j, hj => by
    rw [sp_fd] at h
    by_cases e : g n = true
    · rw [if_pos e] at h
      cases hf : sp_fd g all n with
      | none => rw [hf] at h; cases h
      | some x =>
        rw [hf] at h
        have h' : (if all = true then some n else some x) = none := h
        by_cases ea : all = true
        · rw [if_pos ea] at h'; cases h'
        · rw [if_neg ea] at h'; cases h'
    · rw [if_neg e] at h
      by_cases ej : j = n
      · subst ej; simpa using e
      · exact sp_fd_none g all n h j (by omega)
theorem sp_fd_low (g : Nat → Bool) : ∀ n m, sp_fd g false n = some m → ∀ j, j < m → g j = false
  | 0, m, h => by cases h
  | n + 1, m, h => by
    rw [sp_fd] at h
    by_cases e : g n = true
    · rw [if_pos e] at h
      cases hf : sp_fd g false n with
      | none => rw [hf] at h; cases h; exact sp_fd_none g false _ hf
      | some x =>
        rw [hf] at h
        have h' : (if false = true then some n else some x) = some m := h
        rw [if_neg (by decide)] at h'; cases h'
        exact sp_fd_low g n m hf
    · rw [if_neg e] at h
      exact sp_fd_low g n m h
theorem sp_fd_high (g : Nat → Bool) : ∀ n m, sp_fd g true n = some m → ∀ j, m < j → j < n → g j = false
  | 0, m, h => by cases h
  | n + 1, m, h => by
    intro j h1 h2
    rw [sp_fd] at h
    by_cases e : g n = true
    · rw [if_pos e] at h
      cases hf : sp_fd g true n with
      | none => rw [hf] at h; cases h; omega
      | some x =>
        rw [hf] at h
        have h' : (if true = true then some n else some x) = some m := h
        rw [if_pos rfl] at h'; cases h'
        omega
    · rw [if_neg e] at h
      by_cases ej : j = n
      · subst ej; simpa using e
      · exact sp_fd_high g n m h j h1 (by omega)
theorem px_msure {g : Nat → Bool} {a1 a2 : Int32} {all : Bool} (ha : a1 = 1 ↔ all = true) (h106 : ∀ v, v < 21 → I 106 v = (if g v = true then 1 else 0)) : ab_it (fun s : Int32 × Int32 × ab_I => fX12_sure_24 a1 a2 s.1 s.2.1 s.2.2) 5000 (-1, 0, I) = some (sp_int (sp_fd g all 21), I) := by
  have key := px_for (body := fun s : Int32 × Int32 × ab_I => fX12_sure_24 a1 a2 s.1 s.2.1 s.2.2) (Out := fun x : Int32 × ab_I => x = (sp_int (sp_fd g all 21), I))
    (fun i s => s.1 = sp_int (sp_fd g all i) ∧ s.2.1 = nI i ∧ s.2.2 = I) 21 ?_ ?_ 21 0 5000 (-1, 0, I) (by omega) (by omega) ⟨rfl, rfl, rfl⟩
  · obtain ⟨x, k1, k2⟩ := key
    rw [k1, k2]
  · rintro i ⟨s1, s2, I2⟩ hi ⟨e1, e2, e3⟩
    dsimp only at e1 e2 e3 ⊢
    subst e1 e2
    have e3 := e3.symm
    subst e3
    have h20 : ¬ (20 : Int32) < nI i := nI_nlt (a := 20) (by omega) (by decide)
    unfold fX12_sure_24 fX12_sure_50 fX12_sure_53
    rw [if_neg h20, px_gd (px_ix hi (by decide)), nI_clamp (by omega), h106 i hi]
    by_cases e : g i = true
    · rw [if_pos e, if_neg (by decide)]
      cases hf : sp_fd g all i with
      | none =>
        rw [show sp_int none = -1 from rfl, if_pos (by decide)]
        refine ⟨_, rfl, ?_, (nI_succ i).symm, rfl⟩
        dsimp only
        rw [sp_fd, if_pos e, hf]; rfl
      | some m =>
        have hm := sp_fd_lt g all i m hf
        rw [show sp_int (some m) = nI m from rfl, if_neg (nI_pos (by omega))]
        by_cases ea : all = true
        · rw [if_pos (ha.mpr ea)]
          refine ⟨_, rfl, ?_, (nI_succ i).symm, rfl⟩
          dsimp only
          rw [sp_fd, if_pos e, hf]
          dsimp only
          rw [if_pos ea]; rfl
        · rw [if_neg (fun h => ea (ha.mp h))]
          refine ⟨_, rfl, ?_, (nI_succ i).symm, rfl⟩
          dsimp only
          rw [sp_fd, if_pos e, hf]
          dsimp only
          rw [if_neg ea]; rfl
    · rw [if_neg e, if_pos rfl]
      refine ⟨_, rfl, ?_, (nI_succ i).symm, rfl⟩
      dsimp only
      rw [sp_fd, if_neg e]
  · rintro ⟨s1, s2, I2⟩ ⟨e1, e2, e3⟩
    dsimp only at e1 e2 e3 ⊢
    subst e1 e2
    have e3 := e3.symm
    subst e3
    unfold fX12_sure_24 fX12_sure_59
    rw [if_pos (by decide)]
    exact ⟨_, rfl, rfl⟩
theorem pr_sure (hR : rx_R S I J P) (a1 a2 : Int32) : lz_pr l G rx_R mX11_sure 7 mX12_sure 7 [.int a1, .int a2] S I J P := by
  have hB := hR.1
  by_cases ha : a1 < 0 ∨ (1 : Int32) < a1
  · have hx : fX11_sure a1 a2 I = some (-1, I) := by
      unfold fX11_sure
      rw [px_within, if_pos ha, px_bd, if_pos rfl]
    have hm : fX12_sure a1 a2 I = some (-1, I) := by
      unfold fX12_sure fX12_sure_17
      rw [px_isIn, if_pos ha, px_bd, if_pos rfl]
    exact lz_q _ hR (fun Q hQ => mX11_sure_ok hB hx hQ) (fun Q hQ => mX12_sure_ok hB hm hQ) (fun _ _ => rfl)
  obtain ⟨np, nb, nl, fa, lc, dr, t, F, hrs, q, w, cn, D, B, Q, is, ct, hH, hW⟩ := rx_R_H hR a2
  by_cases hl : nl = 0
  · subst hl
    have hx : fX11_sure a1 a2 I = some (-1, I) := by
      unfold fX11_sure
      rw [px_within, if_neg ha, px_bd, if_neg (by decide), px_fit0 hH.2.2.1, px_bd, if_pos rfl]
    have hm : fX12_sure a1 a2 I = some (-1, I) := by
      unfold fX12_sure fX12_sure_17
      rw [px_isIn, if_neg ha, px_bd, if_neg (by decide), px_lay0 hH.2.2.2.1, px_bd, if_pos rfl]
    exact lz_q _ hR (fun Q hQ => mX11_sure_ok hB hx hQ) (fun Q hQ => mX12_sure_ok hB hm hQ) (fun _ _ => rfl)
  obtain ⟨g, hg⟩ : ∃ g : Nat → Bool, ∀ v, g v = sp_fit (sp_r F hrs np fa nb t lc dr v) cn D B Q is ct := ⟨_, fun _ => rfl⟩
  obtain ⟨I1, x1, x2⟩ := px_fitting hH hW (by omega) hg
  obtain ⟨I2, y1, y2, y3, y4⟩ := px_layFits (rx_H_sc hH x2) (rx_Wd_sc hW x2) (by omega) hg
  have ml := sp_msk_lt g 21
  have cl := sp_cnt_le g 21
  by_cases hz : sp_cnt g 21 = 0
  · have hx : fX11_sure a1 a2 I = some (-1, I1) := by
      unfold fX11_sure
      rw [px_within, if_neg ha, px_bd, if_neg (by decide), x1, px_bd, (sp_msk_0 g 21).mpr hz, if_pos (show nI 0 = 0 from rfl)]
    have hm : fX12_sure a1 a2 I1 = some (-1, I2) := by
      unfold fX12_sure fX12_sure_17
      rw [px_isIn, if_neg ha, px_bd, if_neg (by decide), y1, px_bd, hz, if_pos (show nI 0 = 0 from rfl)]
    exact lz_q _ hR (fun Q hQ => mX11_sure_ok hB hx hQ) (fun Q hQ => mX12_sure_ok hB hm hQ) (fun r hr => (y4 r hr).trans (x2 r hr))
  have mz : ¬ nI (sp_msk g 21) = 0 := fun h => hz ((sp_msk_0 g 21).mp ((px_eq0 (by omega)).mp h))
  have cz : ¬ nI (sp_cnt g 21) = 0 := fun h => hz ((px_eq0 (by omega)).mp h)
  have nn : ∀ all, sp_fd g all 21 ≠ none := fun all h => by
    have hno := sp_fd_none g all 21 h
    have : ∀ n, n ≤ 21 → sp_cnt g n = 0 := fun n => by
      induction n with
      | zero => exact fun _ => rfl
      | succ n ih =>
        intro hn
        rw [sp_cnt, ih (by omega), hno n (by omega)]; rfl
    exact hz (this 21 (Nat.le_refl _))
  by_cases h0 : a1 = 0
  · obtain ⟨m, k1, k2, k3, k4⟩ := px_leastX (g := g)
    obtain ⟨m', hm'⟩ := Option.ne_none_iff_exists'.mp (nn false)
    have e : m = m' := by
      have h1 := sp_fd_lt g false 21 m' hm'
      have h2 := sp_fd_low g 21 m' hm'
      by_cases c1 : m < m'
      · have := h2 m c1
        rw [k3 (by omega)] at this
        exact absurd this (by decide)
      · by_cases c2 : m' < m
        · have := k4 m' c2
          rw [h1.2] at this
          exact absurd this (by decide)
        · omega
    have hx : fX11_sure a1 a2 I = some (nI m, I1) := by
      unfold fX11_sure fX11_sure_49
      rw [px_within, if_neg ha, px_bd, if_neg (by decide), x1, px_bd]
      dsimp only
      rw [if_neg mz, if_pos h0, k1, px_bd]
    have hm : fX12_sure a1 a2 I1 = some (nI m, I2) := by
      unfold fX12_sure
      rw [px_isIn, if_neg ha, px_bd, if_neg (by decide), y1, px_bd]
      dsimp only
      rw [if_neg cz, px_msure (all := false) (by rw [h0]; decide) y2, hm', e]; rfl
    exact lz_q _ hR (fun Q hQ => mX11_sure_ok hB hx hQ) (fun Q hQ => mX12_sure_ok hB hm hQ) (fun r hr => (y4 r hr).trans (x2 r hr))
  · obtain ⟨x, hx1, rfl⟩ := px_in (hi := 1) (by decide) ha
    have h1 : nI x = 1 := by
      obtain rfl : x = 1 := by
        by_cases e : x = 0
        · subst e; exact absurd rfl h0
        · omega
      rfl
    obtain ⟨m, k1, k2, k3, k4⟩ := px_greatX (g := g)
    obtain ⟨m', hm'⟩ := Option.ne_none_iff_exists'.mp (nn true)
    have e : m = m' := by
      have h1 := sp_fd_lt g true 21 m' hm'
      have h2 := sp_fd_high g 21 m' hm'
      by_cases c1 : m < m'
      · have := k4 m' c1 h1.1
        rw [h1.2] at this
        exact absurd this (by decide)
      · by_cases c2 : m' < m
        · have := h2 m c2 (by omega)
          rw [k3 (by omega)] at this
          exact absurd this (by decide)
        · omega
    have hx : fX11_sure (nI x) a2 I = some (nI m, I1) := by
      unfold fX11_sure fX11_sure_49
      rw [px_within, if_neg ha, px_bd, if_neg (by decide), x1, px_bd]
      dsimp only
      rw [if_neg mz, if_neg h0, k1, px_bd]
    have hm : fX12_sure (nI x) a2 I1 = some (nI m, I2) := by
      unfold fX12_sure
      rw [px_isIn, if_neg ha, px_bd, if_neg (by decide), y1, px_bd]
      dsimp only
      rw [if_neg cz, px_msure (all := true) (by rw [h1]; decide) y2, hm', e]; rfl
    exact lz_q _ hR (fun Q hQ => mX11_sure_ok hB hx hQ) (fun Q hQ => mX12_sure_ok hB hm hQ) (fun r hr => (y4 r hr).trans (x2 r hr))
end SURE
