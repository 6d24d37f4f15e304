/-! ===== loops that may end early: ruin, hushed ===== -/
theorem px_forE {σ ρ : Type} {body : σ → Option (σ ⊕ ρ)} {Out : ρ → Prop} (Inv : Nat → σ → Prop) (e : Nat) (step : ∀ i s, i < e → Inv i s → (∃ s', body s = some (.inl s') ∧ Inv (i + 1) s') ∨ ∃ r, body s = some (.inr r) ∧ Out r) (out : ∀ s, Inv e s → ∃ r, body s = some (.inr r) ∧ Out r) :
    ∀ (d i : Nat) (n : Nat) (s : σ), i + d = e → d < n → Inv i s → ∃ r, ab_it body n s = some r ∧ Out r
  | 0, i, n, s, hi, hn, h => by
    obtain ⟨n, rfl⟩ : ∃ m, n = m + 1 := ⟨n - 1, by omega⟩
    obtain rfl : i = e := by omega
    obtain ⟨r, h1, h2⟩ := out s h
    exact ⟨r, px_itR h1, h2⟩
  | d + 1, i, n, s, hi, hn, h => by
    obtain ⟨n, rfl⟩ : ∃ m, n = m + 1 := ⟨n - 1, by omega⟩
    rcases step i s (by omega) h with ⟨s', h1, h2⟩ | ⟨r, h1, h2⟩
    · rw [px_itL h1]
      exact px_forE Inv e step out d (i + 1) n s' (by omega) (by omega) h2
    · exact ⟨r, px_itR h1, h2⟩
/-- the first of n from i on that g has; -1 if none -/
def sp_find (g : Nat → Bool) : Nat → Nat → Int32
  | 0, _ => -1
  | n + 1, i => if g i = true then nI i else sp_find g n (i + 1)
theorem sp_find_y {g : Nat → Bool} {n i : Nat} (h : g i = true) : sp_find g (n + 1) i = nI i := if_pos h
theorem sp_find_n {g : Nat → Bool} {n i : Nat} (h : ¬ g i = true) : sp_find g (n + 1) i = sp_find g n (i + 1) := if_neg h
section PR5
variable {S : ab_S} {I : ab_I} {J : ab_J} {P : ab_P} {l : Launch} {G : ab_G}
theorem px_eq0 {n : Nat} (hn : n < 2 ^ 31) : nI n = 0 ↔ n = 0 := ⟨fun h => by
  by_cases h0 : n = 0
  · exact h0
  · exact absurd h (nI_ne0 (by omega) hn), fun h => by subst h; rfl⟩
theorem sp_who_or (F : Int32 → Int32 → Int32 → Int32 → Int32 → Int32 → Int32) (hr : Int32) (w : Nat → Nat) (b np : Nat) (hn : np ≤ 6) : (sp_who F hr w b np = -1 ∧ ¬ (0 : Int32) ≤ sp_who F hr w b np) ∨ (¬ sp_who F hr w b np = -1 ∧ (0 : Int32) ≤ sp_who F hr w b np) := by
  rcases sp_rg_cases F hr w b np with h | ⟨p, hp, h, -, -⟩
  · left
    unfold sp_who
    rw [h]
    exact ⟨rfl, by decide⟩
  · right
    unfold sp_who
    rw [h]
    exact ⟨px_m1 (by omega), nI_pos' (by omega)⟩
theorem pr_ruin (hR : rx_R S I J P) (a1 : Int32) : lz_pr l G rx_R mX11_ruin 6 mX12_ruin 6 [.int a1] S I J P := by
  have hB := hR.1
  obtain ⟨np, nb, fa, hrs, F, q, w, hQ⟩ := rx_R_Q hR
  obtain ⟨h1, h2, h3, h4, h5, h6, h7, h8, h9, h10, h11, h12, h13, h14, h15, h16, h17, h18⟩ := id hQ
  by_cases ha : px_b a1 np
  · have hx : fX11_ruin a1 I P = some (-1, I) := by
      unfold fX11_ruin fX11_ruin_27
      rw [px_Person_b h4 ha, px_bd, if_pos rfl]
    have hm : fX12_ruin a1 I = some (-1, I) := by
      unfold fX12_ruin
      rw [px_mPerson_b (by omega) h7 ha, px_bd, if_pos rfl]
    exact lz_q _ hR (fun Q hQ => mX11_ruin_ok hB hx hQ) (fun Q hQ => mX12_ruin_ok hB hm hQ) (fun _ _ => rfl)
  obtain ⟨p, hp, rfl⟩ := px_of ha (by omega)
  have hok : ∀ i, rx_ok np nb (999 + i) (sp_go F hrs np false fa nb w i).1 := sp_go_ok h1 h2 h18
  generalize hg : (fun i => decide ((sp_go F hrs np false fa nb w i).1 p = 0)) = g
  have hgi : ∀ i, g i = true ↔ (sp_go F hrs np false fa nb w i).1 p = 0 := fun i => by rw [← hg]; exact decide_eq_true_iff
  obtain ⟨I1, c1, c2, c3⟩ := px_trial hQ (qt := 26) (Or.inl rfl)
  have keyX := px_forE (body := fun s : Int32 × ab_I => fX1_daysToNothing_10 q (nI p) s.1 s.2) (Out := fun r : Int32 × ab_I => r.1 = sp_find g 61 0 ∧ ∀ k, ¬ rx_sc k → r.2 k = I k)
    (fun i s => s.1 = nI i ∧ rx_is np (rx_v s.2 26) (sp_go F hrs np false fa nb w i).1 ∧ sp_find g 61 0 = sp_find g (61 - i) i ∧ ∀ k, ¬ rx_sc k → s.2 k = I k) 61 ?_ ?_ 61 0 5000 (0, I1) (by omega) (by omega) ⟨rfl, c2, rfl, c3⟩
  · obtain ⟨r, k1, k2, k3⟩ := keyX
    have hx : fX11_ruin (nI p) I P = some (sp_find g 61 0, r.2) := by
      unfold fX11_ruin fX11_ruin_27 fX1_daysToNothing
      rw [px_Person_n h4 ha, px_bd, if_neg (by decide), h14, px_bd, c1, px_bd, k1, px_bd, ← k2]
    have hQ1 := rx_Q_sc hQ k3
    obtain ⟨I2, d1, d2, d3⟩ := px_mfill hQ1
    have keyM := px_forE (body := fun s : Int32 × ab_I => fX12_ruin_16 (nI p) s.1 s.2) (Out := fun r' : Int32 × ab_I => r'.1 = sp_find g 61 0 ∧ ∀ k, ¬ rx_sc k → r'.2 k = r.2 k)
      (fun i s => s.1 = nI i ∧ rx_is np (s.2 90) (sp_go F hrs np false fa nb w i).1 ∧ sp_find g 61 0 = sp_find g (61 - i) i ∧ ∀ k, ¬ rx_sc k → s.2 k = r.2 k) 61 ?_ ?_ 61 0 5000 (0, I2) (by omega) (by omega) ⟨rfl, d2, rfl, d3⟩
    · obtain ⟨r2, m1, m2, m3⟩ := keyM
      have hm : fX12_ruin (nI p) r.2 = some (sp_find g 61 0, r2.2) := by
        unfold fX12_ruin
        rw [px_mPerson_n (by omega) hQ1.2.2.2.2.2.2.1 ha, px_bd, if_neg (by decide), d1, px_bd, m1, ← m2]
      exact lz_q _ hR (fun Q hQ => mX11_ruin_ok hB hx hQ) (fun Q hQ => mX12_ruin_ok hB hm hQ) (fun r' hr => (m3 r' hr).trans (k3 r' hr))
    · rintro i ⟨a4, I3⟩ hi ⟨e4, ew, ef, eI⟩
      dsimp only at e4 ew ef eI ⊢
      subst e4
      have hv : I3 90 p = nI ((sp_go F hrs np false fa nb w i).1 p) := ew p (by omega) (fun _ => hp)
      have hlt : (sp_go F hrs np false fa nb w i).1 p < 2 ^ 31 := by have := (hok i).1 p hp; omega
      have e61 : 61 - i = (60 - i) + 1 := by omega
      unfold fX12_ruin_16 fX12_ruin_31
      rw [if_neg (show ¬ (60 : Int32) < nI i from nI_nlt (a := 60) (b := i) (by omega) (by decide)), px_gd (px_ix (by omega) (by decide)), nI_clamp (by omega), hv]
      rw [e61] at ef
      by_cases h0 : (sp_go F hrs np false fa nb w i).1 p = 0
      · right
        rw [sp_find_y ((hgi i).mpr h0)] at ef
        rw [if_pos ((px_eq0 hlt).mpr h0)]
        exact ⟨_, rfl, ef.symm, eI⟩
      · left
        rw [sp_find_n (fun h => h0 ((hgi i).mp h))] at ef
        obtain ⟨I4, n1, n2, n3, n4⟩ := px_mgo hQ1 false ew eI
        rw [show ((if false = true then 1 else 0) : Int32) = 0 from rfl] at n1
        rw [if_neg (fun h => h0 ((px_eq0 hlt).mp h)), n1, px_bd]
        exact ⟨_, rfl, (nI_succ i).symm, n2, by rw [ef, show 61 - (i + 1) = 60 - i by omega], n4⟩
    · rintro ⟨a4, I3⟩ ⟨e4, ew, ef, eI⟩
      dsimp only at e4 ew ef eI ⊢
      subst e4
      refine ⟨(-1, I3), ?_, ef.symm, eI⟩
      unfold fX12_ruin_16 fX12_ruin_45
      rw [if_pos (show (60 : Int32) < nI 61 by decide)]
      rfl
  · rintro i ⟨a4, I3⟩ hi ⟨e4, ew, ef, eI⟩
    dsimp only at e4 ew ef eI ⊢
    subst e4
    have hv : I3 (26 + 1) p = nI ((sp_go F hrs np false fa nb w i).1 p) := rx_has ew h1 hp
    have hlt : (sp_go F hrs np false fa nb w i).1 p < 2 ^ 31 := by have := (hok i).1 p hp; omega
    have e61 : 61 - i = (60 - i) + 1 := by omega
    unfold fX1_daysToNothing_10 fX1_daysToNothing_28
    rw [if_neg (show ¬ (60 : Int32) < nI i from nI_nlt (a := 60) (b := i) (by omega) (by decide)), px_gd (px_ix (by omega) (by decide)), nI_clamp (by omega), hv]
    rw [e61] at ef
    by_cases h0 : (sp_go F hrs np false fa nb w i).1 p = 0
    · right
      rw [sp_find_y ((hgi i).mpr h0)] at ef
      rw [if_pos ((px_eq0 hlt).mpr h0)]
      exact ⟨_, rfl, ef.symm, eI⟩
    · left
      rw [sp_find_n (fun h => h0 ((hgi i).mp h))] at ef
      obtain ⟨I4, n1, n2, n3, n4⟩ := px_day (rx_Q_sc hQ eI) (Or.inl rfl) ew (hok i) false
      rw [show ((if false = true then 1 else 0) : Int32) = 0 from rfl] at n1
      rw [if_neg (fun h => h0 ((px_eq0 hlt).mp h)), n1, px_bd]
      exact ⟨_, rfl, (nI_succ i).symm, n2, by rw [ef, show 61 - (i + 1) = 60 - i by omega], fun k hk => (n4 k hk).trans (eI k hk)⟩
  · rintro ⟨a4, I3⟩ ⟨e4, ew, ef, eI⟩
    dsimp only at e4 ew ef eI ⊢
    subst e4
    refine ⟨(-1, I3), ?_, ef.symm, eI⟩
    unfold fX1_daysToNothing_10 fX1_daysToNothing_49
    rw [if_pos (show (60 : Int32) < nI 61 by decide)]
    rfl
theorem pr_hushed (hR : rx_R S I J P) (a1 : Int32) : lz_pr l G rx_R mX11_hushed 6 mX12_hushed 6 [.int a1] S I J P := by
  have hB := hR.1
  obtain ⟨np, nb, fa, hrs, F, q, w, hQ⟩ := rx_R_Q hR
  obtain ⟨h1, h2, h3, h4, h5, h6, h7, h8, h9, h10, h11, h12, h13, h14, h15, h16, h17, h18⟩ := id hQ
  by_cases ha : px_b a1 nb
  · have hx : fX11_hushed a1 I P = some (-1, I) := by
      unfold fX11_hushed fX11_hushed_27
      rw [px_Bell_b h5 ha, px_bd, if_pos rfl]
    have hm : fX12_hushed a1 I = some (-1, I) := by
      unfold fX12_hushed
      rw [px_mBell_b (by omega) h8 ha, px_bd, if_pos rfl]
    exact lz_q _ hR (fun Q hQ => mX11_hushed_ok hB hx hQ) (fun Q hQ => mX12_hushed_ok hB hm hQ) (fun _ _ => rfl)
  obtain ⟨b, hb, rfl⟩ := px_of ha (by omega)
  have hok : ∀ i, rx_ok np nb (999 + i) (sp_go F hrs np false fa nb w i).1 := sp_go_ok h1 h2 h18
  generalize hg : (fun i => decide (sp_rgr F hrs np false fa (sp_go F hrs np false fa nb w (i - 1)).1 b = -1)) = g
  have hgi : ∀ i, g (i + 1) = true ↔ sp_rgr F hrs np false fa (sp_go F hrs np false fa nb w i).1 b = -1 := fun i => by rw [← hg]; exact decide_eq_true_iff
  have hor : ∀ i, (sp_rgr F hrs np false fa (sp_go F hrs np false fa nb w i).1 b = -1 ∧ ¬ (0 : Int32) ≤ sp_rgr F hrs np false fa (sp_go F hrs np false fa nb w i).1 b) ∨ (¬ sp_rgr F hrs np false fa (sp_go F hrs np false fa nb w i).1 b = -1 ∧ (0 : Int32) ≤ sp_rgr F hrs np false fa (sp_go F hrs np false fa nb w i).1 b) := fun i => sp_who_or _ _ _ _ _ h1
  obtain ⟨I1, c1, c2, c3⟩ := px_trial hQ (qt := 26) (Or.inl rfl)
  have keyX := px_forE (body := fun s : Int32 × ab_I => fX1_daysToSilence_10 q (nI b) s.1 s.2) (Out := fun r : Int32 × ab_I => r.1 = sp_find g 60 1 ∧ ∀ k, ¬ rx_sc k → r.2 k = I k)
    (fun i s => s.1 = nI (i + 1) ∧ rx_is np (rx_v s.2 26) (sp_go F hrs np false fa nb w i).1 ∧ sp_find g 60 1 = sp_find g (60 - i) (i + 1) ∧ ∀ k, ¬ rx_sc k → s.2 k = I k) 60 ?_ ?_ 60 0 5000 (1, I1) (by omega) (by omega) ⟨rfl, c2, rfl, c3⟩
  · obtain ⟨r, k1, k2, k3⟩ := keyX
    have hx : fX11_hushed (nI b) I P = some (sp_find g 60 1, r.2) := by
      unfold fX11_hushed fX11_hushed_27 fX1_daysToSilence
      rw [px_Bell_n h5 ha, px_bd, if_neg (by decide), h14, px_bd, c1, px_bd, k1, px_bd, ← k2]
    have hQ1 := rx_Q_sc hQ k3
    obtain ⟨I2, d1, d2, d3⟩ := px_mfill hQ1
    have keyM := px_forE (body := fun s : Int32 × ab_I => fX12_hushed_16 (nI b) s.1 s.2) (Out := fun r' : Int32 × ab_I => r'.1 = sp_find g 60 1 ∧ ∀ k, ¬ rx_sc k → r'.2 k = r.2 k)
      (fun i s => s.1 = nI (i + 1) ∧ rx_is np (s.2 90) (sp_go F hrs np false fa nb w i).1 ∧ sp_find g 60 1 = sp_find g (60 - i) (i + 1) ∧ ∀ k, ¬ rx_sc k → s.2 k = r.2 k) 60 ?_ ?_ 60 0 5000 (1, I2) (by omega) (by omega) ⟨rfl, d2, rfl, d3⟩
    · obtain ⟨r2, m1, m2, m3⟩ := keyM
      have hm : fX12_hushed (nI b) r.2 = some (sp_find g 60 1, r2.2) := by
        unfold fX12_hushed
        rw [px_mBell_n (by omega) hQ1.2.2.2.2.2.2.2.1 ha, px_bd, if_neg (by decide), d1, px_bd, m1, ← m2]
      exact lz_q _ hR (fun Q hQ => mX11_hushed_ok hB hx hQ) (fun Q hQ => mX12_hushed_ok hB hm hQ) (fun r' hr => (m3 r' hr).trans (k3 r' hr))
    · rintro i ⟨a4, I3⟩ hi ⟨e4, ew, ef, eI⟩
      dsimp only at e4 ew ef eI ⊢
      subst e4
      obtain ⟨I4, n1, n2, n3, n4⟩ := px_mgo hQ1 false ew eI
      rw [show ((if false = true then 1 else 0) : Int32) = 0 from rfl] at n1
      unfold fX12_hushed_16 fX12_hushed_37
      rw [if_neg (show ¬ (60 : Int32) < nI (i + 1) from nI_nlt (a := 60) (b := i + 1) (by omega) (by decide)), n1, px_bd, px_gd (px_ix (by omega) (by decide)), nI_clamp (by omega)]
      dsimp only
      have hoi := hor i
      rw [← n3 b hb] at hoi
      rw [show 60 - i = (59 - i) + 1 by omega] at ef
      rcases hoi with ⟨o1, o2⟩ | ⟨o1, o2⟩
      · right
        rw [sp_find_y ((hgi i).mpr ((n3 b hb).symm.trans o1))] at ef
        rw [if_neg o2]
        exact ⟨_, rfl, ef.symm, n4⟩
      · left
        rw [sp_find_n (fun h => o1 ((n3 b hb).trans ((hgi i).mp h)))] at ef
        rw [if_pos o2]
        exact ⟨_, rfl, (nI_succ (i + 1)).symm, n2, by rw [ef, show 60 - (i + 1) = 59 - i by omega], n4⟩
    · rintro ⟨a4, I3⟩ ⟨e4, ew, ef, eI⟩
      dsimp only at e4 ew ef eI ⊢
      subst e4
      refine ⟨(-1, I3), ?_, ef.symm, eI⟩
      unfold fX12_hushed_16 fX12_hushed_45
      rw [if_pos (show (60 : Int32) < nI (60 + 1) by decide)]
      rfl
  · rintro i ⟨a4, I3⟩ hi ⟨e4, ew, ef, eI⟩
    dsimp only at e4 ew ef eI ⊢
    subst e4
    obtain ⟨I4, n1, n2, n3, n4⟩ := px_day (rx_Q_sc hQ eI) (Or.inl rfl) ew (hok i) false
    rw [show ((if false = true then 1 else 0) : Int32) = 0 from rfl] at n1
    unfold fX1_daysToSilence_10 fX1_daysToSilence_42
    rw [if_neg (show ¬ (60 : Int32) < nI (i + 1) from nI_nlt (a := 60) (b := i + 1) (by omega) (by decide)), n1, px_bd, px_gd (px_ix (by omega) (by decide)), nI_clamp (by omega)]
    dsimp only
    have hoi := hor i
    rw [← n3 b hb] at hoi
    rw [show 60 - i = (59 - i) + 1 by omega] at ef
    rcases hoi with ⟨o1, o2⟩ | ⟨o1, o2⟩
    · right
      rw [sp_find_y ((hgi i).mpr ((n3 b hb).symm.trans o1))] at ef
      rw [if_pos o1]
      exact ⟨_, rfl, ef.symm, fun k hk => (n4 k hk).trans (eI k hk)⟩
    · left
      rw [sp_find_n (fun h => o1 ((n3 b hb).trans ((hgi i).mp h)))] at ef
      rw [if_neg o1]
      exact ⟨_, rfl, (nI_succ (i + 1)).symm, n2, by rw [ef, show 60 - (i + 1) = 59 - i by omega], fun k hk => (n4 k hk).trans (eI k hk)⟩
  · rintro ⟨a4, I3⟩ ⟨e4, ew, ef, eI⟩
    dsimp only at e4 ew ef eI ⊢
    subst e4
    refine ⟨(-1, I3), ?_, ef.symm, eI⟩
    unfold fX1_daysToSilence_10 fX1_daysToSilence_50
    rw [if_pos (show (60 : Int32) < nI (60 + 1) by decide)]
    rfl
end PR5
