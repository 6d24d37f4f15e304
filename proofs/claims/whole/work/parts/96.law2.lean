section LAW2
variable {S : ab_S} {J : ab_J} {l : Launch} {G : ab_G} {I : ab_I} {P : ab_P} {np nb fa q : Nat} {hrs : Nat → Int32} {F : Int32 → Int32 → Int32 → Int32 → Int32 → Int32 → Int32} {w : Nat → Nat}
theorem px_allLose (hQ : rx_Q I P np nb fa hrs F q w) {n : Nat} (hn : n ≤ 20) : ∃ I', fX1_rungIfAllLose q (nI n) I = some (nI nb - nI (rx_pop (sp_msk (fun j => decide (sp_rgr F hrs np false fa (sp_all w n 30) j = -1)) nb)), I') ∧ ∀ r, ¬ rx_sc r → I' r = I r := by
  obtain ⟨I1, c1, c2, c3⟩ := px_trial hQ (qt := 26) (Or.inl rfl)
  have ho := hQ.2.2.2.2.2.2.2.2.2.2.2.2.2.2.2.2.2
  have h2 := hQ.2.1
  have key := px_for (body := fun s : Int32 × ab_I => fX1_rungIfAllLose_10 q (nI n) s.1 s.2) (Out := fun x : Int32 × ab_I => x.1 = nI nb - nI (rx_pop (sp_msk (fun j => decide (sp_rgr F hrs np false fa (sp_all w n 30) j = -1)) nb)) ∧ ∀ r, ¬ rx_sc r → x.2 r = I r)
    (fun i s => s.1 = nI i ∧ rx_is np (rx_v s.2 26) (sp_all w n i) ∧ ∀ k, ¬ rx_sc k → s.2 k = I k) 30 ?_ ?_ 30 0 5000 (0, I1) (by omega) (by omega) ⟨rfl, ?_, c3⟩
  · obtain ⟨x, k1, k2, k3⟩ := key
    refine ⟨x.2, ?_, k3⟩
    unfold fX1_rungIfAllLose
    rw [c1, px_bd, k1, ← k2]
  · rintro i ⟨a3, I3⟩ hi ⟨e3, ew, eI⟩
    dsimp only at e3 ew eI ⊢
    subst e3
    have h9 := ho.2.2.2.1 i hi
    unfold fX1_rungIfAllLose_10 fX1_rungIfAllLose_38
    rw [if_neg (show ¬ (30 : Int32) ≤ nI i from nI_ge (a := i) (b := 30) hi (by decide)), px_gd (px_ix (by omega) (by decide)), px_gd (px_ix (by omega) (by decide)), nI_clamp (by omega), rx_loss ew hi, sp_all_at]
    by_cases e : w (13 + i) = 0
    · rw [e, if_pos (by decide)]
      exact ⟨_, rfl, (nI_succ i).symm, by rw [← sp_all_z e]; exact ew, eI⟩
    · rw [if_neg (show ¬ nI (w (13 + i)) ≤ (0 : Int32) from nI_ge (a := 0) (b := w (13 + i)) (by omega) (by omega))]
      refine ⟨_, rfl, (nI_succ i).symm, ?_, fun k hk => ?_⟩
      · rw [← sp_all_s (by omega)]
        exact rx_u3 hi ew
      · exact (ab_u_o (by unfold rx_sc at hk; omega)).trans (eI k hk)
  · rintro ⟨a3, I3⟩ ⟨e3, ew, eI⟩
    dsimp only at e3 ew eI ⊢
    subst e3
    obtain ⟨I4, d1, d2, d3, d4⟩ := px_day (rx_Q_sc hQ eI) (Or.inl rfl) ew (sp_all_ok hn hQ.1 ho) false
    rw [show ((if false = true then 1 else 0) : Int32) = 0 from rfl] at d1
    have fr : ∀ k, ¬ rx_sc k → I4 k = I k := fun k hk => (d4 k hk).trans (eI k hk)
    unfold fX1_rungIfAllLose_10 fX1_rungIfAllLose_44
    rw [if_pos (by decide), d1, px_bd]
    dsimp only
    rw [px_rungBy h2 (rx_Q_sc hQ fr).2.2.2.2.1 d3, px_bd, px_pop _ (sp_msk64 _ (by omega)), px_bd, (rx_Q_sc hQ fr).2.2.2.2.1]
    exact ⟨_, rfl, rfl, fr⟩
  · rw [show sp_all w n 0 = w from funext fun k => if_neg (by omega)]
    exact c2
theorem px_mlaw (hQ : rx_Q I P np nb fa hrs F q w) {n : Nat} (hn : n ≤ 20) (hb : ¬ (nI n < 0 ∨ (20 : Int32) < nI n)) : ∃ I', fX12_law (nI n) I = some (nI nb - nI (rx_pop (sp_msk (fun j => decide (sp_rgr F hrs np false fa (sp_all w n 30) j = -1)) nb)), I') ∧ ∀ r, ¬ rx_sc r → I' r = I r := by
  obtain ⟨I1, c1, c2, c3⟩ := px_mfill hQ
  have ho := hQ.2.2.2.2.2.2.2.2.2.2.2.2.2.2.2.2.2
  have h2 := hQ.2.1
  have key := px_for (body := fun s : Int32 × ab_I => fX12_law_18 (nI n) s.1 s.2) (Out := fun x : Int32 × ab_I => x.1 = nI nb - nI (rx_pop (sp_msk (fun j => decide (sp_rgr F hrs np false fa (sp_all w n 30) j = -1)) nb)) ∧ ∀ r, ¬ rx_sc r → x.2 r = I r)
    (fun i s => s.1 = nI i ∧ rx_is np (s.2 90) (sp_all w n i) ∧ ∀ k, ¬ rx_sc k → s.2 k = I k) 30 ?_ ?_ 30 0 5000 (0, I1) (by omega) (by omega) ⟨rfl, ?_, c3⟩
  · obtain ⟨x, k1, k2, k3⟩ := key
    refine ⟨x.2, ?_, k3⟩
    unfold fX12_law
    rw [px_isIn, if_neg hb, px_bd, if_neg (by decide), c1, px_bd, k1, ← k2]
  · rintro i ⟨a3, I3⟩ hi ⟨e3, ew, eI⟩
    dsimp only at e3 ew eI ⊢
    subst e3
    have h9 := ho.2.2.2.1 i hi
    unfold fX12_law_18 fX12_law_49
    rw [if_neg (show ¬ (30 : Int32) ≤ nI i from nI_ge (a := i) (b := 30) hi (by decide)), show (13 : Int32) + nI i = nI (13 + i) by rw [show (13 : Int32) = nI 13 from rfl, px_add], px_gd (px_ix (by omega) (by decide)), px_gd (px_ix (by omega) (by decide)), px_gd (px_ix (by omega) (by decide)), nI_clamp (by omega), ew (13 + i) (by omega) (fun h => by omega), sp_all_at]
    by_cases e : w (13 + i) = 0
    · rw [e, if_pos (by decide)]
      refine ⟨_, rfl, (nI_succ i).symm, ?_, fun k hk => ?_⟩
      · rw [← sp_all_z0 e]
        exact rx_m ew
      · exact (ab_u_o (by unfold rx_sc at hk; omega)).trans (eI k hk)
    · rw [if_neg (show ¬ nI (w (13 + i)) ≤ (0 : Int32) from nI_ge (a := 0) (b := w (13 + i)) (by omega) (by omega))]
      refine ⟨_, rfl, (nI_succ i).symm, ?_, fun k hk => ?_⟩
      · rw [← sp_all_s (by omega)]
        exact rx_m ew
      · exact (ab_u_o (by unfold rx_sc at hk; omega)).trans (eI k hk)
  · rintro ⟨a3, I3⟩ ⟨e3, ew, eI⟩
    dsimp only at e3 ew eI ⊢
    subst e3
    obtain ⟨I4, d1, d2, d3, d4⟩ := px_mday (rx_Q_sc hQ eI) ew (sp_all_ok hn hQ.1 ho) false
    rw [show ((if false = true then 1 else 0) : Int32) = 0 from rfl] at d1
    have fr : ∀ k, ¬ rx_sc k → I4 k = I k := fun k hk => (d4 k hk).trans (eI k hk)
    unfold fX12_law_18 fX12_law_56
    rw [if_pos (by decide), d1, px_bd]
    dsimp only
    rw [px_silentOnes h2 (rx_Q_sc hQ fr).2.2.2.2.2.2.2.1 d3 (fun j _ => sp_who_or _ _ _ _ _ hQ.1), px_bd, px_members _ (sp_msk64 _ (by omega)), px_bd, (rx_Q_sc hQ fr).2.2.2.2.2.2.2.1]
    exact ⟨_, rfl, rfl, fr⟩
  · rw [show sp_all w n 0 = w from funext fun k => if_neg (by omega)]
    exact c2
theorem pr_law (hR : rx_R S I J P) (a1 : Int32) : lz_pr l G rx_R mX11_law 6 mX12_law 6 [.int a1] S I J P := by
  have hB := hR.1
  by_cases hb : a1 < 0 ∨ (20 : Int32) < a1
  · have hx : fX11_law a1 I P = some (-1, I) := by
      unfold fX11_law fX11_law_26
      rw [px_within, if_pos hb, px_bd, if_pos rfl]
    have hm : fX12_law a1 I = some (-1, I) := by
      unfold fX12_law
      rw [px_isIn, if_pos hb, px_bd, if_pos rfl]
    exact lz_q _ hR (fun Q hQ => mX11_law_ok hB hx hQ) (fun Q hQ => mX12_law_ok hB hm hQ) (fun _ _ => rfl)
  obtain ⟨n, hn, rfl⟩ := px_in (hi := 20) (by decide) hb
  obtain ⟨np, nb, fa, hrs, F, q, w, hQ⟩ := rx_R_Q hR
  obtain ⟨I1, c1, c2⟩ := px_allLose hQ hn
  obtain ⟨I2, d1, d2⟩ := px_mlaw (rx_Q_sc hQ c2) hn hb
  generalize nI nb - nI (rx_pop (sp_msk (fun j => decide (sp_rgr F hrs np false fa (sp_all w n 30) j = -1)) nb)) = v at c1 d1
  have hx : fX11_law (nI n) I P = some (v, I1) := by
    unfold fX11_law fX11_law_26
    rw [px_within, if_neg hb, px_bd, if_neg (by decide), hQ.2.2.2.2.2.2.2.2.2.2.2.2.2.1, px_bd, c1, px_bd]
  exact lz_q _ hR (fun Q hQ => mX11_law_ok hB hx hQ) (fun Q hQ => mX12_law_ok hB d1 hQ) (fun r hr => (d2 r hr).trans (c2 r hr))
end LAW2
