/-! ===== pairs: wish ===== -/
theorem rx_ok_l {np nb dm p b x : Nat} {w : Nat → Nat} (hn : np ≤ 6) (ho : rx_ok np nb dm w) (hp : p < 6) (hb : b < nb) (hnb : nb ≤ 5) (hx : x ≤ 20) : rx_ok np nb dm (sp_up w (13 + 5 * p + b) x) := by
  obtain ⟨o1, o2, o3, o4, o5, o6, o7⟩ := ho
  refine ⟨fun p' hp' => ?_, fun p' hp' => ?_, ?_, fun c hc => ?_, fun p' b' hp' hb' hb2 => ?_, ?_, ?_⟩
  · rw [sp_up_ne (by omega)]; exact o1 p' hp'
  · rw [sp_up_ne (by omega)]; exact o2 p' hp'
  · rw [sp_up_ne (by omega)]; exact o3
  · by_cases e : 13 + c = 13 + 5 * p + b
    · rw [e, sp_up_at]; exact hx
    · rw [sp_up_ne e]; exact o4 c hc
  · rw [sp_up_ne (by omega)]; exact o5 p' b' hp' hb' hb2
  · rw [sp_up_ne (by omega)]; exact o6
  · rw [sp_up_ne (by omega)]; exact o7
theorem px_isThere {I : ab_I} {h p : Nat} (hI : I 89 12 = nI h) (hh : h < 64) (hp : p < 6) : fX12_isThere (nI p) I = some (if h.testBit p = true then 1 else 0) := by
  unfold fX12_isThere fX12_isThere_20
  rw [show (12 : Int32).toNatClampNeg = 12 by decide, hI, px_gd (by decide)]
  by_cases hb : h.testBit p = true
  · rw [if_pos ((px_bit h hh p hp).mpr hb), if_pos hb, px_gd (Or.inr rfl)]
  · rw [if_neg (fun h2 => hb ((px_bit h hh p hp).mp h2)), if_neg hb, px_gd (Or.inl rfl)]
section PR9
variable {S : ab_S} {I : ab_I} {J : ab_J} {P : ab_P} {l : Launch} {G : ab_G}
theorem pr_wish (hR : rx_R S I J P) (a1 a2 : Int32) : lz_pr l G rx_R mX11_wish 6 mX12_wish 6 [.int a1, .int a2] S I J P := by
  have hB := hR.1
  obtain ⟨np, nb, fa, hrs, F, q, w, hQ⟩ := rx_R_Q hR
  obtain ⟨h1, h2, h3, h4, h5, h6, h7, h8, h9, h10, h11, h12, h13, h14, h15, h16, h17, h18⟩ := id hQ
  by_cases ha : px_b a1 np
  · have hx : fX11_wish a1 a2 I P = some (-1, I) := by
      unfold fX11_wish fX11_wish_23
      rw [px_Pair_b1 h4 ha, px_bd, if_pos rfl]
    have hm : fX12_wish a1 a2 I = some (-1, I) := by
      unfold fX12_wish fX12_wish_24
      rw [px_mPerson_b (by omega) h7 ha, px_bd, if_pos rfl]
    exact lz_q _ hR (fun Q hQ => mX11_wish_ok hB hx hQ) (fun Q hQ => mX12_wish_ok hB hm hQ) (fun _ _ => rfl)
  by_cases hb : px_b a2 nb
  · have hx : fX11_wish a1 a2 I P = some (-1, I) := by
      unfold fX11_wish fX11_wish_23
      rw [px_Pair_b2 h4 h5 ha hb, px_bd, if_pos rfl]
    have hm : fX12_wish a1 a2 I = some (-1, I) := by
      unfold fX12_wish fX12_wish_24
      rw [px_mPerson_n (by omega) h7 ha, px_bd, if_neg (by decide), px_mBell_b (by omega) h8 hb, px_bd, if_pos rfl]
    exact lz_q _ hR (fun Q hQ => mX11_wish_ok hB hx hQ) (fun Q hQ => mX12_wish_ok hB hm hQ) (fun _ _ => rfl)
  obtain ⟨p, hp, rfl⟩ := px_of ha (by omega)
  obtain ⟨b, hb2, rfl⟩ := px_of hb (by omega)
  have hh := rx_ok_h h18 h1
  by_cases hbit : ¬ (w 12).testBit p = true
  · have hx : fX11_wish (nI p) (nI b) I P = some (-1, I) := by
      unfold fX11_wish fX11_wish_23
      rw [px_Pair_n h4 h5 ha hb, px_bd, if_neg (by decide), h14, px_bd, px_isHere (rx_here h16) hh (by omega), if_neg hbit, px_bd, if_pos rfl]
    have hm : fX12_wish (nI p) (nI b) I = some (-1, I) := by
      unfold fX12_wish fX12_wish_24
      rw [px_mPerson_n (by omega) h7 ha, px_bd, if_neg (by decide), px_mBell_n (by omega) h8 hb, px_bd, if_neg (by decide), px_isThere (h17 12 (by decide) (fun h => absurd h (by decide))) hh (by omega), if_neg hbit, px_bd, if_pos rfl]
    exact lz_q _ hR (fun Q hQ => mX11_wish_ok hB hx hQ) (fun Q hQ => mX12_wish_ok hB hm hQ) (fun _ _ => rfl)
  replace hbit := Decidable.not_not.mp hbit
  generalize hg : (fun v => decide (sp_rgr F hrs np false fa (sp_up w (13 + 5 * p + b) v) b = nI p)) = g
  have hgi : ∀ v, g v = true ↔ sp_rgr F hrs np false fa (sp_up w (13 + 5 * p + b) v) b = nI p := fun v => by rw [← hg]; exact decide_eq_true_iff
  have keyX := px_forE (body := fun s : Int32 × ab_I => fX1_leastToRing_3 q (nI p) (nI b) s.1 s.2) (Out := fun r : Int32 × ab_I => r.1 = sp_find g 20 1 ∧ ∀ k, ¬ rx_sc k → r.2 k = I k)
    (fun i s => s.1 = nI (i + 1) ∧ sp_find g 20 1 = sp_find g (20 - i) (i + 1) ∧ ∀ k, ¬ rx_sc k → s.2 k = I k) 20 ?_ ?_ 20 0 5000 (1, I) (by omega) (by omega) ⟨rfl, rfl, fun _ _ => rfl⟩
  · obtain ⟨r, k1, k2, k3⟩ := keyX
    have hx : fX11_wish (nI p) (nI b) I P = some (sp_find g 20 1, r.2) := by
      unfold fX11_wish fX1_leastToRing
      rw [px_Pair_n h4 h5 ha hb, px_bd, if_neg (by decide), h14, px_bd, px_isHere (rx_here h16) hh (by omega), if_pos hbit, px_bd, if_neg (by decide), px_bd, k1, px_bd, ← k2]
    have hQ1 := rx_Q_sc hQ k3
    have keyM := px_forE (body := fun s : Int32 × ab_I => fX12_wish_28 (nI p) (nI b) s.1 s.2) (Out := fun r' : Int32 × ab_I => r'.1 = sp_find g 20 1 ∧ ∀ k, ¬ rx_sc k → r'.2 k = r.2 k)
      (fun i s => s.1 = nI (i + 1) ∧ sp_find g 20 1 = sp_find g (20 - i) (i + 1) ∧ ∀ k, ¬ rx_sc k → s.2 k = r.2 k) 20 ?_ ?_ 20 0 5000 (1, r.2) (by omega) (by omega) ⟨rfl, rfl, fun _ _ => rfl⟩
    · obtain ⟨r2, m1, m2, m3⟩ := keyM
      have hm : fX12_wish (nI p) (nI b) r.2 = some (sp_find g 20 1, r2.2) := by
        unfold fX12_wish
        rw [px_mPerson_n (by omega) hQ1.2.2.2.2.2.2.1 ha, px_bd, if_neg (by decide), px_mBell_n (by omega) hQ1.2.2.2.2.2.2.2.1 hb, px_bd, if_neg (by decide), px_isThere (hQ1.2.2.2.2.2.2.2.2.2.2.2.2.2.2.2.2.1 12 (by decide) (fun h => absurd h (by decide))) hh (by omega), if_pos hbit, px_bd, if_neg (by decide), m1, ← m2]
      exact lz_q _ hR (fun Q hQ => mX11_wish_ok hB hx hQ) (fun Q hQ => mX12_wish_ok hB hm hQ) (fun r' hr => (m3 r' hr).trans (k3 r' hr))
    · rintro i ⟨a4, I3⟩ hi ⟨e4, ef, eI⟩
      dsimp only at e4 ef eI ⊢
      subst e4
      obtain ⟨I4, n1, n2, n3⟩ := px_mfill (rx_Q_sc hQ1 eI)
      have hw2 := rx_m (r := 90) (k := 13 + 5 * p + b) (x := i + 1) n2
      have hQ4 : rx_Q (ab_u I4 90 (13 + 5 * p + b) (nI (i + 1))) P np nb fa hrs F q w := rx_Q_sc (rx_Q_sc hQ1 eI) (fun r hr => by rw [ab_u_o (by unfold rx_sc at hr; omega)]; exact n3 r hr)
      obtain ⟨I5, o1, o2, o3, o4⟩ := px_mday hQ4 hw2 (rx_ok_l h1 h18 (by omega) hb2 h2 (by omega)) false
      rw [show ((if false = true then 1 else 0) : Int32) = 0 from rfl] at o1
      have fr : ∀ k, ¬ rx_sc k → I5 k = r.2 k := fun k hk => by rw [o4 k hk, ab_u_o (by unfold rx_sc at hk; omega), n3 k hk]; exact eI k hk
      unfold fX12_wish_28 fX12_wish_68
      rw [if_neg (show ¬ (20 : Int32) < nI (i + 1) from nI_nlt (a := 20) (b := i + 1) (by omega) (by decide)), n1, px_bd, px_mcell, px_gd (px_ix (by omega) (by decide)), nI_clamp (by omega), o1, px_bd, px_gd (px_ix (by omega) (by decide)), nI_clamp (by omega)]
      dsimp only
      rw [show 20 - i = (19 - i) + 1 by omega] at ef
      by_cases e : I5 91 b = nI p
      · right
        rw [sp_find_y ((hgi (i + 1)).mpr ((o3 b hb2).symm.trans e))] at ef
        rw [if_pos e]
        exact ⟨_, rfl, ef.symm, fr⟩
      · left
        rw [sp_find_n (fun h => e ((o3 b hb2).trans ((hgi (i + 1)).mp h)))] at ef
        rw [if_neg e]
        exact ⟨_, rfl, (nI_succ (i + 1)).symm, by rw [ef, show 20 - (i + 1) = 19 - i by omega], fr⟩
    · rintro ⟨a4, I3⟩ ⟨e4, ef, eI⟩
      dsimp only at e4 ef eI ⊢
      subst e4
      refine ⟨(-1, I3), ?_, ef.symm, eI⟩
      unfold fX12_wish_28 fX12_wish_76
      rw [if_pos (show (20 : Int32) < nI (20 + 1) by decide)]
      rfl
  · rintro i ⟨a4, I3⟩ hi ⟨e4, ef, eI⟩
    dsimp only at e4 ef eI ⊢
    subst e4
    obtain ⟨I4, n1, n2, n3⟩ := px_trial (rx_Q_sc hQ eI) (qt := 26) (Or.inl rfl)
    have hw2 := rx_u3 (c := 5 * p + b) (x := i + 1) (by omega) n2
    rw [← Nat.add_assoc] at hw2
    have hQ4 : rx_Q (ab_u I4 (26 + 3) (5 * p + b) (nI (i + 1))) P np nb fa hrs F q w := rx_Q_sc (rx_Q_sc hQ eI) (fun r hr => by rw [ab_u_o (by unfold rx_sc at hr; omega)]; exact n3 r hr)
    obtain ⟨I5, o1, o2, o3, o4⟩ := px_day hQ4 (Or.inl rfl) hw2 (rx_ok_l h1 h18 (by omega) hb2 h2 (by omega)) false
    rw [show ((if false = true then 1 else 0) : Int32) = 0 from rfl] at o1
    have fr : ∀ k, ¬ rx_sc k → I5 k = I k := fun k hk => by rw [o4 k hk, ab_u_o (by unfold rx_sc at hk; omega), n3 k hk]; exact eI k hk
    unfold fX1_leastToRing_3 fX1_leastToRing_59
    rw [if_neg (show ¬ (20 : Int32) < nI (i + 1) from nI_nlt (a := 20) (b := i + 1) (by omega) (by decide)), n1, px_bd, px_cell, px_bd, px_gd (px_ix (by omega) (by decide)), nI_clamp (by omega), o1, px_bd, px_gd (px_ix (by omega) (by decide)), nI_clamp (by omega)]
    dsimp only
    rw [show 20 - i = (19 - i) + 1 by omega] at ef
    by_cases e : I5 24 b = nI p
    · right
      rw [sp_find_y ((hgi (i + 1)).mpr ((o3 b hb2).symm.trans e))] at ef
      rw [if_pos e]
      exact ⟨_, rfl, ef.symm, fr⟩
    · left
      rw [sp_find_n (fun h => e ((o3 b hb2).trans ((hgi (i + 1)).mp h)))] at ef
      rw [if_neg e]
      exact ⟨_, rfl, (nI_succ (i + 1)).symm, by rw [ef, show 20 - (i + 1) = 19 - i by omega], fr⟩
  · rintro ⟨a4, I3⟩ ⟨e4, ef, eI⟩
    dsimp only at e4 ef eI ⊢
    subst e4
    refine ⟨(-1, I3), ?_, ef.symm, eI⟩
    unfold fX1_leastToRing_3 fX1_leastToRing_68
    rw [if_pos (show (20 : Int32) < nI (20 + 1) by decide)]
    rfl
end PR9
