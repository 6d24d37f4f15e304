/-! ===== pairs: busiest, person ===== -/
/-- the first of the greatest above 0, and it -/
def sp_bz (c : Nat → Nat) : Nat → Int32 × Nat
  | 0 => (-1, 0)
  | n + 1 => if (sp_bz c n).2 < c n then (nI n, c n) else sp_bz c n
theorem sp_bz_le {c : Nat → Nat} {M : Nat} (h : ∀ n, c n ≤ M) : ∀ n, (sp_bz c n).2 ≤ M
  | 0 => Nat.zero_le _
  | n + 1 => by
    rw [sp_bz]
    split
    · exact h n
    · exact sp_bz_le h n
section PR8
variable {S : ab_S} {I : ab_I} {J : ab_J} {P : ab_P} {l : Launch} {G : ab_G}
theorem pr_busiest (hR : rx_R S I J P) : lz_pr l G rx_R mX11_busiest 7 mX12_busiest 7 [] S I J P := by
  have hB := hR.1
  obtain ⟨np, nb, fa, hrs, F, q, w, hQ⟩ := rx_R_Q hR
  obtain ⟨I1, c1, c2, c3, c4⟩ := px_passWithout hQ (s := 0) (by decide)
  have hQ1 := rx_Q_sc hQ c4
  obtain ⟨I2, d1, d2, d3, d4⟩ := px_dayWithout hQ1 (s := 0) (by decide)
  have hQ2 := rx_Q_sc hQ1 d4
  have h1 := hQ.1
  have h2 := hQ.2.1
  generalize hr : sp_rgr F hrs np false fa (sp_up w 12 (sp_wo (w 12) 0)) = r at c3 d3
  generalize hc : (fun p => rx_pop (sp_msk (fun j => decide (r j = nI p)) nb)) = cn
  have hci : ∀ p, rx_pop (sp_msk (fun j => decide (r j = nI p)) nb) = cn p := fun p => by rw [← hc]
  have hc6 : ∀ p, cn p ≤ 6 := fun p => by rw [← hci p]; exact rx_pop_le _
  have hz6 := sp_bz_le hc6
  have keyX := px_for (body := fun s : Int32 × Int32 × Int32 × ab_I => fX1_ringsMost_14 q s.1 s.2.1 s.2.2.1 s.2.2.2) (Out := fun x : Int32 × ab_I => x.1 = (sp_bz cn np).1 ∧ x.2 = I1) (fun i s => s.1 = (sp_bz cn i).1 ∧ s.2.1 = nI (sp_bz cn i).2 ∧ s.2.2.1 = nI i ∧ s.2.2.2 = I1) np ?_ ?_ np 0 5000 (-1, 0, 0, I1) (by omega) (by omega) ⟨rfl, rfl, rfl, rfl⟩
  · obtain ⟨x, k1, k2, k3⟩ := keyX
    have hx : fX11_busiest I P = some ((sp_bz cn np).1, I1) := by
      unfold fX11_busiest fX1_ringsMost
      rw [hQ.2.2.2.2.2.2.2.2.2.2.2.2.2.1, px_bd, show fX1_passWithout q 0 I = _ from c1, px_bd]
      dsimp only
      rw [k1, px_bd, ← k2, ← k3]
    have keyM := px_for (body := fun s : Int32 × Int32 × Int32 × ab_I => fX12_busiest_12 s.1 s.2.1 s.2.2.1 s.2.2.2) (Out := fun x : Int32 × ab_I => x.1 = (sp_bz cn np).1 ∧ x.2 = I2) (fun i s => s.1 = (sp_bz cn i).1 ∧ s.2.1 = nI (sp_bz cn i).2 ∧ s.2.2.1 = nI i ∧ s.2.2.2 = I2) np ?_ ?_ np 0 5000 (-1, 0, 0, I2) (by omega) (by omega) ⟨rfl, rfl, rfl, rfl⟩
    · obtain ⟨y, m1, m2, m3⟩ := keyM
      have hm : fX12_busiest I1 = some ((sp_bz cn np).1, I2) := by
        unfold fX12_busiest
        rw [show fX12_dayWithout 0 I1 = _ from d1, px_bd]
        dsimp only
        rw [m1, ← m2, ← m3]
      exact lz_q _ hR (fun Q hQ => mX11_busiest_ok hB hx hQ) (fun Q hQ => mX12_busiest_ok hB hm hQ) (fun r hr => (d4 r hr).trans (c4 r hr))
    · rintro i ⟨a1, a2, a3, I3⟩ hi ⟨e1, e2, e3, e4⟩
      dsimp only at e1 e2 e3 e4 ⊢
      subst e1 e2 e3 e4
      have hz := hz6 i
      have hci6 := hc6 i
      unfold fX12_busiest_12 fX12_busiest_46
      rw [hQ2.2.2.2.2.2.2.1, if_neg (nI_ge hi (by omega)), px_mrungBy h2 hQ2.2.2.2.2.2.2.2.1 d3, px_bd, px_members _ (sp_msk64 _ (by omega)), px_bd, hci i]
      by_cases e : (sp_bz cn i).2 < cn i
      · rw [if_pos (nI_lt e (by omega)), px_bd, px_members _ (sp_msk64 _ (by omega)), px_bd, hci i]
        refine ⟨_, rfl, ?_, ?_, (nI_succ i).symm, rfl⟩
        · show nI i = (sp_bz cn (i + 1)).1
          rw [sp_bz, if_pos e]
        · show nI (cn i) = nI (sp_bz cn (i + 1)).2
          rw [sp_bz, if_pos e]
      · rw [if_neg (nI_nlt (by omega) (by omega))]
        refine ⟨_, rfl, ?_, ?_, (nI_succ i).symm, rfl⟩
        · show (sp_bz cn i).1 = (sp_bz cn (i + 1)).1
          rw [sp_bz, if_neg e]
        · show nI (sp_bz cn i).2 = nI (sp_bz cn (i + 1)).2
          rw [sp_bz, if_neg e]
    · rintro ⟨a1, a2, a3, I3⟩ ⟨e1, e2, e3, e4⟩
      dsimp only at e1 e2 e3 e4 ⊢
      subst e1 e2 e3 e4
      unfold fX12_busiest_12 fX12_busiest_52
      rw [hQ2.2.2.2.2.2.2.1, if_pos (nI_le (Nat.le_refl _) (by omega))]
      exact ⟨_, rfl, rfl, rfl⟩
  · rintro i ⟨a1, a2, a3, I3⟩ hi ⟨e1, e2, e3, e4⟩
    dsimp only at e1 e2 e3 e4 ⊢
    subst e1 e2 e3 e4
    have hz := hz6 i
    have hci6 := hc6 i
    unfold fX1_ringsMost_14 fX1_ringsMost_52
    rw [hQ1.2.2.2.1, if_neg (nI_ge hi (by omega)), px_rungBy h2 hQ1.2.2.2.2.1 c3, px_bd, px_pop _ (sp_msk64 _ (by omega)), px_bd, hci i]
    by_cases e : (sp_bz cn i).2 < cn i
    · rw [if_neg (nI_ge e (by omega))]
      refine ⟨_, rfl, ?_, ?_, (nI_succ i).symm, rfl⟩
      · show nI i = (sp_bz cn (i + 1)).1
        rw [sp_bz, if_pos e]
      · show nI (cn i) = nI (sp_bz cn (i + 1)).2
        rw [sp_bz, if_pos e]
    · rw [if_pos (nI_le (by omega) (by omega))]
      refine ⟨_, rfl, ?_, ?_, (nI_succ i).symm, rfl⟩
      · show (sp_bz cn i).1 = (sp_bz cn (i + 1)).1
        rw [sp_bz, if_neg e]
      · show nI (sp_bz cn i).2 = nI (sp_bz cn (i + 1)).2
        rw [sp_bz, if_neg e]
  · rintro ⟨a1, a2, a3, I3⟩ ⟨e1, e2, e3, e4⟩
    dsimp only at e1 e2 e3 e4 ⊢
    subst e1 e2 e3 e4
    unfold fX1_ringsMost_14 fX1_ringsMost_58
    rw [hQ1.2.2.2.1, if_pos (nI_le (Nat.le_refl _) (by omega))]
    exact ⟨_, rfl, rfl, rfl⟩
theorem px_bit01 : ∀ h, h < 64 → ∀ p, p < 6 → ((nI h) >>> (nI p &&& 31)) &&& (1 : Int32) = if h.testBit p = true then 1 else 0 := by decide +kernel
theorem pr_person (hR : rx_R S I J P) (a1 a2 : Int32) : lz_pr l G rx_R mX11_person 7 mX12_person 6 [.int a1, .int a2] S I J P := by
  have hB := hR.1
  obtain ⟨np, nb, fa, hrs, F, q, w, hQ⟩ := rx_R_Q hR
  obtain ⟨h1, h2, h3, h4, h5, h6, h7, h8, h9, h10, h11, h12, h13, h14, h15, h16, h17, h18⟩ := id hQ
  by_cases ha : px_b a1 np
  · have hx : fX11_person a1 a2 I P = some (-1, I) := by
      unfold fX11_person
      rw [px_Person_b h4 ha, px_bd, if_pos rfl]
    have hm : fX12_person a1 a2 I = some (-1, I) := by
      unfold fX12_person
      rw [px_mPerson_b (by omega) h7 ha, px_bd, if_pos rfl]
    exact lz_q _ hR (fun Q hQ => mX11_person_ok hB hx hQ) (fun Q hQ => mX12_person_ok hB hm hQ) (fun _ _ => rfl)
  obtain ⟨p, hp, rfl⟩ := px_of ha (by omega)
  have hh := rx_ok_h h18 h1
  obtain ⟨I2, d1, d2, d3⟩ := px_mfill hQ
  have hQ2 := rx_Q_sc hQ d3
  by_cases e0 : a2 = 0
  · have hx : fX11_person (nI p) a2 I P = some (nI (w p), I) := by
      unfold fX11_person fX11_person_113
      rw [px_Person_n h4 ha, px_bd, if_neg (by decide), if_pos e0, h14, px_bd, px_gd (px_ix (by omega) (by decide)), nI_clamp (by omega), rx_has h16 h1 hp]
    have hm : fX12_person (nI p) a2 I = some (nI (w p), I2) := by
      unfold fX12_person
      rw [px_mPerson_n (by omega) h7 ha, px_bd, if_neg (by decide), d1, px_bd, if_pos e0, px_gd (px_ix (by omega) (by decide)), nI_clamp (by omega), d2 p (by omega) (fun _ => hp)]
    exact lz_q _ hR (fun Q hQ => mX11_person_ok hB hx hQ) (fun Q hQ => mX12_person_ok hB hm hQ) d3
  by_cases e1 : a2 = 1
  · have hx : fX11_person (nI p) a2 I P = some (nI (w (6 + p)), I) := by
      unfold fX11_person fX11_person_113
      rw [px_Person_n h4 ha, px_bd, if_neg (by decide), if_neg e0, if_pos e1, h14, px_bd, px_gd (px_ix (by omega) (by decide)), nI_clamp (by omega), rx_rang h16 (by omega)]
    have hm : fX12_person (nI p) a2 I = some (nI (w (6 + p)), I2) := by
      unfold fX12_person
      rw [px_mPerson_n (by omega) h7 ha, px_bd, if_neg (by decide), d1, px_bd, if_neg e0, if_pos e1, show (6 : Int32) + nI p = nI (6 + p) by rw [show (6 : Int32) = nI 6 from rfl, px_add], px_gd (px_ix (by omega) (by decide)), nI_clamp (by omega), d2 (6 + p) (by omega) (fun h => by omega)]
    exact lz_q _ hR (fun Q hQ => mX11_person_ok hB hx hQ) (fun Q hQ => mX12_person_ok hB hm hQ) d3
  by_cases e2 : a2 = 2
  · have hx : fX11_person (nI p) a2 I P = some (if (w 12).testBit p = true then 1 else 0, I) := by
      unfold fX11_person fX11_person_113
      rw [px_Person_n h4 ha, px_bd, if_neg (by decide), if_neg e0, if_neg e1, if_pos e2, h14, px_bd, rx_here h16, px_bit01 _ hh _ (by omega)]
    have hm : fX12_person (nI p) a2 I = some (if (w 12).testBit p = true then 1 else 0, I2) := by
      unfold fX12_person
      rw [px_mPerson_n (by omega) h7 ha, px_bd, if_neg (by decide), d1, px_bd, if_neg e0, if_neg e1, if_pos e2, px_mIsHere (d2 12 (by decide) (fun h => absurd h (by decide))) hh (by omega), px_bd]
      split
      · rw [px_truth1, px_bd]
      · rw [px_truth0, px_bd]
    exact lz_q _ hR (fun Q hQ => mX11_person_ok hB hx hQ) (fun Q hQ => mX12_person_ok hB hm hQ) d3
  by_cases e3 : a2 = 3
  · have hx : fX11_person (nI p) a2 I P = some (nI (sp_msk (fun b => decide (0 < w (13 + 5 * p + b))) nb), I) := by
      unfold fX11_person fX11_person_113
      rw [px_Person_n h4 ha, px_bd, if_neg (by decide), if_neg e0, if_neg e1, if_neg e2, if_pos e3, h14, px_bd, px_fears h16 (by omega) h18.2.2.2.1, px_bd, sp_fear_nb h18 (by omega) h2]
    have hm : fX12_person (nI p) a2 I = some (nI (sp_msk (fun b => decide (0 < w (13 + 5 * p + b))) nb), I2) := by
      unfold fX12_person
      rw [px_mPerson_n (by omega) h7 ha, px_bd, if_neg (by decide), d1, px_bd, if_neg e0, if_neg e1, if_neg e2, if_pos e3, px_losing h2 hQ2.2.2.2.2.2.2.2.1 d2 (by omega) h18.2.2.2.1, px_bd]
    exact lz_q _ hR (fun Q hQ => mX11_person_ok hB hx hQ) (fun Q hQ => mX12_person_ok hB hm hQ) d3
  by_cases e4 : a2 = 4
  · obtain ⟨I3, c1, c2, c3, c4⟩ := px_passWithout hQ (s := 0) (by decide)
    have hQ3 := rx_Q_sc hQ c4
    have hw0 : sp_up w 12 (sp_wo (w 12) 0) = w := by
      funext k
      unfold sp_up
      split
      · rename_i h
        subst h
        have : ∀ x, x < 64 → sp_wo x 0 = x := by decide +kernel
        exact this _ hh
      · rfl
    rw [hw0] at c1 c2 c3
    have hx : fX11_person (nI p) a2 I P = some (nI (sp_msk (fun j => decide (sp_rgr F hrs np false fa w j = nI p)) nb), I3) := by
      unfold fX11_person fX11_person_113 fX1_bellsNextDay
      rw [px_Person_n h4 ha, px_bd, if_neg (by decide), if_neg e0, if_neg e1, if_neg e2, if_neg e3, if_pos e4, h14, px_bd, show fX1_passWithout q 0 I = _ from c1, px_bd]
      dsimp only
      rw [px_rungBy h2 hQ3.2.2.2.2.1 c3, px_bd, px_bd]
    obtain ⟨I4, k1, k2, k3⟩ := px_mfill hQ3
    have hQ4 := rx_Q_sc hQ3 k3
    obtain ⟨I5, m1, m2, m3, m4⟩ := px_mday hQ4 k2 h18 false
    rw [show ((if false = true then 1 else 0) : Int32) = 0 from rfl] at m1
    have hQ5 := rx_Q_sc hQ4 m4
    have hm : fX12_person (nI p) a2 I3 = some (nI (sp_msk (fun j => decide (sp_rgr F hrs np false fa w j = nI p)) nb), I5) := by
      unfold fX12_person
      rw [px_mPerson_n (by omega) hQ3.2.2.2.2.2.2.1 ha, px_bd, if_neg (by decide), k1, px_bd, if_neg e0, if_neg e1, if_neg e2, if_neg e3, if_pos e4, m1, px_bd]
      dsimp only
      rw [px_mrungBy h2 hQ5.2.2.2.2.2.2.2.1 m3, px_bd]
    exact lz_q _ hR (fun Q hQ => mX11_person_ok hB hx hQ) (fun Q hQ => mX12_person_ok hB hm hQ) (fun r hr => (m4 r hr).trans ((k3 r hr).trans (c4 r hr)))
  have hx : fX11_person (nI p) a2 I P = some (-1, I) := by
    unfold fX11_person fX11_person_113
    rw [px_Person_n h4 ha, px_bd, if_neg (by decide), if_neg e0, if_neg e1, if_neg e2, if_neg e3, if_neg e4]
  have hm : fX12_person (nI p) a2 I = some (-1, I2) := by
    unfold fX12_person
    rw [px_mPerson_n (by omega) h7 ha, px_bd, if_neg (by decide), d1, px_bd, if_neg e0, if_neg e1, if_neg e2, if_neg e3, if_neg e4]
  exact lz_q _ hR (fun Q hQ => mX11_person_ok hB hx hQ) (fun Q hQ => mX12_person_ok hB hm hQ) d3
end PR8
