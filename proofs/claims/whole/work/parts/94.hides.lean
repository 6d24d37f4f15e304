/-! ===== pair: hides ===== -/
section HID2
variable {S : ab_S} {J : ab_J} {l : Launch} {G : ab_G} {I : ab_I} {P : ab_P} {np nb fa q : Nat} {hrs : Nat → Int32} {F : Int32 → Int32 → Int32 → Int32 → Int32 → Int32 → Int32} {w : Nat → Nat}
def sp_rb (nb : Nat) (r : Nat → Int32) (p : Nat) : Nat := sp_msk (fun b => decide (r b = nI p)) nb
theorem sp_rb64 (r : Nat → Int32) (p : Nat) (hnb : nb ≤ 5) : sp_rb nb r p < 64 := sp_msk64 _ (by omega)
def sp_hd (nb : Nat) (r0 r1 : Nat → Int32) (j : Nat) : Bool := decide (¬ sp_wo (sp_rb nb r1 j) (sp_rb nb r0 j) = 0)
theorem px_hb40 (hQ : rx_Q I P np nb fa hrs F q w) {r0 : Nat → Int32} {p : Nat} (hp : p < 6) (h30 : ∀ j, j < np → I 30 j = nI (sp_rb nb r0 j)) :
    ∃ I', fX1_hiddenBehind_40 q (nI p) I = some (nI (sp_msk (sp_hd nb r0 (sp_rgr F hrs np false fa (sp_up w 12 (sp_wo (w 12) (2 ^ p))))) np), I') ∧ ∀ r, ¬ rx_sc r → I' r = I r := by
  obtain ⟨I1, c1, c2, c3, c4⟩ := px_passWithout hQ (s := 2 ^ p) (sp_pow64 p hp)
  have c5 := px_passWithout30 hQ (sp_pow64 p hp) c1
  have hQ1 := rx_Q_sc hQ c4
  have h1 := hQ.1
  have h2 := hQ.2.1
  generalize sp_rgr F hrs np false fa (sp_up w 12 (sp_wo (w 12) (2 ^ p))) = r1 at c3 ⊢
  have key := px_for (body := fun s : Int32 × Int32 × ab_I => fX1_hiddenBehind_54 q (nI p) s.1 s.2.1 s.2.2) (Out := fun x : Int32 × ab_I => x.1 = nI (sp_msk (sp_hd nb r0 r1) np) ∧ x.2 = I1) (fun i s => s.1 = nI (sp_msk (sp_hd nb r0 r1) i) ∧ s.2.1 = nI i ∧ s.2.2 = I1) np ?_ ?_ np 0 5000 (0, 0, I1) (by omega) (by omega) ⟨rfl, rfl, rfl⟩
  · obtain ⟨x, k1, k2, k3⟩ := key
    refine ⟨I1, ?_, c4⟩
    unfold fX1_hiddenBehind_40
    rw [px_one p hp, c1, px_bd]
    dsimp only
    rw [k1, ← k2, ← k3]
  · rintro i ⟨a3, a4, I3⟩ hi ⟨e3, e4, e5⟩
    dsimp only at e3 e4 e5 ⊢
    subst e3 e4 e5
    have b0 := sp_rb64 (nb := nb) r0 i h2
    have b1 := sp_rb64 (nb := nb) r1 i h2
    unfold fX1_hiddenBehind_54 fX1_hiddenBehind_95
    rw [hQ1.2.2.2.1, if_neg (nI_ge hi (by omega)), px_rungBy h2 hQ1.2.2.2.2.1 c3, px_bd, px_gd (px_ix (by omega) (by decide)), nI_clamp (by omega), c5, h30 i hi, show sp_msk (fun j => decide (r1 j = nI i)) nb = sp_rb nb r1 i from rfl, px_wo _ b1 _ b0]
    have b2 := sp_wo_le (sp_rb nb r1 i) (sp_rb nb r0 i)
    by_cases e : sp_wo (sp_rb nb r1 i) (sp_rb nb r0 i) = 0
    · rw [if_pos ((px_eq0 (by omega)).mpr e)]
      refine ⟨_, rfl, ?_, (nI_succ i).symm, rfl⟩
      show nI _ = nI (sp_msk _ (i + 1))
      rw [sp_msk, if_neg (show ¬ sp_hd nb r0 r1 i = true from fun h => absurd e (of_decide_eq_true (show decide (¬ sp_wo (sp_rb nb r1 i) (sp_rb nb r0 i) = 0) = true from h))), Nat.add_zero]
    · rw [if_neg (fun h => e ((px_eq0 (by omega)).mp h)), px_or1 i (by omega) _ (sp_msk_lt _ i)]
      refine ⟨_, rfl, ?_, (nI_succ i).symm, rfl⟩
      show nI _ = nI (sp_msk _ (i + 1))
      rw [sp_msk, if_pos (show sp_hd nb r0 r1 i = true from decide_eq_true e)]
  · rintro ⟨a3, a4, I3⟩ ⟨e3, e4, e5⟩
    dsimp only at e3 e4 e5 ⊢
    subst e3 e4 e5
    unfold fX1_hiddenBehind_54 fX1_hiddenBehind_101
    rw [hQ1.2.2.2.1, if_pos (nI_le (Nat.le_refl _) (by omega))]
    exact ⟨_, rfl, rfl, rfl⟩
theorem px_hiddenBehind (hQ : rx_Q I P np nb fa hrs F q w) {p : Nat} (hp : p < 6) :
    ∃ I', fX1_hiddenBehind q (nI p) I = some (nI (sp_msk (sp_hd nb (sp_rgr F hrs np false fa (sp_up w 12 (sp_wo (w 12) 0))) (sp_rgr F hrs np false fa (sp_up w 12 (sp_wo (w 12) (2 ^ p))))) np), I') ∧ ∀ r, ¬ rx_sc r → I' r = I r := by
  obtain ⟨I1, c1, c2, c3, c4⟩ := px_passWithout hQ (s := 0) (by decide)
  have h1 := hQ.1
  have h2 := hQ.2.1
  generalize sp_rgr F hrs np false fa (sp_up w 12 (sp_wo (w 12) 0)) = r0 at c3 ⊢
  have sc : ∀ I3 : ab_I, (∀ r, r ≠ 30 → I3 r = I1 r) → ∀ r, ¬ rx_sc r → I3 r = I r := fun I3 h r hr => (h r (by unfold rx_sc at hr; omega)).trans (c4 r hr)
  have key := px_for (body := fun s : Int32 × ab_I => fX1_hiddenBehind_9 q (nI p) s.1 s.2) (Out := fun x : Int32 × ab_I => x.1 = nI (sp_msk (sp_hd nb r0 (sp_rgr F hrs np false fa (sp_up w 12 (sp_wo (w 12) (2 ^ p))))) np) ∧ ∀ r, ¬ rx_sc r → x.2 r = I r) (fun i s => s.1 = nI i ∧ (∀ j, j < i → s.2 30 j = nI (sp_rb nb r0 j)) ∧ ∀ r, r ≠ 30 → s.2 r = I1 r) np ?_ ?_ np 0 5000 (0, I1) (by omega) (by omega) ⟨rfl, fun j hj => absurd hj (Nat.not_lt_zero j), fun _ _ => rfl⟩
  · obtain ⟨x, k1, k2, k3⟩ := key
    refine ⟨x.2, ?_, k3⟩
    unfold fX1_hiddenBehind
    rw [show fX1_passWithout q 0 I = _ from c1, px_bd]
    dsimp only
    rw [k1, ← k2]
  · rintro i ⟨a3, I3⟩ hi ⟨e3, e4, e5⟩
    dsimp only at e3 e4 e5 ⊢
    subst e3
    have hQ3 := rx_Q_sc hQ (sc I3 e5)
    unfold fX1_hiddenBehind_9
    rw [hQ3.2.2.2.1, if_neg (nI_ge hi (by omega)), px_rungBy (r := r0) h2 hQ3.2.2.2.2.1 (fun j hj => by rw [e5 24 (by decide)]; exact c3 j hj), px_bd, px_gd (px_ix (by omega) (by decide)), nI_clamp (by omega)]
    refine ⟨_, rfl, (nI_succ i).symm, fun j hj => ?_, fun r hr => ?_⟩
    · by_cases e : j = i
      · subst e
        show ab_u I3 30 j _ 30 j = _
        exact ab_u_at
      · exact (ab_u_ne e).trans (e4 j (by omega))
    · exact (congrFun rfl r).trans ((ab_u_o hr).trans (e5 r hr))
  · rintro ⟨a3, I3⟩ ⟨e3, e4, e5⟩
    dsimp only at e3 e4 e5 ⊢
    subst e3
    have hQ3 := rx_Q_sc hQ (sc I3 e5)
    obtain ⟨I4, d1, d2⟩ := px_hb40 hQ3 hp e4
    unfold fX1_hiddenBehind_9
    rw [hQ3.2.2.2.1, if_pos (nI_le (Nat.le_refl _) (by omega)), d1]
    exact ⟨_, rfl, rfl, fun r hr => (d2 r hr).trans (sc I3 e5 r hr)⟩
theorem px_mh51 (hQ : rx_Q I P np nb fa hrs F q w) {r0 : Nat → Int32} {p : Nat} (hp : p < 6) (h95 : ∀ j, j < np → I 95 j = nI (sp_rb nb r0 j)) :
    ∃ I', fX12_hides_51 (nI p) I = some (nI (sp_msk (sp_hd nb r0 (sp_rgr F hrs np false fa (sp_up w 12 (sp_wo (w 12) (2 ^ p))))) np), I') ∧ ∀ r, ¬ rx_sc r → I' r = I r := by
  obtain ⟨I1, c1, c2, c3, c4⟩ := px_dayWithout hQ (s := 2 ^ p) (sp_pow64 p hp)
  have c5 := px_dayWithout95 hQ (sp_pow64 p hp) c1
  have hQ1 := rx_Q_sc hQ c4
  have h1 := hQ.1
  have h2 := hQ.2.1
  have hh := rx_ok_h hQ.2.2.2.2.2.2.2.2.2.2.2.2.2.2.2.2.2 h1
  have hout := sp_rgr_out (F := F) (hrs := hrs) (fa := fa) (w := sp_up w 12 (sp_wo (w 12) (2 ^ p))) h1 hp (by rw [sp_up_at]; exact sp_wo_out _ hh p hp)
  generalize sp_rgr F hrs np false fa (sp_up w 12 (sp_wo (w 12) (2 ^ p))) = r1 at c3 hout ⊢
  have hz : sp_rb nb r1 p = 0 := by
    have := sp_msk_z (g := fun b => decide (r1 b = nI p)) (n := 0) nb (Nat.zero_le _) (fun j _ _ => decide_eq_false (hout j))
    exact this
  have hpz : sp_hd nb r0 r1 p = false := by
    unfold sp_hd
    rw [hz]
    exact decide_eq_false (fun h => h (Nat.le_zero.mp (sp_wo_le 0 _)))
  have key := px_for (body := fun s : Int32 × Int32 × ab_I => fX12_hides_63 (nI p) s.1 s.2.1 s.2.2) (Out := fun x : Int32 × ab_I => x.1 = nI (sp_msk (sp_hd nb r0 r1) np) ∧ x.2 = I1) (fun i s => s.1 = nI (sp_msk (sp_hd nb r0 r1) i) ∧ s.2.1 = nI i ∧ s.2.2 = I1) np ?_ ?_ np 0 5000 (0, 0, I1) (by omega) (by omega) ⟨rfl, rfl, rfl⟩
  · obtain ⟨x, k1, k2, k3⟩ := key
    refine ⟨I1, ?_, c4⟩
    unfold fX12_hides_51
    rw [px_one p hp, c1, px_bd]
    dsimp only
    rw [k1, ← k2, ← k3]
  · rintro i ⟨a3, a4, I3⟩ hi ⟨e3, e4, e5⟩
    dsimp only at e3 e4 e5 ⊢
    subst e3 e4 e5
    have b0 := sp_rb64 (nb := nb) r0 i h2
    have b1 := sp_rb64 (nb := nb) r1 i h2
    unfold fX12_hides_63 fX12_hides_98 fX12_hides_99
    rw [hQ1.2.2.2.2.2.2.1, if_neg (nI_ge hi (by omega)), px_truth0, px_truth1, px_bd, px_bd, px_or0 i (by omega) _ (sp_msk_lt _ i), px_or1 i (by omega) _ (sp_msk_lt _ i)]
    by_cases ep : i = p
    · subst ep
      rw [if_pos rfl]
      refine ⟨_, rfl, ?_, (nI_succ i).symm, rfl⟩
      show nI _ = nI (sp_msk _ (i + 1))
      rw [sp_msk, hpz, if_neg (by decide), Nat.add_zero]
    · rw [if_neg (fun h => ep (by
        have h3 : (nI i).toNatClampNeg = (nI p).toNatClampNeg := by rw [h]
        rw [nI_clamp (by omega), nI_clamp (by omega)] at h3
        exact h3)), px_mrungBy h2 hQ1.2.2.2.2.2.2.2.1 c3, px_bd, px_gd (px_ix (by omega) (by decide)), nI_clamp (by omega), c5, h95 i hi, show sp_msk (fun j => decide (r1 j = nI i)) nb = sp_rb nb r1 i from rfl, px_wo _ b1 _ b0]
      have b2 := sp_wo_le (sp_rb nb r1 i) (sp_rb nb r0 i)
      by_cases e : sp_wo (sp_rb nb r1 i) (sp_rb nb r0 i) = 0
      · rw [if_pos ((px_eq0 (by omega)).mpr e)]
        refine ⟨_, rfl, ?_, (nI_succ i).symm, rfl⟩
        show nI _ = nI (sp_msk _ (i + 1))
        rw [sp_msk, if_neg (show ¬ sp_hd nb r0 r1 i = true from fun h => absurd e (of_decide_eq_true (show decide (¬ sp_wo (sp_rb nb r1 i) (sp_rb nb r0 i) = 0) = true from h))), Nat.add_zero]
      · rw [if_neg (fun h => e ((px_eq0 (by omega)).mp h))]
        refine ⟨_, rfl, ?_, (nI_succ i).symm, rfl⟩
        show nI _ = nI (sp_msk _ (i + 1))
        rw [sp_msk, if_pos (show sp_hd nb r0 r1 i = true from decide_eq_true e)]
  · rintro ⟨a3, a4, I3⟩ ⟨e3, e4, e5⟩
    dsimp only at e3 e4 e5 ⊢
    subst e3 e4 e5
    unfold fX12_hides_63 fX12_hides_112
    rw [hQ1.2.2.2.2.2.2.1, if_pos (nI_le (Nat.le_refl _) (by omega))]
    exact ⟨_, rfl, rfl, rfl⟩
theorem px_mhides (hQ : rx_Q I P np nb fa hrs F q w) {p : Nat} (hp : p < np) (hbit : (w 12).testBit p = true) (ha : ¬ px_b (nI p) np) :
    ∃ I', fX12_hides (nI p) I = some (nI (sp_msk (sp_hd nb (sp_rgr F hrs np false fa (sp_up w 12 (sp_wo (w 12) 0))) (sp_rgr F hrs np false fa (sp_up w 12 (sp_wo (w 12) (2 ^ p))))) np), I') ∧ ∀ r, ¬ rx_sc r → I' r = I r := by
  obtain ⟨I1, c1, c2, c3, c4⟩ := px_dayWithout hQ (s := 0) (by decide)
  have h1 := hQ.1
  have h2 := hQ.2.1
  have h7 := hQ.2.2.2.2.2.2.1
  have h17 := hQ.2.2.2.2.2.2.2.2.2.2.2.2.2.2.2.2.1
  have hh := rx_ok_h hQ.2.2.2.2.2.2.2.2.2.2.2.2.2.2.2.2.2 h1
  generalize sp_rgr F hrs np false fa (sp_up w 12 (sp_wo (w 12) 0)) = r0 at c3 ⊢
  have sc : ∀ I3 : ab_I, (∀ r, r ≠ 95 → I3 r = I1 r) → ∀ r, ¬ rx_sc r → I3 r = I r := fun I3 h r hr => (h r (by unfold rx_sc at hr; omega)).trans (c4 r hr)
  have key := px_for (body := fun s : Int32 × ab_I => fX12_hides_26 (nI p) s.1 s.2) (Out := fun x : Int32 × ab_I => x.1 = nI (sp_msk (sp_hd nb r0 (sp_rgr F hrs np false fa (sp_up w 12 (sp_wo (w 12) (2 ^ p))))) np) ∧ ∀ r, ¬ rx_sc r → x.2 r = I r) (fun i s => s.1 = nI i ∧ (∀ j, j < i → s.2 95 j = nI (sp_rb nb r0 j)) ∧ ∀ r, r ≠ 95 → s.2 r = I1 r) np ?_ ?_ np 0 5000 (0, I1) (by omega) (by omega) ⟨rfl, fun j hj => absurd hj (Nat.not_lt_zero j), fun _ _ => rfl⟩
  · obtain ⟨x, k1, k2, k3⟩ := key
    refine ⟨x.2, ?_, k3⟩
    unfold fX12_hides
    rw [px_mPerson_n (by omega) h7 ha, px_bd, if_neg (by decide), px_isThere (h17 12 (by decide) (fun h => absurd h (by decide))) hh (by omega), if_pos hbit, px_bd, if_neg (by decide), show fX12_dayWithout 0 I = _ from c1, px_bd]
    dsimp only
    rw [k1, ← k2]
  · rintro i ⟨a3, I3⟩ hi ⟨e3, e4, e5⟩
    dsimp only at e3 e4 e5 ⊢
    subst e3
    have hQ3 := rx_Q_sc hQ (sc I3 e5)
    unfold fX12_hides_26
    rw [hQ3.2.2.2.2.2.2.1, if_neg (nI_ge hi (by omega)), px_mrungBy (r := r0) h2 hQ3.2.2.2.2.2.2.2.1 (fun j hj => by rw [e5 91 (by decide)]; exact c3 j hj), px_bd, px_gd (px_ix (by omega) (by decide)), nI_clamp (by omega)]
    refine ⟨_, rfl, (nI_succ i).symm, fun j hj => ?_, fun r hr => ?_⟩
    · by_cases e : j = i
      · subst e
        show ab_u I3 95 j _ 95 j = _
        exact ab_u_at
      · exact (ab_u_ne e).trans (e4 j (by omega))
    · exact (congrFun rfl r).trans ((ab_u_o hr).trans (e5 r hr))
  · rintro ⟨a3, I3⟩ ⟨e3, e4, e5⟩
    dsimp only at e3 e4 e5 ⊢
    subst e3
    have hQ3 := rx_Q_sc hQ (sc I3 e5)
    obtain ⟨I4, d1, d2⟩ := px_mh51 hQ3 (show p < 6 by omega) e4
    unfold fX12_hides_26
    rw [hQ3.2.2.2.2.2.2.1, if_pos (nI_le (Nat.le_refl _) (by omega)), d1]
    exact ⟨_, rfl, rfl, fun r hr => (d2 r hr).trans (sc I3 e5 r hr)⟩
theorem pr_hides (hR : rx_R S I J P) (a1 : Int32) : lz_pr l G rx_R mX11_hides 7 mX12_hides 7 [.int a1] S I J P := by
  have hB := hR.1
  obtain ⟨np, nb, fa, hrs, F, q, w, hQ⟩ := rx_R_Q hR
  obtain ⟨h1, h2, h3, h4, h5, h6, h7, h8, h9, h10, h11, h12, h13, h14, h15, h16, h17, h18⟩ := id hQ
  by_cases ha : px_b a1 np
  · have hx : fX11_hides a1 I P = some (-1, I) := by
      unfold fX11_hides fX11_hides_22
      rw [px_Person_b h4 ha, px_bd, if_pos rfl]
    have hm : fX12_hides a1 I = some (-1, I) := by
      unfold fX12_hides fX12_hides_16
      rw [px_mPerson_b (by omega) h7 ha, px_bd, if_pos rfl]
    exact lz_q _ hR (fun Q hQ => mX11_hides_ok hB hx hQ) (fun Q hQ => mX12_hides_ok hB hm hQ) (fun _ _ => rfl)
  obtain ⟨p, hp, rfl⟩ := px_of ha (by omega)
  have hh := rx_ok_h h18 h1
  by_cases hbit : (w 12).testBit p = true
  · obtain ⟨I1, c1, c2⟩ := px_hiddenBehind hQ (show p < 6 by omega)
    obtain ⟨I2, d1, d2⟩ := px_mhides (rx_Q_sc hQ c2) hp hbit ha
    generalize nI (sp_msk (sp_hd nb (sp_rgr F hrs np false fa (sp_up w 12 (sp_wo (w 12) 0))) (sp_rgr F hrs np false fa (sp_up w 12 (sp_wo (w 12) (2 ^ p))))) np) = v at c1 d1
    have hx : fX11_hides (nI p) I P = some (v, I1) := by
      unfold fX11_hides
      rw [px_Person_n h4 ha, px_bd, if_neg (by decide), h14, px_bd, px_isHere (rx_here h16) hh (by omega), if_pos hbit, px_bd, if_neg (by decide), px_bd, c1, px_bd]
    exact lz_q _ hR (fun Q hQ => mX11_hides_ok hB hx hQ) (fun Q hQ => mX12_hides_ok hB d1 hQ) (fun r hr => (d2 r hr).trans (c2 r hr))
  · have hx : fX11_hides (nI p) I P = some (-1, I) := by
      unfold fX11_hides fX11_hides_22
      rw [px_Person_n h4 ha, px_bd, if_neg (by decide), h14, px_bd, px_isHere (rx_here h16) hh (by omega), if_neg hbit, px_bd, if_pos rfl]
    have hm : fX12_hides (nI p) I = some (-1, I) := by
      unfold fX12_hides fX12_hides_16
      rw [px_mPerson_n (by omega) h7 ha, px_bd, if_neg (by decide), px_isThere (h17 12 (by decide) (fun h => absurd h (by decide))) hh (by omega), if_neg hbit, px_bd, if_pos rfl]
    exact lz_q _ hR (fun Q hQ => mX11_hides_ok hB hx hQ) (fun Q hQ => mX12_hides_ok hB hm hQ) (fun _ _ => rfl)
end HID2
