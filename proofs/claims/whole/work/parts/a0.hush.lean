/-! ===== pairs: hush ===== -/
section PR15
variable {S : ab_S} {I : ab_I} {J : ab_J} {P : ab_P} {l : Launch} {G : ab_G} {np nb fa q : Nat} {hrs : Nat → Int32} {F : Int32 → Int32 → Int32 → Int32 → Int32 → Int32 → Int32} {w : Nat → Nat}
theorem px_sentToHush (hQ : rx_Q I P np nb fa hrs F q w) {g : Nat → Bool} (hg : ∀ s, g s = decide (nI (sp_msk (fun j => decide (sp_rgr F hrs np false fa (sp_up w 12 (sp_wo (w 12) s)) j = -1)) nb) = ((1 : Int32) <<< (nI nb &&& 31)) - 1)) :
    ∃ m I', fX1_sentToHush q I = some (nI m, I') ∧ sp_lm g (w 12) m (· < 2 ^ np) ∧ ∀ r, ¬ rx_sc r → I' r = I r := by
  obtain ⟨h1, h2, h3, h4, h5, h6, h7, h8, h9, h10, h11, h12, h13, h14, h15, h16, h17, h18⟩ := id hQ
  have hh := rx_ok_h h18 h1
  have h64 := sp_two64 h1
  have key := px_for (body := fun s : Int32 × Int32 × Int32 × ab_I => fX1_sentToHush_20 q s.1 s.2.1 s.2.2.1 s.2.2.2) (Out := fun x : Int32 × ab_I => ∃ m, x.1 = nI m ∧ sp_lm g (w 12) m (· < 2 ^ np) ∧ ∀ r, ¬ rx_sc r → x.2 r = I r)
    (fun i s => s.1 = ((1 : Int32) <<< (nI nb &&& 31)) - 1 ∧ (∃ m, s.2.1 = nI m ∧ sp_lm g (w 12) m (· < i) ∧ (m = w 12 ∨ m < i)) ∧ s.2.2.1 = nI i ∧ ∀ r, ¬ rx_sc r → s.2.2.2 r = I r) (2 ^ np) ?_ ?_ (2 ^ np) 0 5000 (((1 : Int32) <<< (nI nb &&& 31)) - 1, nI (w 12), 0, I) (by omega) (by omega) ⟨rfl, ⟨w 12, rfl, ⟨sp_sub_r _ hh, Nat.le_refl _, Or.inl rfl, fun s _ hs => absurd hs (Nat.not_lt_zero s)⟩, Or.inl rfl⟩, rfl, fun _ _ => rfl⟩
  · obtain ⟨⟨x, I2⟩, k1, m, k2, k3, k4⟩ := key
    dsimp only at k2 k3 k4
    refine ⟨m, I2, ?_, k3, k4⟩
    unfold fX1_sentToHush
    rw [rx_here h16, h5, k1, k2]
  · rintro i ⟨a1, a2, a3, I3⟩ hi ⟨e1, ⟨m, e2, e3, e4⟩, e5, e6⟩
    dsimp only at e1 e2 e3 e4 e5 e6 ⊢
    subst e1 e2 e5
    have hQ3 := rx_Q_sc hQ e6
    have hm : m < 64 := Nat.lt_of_le_of_lt e3.2.1 hh
    have hst := sp_lm_up hh (by omega) e3 e4
    unfold fX1_sentToHush_20 fX1_sentToHush_51 fX1_sentToHush_93
    rw [hQ3.2.2.2.1, px_two np (by omega), if_neg (nI_ge hi (by omega)), px_pop i (by omega), px_bd, px_pop m hm, px_bd]
    by_cases c1 : rx_pop i < rx_pop m
    · rw [if_neg (nI_ge c1 (by have := rx_pop_le m; omega)), if_neg (by decide), rx_here hQ3.2.2.2.2.2.2.2.2.2.2.2.2.2.2.2.1, px_wo i (by omega) _ hh]
      by_cases c2 : sp_wo i (w 12) = 0
      · obtain ⟨I4, d1, d2, d3, d4⟩ := px_passWithout hQ3 (s := i) (by omega)
        have hQ4 := rx_Q_sc hQ3 d4
        have fr : ∀ r, ¬ rx_sc r → I4 r = I r := fun r hr => (d4 r hr).trans (e6 r hr)
        rw [if_pos (by rw [c2]; rfl), d1, px_bd, px_rungBy h2 hQ4.2.2.2.2.1 d3, px_bd]
        by_cases c3 : nI (sp_msk (fun j => decide (sp_rgr F hrs np false fa (sp_up w 12 (sp_wo (w 12) i)) j = -1)) nb) = ((1 : Int32) <<< (nI nb &&& 31)) - 1
        · rw [if_pos c3]
          exact ⟨_, rfl, rfl, ⟨i, rfl, hst.1 ⟨c1, c2, by rw [hg]; exact decide_eq_true c3⟩⟩, (nI_succ i).symm, fr⟩
        · rw [if_neg c3]
          exact ⟨_, rfl, rfl, ⟨m, rfl, hst.2 (fun h => c3 (of_decide_eq_true ((hg i).symm.trans h.2.2)))⟩, (nI_succ i).symm, fr⟩
      · have : sp_wo i (w 12) < 2 ^ 31 := Nat.lt_of_le_of_lt (sp_wo_le _ _) (by omega)
        rw [if_neg (fun h => c2 ((px_eq0 this).mp h))]
        exact ⟨_, rfl, rfl, ⟨m, rfl, hst.2 (fun h => c2 h.2.1)⟩, (nI_succ i).symm, e6⟩
    · rw [if_pos (nI_le (by omega) (by have := rx_pop_le i; omega)), if_pos rfl]
      exact ⟨_, rfl, rfl, ⟨m, rfl, hst.2 (fun h => c1 h.1)⟩, (nI_succ i).symm, e6⟩
  · rintro ⟨a1, a2, a3, I3⟩ ⟨e1, ⟨m, e2, e3, e4⟩, e5, e6⟩
    dsimp only at e1 e2 e3 e4 e5 e6 ⊢
    subst e1 e2 e5
    have hQ3 := rx_Q_sc hQ e6
    unfold fX1_sentToHush_20 fX1_sentToHush_99
    rw [hQ3.2.2.2.1, px_two np (by omega), if_pos (nI_le (Nat.le_refl _) (by omega))]
    exact ⟨_, rfl, m, rfl, e3, e6⟩
theorem px_mhush (a : Int32) (hQ : rx_Q I P np nb fa hrs F q w) {g : Nat → Bool} (hg : ∀ s, g s = decide (nI (sp_msk (fun j => decide (sp_rgr F hrs np false fa (sp_up w 12 (sp_wo (w 12) s)) j = -1)) nb) = ((1 : Int32) <<< (nI nb &&& 31)) - 1)) :
    ∃ m I', ab_it (fun s : Int32 × Int32 × Int32 × ab_I => fX12_hush_24 a s.1 s.2.1 s.2.2.1 s.2.2.2) 5000 (nI (w 12), nI (w 12), nI (w 12), I) = some (if a = 0 then nI (rx_pop m) else nI m, I') ∧ sp_lm g (w 12) m (fun _ => True) ∧ ∀ r, ¬ rx_sc r → I' r = I r := by
  obtain ⟨h1, h2, h3, h4, h5, h6, h7, h8, h9, h10, h11, h12, h13, h14, h15, h16, h17, h18⟩ := id hQ
  have hh := rx_ok_h h18 h1
  have key := px_for (body := fun s : Int32 × Int32 × Int32 × ab_I => fX12_hush_24 a s.1 s.2.1 s.2.2.1 s.2.2.2) (Out := fun x : Int32 × ab_I => ∃ m, x.1 = (if a = 0 then nI (rx_pop m) else nI m) ∧ sp_lm g (w 12) m (fun _ => True) ∧ ∀ r, ¬ rx_sc r → x.2 r = I r)
    (fun i s => s.1 = nI (w 12) ∧ (∃ m, s.2.1 = nI m ∧ sp_lm g (w 12) m (fun s => w 12 < s + i)) ∧ s.2.2.1 = px_dn (w 12) i ∧ ∀ r, ¬ rx_sc r → s.2.2.2 r = I r) (w 12 + 1) ?_ ?_ (w 12 + 1) 0 5000 (nI (w 12), nI (w 12), nI (w 12), I) (by omega) (by omega) ⟨rfl, ⟨w 12, rfl, sp_sub_r _ hh, Nat.le_refl _, Or.inl rfl, fun s h1 h2 => by omega⟩, rfl, fun _ _ => rfl⟩
  · obtain ⟨⟨x, I2⟩, k1, m, k2, k3, k4⟩ := key
    dsimp only at k2 k3 k4
    exact ⟨m, I2, by rw [k1, k2], k3, k4⟩
  · rintro i ⟨a1, a3, a4, I3⟩ hi ⟨e1, ⟨m, e3, e4⟩, e5, e6⟩
    dsimp only at e1 e3 e4 e5 e6 ⊢
    subst e1 e3 e5
    have hQ3 := rx_Q_sc hQ e6
    have hm : m < 64 := Nat.lt_of_le_of_lt e4.2.1 hh
    have hst := sp_lm_dn (s0 := w 12 - i) hh (by omega) (by
      obtain ⟨x1, x2, x3, x4⟩ := e4
      exact ⟨x1, x2, x3, fun s hs hc => x4 s hs (by omega)⟩)
    have hst1 : ∀ m, sp_lm g (w 12) m (w 12 - i ≤ ·) → sp_lm g (w 12) m (fun s => w 12 < s + (i + 1)) := fun m ⟨x1, x2, x3, x4⟩ => ⟨x1, x2, x3, fun s hs hc => x4 s hs (by omega)⟩
    unfold fX12_hush_24 fX12_hush_74
    rw [px_dn_n (by omega), px_dn_s (by omega), if_neg (nI_pos (by omega)), px_wo _ (by omega) _ hh]
    by_cases c2 : sp_wo (w 12 - i) (w 12) = 0
    · rw [if_pos (by rw [c2]; rfl), px_members _ (by omega), px_bd, px_members m hm, px_bd]
      by_cases c1 : rx_pop (w 12 - i) ≤ rx_pop m
      · obtain ⟨I4, d1, d2, d3, d4⟩ := px_dayWithout hQ3 (s := w 12 - i) (by omega)
        have hQ4 := rx_Q_sc hQ3 d4
        have fr : ∀ r, ¬ rx_sc r → I4 r = I r := fun r hr => (d4 r hr).trans (e6 r hr)
        rw [if_pos (nI_le c1 (by have := rx_pop_le m; omega)), d1, px_bd, px_silentOnes h2 hQ4.2.2.2.2.2.2.2.1 d3 (fun j _ => sp_who_or _ _ _ _ _ h1), px_bd]
        have hab : fX12_allBells I4 = some (((1 : Int32) <<< (nI nb &&& 31)) - 1) := by
          unfold fX12_allBells
          rw [hQ4.2.2.2.2.2.2.2.1]
        rw [hab, px_bd]
        by_cases c3 : nI (sp_msk (fun j => decide (sp_rgr F hrs np false fa (sp_up w 12 (sp_wo (w 12) (w 12 - i))) j = -1)) nb) = ((1 : Int32) <<< (nI nb &&& 31)) - 1
        · rw [if_pos c3]
          exact ⟨_, rfl, rfl, ⟨w 12 - i, rfl, hst1 _ (hst.1 ⟨c2, c1, by rw [hg]; exact decide_eq_true c3⟩)⟩, rfl, fr⟩
        · rw [if_neg c3]
          exact ⟨_, rfl, rfl, ⟨m, rfl, hst1 _ (hst.2 (fun h => c3 (of_decide_eq_true ((hg _).symm.trans h.2.2))))⟩, rfl, fr⟩
      · rw [if_neg (nI_ge (by omega) (by have := rx_pop_le (w 12 - i); omega))]
        exact ⟨_, rfl, rfl, ⟨m, rfl, hst1 _ (hst.2 (fun h => c1 h.2.1))⟩, rfl, e6⟩
    · have : sp_wo (w 12 - i) (w 12) < 2 ^ 31 := Nat.lt_of_le_of_lt (sp_wo_le _ _) (by omega)
      rw [if_neg (fun h => c2 ((px_eq0 this).mp h))]
      exact ⟨_, rfl, rfl, ⟨m, rfl, hst1 _ (hst.2 (fun h => c2 h.1))⟩, rfl, e6⟩
  · rintro ⟨a1, a3, a4, I3⟩ ⟨e1, ⟨m, e3, e4⟩, e5, e6⟩
    dsimp only at e1 e3 e4 e5 e6 ⊢
    subst e1 e3 e5
    have hm : m < 64 := Nat.lt_of_le_of_lt e4.2.1 hh
    have hlm : sp_lm g (w 12) m (fun _ => True) := ⟨e4.1, e4.2.1, e4.2.2.1, fun s hs _ => e4.2.2.2 s hs (by omega)⟩
    unfold fX12_hush_24 fX12_hush_80 fX12_hush_92
    rw [px_dn_e, if_pos (by decide)]
    by_cases ea : a = 0
    · rw [if_pos ea, px_members m hm, px_bd]
      exact ⟨_, rfl, m, by rw [if_pos ea], hlm, e6⟩
    · rw [if_neg ea]
      exact ⟨_, rfl, m, by rw [if_neg ea], hlm, e6⟩
theorem pr_hush (hR : rx_R S I J P) (a1 : Int32) : lz_pr l G rx_R mX11_hush 7 mX12_hush 7 [.int a1] S I J P := by
  have hB := hR.1
  obtain ⟨np, nb, fa, hrs, F, q, w, hQ⟩ := rx_R_Q hR
  obtain ⟨h1, h2, h3, h4, h5, h6, h7, h8, h9, h10, h11, h12, h13, h14, h15, h16, h17, h18⟩ := id hQ
  by_cases ha : a1 < 0 ∨ (1 : Int32) < a1
  · have hx : fX11_hush a1 I P = some (-1, I) := by
      unfold fX11_hush
      rw [px_within, if_pos ha, px_bd, if_pos rfl]
    have hm : fX12_hush a1 I = some (-1, I) := by
      unfold fX12_hush
      rw [px_isIn, if_pos ha, px_bd, if_pos rfl]
    exact lz_q _ hR (fun Q hQ => mX11_hush_ok hB hx hQ) (fun Q hQ => mX12_hush_ok hB hm hQ) (fun _ _ => rfl)
  have hh := rx_ok_h h18 h1
  obtain ⟨g, hg⟩ : ∃ g : Nat → Bool, ∀ s, g s = decide (nI (sp_msk (fun j => decide (sp_rgr F hrs np false fa (sp_up w 12 (sp_wo (w 12) s)) j = -1)) nb) = ((1 : Int32) <<< (nI nb &&& 31)) - 1) := ⟨_, fun _ => rfl⟩
  obtain ⟨m, I1, x1, x2, x3⟩ := px_sentToHush hQ hg
  have hQ1 := rx_Q_sc hQ x3
  obtain ⟨m', I2, y1, y2, y3⟩ := px_mhush a1 hQ1 hg
  have em : m = m' := sp_lm_u x2 y2 (fun s hs => Nat.lt_of_le_of_lt hs h18.2.2.1) (fun _ _ => trivial)
  subst em
  have hm64 : m < 64 := Nat.lt_of_le_of_lt x2.2.1 hh
  have hx : fX11_hush a1 I P = some (if a1 = 0 then nI (rx_pop m) else nI m, I1) := by
    unfold fX11_hush fX11_hush_35
    rw [px_within, if_neg ha, px_bd, if_neg (by decide), h14, px_bd, x1, px_bd]
    by_cases ea : a1 = 0
    · rw [if_pos ea, if_pos ea, px_pop m hm64, px_bd]
    · rw [if_neg ea, if_neg ea]
  have hm : fX12_hush a1 I1 = some (if a1 = 0 then nI (rx_pop m) else nI m, I2) := by
    unfold fX12_hush
    rw [px_isIn, if_neg ha, px_bd, if_neg (by decide), px_gd (by decide), show ((12 : Int32).toNatClampNeg) = 12 from rfl, hQ1.2.2.2.2.2.2.2.2.2.2.2.2.2.2.2.2.1 12 (by decide) (fun h => absurd h (by decide))]
    exact y1
  exact lz_q _ hR (fun Q hQ => mX11_hush_ok hB hx hQ) (fun Q hQ => mX12_hush_ok hB hm hQ) (fun r hr => (y3 r hr).trans (x3 r hr))
end PR15
