/-! ===== pair: slight ===== -/
/-- those of h that ring none of the first n bells -/
def sp_id (h : Nat) (r : Nat → Int32) : Nat → Nat
  | 0 => h
  | n + 1 => if r n = -1 then sp_id h r n else sp_wo (sp_id h r n) (2 ^ (r n).toNatClampNeg)
theorem sp_id_le (h : Nat) (r : Nat → Int32) : ∀ n, sp_id h r n ≤ h
  | 0 => Nat.le_refl _
  | n + 1 => by
    rw [sp_id]
    split
    · exact sp_id_le h r n
    · exact Nat.le_trans (sp_wo_le _ _) (sp_id_le h r n)
/-- those here that ring nothing in n days -/
def sp_idl (F : Int32 → Int32 → Int32 → Int32 → Int32 → Int32 → Int32) (hrs : Nat → Int32) (np fa nb : Nat) (w : Nat → Nat) : Nat → Nat
  | 0 => w 12
  | n + 1 => sp_id (sp_idl F hrs np fa nb w n) (sp_rgr F hrs np false fa (sp_go F hrs np false fa nb w n).1) nb
section PR12
variable {S : ab_S} {I : ab_I} {J : ab_J} {P : ab_P} {l : Launch} {G : ab_G} {np nb fa q : Nat} {hrs : Nat → Int32} {F : Int32 → Int32 → Int32 → Int32 → Int32 → Int32 → Int32} {w : Nat → Nat}
theorem sp_idl_le : ∀ n, sp_idl F hrs np fa nb w n ≤ w 12
  | 0 => Nat.le_refl _
  | n + 1 => Nat.le_trans (sp_id_le _ _ _) (sp_idl_le n)
theorem sp_rgr_cases (hn : np ≤ 6) (fo : Bool) (b : Nat) : sp_rgr F hrs np fo fa w b = -1 ∨ ∃ p, p < 6 ∧ sp_rgr F hrs np fo fa w b = nI p := by
  rcases sp_rg_cases F (hrs b) (sp_dy F hrs np fo fa w b).1 b np with h | ⟨p, hp, h, _, _⟩
  · exact Or.inl h
  · exact Or.inr ⟨p, by omega, h⟩
theorem px_idleBells {h : Nat} {r : Nat → Int32} (hh : h < 64) (hnb : nb ≤ 5) (h5 : I 3 5 = nI nb) (hr : ∀ j, j < nb → I 24 j = r j) (hc : ∀ j, r j = -1 ∨ ∃ p, p < 6 ∧ r j = nI p) (a d : Int32) :
    ab_it (fun s : Int32 × Int32 × Int32 × ab_I => fX1_idleFor_38 q a s.1 s.2.1 s.2.2.1 s.2.2.2) 5000 (nI h, d, 0, I) = some (.inl (nI (sp_id h r nb), d + 1, I)) := by
  have key := px_for (body := fun s : Int32 × Int32 × Int32 × ab_I => fX1_idleFor_38 q a s.1 s.2.1 s.2.2.1 s.2.2.2) (Out := fun x : (Int32 × Int32 × ab_I) ⊕ (Int32 × ab_I) => x = .inl (nI (sp_id h r nb), d + 1, I))
    (fun i s => s.1 = nI (sp_id h r i) ∧ s.2.1 = d ∧ s.2.2.1 = nI i ∧ s.2.2.2 = I) nb ?_ ?_ nb 0 5000 (nI h, d, 0, I) (by omega) (by omega) ⟨rfl, rfl, rfl, rfl⟩
  · obtain ⟨x, k1, k2⟩ := key
    rw [k1, k2]
  · rintro i ⟨a3, a4, a5, I3⟩ hi ⟨e3, e4, e5, e6⟩
    dsimp only at e3 e4 e5 e6 ⊢
    subst e3 e4 e5 e6
    unfold fX1_idleFor_38 fX1_idleFor_81
    rw [h5, if_neg (nI_ge hi (by omega)), px_gd (px_ix (by omega) (by decide)), nI_clamp (by omega), hr i hi]
    rcases hc i with e | ⟨p, hp, e⟩
    · have hn : sp_id h r (i + 1) = sp_id h r i := by rw [sp_id, if_pos e]
      rw [if_pos e]
      refine ⟨_, rfl, ?_, rfl, (nI_succ i).symm, rfl⟩
      rw [hn]
    · have hl := sp_id_le h r i
      have hn : sp_id h r (i + 1) = sp_wo (sp_id h r i) (2 ^ p) := by rw [sp_id, e, if_neg (px_m1 (by omega)), nI_clamp (by omega)]
      rw [e, if_neg (px_m1 (by omega)), px_gd (px_ix (by omega) (by decide)), px_one p hp, px_wo _ (by omega) _ (sp_pow64 p hp)]
      refine ⟨_, rfl, ?_, rfl, (nI_succ i).symm, rfl⟩
      rw [hn]
  · rintro ⟨a3, a4, a5, I3⟩ ⟨e3, e4, e5, e6⟩
    dsimp only at e3 e4 e5 e6 ⊢
    subst e3 e4 e5 e6
    unfold fX1_idleFor_38 fX1_idleFor_87
    rw [h5, if_pos (nI_le (Nat.le_refl _) (by omega))]
    exact ⟨_, rfl, rfl⟩
theorem px_mslightBells {h : Nat} {r : Nat → Int32} (hh : h < 64) (hnb : nb ≤ 5) (h5 : I 73 40 = nI nb) (hr : ∀ j, j < nb → I 91 j = r j) (hc : ∀ j, r j = -1 ∨ ∃ p, p < 6 ∧ r j = nI p) (a d : Int32) :
    ab_it (fun s : Int32 × Int32 × Int32 × ab_I => fX12_slight_40 a s.1 s.2.1 s.2.2.1 s.2.2.2) 5000 (nI h, d, 0, I) = some (.inl (nI (sp_id h r nb), d + 1, I)) := by
  have key := px_for (body := fun s : Int32 × Int32 × Int32 × ab_I => fX12_slight_40 a s.1 s.2.1 s.2.2.1 s.2.2.2) (Out := fun x : (Int32 × Int32 × ab_I) ⊕ (Int32 × ab_I) => x = .inl (nI (sp_id h r nb), d + 1, I))
    (fun i s => s.1 = nI (sp_id h r i) ∧ s.2.1 = d ∧ s.2.2.1 = nI i ∧ s.2.2.2 = I) nb ?_ ?_ nb 0 5000 (nI h, d, 0, I) (by omega) (by omega) ⟨rfl, rfl, rfl, rfl⟩
  · obtain ⟨x, k1, k2⟩ := key
    rw [k1, k2]
  · rintro i ⟨a3, a4, a5, I3⟩ hi ⟨e3, e4, e5, e6⟩
    dsimp only at e3 e4 e5 e6 ⊢
    subst e3 e4 e5 e6
    unfold fX12_slight_40 fX12_slight_73
    rw [h5, if_neg (nI_ge hi (by omega)), px_gd (px_ix (by omega) (by decide)), nI_clamp (by omega), hr i hi]
    rcases hc i with e | ⟨p, hp, e⟩
    · have hn : sp_id h r (i + 1) = sp_id h r i := by rw [sp_id, if_pos e]
      rw [e, if_pos (by decide)]
      refine ⟨_, rfl, ?_, rfl, (nI_succ i).symm, rfl⟩
      rw [hn]
    · have hl := sp_id_le h r i
      have hn : sp_id h r (i + 1) = sp_wo (sp_id h r i) (2 ^ p) := by rw [sp_id, e, if_neg (px_m1 (by omega)), nI_clamp (by omega)]
      rw [e, if_neg (nI_pos (by omega)), px_gd (px_ix (by omega) (by decide)), px_one p hp, px_wo _ (by omega) _ (sp_pow64 p hp)]
      refine ⟨_, rfl, ?_, rfl, (nI_succ i).symm, rfl⟩
      rw [hn]
  · rintro ⟨a3, a4, a5, I3⟩ ⟨e3, e4, e5, e6⟩
    dsimp only at e3 e4 e5 e6 ⊢
    subst e3 e4 e5 e6
    unfold fX12_slight_40 fX12_slight_79
    rw [h5, if_pos (nI_le (Nat.le_refl _) (by omega))]
    exact ⟨_, rfl, rfl⟩
theorem px_idleFor (hQ : rx_Q I P np nb fa hrs F q w) {n : Nat} (hn60 : n ≤ 60) : ∃ I', fX1_idleFor q (nI n) I = some (nI (sp_idl F hrs np fa nb w n), I') ∧ ∀ r, ¬ rx_sc r → I' r = I r := by
  obtain ⟨I1, c1, c2, c3⟩ := px_trial hQ (qt := 26) (Or.inl rfl)
  have ho := hQ.2.2.2.2.2.2.2.2.2.2.2.2.2.2.2.2.2
  have hh := rx_ok_h ho hQ.1
  have hQ1 := rx_Q_sc hQ c3
  have key := px_for (body := fun s : Int32 × Int32 × ab_I => fX1_idleFor_16 q (nI n) s.1 s.2.1 s.2.2) (Out := fun r : Int32 × ab_I => r.1 = nI (sp_idl F hrs np fa nb w n) ∧ ∀ k, ¬ rx_sc k → r.2 k = I k)
    (fun i s => s.1 = nI (sp_idl F hrs np fa nb w i) ∧ s.2.1 = nI i ∧ rx_is np (rx_v s.2.2 26) (sp_go F hrs np false fa nb w i).1 ∧ ∀ k, ¬ rx_sc k → s.2.2 k = I k) n ?_ ?_ n 0 5000 (nI (w 12), 0, I1) (by omega) (by omega) ⟨rfl, rfl, c2, c3⟩
  · obtain ⟨r, h1, h2, h3⟩ := key
    refine ⟨r.2, ?_, h3⟩
    unfold fX1_idleFor
    rw [c1, px_bd, rx_here hQ1.2.2.2.2.2.2.2.2.2.2.2.2.2.2.2.1, h1, ← h2]
  · rintro i ⟨a3, a4, I2⟩ hi ⟨e3, e4, ew, eI⟩
    dsimp only at e3 e4 ew eI ⊢
    subst e3 e4
    obtain ⟨I3, h1, h2, h3, h4⟩ := px_day (rx_Q_sc hQ eI) (Or.inl rfl) ew (sp_go_ok (F := F) (hrs := hrs) (fo := false) (fa := fa) hQ.1 hQ.2.1 ho i) false
    rw [show ((if false = true then 1 else 0) : Int32) = 0 from rfl] at h1
    have fr : ∀ k, ¬ rx_sc k → I3 k = I k := fun k hk => (h4 k hk).trans (eI k hk)
    have hl := sp_idl_le (F := F) (hrs := hrs) (np := np) (fa := fa) (nb := nb) (w := w) i
    unfold fX1_idleFor_16
    rw [if_neg (nI_ge hi (by omega)), h1, px_bd]
    dsimp only
    rw [px_idleBells (by omega) hQ.2.1 (rx_Q_sc hQ fr).2.2.2.2.1 h3 (sp_rgr_cases hQ.1 false)]
    exact ⟨_, rfl, rfl, (nI_succ i).symm, h2, fr⟩
  · rintro ⟨a3, a4, I2⟩ ⟨e3, e4, ew, eI⟩
    dsimp only at e3 e4 ew eI ⊢
    subst e3 e4
    unfold fX1_idleFor_16 fX1_idleFor_93
    rw [if_pos (nI_le (Nat.le_refl _) (by omega))]
    exact ⟨_, rfl, rfl, eI⟩
theorem pr_slight (hR : rx_R S I J P) (a1 : Int32) : lz_pr l G rx_R mX11_slight 6 mX12_slight 6 [.int a1] S I J P := by
  have hB := hR.1
  by_cases hb : a1 < 0 ∨ (60 : Int32) < a1
  · have hx : fX11_slight a1 I P = some (-1, I) := by
      unfold fX11_slight fX11_slight_26
      rw [px_within, if_pos hb, px_bd, if_pos rfl]
    have hm : fX12_slight a1 I = some (-1, I) := by
      unfold fX12_slight
      rw [px_isIn, if_pos hb, px_bd, if_pos rfl]
    exact lz_q _ hR (fun Q hQ => mX11_slight_ok hB hx hQ) (fun Q hQ => mX12_slight_ok hB hm hQ) (fun _ _ => rfl)
  obtain ⟨n, -, hn60, rfl⟩ := px_w60 0 hb (by decide)
  obtain ⟨np, nb, fa, hrs, F, q, w, hQ⟩ := rx_R_Q hR
  have ho := hQ.2.2.2.2.2.2.2.2.2.2.2.2.2.2.2.2.2
  have hh := rx_ok_h ho hQ.1
  obtain ⟨I1, c1, c4⟩ := px_idleFor hQ hn60
  have hx : fX11_slight (nI n) I P = some (nI (sp_idl F hrs np fa nb w n), I1) := by
    unfold fX11_slight fX11_slight_26
    rw [px_within, if_neg hb, px_bd, if_neg (by decide), hQ.2.2.2.2.2.2.2.2.2.2.2.2.2.1, px_bd, c1, px_bd]
  have hQ1 := rx_Q_sc hQ c4
  obtain ⟨I2, d1, d2, d3⟩ := px_mfill hQ1
  have key := px_for (body := fun s : Int32 × Int32 × ab_I => fX12_slight_26 (nI n) s.1 s.2.1 s.2.2) (Out := fun r : Int32 × ab_I => r.1 = nI (sp_idl F hrs np fa nb w n) ∧ ∀ k, ¬ rx_sc k → r.2 k = I1 k)
    (fun i s => s.1 = nI (sp_idl F hrs np fa nb w i) ∧ s.2.1 = nI i ∧ rx_is np (s.2.2 90) (sp_go F hrs np false fa nb w i).1 ∧ ∀ k, ¬ rx_sc k → s.2.2 k = I1 k) n ?_ ?_ n 0 5000 (nI (w 12), 0, I2) (by omega) (by omega) ⟨rfl, rfl, d2, d3⟩
  · obtain ⟨r, k1, k2, k3⟩ := key
    have hm : fX12_slight (nI n) I1 = some (nI (sp_idl F hrs np fa nb w n), r.2) := by
      unfold fX12_slight
      rw [px_isIn, if_neg hb, px_bd, if_neg (by decide), d1, px_bd, px_gd (by decide), show (12 : Int32).toNatClampNeg = 12 from rfl, d2 12 (by decide) (fun h => absurd h (by decide)), k1, ← k2]
    exact lz_q _ hR (fun Q hQ => mX11_slight_ok hB hx hQ) (fun Q hQ => mX12_slight_ok hB hm hQ) (fun r' hr => (k3 r' hr).trans (c4 r' hr))
  · rintro i ⟨a3, a4, I3⟩ hi ⟨e3, e4, ew, eI⟩
    dsimp only at e3 e4 ew eI ⊢
    subst e3 e4
    obtain ⟨I4, h1, h2, h3, h4⟩ := px_mgo hQ1 false ew eI
    rw [show ((if false = true then 1 else 0) : Int32) = 0 from rfl] at h1
    have hl := sp_idl_le (F := F) (hrs := hrs) (np := np) (fa := fa) (nb := nb) (w := w) i
    unfold fX12_slight_26
    rw [if_neg (nI_ge hi (by omega)), h1, px_bd]
    dsimp only
    rw [px_mslightBells (by omega) hQ.2.1 (rx_Q_sc hQ1 h4).2.2.2.2.2.2.2.1 h3 (sp_rgr_cases hQ.1 false)]
    exact ⟨_, rfl, rfl, (nI_succ i).symm, h2, h4⟩
  · rintro ⟨a3, a4, I3⟩ ⟨e3, e4, ew, eI⟩
    dsimp only at e3 e4 ew eI ⊢
    subst e3 e4
    unfold fX12_slight_26 fX12_slight_85
    rw [if_pos (nI_le (Nat.le_refl _) (by omega))]
    exact ⟨_, rfl, rfl, eI⟩
end PR12
