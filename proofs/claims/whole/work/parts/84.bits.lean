/-! ===== sets as bits; a day without some ===== -/
def sp_msk (g : Nat → Bool) : Nat → Nat
  | 0 => 0
  | n + 1 => sp_msk g n + (if g n = true then 2 ^ n else 0)
theorem sp_msk_lt (g : Nat → Bool) : ∀ n, sp_msk g n < 2 ^ n
  | 0 => Nat.zero_lt_one
  | n + 1 => by
    have := sp_msk_lt g n
    unfold sp_msk
    rw [Nat.pow_succ]
    split <;> omega
theorem sp_msk_z {g : Nat → Bool} {n : Nat} : ∀ m, n ≤ m → (∀ j, n ≤ j → j < m → g j = false) → sp_msk g m = sp_msk g n
  | 0, h, _ => by rw [show n = 0 by omega]
  | m + 1, h, hz => by
    by_cases e : n = m + 1
    · rw [e]
    · rw [sp_msk, hz m (by omega) (Nat.lt_succ_self m), if_neg (by decide), Nat.add_zero]
      exact sp_msk_z m (by omega) (fun j h1 h2 => hz j h1 (by omega))
theorem sp_msk_c {g g' : Nat → Bool} : ∀ n, (∀ j, j < n → g j = g' j) → sp_msk g n = sp_msk g' n
  | 0, _ => rfl
  | n + 1, h => by
    unfold sp_msk
    rw [h n (Nat.lt_succ_self n), sp_msk_c n (fun j hj => h j (by omega))]
theorem px_or1 : ∀ n, n < 6 → ∀ m, m < 2 ^ n → nI m ||| ((1 : Int32) <<< (nI n &&& 31)) = nI (m + 2 ^ n) := by decide +kernel
theorem px_or0 : ∀ n, n < 6 → ∀ m, m < 2 ^ n → nI m ||| ((0 : Int32) <<< (nI n &&& 31)) = nI m := by decide +kernel
theorem px_truth0 : fX12_truth 0 = some 0 := rfl
theorem px_truth1 : fX12_truth 1 = some 1 := rfl
section BITS
variable {I : ab_I} {nb : Nat}
theorem px_rungBy {r : Nat → Int32} {a : Int32} (hnb : nb ≤ 5) (h35 : I 3 5 = nI nb) (hr : ∀ j, j < nb → I 24 j = r j) : fX5_rungBy a I = some (nI (sp_msk (fun j => decide (r j = a)) nb)) := by
  have key := px_for (body := fun s : Int32 × Int32 => fX5_rungBy_4 a I s.1 s.2) (Out := fun x : Int32 => x = nI (sp_msk (fun j => decide (r j = a)) nb)) (fun i s => s.1 = nI (sp_msk (fun j => decide (r j = a)) i) ∧ s.2 = nI i) nb ?_ ?_ nb 0 5000 (0, 0) (by omega) (by omega) ⟨rfl, rfl⟩
  · obtain ⟨x, k1, k2⟩ := key
    unfold fX5_rungBy
    rw [k1, k2]
  · rintro i ⟨a2, a3⟩ hi ⟨e2, e3⟩
    dsimp only at e2 e3 ⊢
    subst e2 e3
    unfold fX5_rungBy_4 fX5_rungBy_31
    rw [h35, if_neg (nI_ge hi (by omega)), px_gd (px_ix (by omega) (by decide)), nI_clamp (by omega), hr i hi]
    by_cases e : r i = a
    · rw [if_pos e, px_or1 i (by omega) _ (sp_msk_lt _ i)]
      refine ⟨_, rfl, ?_, (nI_succ i).symm⟩
      show nI _ = nI (sp_msk _ (i + 1))
      rw [sp_msk, if_pos (decide_eq_true e)]
    · rw [if_neg e]
      refine ⟨_, rfl, ?_, (nI_succ i).symm⟩
      show nI _ = nI (sp_msk _ (i + 1))
      rw [sp_msk, if_neg (fun h => e (of_decide_eq_true h)), Nat.add_zero]
  · rintro ⟨a2, a3⟩ ⟨e2, e3⟩
    dsimp only at e2 e3 ⊢
    subst e2 e3
    unfold fX5_rungBy_4 fX5_rungBy_37
    rw [h35, if_pos (nI_le (Nat.le_refl _) (by omega))]
    exact ⟨_, rfl, rfl⟩
theorem px_mrungBy {r : Nat → Int32} {a : Int32} (hnb : nb ≤ 5) (h40 : I 73 40 = nI nb) (hr : ∀ j, j < nb → I 91 j = r j) : fX12_rungBy a I = some (nI (sp_msk (fun j => decide (r j = a)) nb)) := by
  have key := px_for (body := fun s : Int32 × Int32 => fX12_rungBy_4 a I s.1 s.2) (Out := fun x : Int32 => x = nI (sp_msk (fun j => decide (r j = a)) nb)) (fun i s => s.1 = nI (sp_msk (fun j => decide (r j = a)) i) ∧ s.2 = nI i) nb ?_ ?_ nb 0 5000 (0, 0) (by omega) (by omega) ⟨rfl, rfl⟩
  · obtain ⟨x, k1, k2⟩ := key
    unfold fX12_rungBy
    rw [k1, k2]
  · rintro i ⟨a2, a3⟩ hi ⟨e2, e3⟩
    dsimp only at e2 e3 ⊢
    subst e2 e3
    unfold fX12_rungBy_4 fX12_rungBy_28
    rw [h40, if_neg (nI_ge hi (by omega)), px_gd (px_ix (by omega) (by decide)), nI_clamp (by omega), hr i hi, px_truth0, px_truth1, px_bd, px_bd]
    by_cases e : r i = a
    · rw [if_pos e, px_or1 i (by omega) _ (sp_msk_lt _ i)]
      refine ⟨_, rfl, ?_, (nI_succ i).symm⟩
      show nI _ = nI (sp_msk _ (i + 1))
      rw [sp_msk, if_pos (decide_eq_true e)]
    · rw [if_neg e, px_or0 i (by omega) _ (sp_msk_lt _ i)]
      refine ⟨_, rfl, ?_, (nI_succ i).symm⟩
      show nI _ = nI (sp_msk _ (i + 1))
      rw [sp_msk, if_neg (fun h => e (of_decide_eq_true h)), Nat.add_zero]
  · rintro ⟨a2, a3⟩ ⟨e2, e3⟩
    dsimp only at e2 e3 ⊢
    subst e2 e3
    unfold fX12_rungBy_4 fX12_rungBy_41
    rw [h40, if_pos (nI_le (Nat.le_refl _) (by omega))]
    exact ⟨_, rfl, rfl⟩
theorem px_silentOnes {r : Nat → Int32} (hnb : nb ≤ 5) (h40 : I 73 40 = nI nb) (hr : ∀ j, j < nb → I 91 j = r j) (ho : ∀ j, j < nb → (r j = -1 ∧ ¬ (0 : Int32) ≤ r j) ∨ (¬ r j = -1 ∧ (0 : Int32) ≤ r j)) : fX12_silentOnes I = some (nI (sp_msk (fun j => decide (r j = -1)) nb)) := by
  have key := px_for (body := fun s : Int32 × Int32 => fX12_silentOnes_4 I s.1 s.2) (Out := fun x : Int32 => x = nI (sp_msk (fun j => decide (r j = -1)) nb)) (fun i s => s.1 = nI (sp_msk (fun j => decide (r j = -1)) i) ∧ s.2 = nI i) nb ?_ ?_ nb 0 5000 (0, 0) (by omega) (by omega) ⟨rfl, rfl⟩
  · obtain ⟨x, k1, k2⟩ := key
    unfold fX12_silentOnes
    rw [k1, k2]
  · rintro i ⟨a2, a3⟩ hi ⟨e2, e3⟩
    dsimp only at e2 e3 ⊢
    subst e2 e3
    unfold fX12_silentOnes_4 fX12_silentOnes_27
    rw [h40, if_neg (nI_ge hi (by omega)), px_gd (px_ix (by omega) (by decide)), nI_clamp (by omega), hr i hi, px_truth0, px_truth1, px_bd, px_bd]
    rcases ho i hi with ⟨o1, o2⟩ | ⟨o1, o2⟩
    · rw [if_neg o2, px_or1 i (by omega) _ (sp_msk_lt _ i)]
      refine ⟨_, rfl, ?_, (nI_succ i).symm⟩
      show nI _ = nI (sp_msk _ (i + 1))
      rw [sp_msk, if_pos (decide_eq_true o1)]
    · rw [if_pos o2, px_or0 i (by omega) _ (sp_msk_lt _ i)]
      refine ⟨_, rfl, ?_, (nI_succ i).symm⟩
      show nI _ = nI (sp_msk _ (i + 1))
      rw [sp_msk, if_neg (fun h => o1 (of_decide_eq_true h)), Nat.add_zero]
  · rintro ⟨a2, a3⟩ ⟨e2, e3⟩
    dsimp only at e2 e3 ⊢
    subst e2 e3
    unfold fX12_silentOnes_4 fX12_silentOnes_40
    rw [h40, if_pos (nI_le (Nat.le_refl _) (by omega))]
    exact ⟨_, rfl, rfl⟩
/-- bells by which p has a loss -/
theorem px_fears {np q p : Nat} {w : Nat → Nat} (hw : rx_is np (rx_v I q) w) (hp : p < 6) (h20 : ∀ c, c < 30 → w (13 + c) ≤ 20) : fX6_fears q (nI p) I = some (nI (sp_msk (fun b => decide (0 < w (13 + 5 * p + b))) 5)) := by
  have key := px_for (body := fun s : Int32 × Int32 => fX6_fears_4 q (nI p) I s.1 s.2) (Out := fun x : Int32 => x = nI (sp_msk (fun b => decide (0 < w (13 + 5 * p + b))) 5)) (fun i s => s.1 = nI (sp_msk (fun b => decide (0 < w (13 + 5 * p + b))) i) ∧ s.2 = nI i) 5 ?_ ?_ 5 0 5000 (0, 0) (by omega) (by omega) ⟨rfl, rfl⟩
  · obtain ⟨x, k1, k2⟩ := key
    unfold fX6_fears
    rw [k1, k2]
  · rintro i ⟨a2, a3⟩ hi ⟨e2, e3⟩
    dsimp only at e2 e3 ⊢
    subst e2 e3
    have h9 := h20 (5 * p + i) (by omega)
    rw [← Nat.add_assoc] at h9
    unfold fX6_fears_4 fX6_fears_28
    rw [if_neg (show ¬ (5 : Int32) ≤ nI i from nI_ge (b := 5) hi (by decide)), px_cell, px_bd, px_gd (px_ix (by omega) (by decide)), nI_clamp (by omega), rx_loss hw (by omega), ← Nat.add_assoc]
    by_cases e : 0 < w (13 + 5 * p + i)
    · rw [if_neg (fun h => by rw [px_le0 (by omega)] at h; omega), px_or1 i (by omega) _ (sp_msk_lt _ i)]
      refine ⟨_, rfl, ?_, (nI_succ i).symm⟩
      show nI _ = nI (sp_msk _ (i + 1))
      rw [sp_msk, if_pos (decide_eq_true e)]
    · rw [if_pos ((px_le0 (by omega)).mpr (by omega))]
      refine ⟨_, rfl, ?_, (nI_succ i).symm⟩
      show nI _ = nI (sp_msk _ (i + 1))
      rw [sp_msk, if_neg (fun h => e (of_decide_eq_true h)), Nat.add_zero]
  · rintro ⟨a2, a3⟩ ⟨e2, e3⟩
    dsimp only at e2 e3 ⊢
    subst e2 e3
    unfold fX6_fears_4 fX6_fears_34
    rw [if_pos (show (5 : Int32) ≤ nI 5 by decide)]
    exact ⟨_, rfl, rfl⟩
theorem px_losing {np p : Nat} {w : Nat → Nat} (hnb : nb ≤ 5) (h40 : I 73 40 = nI nb) (hw : rx_is np (I 90) w) (hp : p < 6) (h20 : ∀ c, c < 30 → w (13 + c) ≤ 20) : fX12_losing (nI p) I = some (nI (sp_msk (fun b => decide (0 < w (13 + 5 * p + b))) nb)) := by
  have key := px_for (body := fun s : Int32 × Int32 => fX12_losing_4 (nI p) I s.1 s.2) (Out := fun x : Int32 => x = nI (sp_msk (fun b => decide (0 < w (13 + 5 * p + b))) nb)) (fun i s => s.1 = nI (sp_msk (fun b => decide (0 < w (13 + 5 * p + b))) i) ∧ s.2 = nI i) nb ?_ ?_ nb 0 5000 (0, 0) (by omega) (by omega) ⟨rfl, rfl⟩
  · obtain ⟨x, k1, k2⟩ := key
    unfold fX12_losing
    rw [k1, k2]
  · rintro i ⟨a2, a3⟩ hi ⟨e2, e3⟩
    dsimp only at e2 e3 ⊢
    subst e2 e3
    have h9 := h20 (5 * p + i) (by omega)
    rw [← Nat.add_assoc] at h9
    unfold fX12_losing_4
    rw [h40, if_neg (nI_ge hi (by omega)), px_mMayLose hp (by omega) (hw _ (by omega) (fun h => by omega)) (by omega), px_bd]
    by_cases e : 0 < w (13 + 5 * p + i)
    · rw [if_pos e, px_truth1, px_bd, px_or1 i (by omega) _ (sp_msk_lt _ i)]
      refine ⟨_, rfl, ?_, (nI_succ i).symm⟩
      show nI _ = nI (sp_msk _ (i + 1))
      rw [sp_msk, if_pos (decide_eq_true e)]
    · rw [if_neg e, px_truth0, px_bd, px_or0 i (by omega) _ (sp_msk_lt _ i)]
      refine ⟨_, rfl, ?_, (nI_succ i).symm⟩
      show nI _ = nI (sp_msk _ (i + 1))
      rw [sp_msk, if_neg (fun h => e (of_decide_eq_true h)), Nat.add_zero]
  · rintro ⟨a2, a3⟩ ⟨e2, e3⟩
    dsimp only at e2 e3 ⊢
    subst e2 e3
    unfold fX12_losing_4 fX12_losing_32
    rw [h40, if_pos (nI_le (Nat.le_refl _) (by omega))]
    exact ⟨_, rfl, rfl⟩
end BITS
/-- those of h who are not of s -/
def sp_wo (h s : Nat) : Nat := h &&& (63 ^^^ s)
theorem px_wo : ∀ h, h < 64 → ∀ s, s < 64 → nI h &&& (nI s ^^^ (-1 : Int32)) = nI (sp_wo h s) := by decide +kernel
theorem sp_wo_le (h s : Nat) : sp_wo h s ≤ h := Nat.and_le_left
section WO
variable {I : ab_I} {P : ab_P} {np nb fa q : Nat} {hrs : Nat → Int32} {F : Int32 → Int32 → Int32 → Int32 → Int32 → Int32 → Int32} {w : Nat → Nat}
theorem sp_wo_ok {dm s : Nat} (hn : np ≤ 6) (ho : rx_ok np nb dm w) : rx_ok np nb dm (sp_up w 12 (sp_wo (w 12) s)) := rx_ok_up hn ho (by omega) (by omega) (fun _ => Nat.lt_of_le_of_lt (sp_wo_le _ _) ho.2.2.1) (by omega) (by omega) (by omega)
theorem px_passWithout (hQ : rx_Q I P np nb fa hrs F q w) {s : Nat} (hs : s < 64) : ∃ I', fX1_passWithout q (nI s) I = some (nI (sp_dy F hrs np false fa (sp_up w 12 (sp_wo (w 12) s)) nb).2, I') ∧ rx_is np (rx_v I' 26) (sp_day F hrs np false fa (sp_up w 12 (sp_wo (w 12) s)) nb) ∧ (∀ j, j < nb → I' 24 j = sp_rgr F hrs np false fa (sp_up w 12 (sp_wo (w 12) s)) j) ∧ ∀ r, ¬ rx_sc r → I' r = I r := by
  obtain ⟨I1, c1, c2, c3⟩ := px_trial hQ (qt := 26) (Or.inl rfl)
  have ho := hQ.2.2.2.2.2.2.2.2.2.2.2.2.2.2.2.2.2
  have hw2 := rx_uq (x := sp_wo (w 12) s) (Or.inl ⟨rfl, rfl⟩) c2
  have hQ2 : rx_Q (ab_u I1 26 3 (nI (sp_wo (w 12) s))) P np nb fa hrs F q w := rx_Q_sc hQ (fun r hr => by rw [ab_u_o (by unfold rx_sc at hr; omega)]; exact c3 r hr)
  obtain ⟨I2, d1, d2, d3, d4⟩ := px_day hQ2 (Or.inl rfl) hw2 (sp_wo_ok hQ.1 ho) false
  rw [show ((if false = true then 1 else 0) : Int32) = 0 from rfl] at d1
  refine ⟨I2, ?_, d2, d3, fun r hr => ?_⟩
  · unfold fX1_passWithout
    rw [c1, px_bd, rx_here c2, px_wo _ (rx_ok_h ho hQ.1) _ hs, d1, px_bd]
  · rw [d4 r hr, ab_u_o (by unfold rx_sc at hr; omega)]
    exact c3 r hr
theorem px_dayWithout (hQ : rx_Q I P np nb fa hrs F q w) {s : Nat} (hs : s < 64) : ∃ I', fX12_dayWithout (nI s) I = some (nI (sp_dy F hrs np false fa (sp_up w 12 (sp_wo (w 12) s)) nb).2, I') ∧ rx_is np (I' 90) (sp_day F hrs np false fa (sp_up w 12 (sp_wo (w 12) s)) nb) ∧ (∀ j, j < nb → I' 91 j = sp_rgr F hrs np false fa (sp_up w 12 (sp_wo (w 12) s)) j) ∧ ∀ r, ¬ rx_sc r → I' r = I r := by
  obtain ⟨I1, c1, c2, c3⟩ := px_mfill hQ
  have ho := hQ.2.2.2.2.2.2.2.2.2.2.2.2.2.2.2.2.2
  have hw2 := rx_m (r := 90) (k := 12) (x := sp_wo (w 12) s) c2
  have hQ2 : rx_Q (ab_u I1 90 12 (nI (sp_wo (w 12) s))) P np nb fa hrs F q w := rx_Q_sc hQ (fun r hr => by rw [ab_u_o (by unfold rx_sc at hr; omega)]; exact c3 r hr)
  obtain ⟨I2, d1, d2, d3, d4⟩ := px_mday hQ2 hw2 (sp_wo_ok hQ.1 ho) false
  rw [show ((if false = true then 1 else 0) : Int32) = 0 from rfl] at d1
  refine ⟨I2, ?_, d2, d3, fun r hr => ?_⟩
  · unfold fX12_dayWithout
    rw [c1, px_bd, px_gd (by decide), px_gd (by decide), show (12 : Int32).toNatClampNeg = 12 by decide, c2 12 (by decide) (fun h => absurd h (by decide)), px_wo _ (rx_ok_h ho hQ.1) _ hs, d1, px_bd]
  · rw [d4 r hr, ab_u_o (by unfold rx_sc at hr; omega)]
    exact c3 r hr
end WO
section PR6
variable {S : ab_S} {I : ab_I} {J : ab_J} {P : ab_P} {l : Launch} {G : ab_G}
theorem pr_silent (hR : rx_R S I J P) : lz_pr l G rx_R mX11_silent 7 mX12_silent 7 [] S I J P := by
  have hB := hR.1
  obtain ⟨np, nb, fa, hrs, F, q, w, hQ⟩ := rx_R_Q hR
  obtain ⟨I1, c1, c2, c3, c4⟩ := px_passWithout hQ (s := 0) (by decide)
  have hQ1 := rx_Q_sc hQ c4
  obtain ⟨I2, d1, d2, d3, d4⟩ := px_dayWithout hQ1 (s := 0) (by decide)
  have hQ2 := rx_Q_sc hQ1 d4
  have hx : fX11_silent I P = some (nI (sp_msk (fun j => decide (sp_rgr F hrs np false fa (sp_up w 12 (sp_wo (w 12) 0)) j = -1)) nb), I1) := by
    unfold fX11_silent fX1_silentNextDay
    rw [hQ.2.2.2.2.2.2.2.2.2.2.2.2.2.1, px_bd, show (0 : Int32) = nI 0 from rfl, c1, px_bd]
    dsimp only
    rw [px_rungBy hQ1.2.1 hQ1.2.2.2.2.1 c3, px_bd, px_bd]
  have hm : fX12_silent I1 = some (nI (sp_msk (fun j => decide (sp_rgr F hrs np false fa (sp_up w 12 (sp_wo (w 12) 0)) j = -1)) nb), I2) := by
    unfold fX12_silent
    rw [show (0 : Int32) = nI 0 from rfl, d1, px_bd]
    dsimp only
    rw [px_silentOnes hQ2.2.1 hQ2.2.2.2.2.2.2.2.1 d3 (fun j _ => sp_who_or _ _ _ _ _ hQ.1), px_bd]
  exact lz_q _ hR (fun Q hQ => mX11_silent_ok hB hx hQ) (fun Q hQ => mX12_silent_ok hB hm hQ) (fun r hr => (d4 r hr).trans (c4 r hr))
end PR6
