/-! ===== days ahead ===== -/
section AHD
variable {I : ab_I} {P : ab_P} {np nb fa q dm : Nat} {hrs : Nat → Int32} {F : Int32 → Int32 → Int32 → Int32 → Int32 → Int32 → Int32} {w w1 : Nat → Nat}
theorem px_day (hQ : rx_Q I P np nb fa hrs F q w) {qt : Nat} (hqt : qt = 26 ∨ qt = 35 ∨ qt = 42) (hw : rx_is np (rx_v I qt) w1) (ho : rx_ok np nb dm w1) (fo : Bool) : ∃ I', fX5_passDay qt (if fo = true then 1 else 0) I = some (nI (sp_dy F hrs np fo fa w1 nb).2, I') ∧ rx_is np (rx_v I' qt) (sp_day F hrs np fo fa w1 nb) ∧ (∀ j, j < nb → I' 24 j = sp_rgr F hrs np fo fa w1 j) ∧ ∀ r, ¬ rx_sc r → I' r = I r := by
  obtain ⟨h1, h2, h3, h4, h5, h6, h7, h8, h9, h10, h11, h12, h13, h14, h15, h16, h17, h18⟩ := hQ
  obtain ⟨I', e1, e2, e3, e4⟩ := px_passDay (q := qt) (by omega) h1 h2 h4 h5 h6 h3 h12 h10 hw ho fo
  exact ⟨I', e1, e2, e3, fun r hr => e4 r (by unfold rx_sc at hr; omega) (by unfold rx_sc at hr; omega) (by unfold rx_sc at hr; omega) (by unfold rx_sc at hr; omega)⟩
theorem px_mday (hQ : rx_Q I P np nb fa hrs F q w) (hw : rx_is np (I 90) w1) (ho : rx_ok np nb dm w1) (fo : Bool) : ∃ I', fX12_goDay (if fo = true then 1 else 0) I = some (nI (sp_dy F hrs np fo fa w1 nb).2, I') ∧ rx_is np (I' 90) (sp_day F hrs np fo fa w1 nb) ∧ (∀ j, j < nb → I' 91 j = sp_rgr F hrs np fo fa w1 j) ∧ ∀ r, ¬ rx_sc r → I' r = I r := by
  obtain ⟨h1, h2, h3, h4, h5, h6, h7, h8, h9, h10, h11, h12, h13, h14, h15, h16, h17, h18⟩ := hQ
  obtain ⟨I', e1, e2, e3, e4⟩ := px_goDay h1 h2 h7 h8 h9 h3 h13 h11 hw ho fo
  exact ⟨I', e1, e2, e3, fun r hr => e4 r (by unfold rx_sc at hr; omega) (by unfold rx_sc at hr; omega) (by unfold rx_sc at hr; omega) (by unfold rx_sc at hr; omega)⟩
/-- now's numbers come into a trial -/
theorem px_trial (hQ : rx_Q I P np nb fa hrs F q w) {qt : Nat} (hqt : qt = 26 ∨ qt = 35 ∨ qt = 42) : ∃ I', fX6_copyFrom qt q I = some I' ∧ rx_is np (rx_v I' qt) w ∧ ∀ r, ¬ rx_sc r → I' r = I r := by
  obtain ⟨h1, h2, h3, h4, h5, h6, h7, h8, h9, h10, h11, h12, h13, h14, h15, h16, h17, h18⟩ := hQ
  obtain ⟨I', e1, e2, e3⟩ := px_copy (I := I) (q0 := qt) (q1 := q) (by rcases h15 with rfl | ⟨i, rfl⟩ <;> omega)
  exact ⟨I', e1, fun k a b => by rw [e2 k a]; exact h16 k a b, fun r hr => e3 r (by unfold rx_sc at hr; omega)⟩
theorem px_mfill (hQ : rx_Q I P np nb fa hrs F q w) : ∃ I', fX12_fill I = some I' ∧ rx_is np (I' 90) w ∧ ∀ r, ¬ rx_sc r → I' r = I r := by
  obtain ⟨h1, h2, h3, h4, h5, h6, h7, h8, h9, h10, h11, h12, h13, h14, h15, h16, h17, h18⟩ := hQ
  obtain ⟨I', e1, e2, e3⟩ := px_fill (I := I)
  exact ⟨I', e1, fun k a b => by rw [e2 k a]; exact h17 k a b, fun r hr => e3 r (by unfold rx_sc at hr; omega)⟩
end AHD
/-- behind n days: the numbers, what is lost -/
def sp_go (F : Int32 → Int32 → Int32 → Int32 → Int32 → Int32 → Int32) (hrs : Nat → Int32) (np : Nat) (fo : Bool) (fa : Nat) (nb : Nat) (w : Nat → Nat) : Nat → (Nat → Nat) × Nat
  | 0 => (w, 0)
  | n + 1 => (sp_day F hrs np fo fa (sp_go F hrs np fo fa nb w n).1 nb, (sp_go F hrs np fo fa nb w n).2 + (sp_dy F hrs np fo fa (sp_go F hrs np fo fa nb w n).1 nb).2)
section GOS
variable {S : ab_S} {I : ab_I} {J : ab_J} {P : ab_P} {np nb fa q dm : Nat} {hrs : Nat → Int32} {F : Int32 → Int32 → Int32 → Int32 → Int32 → Int32 → Int32} {w : Nat → Nat} {fo : Bool} {l : Launch} {G : ab_G}
theorem sp_go_ok (hn : np ≤ 6) (hnb : nb ≤ 5) (ho : rx_ok np nb dm w) : ∀ n, rx_ok np nb (dm + n) (sp_go F hrs np fo fa nb w n).1
  | 0 => ho
  | n + 1 => sp_day_ok hn hnb (sp_go_ok hn hnb ho n)
theorem px_passDays (hQ : rx_Q I P np nb fa hrs F q w) {n : Nat} (hn60 : n ≤ 60) (fo : Bool) : ∃ I', fX1_passDays q (nI n) (if fo = true then 1 else 0) I = some (nI (sp_go F hrs np fo fa nb w n).2, I') ∧ rx_is np (rx_v I' 26) (sp_go F hrs np fo fa nb w n).1 ∧ (∀ m, n = m + 1 → ∀ j, j < nb → I' 24 j = sp_rgr F hrs np fo fa (sp_go F hrs np fo fa nb w m).1 j) ∧ ∀ r, ¬ rx_sc r → I' r = I r := by
  obtain ⟨I1, c1, c2, c3⟩ := px_trial hQ (qt := 26) (Or.inl rfl)
  have ho := hQ.2.2.2.2.2.2.2.2.2.2.2.2.2.2.2.2.2
  have key := px_for (body := fun s : Int32 × Int32 × ab_I => fX1_passDays_14 q (nI n) (if fo = true then 1 else 0) s.1 s.2.1 s.2.2) (Out := fun r : Int32 × ab_I => r.1 = nI (sp_go F hrs np fo fa nb w n).2 ∧ rx_is np (rx_v r.2 26) (sp_go F hrs np fo fa nb w n).1 ∧ (∀ m, n = m + 1 → ∀ j, j < nb → r.2 24 j = sp_rgr F hrs np fo fa (sp_go F hrs np fo fa nb w m).1 j) ∧ ∀ k, ¬ rx_sc k → r.2 k = I k)
    (fun i s => s.1 = nI (sp_go F hrs np fo fa nb w i).2 ∧ s.2.1 = nI i ∧ rx_is np (rx_v s.2.2 26) (sp_go F hrs np fo fa nb w i).1 ∧ (∀ m, i = m + 1 → ∀ j, j < nb → s.2.2 24 j = sp_rgr F hrs np fo fa (sp_go F hrs np fo fa nb w m).1 j) ∧ ∀ k, ¬ rx_sc k → s.2.2 k = I k) n ?_ ?_ n 0 5000 (0, 0, I1) (by omega) (by omega) ⟨rfl, rfl, c2, fun m hm => by omega, c3⟩
  · obtain ⟨r, h1, h2, h3, h4, h5⟩ := key
    refine ⟨r.2, ?_, h3, h4, h5⟩
    unfold fX1_passDays
    rw [c1, px_bd, h1, ← h2]
  · rintro i ⟨a3, a4, I2⟩ hi ⟨e3, e4, ew, er, eI⟩
    dsimp only at e3 e4 ew er eI ⊢
    subst e3 e4
    obtain ⟨I3, h1, h2, h3, h4⟩ := px_day (rx_Q_sc hQ eI) (Or.inl rfl) ew (sp_go_ok (F := F) (hrs := hrs) (fo := fo) (fa := fa) hQ.1 hQ.2.1 ho i) fo
    unfold fX1_passDays_14
    rw [if_neg (nI_ge hi (by omega)), h1, px_bd]
    refine ⟨_, rfl, ?_, (nI_succ i).symm, h2, fun m hm j hj => ?_, fun k hk => (h4 k hk).trans (eI k hk)⟩
    · show nI _ + nI _ = _
      rw [px_add]
      rfl
    · obtain rfl : m = i := by omega
      exact h3 j hj
  · rintro ⟨a3, a4, I2⟩ ⟨e3, e4, ew, er, eI⟩
    dsimp only at e3 e4 ew er eI ⊢
    subst e3 e4
    refine ⟨(nI (sp_go F hrs np fo fa nb w n).2, I2), ?_, rfl, ew, er, eI⟩
    unfold fX1_passDays_14 fX1_passDays_43
    rw [if_pos (nI_le (Nat.le_refl _) (by omega))]
    rfl
/-- the reference's days, whatever its loop does beside them -/
theorem px_mgo (hQ : rx_Q I P np nb fa hrs F q w) (fo : Bool) {i : Nat} {I2 : ab_I} (ew : rx_is np (I2 90) (sp_go F hrs np fo fa nb w i).1) (eI : ∀ k, ¬ rx_sc k → I2 k = I k) : ∃ I3, fX12_goDay (if fo = true then 1 else 0) I2 = some (nI (sp_dy F hrs np fo fa (sp_go F hrs np fo fa nb w i).1 nb).2, I3) ∧ rx_is np (I3 90) (sp_go F hrs np fo fa nb w (i + 1)).1 ∧ (∀ j, j < nb → I3 91 j = sp_rgr F hrs np fo fa (sp_go F hrs np fo fa nb w i).1 j) ∧ ∀ k, ¬ rx_sc k → I3 k = I k := by
  obtain ⟨I3, h1, h2, h3, h4⟩ := px_mday (rx_Q_sc hQ eI) ew (sp_go_ok (F := F) (hrs := hrs) (fo := fo) (fa := fa) hQ.1 hQ.2.1 hQ.2.2.2.2.2.2.2.2.2.2.2.2.2.2.2.2.2 i) fo
  exact ⟨I3, h1, h2, h3, fun k hk => (h4 k hk).trans (eI k hk)⟩
theorem px_w60 {a : Int32} (lo : Nat) (h : ¬ (a < nI lo ∨ (60 : Int32) < a)) (hl : lo ≤ 60) : ∃ n, lo ≤ n ∧ n ≤ 60 ∧ a = nI n := by
  have h1 : ¬ a < nI lo := fun x => h (Or.inl x)
  have h2 : ¬ (60 : Int32) < a := fun x => h (Or.inr x)
  obtain ⟨n, hn, rfl⟩ : ∃ n, n < 61 ∧ a = nI n := by
    refine px_of (fun hb => ?_) (by decide)
    rcases hb with hb | hb
    · exact h1 (Int32.lt_of_lt_of_le hb (nI_pos' (by omega)))
    · exact h2 (Int32.lt_of_lt_of_le (by decide : (60 : Int32) < nI 61) hb)
  refine ⟨n, ?_, by omega, rfl⟩
  by_cases hc : lo ≤ n
  · exact hc
  · exact absurd (nI_lt (a := n) (b := lo) (by omega) (by omega)) h1
theorem pr_cost (hR : rx_R S I J P) (a1 : Int32) : lz_pr l G rx_R mX11_cost 6 mX12_cost 6 [.int a1] S I J P := by
  have hB := hR.1
  by_cases hb : a1 < 0 ∨ (60 : Int32) < a1
  · have hx : fX11_cost a1 I P = some (-1, I) := by
      unfold fX11_cost fX11_cost_27
      rw [px_within, if_pos hb, px_bd, if_pos rfl]
    have hm : fX12_cost a1 I = some (-1, I) := by
      unfold fX12_cost
      rw [px_isIn, if_pos hb, px_bd, if_pos rfl]
    exact lz_q _ hR (fun Q hQ => mX11_cost_ok hB hx hQ) (fun Q hQ => mX12_cost_ok hB hm hQ) (fun _ _ => rfl)
  · obtain ⟨n, -, hn60, rfl⟩ := px_w60 0 hb (by decide)
    obtain ⟨np, nb, fa, hrs, F, q, w, hQ⟩ := rx_R_Q hR
    obtain ⟨I1, c1, c2, c3, c4⟩ := px_passDays hQ hn60 false
    have hx : fX11_cost (nI n) I P = some (nI (sp_go F hrs np false fa nb w n).2, I1) := by
      unfold fX11_cost fX11_cost_27
      rw [px_within, if_neg hb, px_bd, if_neg (by decide), hQ.2.2.2.2.2.2.2.2.2.2.2.2.2.1, px_bd]
      rw [show ((if false = true then 1 else 0) : Int32) = 0 from rfl] at c1
      rw [c1, px_bd]
    have hQ1 := rx_Q_sc hQ c4
    obtain ⟨I2, d1, d2, d3⟩ := px_mfill hQ1
    have key := px_for (body := fun s : Int32 × Int32 × ab_I => fX12_cost_20 (nI n) s.1 s.2.1 s.2.2) (Out := fun r : Int32 × ab_I => r.1 = nI (sp_go F hrs np false fa nb w n).2 ∧ ∀ k, ¬ rx_sc k → r.2 k = I1 k)
      (fun i s => s.1 = nI (sp_go F hrs np false fa nb w i).2 ∧ s.2.1 = nI i ∧ rx_is np (s.2.2 90) (sp_go F hrs np false fa nb w i).1 ∧ ∀ k, ¬ rx_sc k → s.2.2 k = I1 k) n ?_ ?_ n 0 5000 (0, 0, I2) (by omega) (by omega) ⟨rfl, rfl, d2, d3⟩
    · obtain ⟨r, k1, k2, k3⟩ := key
      have hm : fX12_cost (nI n) I1 = some (nI (sp_go F hrs np false fa nb w n).2, r.2) := by
        unfold fX12_cost
        rw [px_isIn, if_neg hb, px_bd, if_neg (by decide), d1, px_bd, k1, ← k2]
      exact lz_q _ hR (fun Q hQ => mX11_cost_ok hB hx hQ) (fun Q hQ => mX12_cost_ok hB hm hQ) (fun r' hr => (k3 r' hr).trans (c4 r' hr))
    · rintro i ⟨a3, a4, I3⟩ hi ⟨e3, e4, ew, eI⟩
      dsimp only at e3 e4 ew eI ⊢
      subst e3 e4
      obtain ⟨I4, h1, h2, h3, h4⟩ := px_mgo hQ1 false ew eI
      rw [show ((if false = true then 1 else 0) : Int32) = 0 from rfl] at h1
      unfold fX12_cost_20
      rw [if_neg (nI_ge hi (by omega)), h1, px_bd]
      refine ⟨_, rfl, ?_, (nI_succ i).symm, h2, h4⟩
      show nI _ + nI _ = _
      rw [px_add]
      rfl
    · rintro ⟨a3, a4, I3⟩ ⟨e3, e4, ew, eI⟩
      dsimp only at e3 e4 ew eI ⊢
      subst e3 e4
      refine ⟨(nI (sp_go F hrs np false fa nb w n).2, I3), ?_, rfl, eI⟩
      unfold fX12_cost_20 fX12_cost_39
      rw [if_pos (nI_le (Nat.le_refl _) (by omega))]
      rfl
end GOS
