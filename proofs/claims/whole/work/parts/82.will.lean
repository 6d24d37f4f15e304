/-! ===== pairs: will ===== -/
section PR4
variable {S : ab_S} {I : ab_I} {J : ab_J} {P : ab_P} {l : Launch} {G : ab_G}
theorem pr_will (hR : rx_R S I J P) (a1 a2 a3 : Int32) : lz_pr l G rx_R mX11_will 6 mX12_will 6 [.int a1, .int a2, .int a3] S I J P := by
  have hB := hR.1
  obtain ⟨np, nb, fa, hrs, F, q, w, hQ⟩ := rx_R_Q hR
  obtain ⟨h1, h2, h3, h4, h5, h6, h7, h8, h9, h10, h11, h12, h13, h14, h15, h16, h17, h18⟩ := id hQ
  by_cases ha : px_b a1 nb
  · have hx : fX11_will a1 a2 a3 I P = some (-2, I) := by
      unfold fX11_will fX11_will_30
      rw [px_Bell_b h5 ha, px_bd, if_pos rfl]
    have hm : fX12_will a1 a2 a3 I = some (-2, I) := by
      unfold fX12_will fX12_will_27
      rw [px_mBell_b (by omega) h8 ha, px_bd, if_pos rfl]
    exact lz_q _ hR (fun Q hQ => mX11_will_ok hB hx hQ) (fun Q hQ => mX12_will_ok hB hm hQ) (fun _ _ => rfl)
  by_cases hb : a2 < 1 ∨ (60 : Int32) < a2
  · have hx : fX11_will a1 a2 a3 I P = some (-2, I) := by
      unfold fX11_will fX11_will_30
      rw [px_Bell_n h5 ha, px_bd, if_neg (by decide), px_within, if_pos hb, px_bd, if_pos rfl]
    have hm : fX12_will a1 a2 a3 I = some (-2, I) := by
      unfold fX12_will fX12_will_27
      rw [px_mBell_n (by omega) h8 ha, px_bd, if_neg (by decide), px_isIn, if_pos hb, px_bd, if_pos rfl]
    exact lz_q _ hR (fun Q hQ => mX11_will_ok hB hx hQ) (fun Q hQ => mX12_will_ok hB hm hQ) (fun _ _ => rfl)
  by_cases hc : a3 < 0 ∨ (1 : Int32) < a3
  · have hx : fX11_will a1 a2 a3 I P = some (-2, I) := by
      unfold fX11_will fX11_will_30
      rw [px_Bell_n h5 ha, px_bd, if_neg (by decide), px_within, if_neg hb, px_bd, if_neg (by decide), px_within, if_pos hc, px_bd, if_pos rfl]
    have hm : fX12_will a1 a2 a3 I = some (-2, I) := by
      unfold fX12_will fX12_will_27
      rw [px_mBell_n (by omega) h8 ha, px_bd, if_neg (by decide), px_isIn, if_neg hb, px_bd, if_neg (by decide), px_isIn, if_pos hc, px_bd, if_pos rfl]
    exact lz_q _ hR (fun Q hQ => mX11_will_ok hB hx hQ) (fun Q hQ => mX12_will_ok hB hm hQ) (fun _ _ => rfl)
  obtain ⟨b, hb2, rfl⟩ := px_of ha (by omega)
  obtain ⟨n, hn1, hn60, rfl⟩ := px_w60 1 hb (by decide)
  obtain ⟨m, rfl⟩ : ∃ m, n = m + 1 := ⟨n - 1, by omega⟩
  obtain ⟨fo, hfo⟩ : ∃ fo : Bool, ∀ x y : Option (Int32 × ab_I), (if a3 = (1 : Int32) then x else y) = (if fo = true then x else y) := by
    by_cases h : a3 = 1
    · exact ⟨true, fun x y => by rw [if_pos h, if_pos rfl]⟩
    · exact ⟨false, fun x y => by rw [if_neg h, if_neg (by decide)]⟩
  have hfo2 : ∀ x y : Option ((Int32 × ab_I) ⊕ (Int32 × ab_I)), (if a3 = (1 : Int32) then x else y) = (if fo = true then x else y) := by
    intro x y
    by_cases h : a3 = 1
    · have := hfo (some (1, I)) none
      rw [if_pos h] at this
      rw [if_pos h]
      cases fo with
      | true => rfl
      | false => exact absurd this (by simp)
    · have := hfo (some (1, I)) none
      rw [if_neg h] at this
      rw [if_neg h]
      cases fo with
      | true => exact absurd this (by simp)
      | false => rfl
  obtain ⟨I1, c1, c2, c3, c4⟩ := px_passDays hQ hn60 fo
  have hx : fX11_will (nI b) (nI (m + 1)) a3 I P = some (sp_rgr F hrs np fo fa (sp_go F hrs np fo fa nb w m).1 b, I1) := by
    unfold fX11_will
    rw [px_Bell_n h5 ha, px_bd, if_neg (by decide), px_within, if_neg hb, px_bd, if_neg (by decide), px_within, if_neg hc, px_bd, if_neg (by decide), h14, px_bd, hfo]
    have go : fX11_will_52 (nI b) (nI (m + 1)) a3 P q (nI (m + 1)) (if fo = true then 1 else 0) I = some (sp_rgr F hrs np fo fa (sp_go F hrs np fo fa nb w m).1 b, I1) := by
      unfold fX11_will_52
      rw [c1, px_bd, px_gd (px_ix (by omega) (by decide)), nI_clamp (by omega)]
      dsimp only
      rw [c3 m rfl b hb2]
    cases fo with
    | true => exact go
    | false => exact go
  have hQ1 := rx_Q_sc hQ c4
  obtain ⟨I2, d1, d2, d3⟩ := px_mfill hQ1
  have key := px_for (body := fun s : Int32 × ab_I => fX12_will_37 (nI b) (nI (m + 1)) a3 s.1 s.2) (Out := fun r : Int32 × ab_I => r.1 = sp_rgr F hrs np fo fa (sp_go F hrs np fo fa nb w m).1 b ∧ ∀ k, ¬ rx_sc k → r.2 k = I1 k)
    (fun i s => s.1 = nI i ∧ rx_is np (s.2 90) (sp_go F hrs np fo fa nb w i).1 ∧ (∀ k, i = k + 1 → ∀ j, j < nb → s.2 91 j = sp_rgr F hrs np fo fa (sp_go F hrs np fo fa nb w k).1 j) ∧ ∀ k, ¬ rx_sc k → s.2 k = I1 k) (m + 1) ?_ ?_ (m + 1) 0 5000 (0, I2) (by omega) (by omega) ⟨rfl, d2, fun k hk => by omega, d3⟩
  · obtain ⟨r, k1, k2, k3⟩ := key
    have hm : fX12_will (nI b) (nI (m + 1)) a3 I1 = some (sp_rgr F hrs np fo fa (sp_go F hrs np fo fa nb w m).1 b, r.2) := by
      unfold fX12_will
      rw [px_mBell_n (by omega) hQ1.2.2.2.2.2.2.2.1 ha, px_bd, if_neg (by decide), px_isIn, if_neg hb, px_bd, if_neg (by decide), px_isIn, if_neg hc, px_bd, if_neg (by decide), d1, px_bd, k1, ← k2]
    exact lz_q _ hR (fun Q hQ => mX11_will_ok hB hx hQ) (fun Q hQ => mX12_will_ok hB hm hQ) (fun r' hr => (k3 r' hr).trans (c4 r' hr))
  · rintro i ⟨a4, I3⟩ hi ⟨e4, ew, er, eI⟩
    dsimp only at e4 ew er eI ⊢
    subst e4
    obtain ⟨I4, k1, k2, k3, k4⟩ := px_mgo hQ1 fo ew eI
    unfold fX12_will_37
    rw [if_neg (nI_ge hi (by omega)), hfo2]
    have go : fX12_will_54 (nI b) (nI (m + 1)) a3 (nI i) (if fo = true then 1 else 0) I3 = some (.inl (nI i + 1, I4)) := by
      unfold fX12_will_54
      rw [k1, px_bd]
    refine ⟨(nI i + 1, I4), ?_, (nI_succ i).symm, k2, fun k hk j hj => ?_, k4⟩
    · cases fo with
      | true => exact go
      | false => exact go
    · obtain rfl : k = i := by omega
      exact k3 j hj
  · rintro ⟨a4, I3⟩ ⟨e4, ew, er, eI⟩
    dsimp only at e4 ew er eI ⊢
    subst e4
    refine ⟨(sp_rgr F hrs np fo fa (sp_go F hrs np fo fa nb w m).1 b, I3), ?_, rfl, eI⟩
    unfold fX12_will_37 fX12_will_64
    rw [if_pos (nI_le (Nat.le_refl _) (by omega)), px_gd (px_ix (by omega) (by decide)), nI_clamp (by omega), er m rfl b hb2]
    rfl
end PR4
