/-! ===== acts: what both do, and R again ===== -/
section ACTED
variable {S : ab_S} {I : ab_I} {J : ab_J} {P : ab_P}
theorem px_acted (hR : rx_R S I J P) : ∃ np nb fa hrs F q w S1 I1 P1, rx_Q I P np nb fa hrs F q w ∧ fX0_keep q S I P = some (S1, I1, P1) ∧ P1 0 12 = some q ∧ S1[73]? = some (17, 0) ∧ bz_B S1 P1 ∧ (∀ j, j < 4 → I1 (q + j) = I (q + j)) ∧ (∀ r, ¬ rx_dD r → r ≠ 53 → I1 r = I r) ∧ ∀ I2, (∀ r, (r < q ∨ q + 3 < r) → ¬ rx_sc r → I2 r = I1 r) → ∃ I3, fX12_act I2 = some I3 ∧ (∀ k, k < 45 → I3 90 k = I2 89 k) ∧ (∀ r k, r ≠ 90 → r ≠ 92 → ¬ (r = 73 ∧ (k = 50 ∨ k = 51)) → I3 r k = I2 r k) ∧ ∀ I4 w', (∀ r k, r ≠ 89 → ¬ rx_sc r → I4 r k = I3 r k) → rx_is np (rx_v I4 q) w' → rx_is np (I4 89) w' → rx_ok np nb 999 w' → rx_R S1 I4 J P1 := by
  obtain ⟨hB, hZ, hS, np, nb, nl, fa, lc, dr, t, F, hG, ⟨q, w, hN⟩, ⟨dn, kp, hA⟩, hX, hL, hP, hU, hW⟩ := id hR
  obtain ⟨v1, v2, v3, v4, v5, v6, v7, v8, v9, v10, v11, v12, v13, v14⟩ := hG.1
  obtain ⟨n1, n2, n3, n4, n5⟩ := id hN
  obtain ⟨a1, a2, a3, a4, a5, a6, a7, a8, a9⟩ := id hA
  have hQ : rx_Q I P np nb fa (I 5) F q w := ⟨v1, v2, v4, v5, v7, v11, v6, v8, v12, fun _ _ => rfl, v13, hG.2.2.1, hG.2.2.2, n1, n2, n3, n4, n5⟩
  have hch : ∀ j, ∃ u, j < kp → (rx_sd I P np j u ∧ rx_is np (fun k => I 92 (45 * j + k)) u ∧ rx_ok np nb 999 u) := fun j => by
    by_cases hj : j < kp
    · obtain ⟨b, u, h1, h2, h3, h4⟩ := a7 j hj
      exact ⟨u, fun _ => ⟨⟨b, h1, h2⟩, h3, h4⟩⟩
    · exact ⟨fun _ => 0, fun h => absurd h hj⟩
  let W : Nat → Nat → Nat := fun j => Classical.choose (hch j)
  have hWs : ∀ j, j < kp → (rx_sd I P np j (W j) ∧ rx_is np (fun k => I 92 (45 * j + k)) (W j) ∧ rx_ok np nb 999 (W j)) := fun j hj => Classical.choose_spec (hch j) hj
  obtain ⟨S1, I1, P1, k0, k1, k2, k3, k4, k5, k6, k7, k8, k9, k10⟩ := px_keep (np := np) (w := w) (W := W) hB hZ hS (by omega) a3 n1 n2 n3 (fun j hj => (hWs j (by omega)).1) ⟨a8, a9⟩
  refine ⟨np, nb, fa, I 5, F, q, w, S1, I1, P1, hQ, k0, k4, k1.1 73 _ rfl, k1, k5, k6, fun I2 h2 => ?_⟩
  have hqd : ∀ r, ¬ rx_dD r → (r < q ∨ q + 3 < r) := fun r hr => by
    unfold rx_dD at hr
    rcases n2 with rfl | ⟨i, rfl⟩ <;> omega
  have hfix : ∀ r, ¬ rx_dD r → r ≠ 53 → ¬ rx_sc r → I2 r = I r := fun r h1 h3 h4 => (h2 r (hqd r h1) h4).trans (k6 r h1 h3)
  have e73 : I2 73 = I 73 := hfix 73 (by unfold rx_dD; omega) (by decide) (by unfold rx_sc; omega)
  have e89 : I2 89 = I 89 := hfix 89 (by unfold rx_dD; omega) (by decide) (by unfold rx_sc; omega)
  have e92 : I2 92 = I 92 := hfix 92 (by unfold rx_dD; omega) (by decide) (by unfold rx_sc; omega)
  obtain ⟨I3, m1, m2, m3, m4, m5, m6⟩ := px_act (I := I2) (dn := dn) (by omega) (by rw [e73]; exact a5)
  refine ⟨I3, m1, m4, m6, fun I4 w' h4 hw1 hw2 hw3 => ?_⟩
  have g4 : ∀ r k, r ≠ 89 → ¬ rx_sc r → r ≠ 92 → ¬ (r = 73 ∧ (k = 50 ∨ k = 51)) → I4 r k = I2 r k := fun r k h1 h3 h5 h6 => by
    rw [h4 r k h1 h3, m6 r k (fun h => h3 (by unfold rx_sc; omega)) h5 h6]
  have hq3 : q + 3 < S1.length := bz_lt (k1.2.2.1 q k4).2.2.2.1
  obtain ⟨i1, hi1⟩ := k3
  refine rx_R_NA hR k1 (fun r hr => ?_) ⟨i1, hi1⟩ (fun r k h1 h3 h5 h6 h7 h8 => ?_) (fun np' nb' b1 b2 b3 b4 _ _ _ => ?_)
  · obtain ⟨z1, z2, z3⟩ := k2 r hr
    refine ⟨?_, z2, z3⟩
    rw [← z1]
    funext k
    rw [g4 r k (by omega) (by unfold rx_sc; omega) (by omega) (by omega), h2 r (by omega) (by unfold rx_sc; omega)]
  · rw [g4 r k h3 h8 h5 h7, hfix r h1 h6 h8]
  · obtain rfl : np' = np := by
      rw [v5] at b3
      exact ((nI_eq (by omega) (by omega)).mp b3).symm
    obtain rfl : nb' = nb := by
      rw [v7] at b4
      exact ((nI_eq (by omega) (by omega)).mp b4).symm
    refine ⟨⟨q, w', k4, n2, hw1, hw2, hw3⟩, min dn 39 + 1, min dn 39 + 1, Nat.le_refl _, by omega, ?_, ?_, ?_, ?_, fun j hj => ?_, k10.1, k10.2⟩
    · rw [g4 53 1 (by decide) (by unfold rx_sc; omega) (by decide) (by decide), h2 53 (hqd 53 (by unfold rx_dD; omega)) (by unfold rx_sc; omega)]; exact k7
    · rw [g4 53 2 (by decide) (by unfold rx_sc; omega) (by decide) (by decide), h2 53 (hqd 53 (by unfold rx_dD; omega)) (by unfold rx_sc; omega)]; exact k8
    · rw [h4 73 50 (by decide) (by unfold rx_sc; omega)]; exact m2
    · rw [h4 73 51 (by decide) (by unfold rx_sc; omega), m3, Nat.sub_self]; rfl
    · obtain ⟨b, s1, s2⟩ := k9 j hj
      obtain ⟨d1, d2, d3⟩ := k10.1 j b s1
      have hbq := rx_dyn_ne d2 n2 (fun h => d3 (by rw [k4, h]))
      refine ⟨b, _, s1, rx_is_c (fun e he g => ?_) s2, fun k x y => ?_, ?_⟩
      · rw [g4 (b + e) g (by rcases d2 with rfl | ⟨i, rfl⟩ <;> omega) (by unfold rx_sc; rcases d2 with rfl | ⟨i, rfl⟩ <;> omega) (by rcases d2 with rfl | ⟨i, rfl⟩ <;> omega) (by rcases d2 with rfl | ⟨i, rfl⟩ <;> omega), h2 (b + e) (by omega) (by unfold rx_sc; rcases d2 with rfl | ⟨i, rfl⟩ <;> omega)]
      · show I4 92 (45 * j + k) = _
        rw [h4 92 _ (by decide) (by unfold rx_sc; omega), m5 j hj k x]
        by_cases ej : j = min dn 39
        · rw [if_pos ej, if_pos ej, e89]
          exact n4 k x y
        · rw [if_neg ej, if_neg ej, e92]
          exact (hWs _ (by split <;> omega)).2.1 k x y
      · by_cases ej : j = min dn 39
        · rw [if_pos ej]; exact n5
        · rw [if_neg ej]
          exact (hWs _ (by split <;> omega)).2.2
end ACTED
/-! ===== undo, redo ===== -/
theorem bz_P0_n : ∀ e, e ∈ bz_P0 → ¬ (e.1 = 0 ∧ e.2.1 = 12) := by decide
theorem bz_B_now {S : ab_S} {P : ab_P} {a : Nat} (hB : bz_B S P) (ha : bz_st S P a) : bz_B S (ab_u P 0 12 (some a)) := by
  have hst : ∀ q, bz_st S P q → bz_st S (ab_u P 0 12 (some a)) q := fun q h => by
    have hne := (bz_st_ne hB h).2
    obtain ⟨h1, h2, h3, h4, h5, h6, h7⟩ := h
    exact ⟨h1, h2, h3, h4, by rw [ab_u_o hne]; exact h5, by rw [ab_u_o hne]; exact h6, by rw [ab_u_o hne]; exact h7⟩
  refine ⟨hB.1, fun i e he => ?_, fun b hb => ?_, fun i b hb => ?_⟩
  · rw [px_u (bz_P0_n e (List.mem_of_getElem? he))]
    exact hB.2.1 i e he
  · rw [ab_u_at] at hb
    cases hb
    exact hst _ ha
  · rw [ab_u_o (by decide)] at hb
    exact hst _ (hB.2.2.2 i b hb)
theorem px_exch {I : ab_I} {d : Nat} (hd : d < 40) : ∃ I', fX12_exchange (nI (45 * d)) I = some I' ∧ (∀ k, k < 45 → I' 92 (45 * d + k) = I 89 k ∧ I' 89 k = I 92 (45 * d + k)) ∧ (∀ k, (k < 45 * d ∨ 45 * d + 45 ≤ k) → I' 92 k = I 92 k) ∧ ∀ r, r ≠ 89 → r ≠ 92 → I' r = I r := by
  have key := px_for (body := fun s : Int32 × ab_I => fX12_exchange_2 (nI (45 * d)) s.1 s.2) (Out := fun I' : ab_I => (∀ k, k < 45 → I' 92 (45 * d + k) = I 89 k ∧ I' 89 k = I 92 (45 * d + k)) ∧ (∀ k, (k < 45 * d ∨ 45 * d + 45 ≤ k) → I' 92 k = I 92 k) ∧ ∀ r, r ≠ 89 → r ≠ 92 → I' r = I r)
    (fun i s => s.1 = nI i ∧ (∀ k, k < i → s.2 92 (45 * d + k) = I 89 k ∧ s.2 89 k = I 92 (45 * d + k)) ∧ (∀ k, (k < 45 * d ∨ 45 * d + i ≤ k) → s.2 92 k = I 92 k) ∧ (∀ k, i ≤ k → s.2 89 k = I 89 k) ∧ ∀ r, r ≠ 89 → r ≠ 92 → s.2 r = I r) 45 ?_ ?_ 45 0 5000 (0, I) (by omega) (by omega) ⟨rfl, fun k hk => absurd hk (Nat.not_lt_zero k), fun _ _ => rfl, fun _ _ => rfl, fun _ _ _ => rfl⟩
  · obtain ⟨x, k1, k2⟩ := key
    exact ⟨x, k1, k2⟩
  · rintro i ⟨x, I2⟩ hi ⟨e1, e2, e3, e4, e5⟩
    dsimp only at e1 e2 e3 e4 e5 ⊢
    subst e1
    unfold fX12_exchange_2
    rw [if_neg (show ¬ (45 : Int32) ≤ nI i from nI_ge (b := 45) hi (by decide)), px_add, px_gd (px_ix (by omega) (by decide)), px_gd (px_ix hi (by decide)), px_gd (px_ix (by omega) (by decide)), px_gd (px_ix hi (by decide)), nI_clamp (by omega), nI_clamp (by omega), e4 i (Nat.le_refl _), e3 _ (Or.inr (Nat.le_refl _))]
    refine ⟨_, rfl, (nI_succ i).symm, fun k hk => ?_, fun k hk => ?_, fun k hk => ?_, fun r h1 h2 => ?_⟩
    · dsimp only
      by_cases ek : k = i
      · subst ek
        exact ⟨by rw [ab_u_o (by decide), ab_u_at], by rw [ab_u_at]⟩
      · exact ⟨by rw [ab_u_o (by decide), ab_u_ne (by omega)]; exact (e2 k (by omega)).1, by rw [ab_u_ne ek, ab_u_o (by decide)]; exact (e2 k (by omega)).2⟩
    · dsimp only
      rw [ab_u_o (by decide), ab_u_ne (by omega)]
      exact e3 k (by omega)
    · dsimp only
      rw [ab_u_ne (by omega), ab_u_o (by decide)]
      exact e4 k (by omega)
    · dsimp only
      rw [ab_u_o h1, ab_u_o h2]
      exact e5 r h1 h2
  · rintro ⟨x, I2⟩ ⟨e1, e2, e3, e4, e5⟩
    dsimp only at e1 e2 e3 e4 e5 ⊢
    subst e1
    unfold fX12_exchange_2 fX12_exchange_44
    rw [if_pos (show (45 : Int32) ≤ nI 45 by decide)]
    exact ⟨_, rfl, e2, e3, e5⟩
section UNDO
variable {S : ab_S} {I : ab_I} {J : ab_J} {P : ab_P} {l : Launch} {G : ab_G}
/-- now and the side j0 change places -/
theorem px_swapR (hR : rx_R S I J P) {np nb q dn kp : Nat} {w : Nat → Nat} (hN : rx_N I P np nb q w) (hA : rx_A I P np nb dn kp) (v1 : np ≤ 6) (v2 : nb ≤ 5) (v5 : I 3 4 = nI np) (v7 : I 3 5 = nI nb) {j0 a dn2 : Nat} (hj : j0 < kp) (ha : P 54 j0 = some a) (hdn : dn2 ≤ kp) {I' : ab_I} (f1 : I' 53 1 = nI dn2) (f2 : I' 53 2 = nI kp) (f3 : I' 73 50 = nI dn2) (f4 : I' 73 51 = nI (kp - dn2)) (f5 : ∀ k, k < 45 → I' 92 (45 * j0 + k) = I 89 k ∧ I' 89 k = I 92 (45 * j0 + k)) (f6 : ∀ k, (k < 45 * j0 ∨ 45 * j0 + 45 ≤ k) → I' 92 k = I 92 k) (f7 : ∀ r k, r ≠ 89 → r ≠ 92 → r ≠ 53 → ¬ (r = 73 ∧ (k = 50 ∨ k = 51)) → I' r k = I r k) : rx_R S I' J (ab_u (ab_u P 54 j0 (some q)) 0 12 (some a)) := by
  obtain ⟨hB, hZ, ⟨i, hS⟩, _⟩ := id hR
  obtain ⟨n1, n2, n3, n4, n5⟩ := id hN
  obtain ⟨a1, a2, a3, a4, a5, a6, a7, a8, a9⟩ := id hA
  obtain ⟨b, u, s1, s2, s3, s4⟩ := a7 j0 hj
  obtain rfl : b = a := by rw [ha] at s1; cases s1; rfl
  obtain ⟨d1, d2, d3⟩ := a8 j0 b ha
  have hB1 : bz_B S (ab_u P 54 j0 (some q)) := bz_B_row hB (fun r hr => ab_u_o hr) (fun j c hc => by
    by_cases ej : j = j0
    · subst ej
      rw [ab_u_at] at hc
      cases hc
      exact hB.2.2.1 q n1
    · rw [ab_u_ne ej] at hc
      exact hB.2.2.2 j c hc)
  have hB2 : bz_B S (ab_u (ab_u P 54 j0 (some q)) 0 12 (some b)) := bz_B_now hB1 (bz_st_row hB (fun r hr => ab_u_o hr) (hB.2.2.2 j0 b ha))
  have p0 : ab_u (ab_u P 54 j0 (some q)) 0 12 (some b) 0 12 = some b := ab_u_at
  have p54 : ∀ j, ab_u (ab_u P 54 j0 (some q)) 0 12 (some b) 54 j = if j = j0 then some q else P 54 j := fun j => by
    rw [ab_u_o (by decide)]
    by_cases ej : j = j0
    · rw [if_pos ej, ej, ab_u_at]
    · rw [if_neg ej, ab_u_ne ej]
  have fv : ∀ c, rx_dyn c → ∀ z, rx_is np (rx_v I c) z → rx_is np (rx_v I' c) z := fun c hc z hz => rx_is_c (fun e he g => f7 (c + e) g (by rcases hc with rfl | ⟨i, rfl⟩ <;> omega) (by rcases hc with rfl | ⟨i, rfl⟩ <;> omega) (by rcases hc with rfl | ⟨i, rfl⟩ <;> omega) (by rcases hc with rfl | ⟨i, rfl⟩ <;> omega)) hz
  refine rx_R_NA hR hB2 (fun r hr => ?_) ⟨i, hS⟩ (fun r k h1 h3 h5 h6 h7 h8 => f7 r k h3 h5 h6 h7) (fun np' nb' b1 b2 b3 b4 _ _ _ => ?_)
  · obtain ⟨z1, z2, z3⟩ := hZ r hr
    refine ⟨?_, z2, ?_⟩
    · rw [← z1]
      funext k
      exact f7 r k (by omega) (by omega) (by omega) (by omega)
    · rw [ab_u_o (by omega), ab_u_o (by omega)]
      exact z3
  · obtain rfl : np' = np := by
      rw [v5] at b3
      exact ((nI_eq (by omega) (by omega)).mp b3).symm
    obtain rfl : nb' = nb := by
      rw [v7] at b4
      exact ((nI_eq (by omega) (by omega)).mp b4).symm
    refine ⟨⟨b, u, p0, d2, fv b d2 u s2, fun k x y => by rw [(f5 k x).2]; exact s3 k x y, s4⟩, dn2, kp, hdn, a2, f1, f2, f3, f4, fun j hj2 => ?_, fun j c hc => ?_, fun j1 j2 c h1 h2 => ?_⟩
    · by_cases ej : j = j0
      · subst ej
        exact ⟨q, w, by rw [p54, if_pos rfl], fv q n2 w n3, fun k x y => by show I' 92 _ = _; rw [(f5 k x).1]; exact n4 k x y, n5⟩
      · obtain ⟨c, z, t1, t2, t3, t4⟩ := a7 j hj2
        exact ⟨c, z, by rw [p54, if_neg ej]; exact t1, fv c (a8 j c t1).2.1 z t2, fun k x y => by show I' 92 _ = _; rw [f6 _ (by omega)]; exact t3 k x y, t4⟩
    · rw [p54] at hc
      rw [p0]
      by_cases ej : j = j0
      · rw [if_pos ej] at hc
        cases hc
        exact ⟨by omega, n2, fun h => by cases h; exact d3 n1⟩
      · rw [if_neg ej] at hc
        refine ⟨(a8 j c hc).1, (a8 j c hc).2.1, fun h => ?_⟩
        cases h
        exact ej (a9 j j0 _ hc ha)
    · rw [p54] at h1 h2
      by_cases e1 : j1 = j0
      · rw [if_pos e1] at h1
        by_cases e2 : j2 = j0
        · rw [e1, e2]
        · rw [if_neg e2] at h2
          cases h1
          exact absurd n1 (a8 j2 _ h2).2.2
      · rw [if_neg e1] at h1
        by_cases e2 : j2 = j0
        · rw [if_pos e2] at h2
          cases h2
          exact absurd n1 (a8 j1 _ h1).2.2
        · rw [if_neg e2] at h2
          exact a9 j1 j2 c h1 h2
theorem pr_undo (hR : rx_R S I J P) : lz_pr l G rx_R mX11_undo 1 mX12_undo 1 [] S I J P := by
  obtain ⟨hB, hZ, hS, np, nb, nl, fa, lc, dr, t, F, hG, ⟨q, w, hN⟩, ⟨dn, kp, hA⟩, hX, hL, hP, hU, hW⟩ := id hR
  obtain ⟨n1, n2, n3, n4, n5⟩ := id hN
  obtain ⟨a1, a2, a3, a4, a5, a6, a7, a8, a9⟩ := id hA
  by_cases e : dn = 0
  · subst e
    have hx : fX11_undo I P = some (0, I, P) := by
      unfold fX11_undo fX0_takenBack
      rw [n1, px_bd, a3, if_pos (by decide), px_bd]
    have hm : fX12_undo I = some (0, I) := by
      unfold fX12_undo
      rw [a5, if_pos (by decide)]
    exact lz_q _ hR (fun Q hQ => mX11_undo_ok hB hx hQ) (fun Q hQ => mX12_undo_ok hB hm hQ) (fun _ _ => rfl)
  · obtain ⟨d, rfl⟩ : ∃ d, dn = d + 1 := ⟨dn - 1, by omega⟩
    obtain ⟨a, u, s1, s2, s3, s4⟩ := a7 d (by omega)
    have hx : fX11_undo I P = some (1, ab_u I 53 1 (nI d), ab_u (ab_u P 54 d (some q)) 0 12 (some a)) := by
      unfold fX11_undo fX0_takenBack
      rw [n1, px_bd, a3, if_neg (show ¬ nI (d + 1) ≤ 0 from nI_ge (a := 0) (by omega) (by omega)), if_pos (show nI (d + 1) ≤ (40 : Int32) from nI_le (b := 40) (by omega) (by decide)), nI_pred, px_gd (px_ix (by omega) (by decide)), nI_clamp (by omega), s1, px_bd, px_bd]
    have e50 : ab_u I 53 1 (nI d) 73 50 = nI (d + 1) := by rw [ab_u_o (by decide)]; exact a5
    have e51 : ab_u I 53 1 (nI d) 73 51 = nI (kp - (d + 1)) := by rw [ab_u_o (by decide)]; exact a6
    obtain ⟨I3, m1, m2, m3, m4⟩ := px_exch (I := ab_u (ab_u (ab_u I 53 1 (nI d)) 73 50 (nI d)) 73 51 (nI (kp - (d + 1)) + 1)) (d := d) (by omega)
    have hm : fX12_undo (ab_u I 53 1 (nI d)) = some (1, I3) := by
      unfold fX12_undo
      rw [e50, if_neg (nI_ne0 (by omega) (by omega)), e51, nI_pred, show (45 : Int32) = nI 45 from rfl, pk_mul, m1, px_bd]
    have g : ∀ r k, r ≠ 53 → ¬ (r = 73 ∧ (k = 50 ∨ k = 51)) → ab_u (ab_u (ab_u I 53 1 (nI d)) 73 50 (nI d)) 73 51 (nI (kp - (d + 1)) + 1) r k = I r k := fun r k h1 h2 => by rw [px_u (by omega), px_u (by omega), px_u (by omega)]
    refine ⟨1, S, ab_u I 53 1 (nI d), J, _, S, I3, J, _, fun Q hQ => mX11_undo_ok hB hx hQ, fun Q hQ => mX12_undo_ok ?_ hm hQ, hB.1 73 _ rfl, ?_⟩
    · exact bz_B_now (bz_B_row hB (fun r hr => ab_u_o hr) (fun j c hc => by
        by_cases ej : j = d
        · subst ej
          rw [ab_u_at] at hc
          cases hc
          exact hB.2.2.1 q n1
        · rw [ab_u_ne ej] at hc
          exact hB.2.2.2 j c hc)) (bz_st_row hB (fun r hr => ab_u_o hr) (hB.2.2.2 d a s1))
    · refine px_swapR (dn2 := d) hR hN hA hG.1.1 hG.1.2.1 hG.1.2.2.2.2.1 hG.1.2.2.2.2.2.2.1 (by omega) s1 (by omega) ?_ ?_ ?_ ?_ (fun k hk => ?_) (fun k hk => ?_) (fun r k h1 h2 h3 h4 => ?_)
      · rw [m4 53 (by decide) (by decide), px_u (by decide), px_u (by decide), ab_u_at]
      · rw [m4 53 (by decide) (by decide), px_u (by decide), px_u (by decide), px_u (by decide)]; exact a4
      · rw [m4 73 (by decide) (by decide), px_u (by decide), ab_u_at]
      · rw [m4 73 (by decide) (by decide), ab_u_at, ← nI_succ, show kp - (d + 1) + 1 = kp - d by omega]
      · rw [(m2 k hk).1, (m2 k hk).2, g 89 k (by decide) (by omega), g 92 _ (by decide) (by omega)]
        exact ⟨rfl, rfl⟩
      · rw [m3 k hk, g 92 _ (by decide) (by omega)]
      · rw [m4 r h1 h2, g r k h3 h4]
theorem pr_redo (hR : rx_R S I J P) : lz_pr l G rx_R mX11_redo 1 mX12_redo 1 [] S I J P := by
  obtain ⟨hB, hZ, hS, np, nb, nl, fa, lc, dr, t, F, hG, ⟨q, w, hN⟩, ⟨dn, kp, hA⟩, hX, hL, hP, hU, hW⟩ := id hR
  obtain ⟨n1, n2, n3, n4, n5⟩ := id hN
  obtain ⟨a1, a2, a3, a4, a5, a6, a7, a8, a9⟩ := id hA
  by_cases e : dn = kp
  · subst e
    have hx : fX11_redo I P = some (0, I, P) := by
      unfold fX11_redo fX0_doneAgain
      rw [n1, px_bd, a3, a4, if_pos (nI_le (Nat.le_refl _) (by omega)), px_bd]
    have hm : fX12_redo I = some (0, I) := by
      unfold fX12_redo
      rw [a6, Nat.sub_self, if_pos (by decide)]
    exact lz_q _ hR (fun Q hQ => mX11_redo_ok hB hx hQ) (fun Q hQ => mX12_redo_ok hB hm hQ) (fun _ _ => rfl)
  · have hlt : dn < kp := by omega
    have h40 : nI dn < (40 : Int32) := nI_lt (b := 40) (by omega) (by decide)
    obtain ⟨a, u, s1, s2, s3, s4⟩ := a7 dn hlt
    have hx : fX11_redo I P = some (1, ab_u I 53 1 (nI dn + 1), ab_u (ab_u P 54 dn (some q)) 0 12 (some a)) := by
      unfold fX11_redo fX0_doneAgain
      rw [n1, px_bd, a3, a4, if_neg (nI_ge hlt (by omega)), if_pos h40, px_gd (px_ix (by omega) (by decide)), nI_clamp (by omega), s1, px_bd, px_bd]
    have e50 : ab_u I 53 1 (nI dn + 1) 73 50 = nI dn := by rw [ab_u_o (by decide)]; exact a5
    have e51 : ab_u I 53 1 (nI dn + 1) 73 51 = nI (kp - dn) := by rw [ab_u_o (by decide)]; exact a6
    obtain ⟨I3, m1, m2, m3, m4⟩ := px_exch (I := ab_u I 53 1 (nI dn + 1)) (d := dn) (by omega)
    have hm : fX12_redo (ab_u I 53 1 (nI dn + 1)) = some (1, ab_u (ab_u I3 73 50 (nI dn + 1)) 73 51 (nI (kp - dn) - 1)) := by
      unfold fX12_redo
      rw [e51, if_neg (nI_ne0 (by omega) (by omega)), e50, show (45 : Int32) = nI 45 from rfl, pk_mul, m1, px_bd, m4 73 (by decide) (by decide), e50, e51]
    refine ⟨1, S, ab_u I 53 1 (nI dn + 1), J, _, S, ab_u (ab_u I3 73 50 (nI dn + 1)) 73 51 (nI (kp - dn) - 1), J, _, fun Q hQ => mX11_redo_ok hB hx hQ, fun Q hQ => mX12_redo_ok ?_ hm hQ, hB.1 73 _ rfl, ?_⟩
    · exact bz_B_now (bz_B_row hB (fun r hr => ab_u_o hr) (fun j c hc => by
        by_cases ej : j = dn
        · subst ej
          rw [ab_u_at] at hc
          cases hc
          exact hB.2.2.1 q n1
        · rw [ab_u_ne ej] at hc
          exact hB.2.2.2 j c hc)) (bz_st_row hB (fun r hr => ab_u_o hr) (hB.2.2.2 dn a s1))
    · refine px_swapR (dn2 := dn + 1) hR hN hA hG.1.1 hG.1.2.1 hG.1.2.2.2.2.1 hG.1.2.2.2.2.2.2.1 hlt s1 (by omega) ?_ ?_ ?_ ?_ (fun k hk => ?_) (fun k hk => ?_) (fun r k h1 h2 h3 h4 => ?_)
      · rw [px_u (by decide), px_u (by decide), m4 53 (by decide) (by decide), ab_u_at, nI_succ]
      · rw [px_u (by decide), px_u (by decide), m4 53 (by decide) (by decide), px_u (by decide)]; exact a4
      · rw [px_u (by decide), ab_u_at, nI_succ]
      · obtain ⟨y, hy⟩ : ∃ y, kp - dn = y + 1 := ⟨kp - dn - 1, by omega⟩
        rw [ab_u_at, hy, nI_pred, show kp - (dn + 1) = y by omega]
      · rw [px_u (by omega), px_u (by omega), px_u (by omega), px_u (by omega), (m2 k hk).1, (m2 k hk).2, px_u (by omega), px_u (by omega)]
        exact ⟨rfl, rfl⟩
      · rw [px_u (by omega), px_u (by omega), m3 k hk, px_u (by omega)]
      · rw [px_u (by omega), px_u (by omega), m4 r h1 h2, px_u (by omega)]
end UNDO
