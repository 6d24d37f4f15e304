/-! ===== the reference's order, the pair ===== -/
section ORDQ
variable {S : ab_S} {I : ab_I} {J : ab_J} {P : ab_P} {l : Launch} {G : ab_G} {np nb fa q dm : Nat} {hrs : Nat → Int32} {F : Int32 → Int32 → Int32 → Int32 → Int32 → Int32 → Int32} {w : Nat → Nat} {f : Nat → Nat}
theorem px_cp82 {a : Int32} (hnb : nb ≤ 5) (h40 : I 73 40 = nI nb) : ∃ I', ab_it (fun s : Int32 × Int32 × ab_I => fX12_order_82 s.1 s.2.1 s.2.2) 5000 (a, 0, I) = fX12_order_111 a I' ∧ (∀ j, j < nb → I' 93 j = I 94 j) ∧ ∀ r, r ≠ 93 → I' r = I r := by
  have st : ∀ d i n I2, i + d = nb → (∀ j, j < i → I2 93 j = I 94 j) → (∀ r, r ≠ 93 → I2 r = I r) → ∃ I', ab_it (fun s : Int32 × Int32 × ab_I => fX12_order_82 s.1 s.2.1 s.2.2) (n + d + 1) (a, nI i, I2) = fX12_order_111 a I' ∧ (∀ j, j < nb → I' 93 j = I 94 j) ∧ ∀ r, r ≠ 93 → I' r = I r := by
    intro d
    induction d with
    | zero =>
      intro i n I2 hi e3 e4
      obtain rfl : i = nb := by omega
      refine ⟨I2, ?_, e3, e4⟩
      refine px_itO (body := fun s : Int32 × Int32 × ab_I => fX12_order_82 s.1 s.2.1 s.2.2) ?_
      dsimp only
      unfold fX12_order_82
      rw [e4 73 (by decide), h40, if_pos (nI_le (Nat.le_refl _) (by omega))]
    | succ d ih =>
      intro i n I2 hi e3 e4
      obtain ⟨I', k1, k2⟩ := ih (i + 1) n (ab_u I2 93 i (I2 94 i)) (by omega) (fun j hj => by
        by_cases ej : j = i
        · rw [ej, ab_u_at, e4 94 (by decide)]
        · rw [ab_u_ne ej]; exact e3 j (by omega)) (fun r hr => by rw [ab_u_o hr]; exact e4 r hr)
      refine ⟨I', ?_, k2⟩
      rw [show n + (d + 1) + 1 = (n + d + 1) + 1 by omega]
      refine (px_itL (body := fun s : Int32 × Int32 × ab_I => fX12_order_82 s.1 s.2.1 s.2.2) (s := (a, nI i, I2)) (s' := (a, nI (i + 1), ab_u I2 93 i (I2 94 i))) ?_).trans k1
      dsimp only
      unfold fX12_order_82
      rw [e4 73 (by decide), h40, if_neg (nI_ge (by omega) (by omega)), px_gd (px_ix (by omega) (by decide)), px_gd (px_ix (by omega) (by decide)), nI_clamp (by omega), ← nI_succ]
  obtain ⟨I', k1, k2⟩ := st nb 0 (4999 - nb) I (by omega) (fun j hj => absurd hj (Nat.not_lt_zero j)) (fun _ _ => rfl)
  rw [show 4999 - nb + nb + 1 = 5000 by omega] at k1
  exact ⟨I', k1, k2⟩
theorem px_morder (hQ : rx_Q I P np nb fa hrs F q w) {c : Nat → Nat} (hc : ∀ i, c i = (or_go F hrs np fa w (or_r nb i) nb).2) : ∃ m I', sp_lst (fun _ => true) c (or_f nb) = some m ∧ fX12_order I = some (nI (c m), I') ∧ (∀ j, j < nb → I' 93 j = nI (or_r nb m j)) ∧ I' 73 54 = nI nb ∧ ∀ r k, ¬ rx_sc r → r ≠ 93 → ¬ (r = 73 ∧ k = 54) → I' r k = I r k := by
  obtain ⟨h1, h2, h3, h4, h5, h6, h7, h8, h9, h10, h11, h12, h13, h14, h15, h16, h17, h18⟩ := id hQ
  obtain ⟨p1, p2⟩ := or_f1 nb (by omega)
  have hcl : ∀ i, i < or_f nb → c i ≤ 100 := fun i hi => by
    have := or_go_le (F := F) (hrs := hrs) (fa := fa) h1 h18 (f := or_r nb i) (fun j hj => by have := or_ltj h2 hi hj; omega) nb (Nat.le_refl _)
    rw [hc]; omega
  have scq : ∀ K : ab_I, (∀ r, ¬ rx_sc r → r ≠ 93 → K r = I r) → rx_Q K P np nb fa hrs F q w := fun K hK => rx_Q_L hQ (fun r k hd hs => by rw [hK r hs (by unfold rx_dL at hd; omega)])
  have main : ∀ I0 : ab_I, (∀ r, ¬ rx_sc r → r ≠ 93 → I0 r = I r) → (∀ j, j < nb → I0 94 j = nI j) → ∃ x, fX12_order_23 I0 = some x ∧ (∃ m, sp_lst (fun _ => true) c (or_f nb) = some m ∧ x.1 = nI (c m) ∧ (∀ j, j < nb → x.2 93 j = nI (or_r nb m j)) ∧ x.2 73 54 = nI nb ∧ ∀ r k, ¬ rx_sc r → r ≠ 93 → ¬ (r = 73 ∧ k = 54) → x.2 r k = I r k) := by
    intro I0 hI0 h94
    unfold fX12_order_23
    refine px_for (body := fun s : Int32 × Int32 × ab_I => fX12_order_29 s.1 s.2.1 s.2.2) (Out := fun x : Int32 × ab_I => ∃ m, sp_lst (fun _ => true) c (or_f nb) = some m ∧ x.1 = nI (c m) ∧ (∀ j, j < nb → x.2 93 j = nI (or_r nb m j)) ∧ x.2 73 54 = nI nb ∧ ∀ r k, ¬ rx_sc r → r ≠ 93 → ¬ (r = 73 ∧ k = 54) → x.2 r k = I r k)
      (fun i s => (i < or_f nb → s.2.1 = 1 ∧ ∀ j, j < nb → s.2.2 94 j = nI (or_r nb i j)) ∧ (i = or_f nb → s.2.1 = 0) ∧ (match sp_lst (fun _ => true) c i with
        | none => i = 0 ∧ s.1 = 1000000
        | some m => s.1 = nI (c m) ∧ ∀ j, j < nb → s.2.2 93 j = nI (or_r nb m j)) ∧ ∀ r, ¬ rx_sc r → r ≠ 93 → s.2.2 r = I r) (or_f nb) ?_ ?_ (or_f nb) 0 5000 (1000000, 1, I0) (by omega) (by omega) ⟨fun _ => ⟨rfl, fun j hj => by rw [or_0j h2 hj]; exact h94 j hj⟩, fun h => by omega, ⟨rfl, rfl⟩, hI0⟩
    · rintro i ⟨s1, s2, I2⟩ hi ⟨e1, e2, e4, e5⟩
      dsimp only at e1 e2 e4 e5 ⊢
      obtain ⟨e1, e3⟩ := e1 hi
      subst e1
      have hQ2 := scq I2 e5
      obtain ⟨I3, c1, c2, c3⟩ := px_fill (I := I2)
      have f3 : ∀ r, ¬ rx_sc r → r ≠ 93 → I3 r = I r := fun r hr h93 => by rw [c3 r (by unfold rx_sc at hr; omega)]; exact e5 r hr h93
      have hQ3 := scq I3 f3
      obtain ⟨I4, d1, d2⟩ := px_lostM (a1 := s1) (f := or_r nb i) hQ3 (fun j hj => ⟨by rw [c3 94 (by decide)]; exact e3 j hj, or_ltj h2 hi hj⟩) (fun k x y => by rw [c2 k x]; exact hQ2.2.2.2.2.2.2.2.2.2.2.2.2.2.2.2.2.1 k x y)
      rw [← hc i] at d1
      have ci := hcl i hi
      have f4 : ∀ r, r ≠ 81 → r ≠ 82 → r ≠ 90 → r ≠ 91 → I4 r = I2 r := fun r a b x y => by rw [d2 r a b x y, c3 r x]
      have nx : ∀ (K : ab_I) (a : Int32), (∀ r, r ≠ 93 → K r = I4 r) → ∃ s', fX12_order_111 a K = some (.inl s') ∧ s'.1 = a ∧ (i + 1 < or_f nb → s'.2.1 = 1 ∧ ∀ j, j < nb → s'.2.2 94 j = nI (or_r nb (i + 1) j)) ∧ (i + 1 = or_f nb → s'.2.1 = 0) ∧ s'.2.2 93 = K 93 ∧ ∀ r, ¬ rx_sc r → r ≠ 93 → s'.2.2 r = I r := fun K a hK => by
        have k40 : K 73 40 = nI nb := by rw [hK 73 (by decide), f4 73 (by decide) (by decide) (by decide) (by decide)]; exact hQ2.2.2.2.2.2.2.2.1
        have k94 : or_h K 94 nb (or_r nb i) := fun j hj => ⟨by rw [hK 94 (by decide), f4 94 (by decide) (by decide) (by decide) (by decide)]; exact e3 j hj, by have := or_ltj h2 hi hj; omega⟩
        have kf : ∀ r, ¬ rx_sc r → r ≠ 93 → K r = I r := fun r hr h93 => by
          have hr' := hr
          unfold rx_sc at hr
          rw [hK r h93, f4 r (by omega) (by omega) (by omega) (by omega)]; exact e5 r hr' h93
        rcases px_mnext h2 k40 k94 with ⟨y1, y2⟩ | ⟨y1, K', y2, y3, y4⟩
        · have hlast : ¬ i + 1 < or_f nb := fun hlt => by
            have := (or_stepS h2 hlt).1
            rw [y1] at this
            exact absurd this (by decide)
          refine ⟨(a, 0, K), ?_, rfl, fun h => absurd h hlast, fun _ => rfl, rfl, kf⟩
          unfold fX12_order_111
          rw [y2, px_bd]
        · have hlt : i + 1 < or_f nb := by
            by_cases h : i + 1 < or_f nb
            · exact h
            · rw [or_stepE h2 hi h] at y1
              exact absurd y1 (by decide)
          refine ⟨(a, 1, K'), ?_, rfl, fun _ => ⟨rfl, fun j hj => ?_⟩, fun h => by omega, y4 93 (by decide), fun r hr h93 => ?_⟩
          · unfold fX12_order_111
            rw [y2, px_bd]
          · rw [← (or_stepS h2 hlt).2 j hj]
            exact (y3 j hj).1
          · show K' r = I r
            rw [y4 r (by unfold rx_sc at hr; omega)]; exact kf r hr h93
      unfold fX12_order_29
      rw [if_neg (by decide), c1, px_bd, d1]
      unfold fX12_order_72
      have k40' : I4 73 40 = nI nb := by rw [f4 73 (by decide) (by decide) (by decide) (by decide)]; exact hQ2.2.2.2.2.2.2.2.1
      obtain ⟨I5, g1, g2, g3⟩ := px_cp82 (I := I4) (a := nI (c i)) h2 k40'
      have take : ∃ s', ab_it (fun s : Int32 × Int32 × ab_I => fX12_order_82 s.1 s.2.1 s.2.2) 5000 (nI (c i), 0, I4) = some (.inl s') ∧ (i + 1 < or_f nb → s'.2.1 = 1 ∧ ∀ j, j < nb → s'.2.2 94 j = nI (or_r nb (i + 1) j)) ∧ (i + 1 = or_f nb → s'.2.1 = 0) ∧ (s'.1 = nI (c i) ∧ ∀ j, j < nb → s'.2.2 93 j = nI (or_r nb i j)) ∧ ∀ r, ¬ rx_sc r → r ≠ 93 → s'.2.2 r = I r := by
        obtain ⟨s', y1, y2, y3, y4, y5, y6⟩ := nx I5 (nI (c i)) g3
        exact ⟨s', by rw [g1]; exact y1, y3, y4, ⟨y2, fun j hj => by rw [y5, g2 j hj, f4 94 (by decide) (by decide) (by decide) (by decide)]; exact e3 j hj⟩, y6⟩
      cases ht : sp_lst (fun _ => true) c i with
      | none =>
        rw [ht] at e4
        have hn : sp_lst (fun _ => true) c (i + 1) = some i := by rw [sp_lst, if_pos rfl, ht]
        have hbig : ¬ (1000000 : Int32) ≤ nI (c i) := nI_ge (b := 1000000) (by omega) (by decide)
        rw [e4.2, if_neg hbig, hn]
        exact take
      | some m =>
        rw [ht] at e4
        have hm := sp_lst_lt _ c i m ht
        have cm := hcl m (by omega)
        rw [e4.1]
        by_cases e : c m ≤ c i
        · have hn : sp_lst (fun _ => true) c (i + 1) = some m := by rw [sp_lst, if_pos rfl, ht]; exact if_pos e
          obtain ⟨s', y1, y2, y3, y4, y5, y6⟩ := nx I4 (nI (c m)) (fun _ _ => rfl)
          rw [if_pos (nI_le e (by omega)), y1, hn]
          exact ⟨s', rfl, y3, y4, ⟨y2, fun j hj => by rw [y5, f4 93 (by decide) (by decide) (by decide) (by decide)]; exact e4.2 j hj⟩, y6⟩
        · have hn : sp_lst (fun _ => true) c (i + 1) = some i := by rw [sp_lst, if_pos rfl, ht]; exact if_neg e
          rw [if_neg (nI_ge (by omega) (by omega)), hn]
          exact take
    · rintro ⟨s1, s2, I2⟩ ⟨e1, e2, e4, e5⟩
      dsimp only at e1 e2 e4 e5 ⊢
      rw [e2 rfl]
      unfold fX12_order_29 fX12_order_119
      rw [if_pos rfl, e5 73 (by unfold rx_sc; omega) (by decide), h8]
      cases ht : sp_lst (fun _ => true) c (or_f nb) with
      | none => rw [ht] at e4; have := e4.1; omega
      | some m =>
        rw [ht] at e4
        refine ⟨_, rfl, m, rfl, e4.1, fun j hj => ?_, by show ab_u I2 73 54 (nI nb) 73 54 = _; rw [ab_u_at], fun r k a b x => ?_⟩
        · show ab_u I2 73 54 (nI nb) 93 j = _
          rw [px_u (by omega)]; exact e4.2 j hj
        · show ab_u I2 73 54 (nI nb) r k = _
          rw [px_u x, e5 r a b]
  have key := px_cpl (body := fun s : Int32 × ab_I => fX12_order_2 s.1 s.2) (I := I) (Out := fun x : Int32 × ab_I => ∃ m, sp_lst (fun _ => true) c (or_f nb) = some m ∧ x.1 = nI (c m) ∧ (∀ j, j < nb → x.2 93 j = nI (or_r nb m j)) ∧ x.2 73 54 = nI nb ∧ ∀ r k, ¬ rx_sc r → r ≠ 93 → ¬ (r = 73 ∧ k = 54) → x.2 r k = I r k) nb 94 0 nI ?_ ?_ (m := 5000) (by omega)
  · obtain ⟨⟨x, I2⟩, k1, m, k2, k3, k4, k5, k6⟩ := key
    dsimp only at k3 k4 k5 k6
    exact ⟨m, I2, k2, by unfold fX12_order; rw [k1, k3], k4, k5, k6⟩
  · intro i I2 hi f1 f2
    dsimp only
    unfold fX12_order_2
    rw [f1 73 (by decide), h8, if_neg (nI_ge hi (by omega)), px_gd (px_ix (by omega) (by decide)), nI_clamp (by omega), Nat.zero_add]
  · intro I2 f1 f2
    dsimp only
    obtain ⟨x, k1, k2⟩ := main I2 (fun r hr _ => f1 r (by unfold rx_sc at hr; omega)) (fun j hj => by rw [f2 j, if_pos (by omega), Nat.sub_zero])
    unfold fX12_order_2
    rw [f1 73 (by decide), h8, if_pos (nI_le (Nat.le_refl _) (by omega)), k1]
    exact ⟨_, rfl, k2⟩
theorem pr_order (hR : rx_R S I J P) : lz_pr l G rx_R mX11_order 6 mX12_order 5 [] S I J P := by
  obtain ⟨hB, hZ, ⟨i, hS⟩, np, nb, nl, fa, lc, dr, t, F, hG, ⟨q, w, hN⟩, ⟨dn, kp, hA⟩, ⟨bf, hX⟩, ⟨c0, hL⟩, ⟨z, hP⟩, hU, cn, tm, hW⟩ := id hR
  obtain ⟨v1, v2, v3, v4, v5, v6, v7, v8, v9, v10, v11, v12, v13, v14⟩ := hG.1
  obtain ⟨n1, n2, n3, n4, n5⟩ := id hN
  have hQ : rx_Q I P np nb fa (I 5) F q w := ⟨v1, v2, v4, v5, v7, v11, v6, v8, v12, fun _ _ => rfl, v13, hG.2.2.1, hG.2.2.2, n1, n2, n3, n4, n5⟩
  obtain ⟨c, hc⟩ : ∃ c : Nat → Nat, ∀ i, c i = (or_go F (I 5) np fa w (or_r nb i) nb).2 := ⟨_, fun _ => rfl⟩
  obtain ⟨m, I1, x0, x1, x2, x3⟩ := px_bestOrder hQ hc
  obtain ⟨I2, d1, d2, d3, d4⟩ := px_lay (I := I1) (r1 := 40) (n1 := 6) (m := nb) (by decide) (by omega) (Or.inl rfl)
  have hx : fX11_order I P = some (nI (c m), I2) := by
    unfold fX11_order
    rw [n1, px_bd, x1, px_bd]
    dsimp only
    rw [x3 3 (by unfold rx_sc; omega), v7, d1, px_bd]
  have hQ2 : rx_Q I2 P np nb fa (I 5) F q w := rx_Q_L hQ (fun r k hd hs => by
    unfold rx_dL at hd
    rw [d4 r k (by omega) (by omega), x3 r hs])
  obtain ⟨m', I3, y0, y1, y2, y3, y4⟩ := px_morder hQ2 hc
  obtain rfl : m = m' := by rw [x0] at y0; cases y0; rfl
  refine ⟨nI (c m), S, I2, J, P, S, I3, J, P, fun Q hQ => mX11_order_ok hB hx hQ, fun Q hQ => mX12_order_ok hB y1 hQ, hB.1 73 _ rfl, ?_⟩
  refine rx_R_L (c2 := nb) hB hZ ⟨i, hS⟩ hG hN hA hX hP hU hW (fun r k hd hs => ?_) ⟨by omega, ?_, y3, fun j hj => ?_⟩
  · unfold rx_dL at hd
    rw [y4 r k hs (by omega) (by omega), d4 r k (by omega) (by omega), x3 r hs]
  · rw [y4 0 9 (by unfold rx_sc; omega) (by decide) (by decide)]; exact d2
  · rw [y2 j hj, y4 55 j (by unfold rx_sc; omega) (by decide) (by omega), d3 j hj, x2 j hj]
end ORDQ
