/-! ===== what fits: the reference ===== -/
section FITM
variable {I : ab_I} {P : ab_P} {np nb nl fa lc dr q cn dm : Nat} {t w w1 : Nat → Nat} {F : Int32 → Int32 → Int32 → Int32 → Int32 → Int32 → Int32} {hrs : Nat → Int32} {D B Q : Nat → Nat} {is ct : Nat → Bool} {k : Int32}
theorem px_mdayR (hQ : rx_Q I P np nb fa hrs F q w) (hw : rx_is np (I 90) w1) (ho : rx_ok np nb dm w1) : ∃ I', fX12_goDay 0 I = some (nI (sp_dy F hrs np false fa w1 nb).2, I') ∧ rx_is np (I' 90) (sp_day F hrs np false fa w1 nb) ∧ (∀ j, j < nb → I' 91 j = sp_rgr F hrs np false fa w1 j) ∧ ∀ r, r ≠ 81 → r ≠ 82 → r ≠ 90 → r ≠ 91 → I' r = I r := by
  obtain ⟨h1, h2, h3, h4, h5, h6, h7, h8, h9, h10, h11, h12, h13, h14, h15, h16, h17, h18⟩ := id hQ
  obtain ⟨I2, d1, d2, d3, d4⟩ := px_goDay (hrs := hrs) h1 h2 h7 h8 h9 h3 h13 h11 hw ho false
  rw [show ((if false = true then 1 else 0) : Int32) = 0 from rfl] at d1
  exact ⟨I2, d1, d2, d3, d4⟩
theorem wz_ix (v d b : Nat) : ((60 : Int32) * nI v) + ((5 : Int32) * nI d) + nI b = nI (60 * v + 5 * d + b) := by
  rw [show (60 : Int32) = nI 60 from rfl, show (5 : Int32) = nI 5 from rfl, pk_mul, pk_mul, px_add, px_add]
theorem px_fitsLoss {v : Nat} {r : Nat → Nat → Int32} (hW : rx_Wd I np nb cn D B Q is ct k) (hnb : nb ≤ 5) (hv : v ≤ 20) (h104 : ∀ d b, d < 12 → b < nb → I 104 (60 * v + 5 * d + b) = r d b) : fX12_fitsLoss (nI v) k I = some (if sp_fit r cn D B Q is ct = true then 1 else 0) := by
  obtain ⟨h1, h2, h3, h4⟩ := id hW
  have tru : (∀ i, i < cn → ct i = true → sp_fok r D B Q is i = true) → (1 : Int32) = (if sp_fit r cn D B Q is ct = true then 1 else 0) := fun h => by
    unfold sp_fit
    rw [if_pos (decide_eq_true h)]
  have fal : ∀ i, i < cn → ct i = true → sp_fok r D B Q is i = false → (0 : Int32) = (if sp_fit r cn D B Q is ct = true then 1 else 0) := fun i hi hc hf => by
    rw [if_neg]
    intro h
    have := of_decide_eq_true h i hi hc
    rw [hf] at this
    exact absurd this (by decide)
  have key := px_forE (body := fun s : Int32 × Int32 => fX12_fitsLoss_5 (nI v) k I s.1 s.2) (Out := fun x : Int32 => x = (if sp_fit r cn D B Q is ct = true then 1 else 0))
    (fun j s => s.2 = nI j ∧ ((s.1 = 1 ∧ ∀ i, i < j → ct i = true → sp_fok r D B Q is i = true) ∨ (s.1 = 0 ∧ ∃ i, i < cn ∧ ct i = true ∧ sp_fok r D B Q is i = false))) cn ?_ ?_ cn 0 5000 (1, 0) (by omega) (by omega) ⟨rfl, Or.inl ⟨rfl, fun i hi => absurd hi (Nat.not_lt_zero i)⟩⟩
  · obtain ⟨x, k1, k2⟩ := key
    unfold fX12_fitsLoss
    rw [k1, k2]
  · rintro i ⟨a, b⟩ hi ⟨e1, e2⟩
    dsimp only at e1 e2 ⊢
    subst e1
    obtain ⟨c1, c2, c3, c4, c5, c6, c7, c8, c9, c10, c11, c12, c13, c14⟩ := h4 i hi
    have hg : ab_ix (nI i) 30 = true := px_ix (by omega) (by decide)
    rcases e2 with ⟨rfl, e2⟩ | ⟨rfl, m, e2, e3, e4⟩
    · unfold fX12_fitsLoss_5 fX12_fitsLoss_103
      rw [h3, if_neg (nI_ge hi (by omega)), if_neg (by decide), px_gd hg, nI_clamp (by omega)]
      have nx : (ct i = true → sp_fok r D B Q is i = true) → ∀ j, j < i + 1 → ct j = true → sp_fok r D B Q is j = true := fun hi0 j hj a => by
        by_cases ej : j = i
        · subst ej; exact hi0 a
        · exact e2 j (by omega) a
      have chk : ct i = true → ∃ s', fX12_fitsLoss_53 (nI v) k I (nI i) = some (.inl s') ∧ (s'.2 = nI (i + 1) ∧ ((s'.1 = 1 ∧ ∀ j, j < i + 1 → ct j = true → sp_fok r D B Q is j = true) ∨ (s'.1 = 0 ∧ ∃ j, j < cn ∧ ct j = true ∧ sp_fok r D B Q is j = false))) := fun ec => by
        obtain ⟨d, hd⟩ : ∃ d, D i = d + 1 := ⟨D i - 1, by omega⟩
        unfold fX12_fitsLoss_53 fX12_wasAt fX12_fitsLoss_87 fX12_fitsLoss_102 fX12_fitsLoss_103
        rw [px_gd hg, px_gd hg, nI_clamp (by omega), c6, c8, hd, nI_pred, wz_ix, px_gd (px_ix (by omega) (by decide)), nI_clamp (n := 60 * v + 5 * d + B i) (by omega), h104 d (B i) (by omega) c3, px_bd, px_gd hg, c10, px_gd hg, px_gd hg, c12]
        have er : r d (B i) = r (D i - 1) (B i) := by rw [hd, Nat.add_sub_cancel]
        rw [er]
        by_cases e : r (D i - 1) (B i) = nI (Q i)
        · rw [if_pos e]
          by_cases e5 : is i = true
          · rw [if_pos e5, if_pos rfl]
            refine ⟨_, rfl, (nI_succ i).symm, Or.inl ⟨rfl, nx (fun _ => ?_)⟩⟩
            unfold sp_fok
            rw [decide_eq_true e, e5]; rfl
          · rw [if_neg e5, if_neg (by decide)]
            refine ⟨_, rfl, (nI_succ i).symm, Or.inr ⟨rfl, i, hi, ec, ?_⟩⟩
            unfold sp_fok
            rw [decide_eq_true e, show is i = false by simpa using e5]; rfl
        · rw [if_neg e]
          by_cases e5 : is i = true
          · rw [if_pos e5, if_neg (by decide)]
            refine ⟨_, rfl, (nI_succ i).symm, Or.inr ⟨rfl, i, hi, ec, ?_⟩⟩
            unfold sp_fok
            rw [decide_eq_false e, e5]; rfl
          · rw [if_neg e5, if_pos rfl]
            refine ⟨_, rfl, (nI_succ i).symm, Or.inl ⟨rfl, nx (fun _ => ?_)⟩⟩
            unfold sp_fok
            rw [decide_eq_false e, show is i = false by simpa using e5]; rfl
      left
      by_cases a : k < I 101 i
      · rw [if_pos a]
        exact ⟨_, rfl, (nI_succ i).symm, Or.inl ⟨rfl, nx (fun h => absurd a (c14.mp h).1)⟩⟩
      · rw [if_neg a, px_gd hg]
        by_cases b : I 102 i < 0
        · rw [if_pos b]
          exact chk (c14.mpr ⟨a, Or.inl b⟩)
        · rw [if_neg b, px_gd hg]
          by_cases c : k < I 102 i
          · rw [if_pos c]
            exact chk (c14.mpr ⟨a, Or.inr c⟩)
          · rw [if_neg c]
            exact ⟨_, rfl, (nI_succ i).symm, Or.inl ⟨rfl, nx (fun h => absurd (c14.mp h).2 (fun h => h.elim b c))⟩⟩
    · right
      unfold fX12_fitsLoss_5 fX12_fitsLoss_109
      rw [h3, if_neg (nI_ge hi (by omega)), if_pos rfl, px_gd (Or.inl rfl)]
      exact ⟨_, rfl, fal m e2 e3 e4⟩
  · rintro ⟨a, b⟩ ⟨e1, e2⟩
    dsimp only at e1 e2 ⊢
    subst e1
    unfold fX12_fitsLoss_5 fX12_fitsLoss_109
    rw [h3, if_pos (nI_le (Nat.le_refl _) (by omega))]
    rcases e2 with ⟨rfl, e2⟩ | ⟨rfl, m, e2, e3, e4⟩
    · rw [px_gd (Or.inr rfl)]
      exact ⟨_, rfl, tru e2⟩
    · rw [px_gd (Or.inl rfl)]
      exact ⟨_, rfl, fal m e2 e3 e4⟩
theorem px_lfB {a1 a2 : Int32} {v d : Nat} {r : Nat → Int32} (hnb : nb ≤ 5) (hv : v ≤ 20) (hd : d < 12) (h40 : I 73 40 = nI nb) (hr : ∀ b, b < nb → I 91 b = r b) :
    ∃ I', ab_it (fun s : Int32 × Int32 × Int32 × Int32 × ab_I => fX12_layFits_53 a1 s.1 s.2.1 s.2.2.1 s.2.2.2.1 s.2.2.2.2) 5000 (a2, nI v, nI d, 0, I) = some (.inl (a2, nI v, nI d + 1, I')) ∧ (∀ b, b < nb → I' 104 (60 * v + 5 * d + b) = r b) ∧ (∀ j, (j < 60 * v + 5 * d ∨ 60 * v + 5 * d + nb ≤ j) → I' 104 j = I 104 j) ∧ ∀ r, r ≠ 104 → I' r = I r := by
  have key := px_for (body := fun s : Int32 × Int32 × Int32 × Int32 × ab_I => fX12_layFits_53 a1 s.1 s.2.1 s.2.2.1 s.2.2.2.1 s.2.2.2.2) (Out := fun x : (Int32 × Int32 × Int32 × ab_I) ⊕ ((Int32 × Int32 × ab_I) ⊕ (Int32 × ab_I)) => ∃ I', x = .inl (a2, nI v, nI d + 1, I') ∧ (∀ b, b < nb → I' 104 (60 * v + 5 * d + b) = r b) ∧ (∀ j, (j < 60 * v + 5 * d ∨ 60 * v + 5 * d + nb ≤ j) → I' 104 j = I 104 j) ∧ ∀ r, r ≠ 104 → I' r = I r)
    (fun i s => s.1 = a2 ∧ s.2.1 = nI v ∧ s.2.2.1 = nI d ∧ s.2.2.2.1 = nI i ∧ (∀ b, b < i → s.2.2.2.2 104 (60 * v + 5 * d + b) = r b) ∧ (∀ j, (j < 60 * v + 5 * d ∨ 60 * v + 5 * d + i ≤ j) → s.2.2.2.2 104 j = I 104 j) ∧ ∀ r, r ≠ 104 → s.2.2.2.2 r = I r) nb ?_ ?_ nb 0 5000 (a2, nI v, nI d, 0, I) (by omega) (by omega) ⟨rfl, rfl, rfl, rfl, fun b hb => absurd hb (Nat.not_lt_zero b), fun _ _ => rfl, fun _ _ => rfl⟩
  · obtain ⟨x, k1, I', k2, k3⟩ := key
    exact ⟨I', by rw [k1, k2], k3⟩
  · rintro i ⟨s1, s2, s3, s4, I2⟩ hi ⟨e1, e2, e3, e4, e5, e6, e7⟩
    dsimp only at e1 e2 e3 e4 e5 e6 e7 ⊢
    subst e1 e2 e3 e4
    unfold fX12_layFits_53
    rw [e7 73 (by decide), h40, if_neg (nI_ge hi (by omega)), px_gd (px_ix (by omega) (by decide)), wz_ix, px_gd (px_ix (by omega) (by decide)), nI_clamp (by omega), nI_clamp (n := i) (by omega), e7 91 (by decide), hr i hi]
    refine ⟨_, rfl, rfl, rfl, rfl, (nI_succ i).symm, fun b hb => ?_, fun j hj => ?_, fun x hx => ?_⟩
    · dsimp only
      by_cases eb : b = i
      · rw [eb, ab_u_at]
      · rw [ab_u_ne (by omega)]; exact e5 b (by omega)
    · dsimp only
      rw [ab_u_ne (by omega)]; exact e6 j (by omega)
    · dsimp only
      rw [ab_u_o hx]; exact e7 x hx
  · rintro ⟨s1, s2, s3, s4, I2⟩ ⟨e1, e2, e3, e4, e5, e6, e7⟩
    dsimp only at e1 e2 e3 e4 e5 e6 e7 ⊢
    subst e1 e2 e3 e4
    unfold fX12_layFits_53 fX12_layFits_92
    rw [e7 73 (by decide), h40, if_pos (nI_le (Nat.le_refl _) (by omega))]
    exact ⟨_, rfl, _, rfl, e5, e6, e7⟩
theorem px_lfD {a2 : Nat} {v : Nat} (hH : rx_H I P np nb nl fa lc dr t F hrs q w) (hW : rx_Wd I np nb cn D B Q is ct k) (hl : 0 < nl) (hv : v ≤ 20) (h90 : rx_is np (I 90) (sp_bw np t lc 0 v)) :
    ∃ I', ab_it (fun s : Int32 × Int32 × Int32 × ab_I => fX12_layFits_37 k s.1 s.2.1 s.2.2.1 s.2.2.2) 5000 (nI a2, nI v, 0, I) = some (.inl (nI (a2 + (sp_fit (sp_r F hrs np fa nb t lc dr v) cn D B Q is ct).toNat), nI (v + 1), I')) ∧ I' 106 v = (if sp_fit (sp_r F hrs np fa nb t lc dr v) cn D B Q is ct = true then 1 else 0) ∧ (∀ j, j ≠ v → I' 106 j = I 106 j) ∧ (∀ d b, d < 12 → b < nb → I' 104 (60 * v + 5 * d + b) = sp_r F hrs np fa nb t lc dr v d b) ∧ (∀ j, j < 60 * v → I' 104 j = I 104 j) ∧ ∀ r, ¬ rx_sc r → I' r = I r := by
  obtain ⟨h1, h2, h3, h4, h5, h6, h7, h8, h9, h10, h11, h12, h13, h14, h15, h16, h17, h18⟩ := id hH.1
  have ho0 := sp_bw_ok (s := 0) (v := v) h1 h2 hH.2.1 (by omega) hl hv
  have hrr : ∀ d b, b < 5 → sp_rgr F hrs np false fa (sp_go F hrs np false fa nb (sp_bw np t lc 0 v) d).1 b = sp_r F hrs np fa nb t lc dr v d b := fun d b hb => sp_rgr_s (sp_go_s (sp_bw_s np t lc 0 dr v) h1 h2 d) h1 hb
  have key := px_for (body := fun s : Int32 × Int32 × Int32 × ab_I => fX12_layFits_37 k s.1 s.2.1 s.2.2.1 s.2.2.2) (Out := fun x : (Int32 × Int32 × ab_I) ⊕ (Int32 × ab_I) => ∃ I', x = .inl (nI (a2 + (sp_fit (sp_r F hrs np fa nb t lc dr v) cn D B Q is ct).toNat), nI (v + 1), I') ∧ I' 106 v = (if sp_fit (sp_r F hrs np fa nb t lc dr v) cn D B Q is ct = true then 1 else 0) ∧ (∀ j, j ≠ v → I' 106 j = I 106 j) ∧ (∀ d b, d < 12 → b < nb → I' 104 (60 * v + 5 * d + b) = sp_r F hrs np fa nb t lc dr v d b) ∧ (∀ j, j < 60 * v → I' 104 j = I 104 j) ∧ ∀ r, ¬ rx_sc r → I' r = I r)
    (fun d s => s.1 = nI a2 ∧ s.2.1 = nI v ∧ s.2.2.1 = nI d ∧ rx_is np (s.2.2.2 90) (sp_go F hrs np false fa nb (sp_bw np t lc 0 v) d).1 ∧ (∀ d' b, d' < d → b < nb → s.2.2.2 104 (60 * v + 5 * d' + b) = sp_r F hrs np fa nb t lc dr v d' b) ∧ (∀ j, j < 60 * v → s.2.2.2 104 j = I 104 j) ∧ ∀ r, r ≠ 81 → r ≠ 82 → r ≠ 90 → r ≠ 91 → r ≠ 104 → s.2.2.2 r = I r) 12 ?_ ?_ 12 0 5000 (nI a2, nI v, 0, I) (by omega) (by omega) ⟨rfl, rfl, rfl, h90, fun d' b hd => absurd hd (Nat.not_lt_zero d'), fun _ _ => rfl, fun _ _ _ _ _ _ => rfl⟩
  · obtain ⟨x, k1, I', k2, k3⟩ := key
    exact ⟨I', by rw [k1, k2], k3⟩
  · rintro d ⟨s1, s2, s3, I2⟩ hd ⟨e1, e2, e3, e4, e5, e6, e7⟩
    dsimp only at e1 e2 e3 e4 e5 e6 e7 ⊢
    subst e1 e2 e3
    have hQ2 := rx_Q_sc hH.1 (I' := I2) (fun r hr => by unfold rx_sc at hr; exact e7 r (by omega) (by omega) (by omega) (by omega) (by omega))
    obtain ⟨I3, c1, c2, c3, c4⟩ := px_mdayR hQ2 e4 (sp_go_ok h1 h2 ho0 d)
    obtain ⟨I4, d1, d2, d3, d4⟩ := px_lfB (I := I3) (a1 := k) (a2 := nI a2) (v := v) (d := d) (r := fun b => sp_r F hrs np fa nb t lc dr v d b) h2 hv hd (by rw [c4 73 (by decide) (by decide) (by decide) (by decide)]; exact hQ2.2.2.2.2.2.2.2.1) (fun b hb => by rw [c3 b hb]; exact hrr d b (by omega))
    unfold fX12_layFits_37
    rw [if_neg (show ¬ (12 : Int32) ≤ nI d from nI_ge (b := 12) hd (by decide)), c1, px_bd]
    dsimp only
    rw [d1]
    refine ⟨_, rfl, rfl, rfl, (nI_succ d).symm, ?_, fun d' b hd' hb => ?_, fun j hj => ?_, fun r a1 a2 a3 a4 a5 => ?_⟩
    · dsimp only
      rw [d4 90 (by decide)]
      exact c2
    · dsimp only
      by_cases ed : d' = d
      · subst ed; exact d2 b hb
      · rw [d3 _ (by omega), c4 104 (by decide) (by decide) (by decide) (by decide)]
        exact e5 d' b (by omega) hb
    · dsimp only
      rw [d3 j (by omega), c4 104 (by decide) (by decide) (by decide) (by decide)]
      exact e6 j hj
    · dsimp only
      rw [d4 r a5, c4 r a1 a2 a3 a4]
      exact e7 r a1 a2 a3 a4 a5
  · rintro ⟨s1, s2, s3, I2⟩ ⟨e1, e2, e3, e4, e5, e6, e7⟩
    dsimp only at e1 e2 e3 e4 e5 e6 e7 ⊢
    subst e1 e2 e3
    have f2 : ∀ r, ¬ rx_sc r → I2 r = I r := fun r hr => by unfold rx_sc at hr; exact e7 r (by omega) (by omega) (by omega) (by omega) (by omega)
    have hfl := px_fitsLoss (rx_Wd_sc hW f2) h2 hv e5
    generalize hfit : sp_fit (sp_r F hrs np fa nb t lc dr v) cn D B Q is ct = ft at hfl ⊢
    have f01 : ((if ft = true then 1 else 0 : Int32) = 0 ∨ (if ft = true then 1 else 0 : Int32) = 1) := by cases ft <;> simp
    have ftr : fX12_truth (if ft = true then 1 else 0 : Int32) = some (nI ft.toNat) := by cases ft <;> rfl
    unfold fX12_layFits_37 fX12_layFits_98
    rw [if_pos (show (12 : Int32) ≤ nI 12 by decide), hfl, px_bd, px_gd (px_ix (by omega) (by decide)), px_gd f01, px_gd (px_ix (by omega) (by decide)), nI_clamp (by omega), ab_u_at, ftr, px_bd, px_add, ← nI_succ]
    refine ⟨_, rfl, _, rfl, ab_u_at, fun j hj => ?_, fun d b hd hb => ?_, fun j hj => ?_, fun r hr => ?_⟩
    · rw [ab_u_ne hj, e7 106 (by decide) (by decide) (by decide) (by decide) (by decide)]
    · rw [ab_u_o (by decide)]; exact e5 d b hd hb
    · rw [ab_u_o (by decide)]; exact e6 j hj
    · have hr' := hr
      unfold rx_sc at hr
      rw [ab_u_o (by omega)]; exact f2 r hr'
theorem px_layFits (hH : rx_H I P np nb nl fa lc dr t F hrs q w) (hW : rx_Wd I np nb cn D B Q is ct k) (hl : 0 < nl) {g : Nat → Bool} (hg : ∀ v, g v = sp_fit (sp_r F hrs np fa nb t lc dr v) cn D B Q is ct) :
    ∃ I', fX12_layFits k I = some (nI (sp_cnt g 21), I') ∧ (∀ v, v < 21 → I' 106 v = (if g v = true then 1 else 0)) ∧ (∀ v d b, v < 21 → d < 12 → b < nb → I' 104 (60 * v + 5 * d + b) = sp_r F hrs np fa nb t lc dr v d b) ∧ ∀ r, ¬ rx_sc r → I' r = I r := by
  have key := px_for (body := fun s : Int32 × Int32 × ab_I => fX12_layFits_4 k s.1 s.2.1 s.2.2) (Out := fun x : Int32 × ab_I => x.1 = nI (sp_cnt g 21) ∧ (∀ v, v < 21 → x.2 106 v = (if g v = true then 1 else 0)) ∧ (∀ v d b, v < 21 → d < 12 → b < nb → x.2 104 (60 * v + 5 * d + b) = sp_r F hrs np fa nb t lc dr v d b) ∧ ∀ r, ¬ rx_sc r → x.2 r = I r)
    (fun i s => s.1 = nI (sp_cnt g i) ∧ s.2.1 = nI i ∧ (∀ v, v < i → s.2.2 106 v = (if g v = true then 1 else 0)) ∧ (∀ v d b, v < i → d < 12 → b < nb → s.2.2 104 (60 * v + 5 * d + b) = sp_r F hrs np fa nb t lc dr v d b) ∧ ∀ r, ¬ rx_sc r → s.2.2 r = I r) 21 ?_ ?_ 21 0 5000 (0, 0, I) (by omega) (by omega) ⟨rfl, rfl, fun v hv => absurd hv (Nat.not_lt_zero v), fun v d b hv => absurd hv (Nat.not_lt_zero v), fun _ _ => rfl⟩
  · obtain ⟨⟨x, I2⟩, k1, k2, k3⟩ := key
    dsimp only at k2 k3
    refine ⟨I2, ?_, k3⟩
    unfold fX12_layFits
    rw [k1, k2]
  · rintro v ⟨s1, s2, I2⟩ hv ⟨e1, e2, e3, e4, e5⟩
    dsimp only at e1 e2 e3 e4 e5 ⊢
    subst e1 e2
    have h20 : ¬ (20 : Int32) < nI v := nI_nlt (a := 20) (by omega) (by decide)
    have hH2 := rx_H_sc hH e5
    have hnb := hH2.1.2.1
    obtain ⟨I3, c1, c2, c3, c4⟩ := px_mbeginWith (v := v) hH2.1.1 hH2.1.2.2.2.2.2.2.1 hH2.2.1 hl
    have f3 : ∀ r, ¬ rx_sc r → ab_u I3 90 ((13 : Int32) + I3 73 42).toNatClampNeg (nI v) r = I2 r := fun r hr => by
      unfold rx_sc at hr
      rw [ab_u_o (by omega), c4 r (by omega)]
    obtain ⟨I4, d1, d2, d3, d4, d5, d6⟩ := px_lfD (a2 := sp_cnt g v) (rx_H_sc hH2 f3) (rx_Wd_sc hW (fun r hr => (f3 r hr).trans (e5 r hr))) hl (by omega) c3
    unfold fX12_layFits_4
    rw [if_neg h20, hH2.2.2.2.1, if_neg (nI_nle hl (by have := hH.2.2.2.2; omega)), c1, px_bd, px_gd c2, d1, ← hg v]
    have g106 : ∀ j, ab_u I3 90 ((13 : Int32) + I3 73 42).toNatClampNeg (nI v) 106 j = I2 106 j := fun j => by rw [ab_u_o (by decide), c4 106 (by decide)]
    have g104 : ∀ j, ab_u I3 90 ((13 : Int32) + I3 73 42).toNatClampNeg (nI v) 104 j = I2 104 j := fun j => by rw [ab_u_o (by decide), c4 104 (by decide)]
    refine ⟨_, rfl, rfl, rfl, fun j hj => ?_, fun j d b hj hd hb => ?_, fun r hr => ?_⟩
    · dsimp only
      by_cases ej : j = v
      · subst ej; rw [d2, hg j]
      · rw [d3 j ej, g106]; exact e3 j (by omega)
    · dsimp only
      by_cases ej : j = v
      · subst ej; exact d4 d b hd hb
      · rw [d5 _ (by omega), g104]; exact e4 j d b (by omega) hd hb
    · dsimp only
      rw [d6 r hr, f3 r hr]; exact e5 r hr
  · rintro ⟨s1, s2, I2⟩ ⟨e1, e2, e3, e4, e5⟩
    dsimp only at e1 e2 e3 e4 e5 ⊢
    subst e1 e2
    unfold fX12_layFits_4 fX12_layFits_128
    rw [if_pos (by decide)]
    exact ⟨_, rfl, rfl, e3, e4, e5⟩
end FITM
