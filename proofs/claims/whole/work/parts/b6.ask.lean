/-! ===== the next bell to ask for ===== -/
def sp_mx (f : Nat → Nat) : Nat → Nat
  | 0 => 0
  | n + 1 => if sp_mx f n < f n then f n else sp_mx f n
theorem sp_mx_ge {f : Nat → Nat} : ∀ n x, x < n → f x ≤ sp_mx f n
  | 0, x, h => absurd h (Nat.not_lt_zero x)
  | n + 1, x, h => by
    rw [sp_mx]
    by_cases e : x = n
    · subst e; split <;> omega
    · have ih := sp_mx_ge (f := f) n x (by omega)
      split <;> omega
theorem sp_mx_le {f : Nat → Nat} {M : Nat} : ∀ n, (∀ x, x < n → f x ≤ M) → sp_mx f n ≤ M
  | 0, _ => Nat.zero_le _
  | n + 1, h => by
    rw [sp_mx]
    have ih := sp_mx_le (f := f) (M := M) n (fun x hx => h x (by omega))
    have := h n (by omega)
    split <;> omega
theorem sp_mx_z {f : Nat → Nat} {n m : Nat} (hnm : n ≤ m) (h : ∀ x, n ≤ x → x < m → f x = 0) : sp_mx f n = sp_mx f m := by
  refine Nat.le_antisymm (sp_mx_le n (fun x hx => sp_mx_ge m x (by omega))) (sp_mx_le m (fun x hx => ?_))
  by_cases e : x < n
  · exact sp_mx_ge n x e
  · rw [h x (by omega) hx]; exact Nat.zero_le _
theorem sp_mx_up {f f' : Nat → Nat} {n x0 : Nat} (hx : x0 < n) (h1 : f' x0 = f x0 + 1) (h2 : ∀ x, x ≠ x0 → f' x = f x) : sp_mx f' n = if f' x0 ≤ sp_mx f n then sp_mx f n else f' x0 := by
  have g0 := sp_mx_ge (f := f') n x0 hx
  have g1 := sp_mx_ge (f := f) n x0 hx
  have up : sp_mx f n ≤ sp_mx f' n := sp_mx_le n (fun x hx' => by
    by_cases e : x = x0
    · subst e; omega
    · rw [← h2 x e]; exact sp_mx_ge n x hx')
  by_cases e : f' x0 ≤ sp_mx f n
  · rw [if_pos e]
    refine Nat.le_antisymm (sp_mx_le n (fun x hx' => ?_)) up
    by_cases ex : x = x0
    · subst ex; exact e
    · rw [h2 x ex]; exact sp_mx_ge n x hx'
  · rw [if_neg e]
    refine Nat.le_antisymm (sp_mx_le n (fun x hx' => ?_)) g0
    by_cases ex : x = x0
    · subst ex; exact Nat.le_refl _
    · have := sp_mx_ge (f := f) n x hx'
      rw [h2 x ex]; omega
/-- how many that fit have x as their ringer's number -/
def sp_ca (g : Nat → Bool) (ri : Nat → Nat → Nat) (b v x : Nat) : Nat := sp_cnt (fun u => g u && decide (ri u b = x)) v
theorem sp_ca_n {g : Nat → Bool} {ri : Nat → Nat → Nat} {b v x : Nat} (h : ¬ (g v = true ∧ ri v b = x)) : sp_ca g ri b (v + 1) x = sp_ca g ri b v x := by
  unfold sp_ca
  rw [sp_cnt]
  have : (g v && decide (ri v b = x)) = false := by
    cases hg : g v with
    | false => rfl
    | true =>
      rw [Bool.true_and]
      exact decide_eq_false (fun e => h ⟨hg, e⟩)
  rw [this]; rfl
theorem sp_ca_y {g : Nat → Bool} {ri : Nat → Nat → Nat} {b v x : Nat} (h1 : g v = true) (h2 : ri v b = x) : sp_ca g ri b (v + 1) x = sp_ca g ri b v x + 1 := by
  unfold sp_ca
  rw [sp_cnt, h1, decide_eq_true h2]; rfl
section ASK
variable {S : ab_S} {I : ab_I} {J : ab_J} {P : ab_P} {l : Launch} {G : ab_G} {np nb nl fa lc dr q cn dm : Nat} {t w w1 : Nat → Nat} {F : Int32 → Int32 → Int32 → Int32 → Int32 → Int32 → Int32} {hrs : Nat → Int32} {g : Nat → Bool} {ri : Nat → Nat → Nat}
theorem px_dayW (hQ : rx_Q I P np nb fa hrs F q w) (hw : rx_is np (rx_v I 42) w1) (ho : rx_ok np nb dm w1) : ∃ I', fX5_passDay 42 0 I = some (nI (sp_dy F hrs np false fa w1 nb).2, I') ∧ rx_is np (rx_v I' 42) (sp_day F hrs np false fa w1 nb) ∧ (∀ j, j < nb → I' 24 j = sp_rgr F hrs np false fa w1 j) ∧ ∀ r, r ≠ 9 → r ≠ 10 → r ≠ 24 → (r < 42 ∨ 45 < r) → I' r = I r := by
  obtain ⟨h1, h2, h3, h4, h5, h6, h7, h8, h9, h10, h11, h12, h13, h14, h15, h16, h17, h18⟩ := id hQ
  obtain ⟨I2, d1, d2, d3, d4⟩ := px_passDay (hrs := hrs) (q := 42) (by omega) h1 h2 h4 h5 h6 h3 h12 h10 hw ho false
  rw [show ((if false = true then 1 else 0) : Int32) = 0 from rfl] at d1
  exact ⟨I2, d1, d2, d3, d4⟩
theorem sp_r_ri (hn : np ≤ 6) (v d b : Nat) : ∃ x, x ≤ np ∧ sp_r F hrs np fa nb t lc dr v d b + 1 = nI x := by
  unfold sp_r sp_rgr sp_who
  rcases sp_rg_cases (F := F) (hr := hrs b) (w := (sp_dy F hrs np false fa (sp_go F hrs np false fa nb (sp_bw np t lc dr v) d).1 b).1) (b := b) np with h | ⟨p, hp, h, _, _⟩
  · exact ⟨0, Nat.zero_le _, by rw [h]; rfl⟩
  · exact ⟨p + 1, by omega, by rw [h, nI_succ]⟩
/-- a day's answers are counted -/
theorem px_caB {a1 a2 a3 : Int32} {v : Nat} {r : Nat → Int32} (hnb : nb ≤ 5) (hv : v ≤ 20) (h35 : I 3 5 = nI nb) (hg : g v = true) (hr : ∀ b, b < nb → I 24 b = r b) (hri : ∀ b, b < nb → ri v b ≤ 6 ∧ r b + 1 = nI (ri v b)) (h52 : ∀ b x, b < nb → x < 7 → I 52 (7 * b + x) = nI (sp_ca g ri b v x)) :
    ∃ I', ab_it (fun s : Int32 × Int32 × ab_I => fX10_countAnswers_61 a1 a2 s.1 s.2.1 s.2.2) 5000 (a3, 0, I) = some (.inl (a3 + 1, I')) ∧ (∀ b x, b < nb → x < 7 → I' 52 (7 * b + x) = nI (sp_ca g ri b (v + 1) x)) ∧ ∀ r, r ≠ 52 → I' r = I r := by
  have key := px_for (body := fun s : Int32 × Int32 × ab_I => fX10_countAnswers_61 a1 a2 s.1 s.2.1 s.2.2) (Out := fun y : (Int32 × ab_I) ⊕ ab_I => ∃ I', y = .inl (a3 + 1, I') ∧ (∀ b x, b < nb → x < 7 → I' 52 (7 * b + x) = nI (sp_ca g ri b (v + 1) x)) ∧ ∀ r, r ≠ 52 → I' r = I r)
    (fun i s => s.1 = a3 ∧ s.2.1 = nI i ∧ (∀ b x, b < nb → x < 7 → s.2.2 52 (7 * b + x) = nI (sp_ca g ri b (if b < i then v + 1 else v) x)) ∧ ∀ r, r ≠ 52 → s.2.2 r = I r) nb ?_ ?_ nb 0 5000 (a3, 0, I) (by omega) (by omega) ⟨rfl, rfl, fun b x hb hx => by rw [if_neg (by omega)]; exact h52 b x hb hx, fun _ _ => rfl⟩
  · obtain ⟨y, k1, I', k2, k3⟩ := key
    exact ⟨I', by rw [k1, k2], k3⟩
  · rintro i ⟨s1, s2, I2⟩ hi ⟨e1, e2, e3, e4⟩
    dsimp only at e1 e2 e3 e4 ⊢
    subst e1 e2
    obtain ⟨y1, y2⟩ := hri i hi
    have eix : nI i * (7 : Int32) + r i + 1 = nI (7 * i + ri v i) := by
      rw [Int32.add_assoc, y2, show (7 : Int32) = nI 7 from rfl, pk_mul, px_add, Nat.mul_comm]
    have ec := e3 i (ri v i) hi (by omega)
    rw [if_neg (by omega)] at ec
    unfold fX10_countAnswers_61 fX10_answer
    rw [e4 3 (by decide), h35, if_neg (nI_ge hi (by omega)), px_gd (px_ix (by omega) (by decide)), nI_clamp (n := i) (by omega), e4 24 (by decide), hr i hi, px_bd, eix, px_gd (px_ix (by omega) (by decide)), px_gd (px_ix (by omega) (by decide)), nI_clamp (by omega), ec]
    refine ⟨_, rfl, rfl, (nI_succ i).symm, fun b x hb hx => ?_, fun r hr => ?_⟩
    · dsimp only
      by_cases eb : b = i
      · subst eb
        rw [if_pos (by omega)]
        by_cases ex : x = ri v b
        · rw [ex, ab_u_at, sp_ca_y hg rfl, nI_succ]
        · rw [ab_u_ne (by omega), e3 b x hb hx, if_neg (by omega), sp_ca_n (fun h => ex h.2.symm)]
      · rw [ab_u_ne (by omega), e3 b x hb hx]
        by_cases e : b < i
        · rw [if_pos e, if_pos (by omega)]
        · rw [if_neg e, if_neg (by omega)]
    · dsimp only
      rw [ab_u_o hr]; exact e4 r hr
  · rintro ⟨s1, s2, I2⟩ ⟨e1, e2, e3, e4⟩
    dsimp only at e1 e2 e3 e4 ⊢
    subst e1 e2
    unfold fX10_countAnswers_61 fX10_countAnswers_103
    rw [e4 3 (by decide), h35, if_pos (nI_le (Nat.le_refl _) (by omega))]
    refine ⟨_, rfl, _, rfl, fun b x hb hx => ?_, e4⟩
    rw [e3 b x hb hx, if_pos hb]
theorem px_caD {a2 : Int32} {v d0 : Nat} (hH : rx_H I P np nb nl fa lc dr t F hrs q w) (hv : v ≤ 20) (hd : d0 < 12) (hl : 0 < nl) (hg : g v = true) (hri : ∀ u b, ri u b ≤ np ∧ sp_r F hrs np fa nb t lc dr u d0 b + 1 = nI (ri u b)) (h42 : rx_is np (rx_v I 42) (sp_bw np t lc dr v)) (h52 : ∀ b x, b < nb → x < 7 → I 52 (7 * b + x) = nI (sp_ca g ri b v x)) :
    ∃ I', ab_it (fun s : Int32 × Int32 × ab_I => fX10_countAnswers_33 (nI (d0 + 1)) a2 s.1 s.2.1 s.2.2) 5000 (nI v, 0, I) = some (.inl (nI v + 1, I')) ∧ (∀ b x, b < nb → x < 7 → I' 52 (7 * b + x) = nI (sp_ca g ri b (v + 1) x)) ∧ ∀ r, ¬ rx_sc r → I' r = I r := by
  obtain ⟨h1, h2, h3, h4, h5, h6, h7, h8, h9, h10, h11, h12, h13, h14, h15, h16, h17, h18⟩ := id hH.1
  have ho0 := sp_bw_ok (s := dr) (v := v) h1 h2 hH.2.1 hH.2.1.2.2.2.2.2 hl hv
  have key := px_for (body := fun s : Int32 × Int32 × ab_I => fX10_countAnswers_33 (nI (d0 + 1)) a2 s.1 s.2.1 s.2.2) (Out := fun y : (Int32 × ab_I) ⊕ ab_I => ∃ I', y = .inl (nI v + 1, I') ∧ (∀ b x, b < nb → x < 7 → I' 52 (7 * b + x) = nI (sp_ca g ri b (v + 1) x)) ∧ ∀ r, ¬ rx_sc r → I' r = I r)
    (fun i s => s.1 = nI v ∧ s.2.1 = nI i ∧ rx_is np (rx_v s.2.2 42) (sp_go F hrs np false fa nb (sp_bw np t lc dr v) i).1 ∧ (∀ m, i = m + 1 → ∀ b, b < nb → s.2.2 24 b = sp_r F hrs np fa nb t lc dr v m b) ∧ s.2.2 52 = I 52 ∧ ∀ r, ¬ rx_sc r → s.2.2 r = I r) (d0 + 1) ?_ ?_ (d0 + 1) 0 5000 (nI v, 0, I) (by omega) (by omega) ⟨rfl, rfl, h42, fun m hm => by omega, rfl, fun _ _ => rfl⟩
  · obtain ⟨y, k1, I', k2, k3⟩ := key
    exact ⟨I', by rw [k1, k2], k3⟩
  · rintro i ⟨s1, s2, I2⟩ hi ⟨e1, e2, e3, e4, e5, e6⟩
    dsimp only at e1 e2 e3 e4 e5 e6 ⊢
    subst e1 e2
    have hQ2 := rx_Q_sc hH.1 e6
    obtain ⟨I3, c1, c2, c3, c4⟩ := px_dayW hQ2 e3 (sp_go_ok h1 h2 ho0 i)
    unfold fX10_countAnswers_33
    rw [if_neg (nI_ge hi (by omega)), c1, px_bd]
    refine ⟨_, rfl, rfl, (nI_succ i).symm, c2, fun m hm b hb => ?_, ?_, fun r hr => ?_⟩
    · obtain rfl : m = i := by omega
      exact c3 b hb
    · dsimp only
      rw [c4 52 (by decide) (by decide) (by decide) (by decide)]; exact e5
    · dsimp only
      have hr' := hr
      unfold rx_sc at hr
      rw [c4 r (by omega) (by omega) (by omega) (by omega)]; exact e6 r hr'
  · rintro ⟨s1, s2, I2⟩ ⟨e1, e2, e3, e4, e5, e6⟩
    dsimp only at e1 e2 e3 e4 e5 e6 ⊢
    subst e1 e2
    have hQ2 := rx_Q_sc hH.1 e6
    obtain ⟨I3, c1, c2, c3⟩ := px_caB (I := I2) (a1 := nI (d0 + 1)) (a2 := a2) (a3 := nI v) (r := fun b => sp_r F hrs np fa nb t lc dr v d0 b) h2 hv hQ2.2.2.2.2.1 hg (e4 d0 rfl) (fun b hb => ⟨by have := (hri v b).1; omega, (hri v b).2⟩) (fun b x hb hx => by rw [e5]; exact h52 b x hb hx)
    unfold fX10_countAnswers_33 fX10_countAnswers_58
    rw [if_pos (nI_le (Nat.le_refl _) (by omega)), c1]
    exact ⟨_, rfl, _, rfl, c2, fun r hr => (c3 r (by unfold rx_sc at hr; omega)).trans (e6 r hr)⟩
theorem px_countAnswers {d0 : Nat} (hH : rx_H I P np nb nl fa lc dr t F hrs q w) (hd : d0 < 12) (hl : 0 < nl) (hri : ∀ u b, ri u b ≤ np ∧ sp_r F hrs np fa nb t lc dr u d0 b + 1 = nI (ri u b)) :
    ∃ I', fX10_countAnswers (nI (d0 + 1)) (nI (sp_msk g 21)) I = some I' ∧ (∀ b x, b < nb → x < 7 → I' 52 (7 * b + x) = nI (sp_ca g ri b 21 x)) ∧ ∀ r, ¬ rx_sc r → I' r = I r := by
  obtain ⟨h1, h2, h3, h4, h5, h6, h7, h8, h9, h10, h11, h12, h13, h14, h15, h16, h17, h18⟩ := id hH.1
  obtain ⟨I0, z1, z2, z3⟩ := px_fillr (I := I) (r0 := 52) (n0 := 35) (x := 0) (by decide)
  have key := px_for (body := fun s : Int32 × ab_I => fX10_countAnswers_10 (nI (d0 + 1)) (nI (sp_msk g 21)) s.1 s.2) (Out := fun I' : ab_I => (∀ b x, b < nb → x < 7 → I' 52 (7 * b + x) = nI (sp_ca g ri b 21 x)) ∧ ∀ r, ¬ rx_sc r → I' r = I r)
    (fun v s => s.1 = nI v ∧ (∀ b x, b < nb → x < 7 → s.2 52 (7 * b + x) = nI (sp_ca g ri b v x)) ∧ ∀ r, ¬ rx_sc r → s.2 r = I r) 21 ?_ ?_ 21 0 5000 (0, I0) (by omega) (by omega) ⟨rfl, fun b x hb hx => z2 _ (by omega), fun r hr => z3 r (by unfold rx_sc at hr; omega)⟩
  · obtain ⟨y, k1, k2⟩ := key
    refine ⟨y, ?_, k2⟩
    unfold fX10_countAnswers
    rw [z1, px_bd, k1]
  · rintro v ⟨s1, I2⟩ hv ⟨e1, e2, e3⟩
    dsimp only at e1 e2 e3 ⊢
    subst e1
    have h20 : ¬ (20 : Int32) < nI v := nI_nlt (a := 20) (by omega) (by decide)
    have hH2 := rx_H_sc hH e3
    unfold fX10_countAnswers_10 fX10_countAnswers_103
    rw [if_neg h20, sp_msk_g hv]
    by_cases e : g v = true
    · obtain ⟨I3, c1, c2, c3⟩ := px_beginWith (v := v) h1 hH2.1.2.2.2.1 hH2.2.1 hl
      have f3 : ∀ r, ¬ rx_sc r → I3 r = I2 r := fun r hr => c3 r (by unfold rx_sc at hr; omega)
      obtain ⟨I4, d1, d2, d3⟩ := px_caD (a2 := nI (sp_msk g 21)) (rx_H_sc hH2 f3) (by omega) hd hl e hri c2 (fun b x hb hx => by rw [c3 52 (by omega)]; exact e2 b x hb hx)
      rw [if_pos e, if_pos rfl, c1, px_bd, d1]
      exact ⟨_, rfl, (nI_succ v).symm, d2, fun r hr => ((d3 r hr).trans (f3 r hr)).trans (e3 r hr)⟩
    · rw [if_neg e, if_neg (by decide)]
      exact ⟨_, rfl, (nI_succ v).symm, fun b x hb hx => by rw [sp_ca_n (fun h => e h.1)]; exact e2 b x hb hx, e3⟩
  · rintro ⟨s1, I2⟩ ⟨e1, e2, e3⟩
    dsimp only at e1 e2 e3 ⊢
    subst e1
    unfold fX10_countAnswers_10 fX10_countAnswers_109
    rw [if_pos (by decide)]
    exact ⟨_, rfl, e2, e3⟩
theorem px_leftX {b : Nat} (hn : np ≤ 6) (hb : b < nb) (hnb : nb ≤ 5) (h34 : I 3 4 = nI np) (h52 : ∀ b x, b < nb → x < 7 → I 52 (7 * b + x) = nI (sp_ca g ri b 21 x)) : fX10_leftAtMost (nI b) I = some (nI (sp_mx (sp_ca g ri b 21) (np + 1))) := by
  have c21 : ∀ x, sp_ca g ri b 21 x ≤ 21 := fun x => sp_cnt_le _ 21
  have m21 : ∀ n, sp_mx (sp_ca g ri b 21) n ≤ 21 := fun n => sp_mx_le n (fun x _ => c21 x)
  have key := px_for (body := fun s : Int32 × Int32 => fX10_leftAtMost_4 (nI b) I s.1 s.2) (Out := fun y : Int32 => y = nI (sp_mx (sp_ca g ri b 21) (np + 1)))
    (fun i s => s.1 = nI (sp_mx (sp_ca g ri b 21) i) ∧ s.2 = nI i - 1) (np + 1) ?_ ?_ (np + 1) 0 5000 (0, -1) (by omega) (by omega) ⟨rfl, rfl⟩
  · obtain ⟨y, k1, k2⟩ := key
    unfold fX10_leftAtMost
    rw [k1, k2]
  · rintro i ⟨s1, s2⟩ hi ⟨e1, e2⟩
    dsimp only at e1 e2 ⊢
    subst e1 e2
    have hc : ¬ nI np ≤ nI i - 1 := by
      have e : (nI i - 1).toInt = (i : Int) - 1 := pk_sub_toInt (a := i) (b := 1) (by omega) (by decide)
      rw [Int32.le_iff_toInt_le, e, nI_toInt (by omega)]
      omega
    have eix : nI b * (7 : Int32) + (nI i - 1) + 1 = nI (7 * b + i) := by
      rw [Int32.add_assoc, Int32.sub_add_cancel, show (7 : Int32) = nI 7 from rfl, pk_mul, px_add, Nat.mul_comm]
    have b1 := c21 i
    have b2 := m21 i
    unfold fX10_leftAtMost_4 fX10_answer
    rw [h34, if_neg hc, px_bd, eix, px_gd (px_ix (by omega) (by decide)), nI_clamp (by omega), h52 b i hb (by omega)]
    refine ⟨_, rfl, ?_, ?_⟩
    · dsimp only
      rw [sp_mx]
      by_cases e : sp_mx (sp_ca g ri b 21) i < sp_ca g ri b 21 i
      · rw [if_pos (nI_lt e (by omega)), if_pos e]
      · rw [if_neg (nI_nlt (by omega) (by omega)), if_neg e]
    · dsimp only
      rw [Int32.sub_add_cancel, nI_pred]
  · rintro ⟨s1, s2⟩ ⟨e1, e2⟩
    dsimp only at e1 e2 ⊢
    subst e1 e2
    unfold fX10_leftAtMost_4 fX10_leftAtMost_36
    rw [h34, nI_pred, if_pos (nI_le (Nat.le_refl _) (by omega))]
    exact ⟨_, rfl, rfl⟩
theorem px_bestAsked {lf : Nat → Nat} (hnb : nb ≤ 5) (h35 : I 3 5 = nI nb) (hlf : ∀ b, b < nb → fX10_leftAtMost (nI b) I = some (nI (lf b)) ∧ lf b ≤ 21) : fX10_bestAsked I = some (sp_int (sp_lst (fun _ => true) lf nb)) := by
  have key := px_for (body := fun s : Int32 × Int32 => fX10_bestAsked_4 I s.1 s.2) (Out := fun y : Int32 => y = sp_int (sp_lst (fun _ => true) lf nb))
    (fun i s => s.1 = sp_int (sp_lst (fun _ => true) lf i) ∧ s.2 = nI i) nb ?_ ?_ nb 0 5000 (-1, 0) (by omega) (by omega) ⟨rfl, rfl⟩
  · obtain ⟨y, k1, k2⟩ := key
    unfold fX10_bestAsked
    rw [k1, k2]
  · rintro i ⟨s1, s2⟩ hi ⟨e1, e2⟩
    dsimp only at e1 e2 ⊢
    subst e1 e2
    unfold fX10_bestAsked_4 fX10_bestAsked_33 fX10_bestAsked_35
    rw [h35, if_neg (nI_ge hi (by omega))]
    cases ht : sp_lst (fun _ => true) lf i with
    | none =>
      rw [show sp_int none = -1 from rfl, if_pos rfl]
      refine ⟨_, rfl, ?_, (nI_succ i).symm⟩
      dsimp only
      rw [sp_lst, if_pos rfl, ht]; rfl
    | some m =>
      have hm := sp_lst_lt _ lf i m ht
      rw [show sp_int (some m) = nI m from rfl, if_neg (px_m1 (by omega)), (hlf i hi).1, px_bd, (hlf m (by omega)).1, px_bd]
      have b1 := (hlf i hi).2
      have b2 := (hlf m (by omega)).2
      by_cases e : lf m ≤ lf i
      · rw [if_pos (nI_le e (by omega))]
        refine ⟨_, rfl, ?_, (nI_succ i).symm⟩
        dsimp only
        rw [sp_lst, if_pos rfl, ht]
        dsimp only
        rw [if_pos e]; rfl
      · rw [if_neg (nI_ge (by omega) (by omega))]
        refine ⟨_, rfl, ?_, (nI_succ i).symm⟩
        dsimp only
        rw [sp_lst, if_pos rfl, ht]
        dsimp only
        rw [if_neg e]; rfl
  · rintro ⟨s1, s2⟩ ⟨e1, e2⟩
    dsimp only at e1 e2 ⊢
    subst e1 e2
    unfold fX10_bestAsked_4 fX10_bestAsked_41
    rw [h35, if_pos (nI_le (Nat.le_refl _) (by omega))]
    exact ⟨_, rfl, rfl⟩
/-- the reference's count for one bell -/
theorem px_leftBy {b d0 : Nat} {r : Nat → Nat → Nat → Int32} (hb : b < nb) (hnb : nb ≤ 5) (hd : d0 < 12) (h106 : ∀ v, v < 21 → I 106 v = (if g v = true then 1 else 0)) (h104 : ∀ v d b, v < 21 → d < 12 → b < nb → I 104 (60 * v + 5 * d + b) = r v d b) (hri : ∀ u b, ri u b ≤ 6 ∧ r u d0 b + 1 = nI (ri u b)) :
    ∃ I', fX12_leftBy (nI (d0 + 1)) (nI b) I = some (nI (sp_mx (sp_ca g ri b 21) 7), I') ∧ ∀ r, r ≠ 105 → I' r = I r := by
  have c21 : ∀ v x, sp_ca g ri b v x ≤ v := fun v x => sp_cnt_le _ v
  have m21 : ∀ v, sp_mx (sp_ca g ri b v) 7 ≤ v := fun v => sp_mx_le 7 (fun x _ => c21 v x)
  unfold fX12_leftBy
  refine px_cpl (body := fun s : Int32 × ab_I => fX12_leftBy_2 (nI (d0 + 1)) (nI b) s.1 s.2) (I := I) (Out := fun y : Int32 × ab_I => y = (nI (sp_mx (sp_ca g ri b 21) 7), y.2) ∧ ∀ r, r ≠ 105 → y.2 r = I r) 7 105 0 (fun _ => 0) ?_ ?_ (m := 5000) (by decide) |>.elim (fun y hy => ⟨y.2, by rw [hy.1]; exact congrArg some hy.2.1, hy.2.2⟩)
  · intro i I2 hi f1 f2
    dsimp only
    unfold fX12_leftBy_2
    rw [if_neg (show ¬ (7 : Int32) ≤ nI i from nI_ge (b := 7) hi (by decide)), px_gd (px_ix hi (by decide)), nI_clamp (by omega), Nat.zero_add]
  · intro I2 f1 f2
    dsimp only
    have key := px_for (body := fun s : Int32 × Int32 × ab_I => fX12_leftBy_26 (nI (d0 + 1)) (nI b) s.1 s.2.1 s.2.2) (Out := fun y : Int32 × ab_I => y = (nI (sp_mx (sp_ca g ri b 21) 7), y.2) ∧ ∀ r, r ≠ 105 → y.2 r = I r)
      (fun v s => s.1 = nI (sp_mx (sp_ca g ri b v) 7) ∧ s.2.1 = nI v ∧ (∀ x, x < 7 → s.2.2 105 x = nI (sp_ca g ri b v x)) ∧ ∀ r, r ≠ 105 → s.2.2 r = I r) 21 ?_ ?_ 21 0 5000 (0, 0, I2) (by omega) (by omega) ⟨rfl, rfl, fun x hx => by show I2 105 x = _; rw [f2 x, if_pos (by omega)]; rfl, f1⟩
    · obtain ⟨y, k1, k2⟩ := key
      unfold fX12_leftBy_2 fX12_leftBy_21
      rw [if_pos (show (7 : Int32) ≤ nI 7 by decide), k1]
      exact ⟨y, rfl, k2⟩
    · rintro v ⟨s1, s2, I3⟩ hv ⟨e1, e2, e3, e4⟩
      dsimp only at e1 e2 e3 e4 ⊢
      subst e1 e2
      have h20 : ¬ (20 : Int32) < nI v := nI_nlt (a := 20) (by omega) (by decide)
      obtain ⟨y1, y2⟩ := hri v b
      have b1 := c21 v (ri v b)
      have b2 := m21 v
      unfold fX12_leftBy_26 fX12_leftBy_91 fX12_leftBy_92 fX12_wasAt
      rw [if_neg h20, px_gd (px_ix hv (by decide)), nI_clamp (n := v) (by omega), e4 106 (by decide), h106 v hv]
      by_cases e : g v = true
      · have hix : ab_ix (nI (ri v b)) 7 = true := px_ix (by omega) (by decide)
        rw [if_pos e, if_neg (by decide), nI_pred, wz_ix, px_gd (px_ix (by omega) (by decide)), nI_clamp (n := 60 * v + 5 * d0 + b) (by omega), e4 104 (by decide), h104 v d0 b hv hd hb, px_bd, y2, px_gd hix, px_gd hix, px_gd hix, nI_clamp (n := ri v b) (by omega), e3 _ (by omega), ab_u_at, ← nI_succ, px_gd hix]
        have up := sp_mx_up (f := sp_ca g ri b v) (f' := sp_ca g ri b (v + 1)) (n := 7) (x0 := ri v b) (by omega) (sp_ca_y e rfl) (fun x hx => sp_ca_n (fun h => hx h.2.symm))
        rw [sp_ca_y e rfl] at up
        have r105 : ∀ x, x < 7 → ab_u I3 105 (ri v b) (nI (sp_ca g ri b v (ri v b) + 1)) 105 x = nI (sp_ca g ri b (v + 1) x) := fun x hx => by
          by_cases ex : x = ri v b
          · rw [ex, ab_u_at, sp_ca_y e rfl]
          · rw [ab_u_ne ex, e3 x hx, sp_ca_n (fun h => ex h.2.symm)]
        by_cases e5 : sp_ca g ri b v (ri v b) + 1 ≤ sp_mx (sp_ca g ri b v) 7
        · rw [if_pos (nI_le e5 (by omega))]
          refine ⟨_, rfl, ?_, (nI_succ v).symm, r105, fun r hr => by dsimp only; rw [ab_u_o hr]; exact e4 r hr⟩
          dsimp only
          rw [up, if_pos e5]
        · rw [if_neg (nI_ge (by omega) (by omega))]
          refine ⟨_, rfl, ?_, (nI_succ v).symm, r105, fun r hr => by dsimp only; rw [ab_u_o hr]; exact e4 r hr⟩
          dsimp only
          rw [up, if_neg e5]
      · have ext : sp_ca g ri b (v + 1) = sp_ca g ri b v := funext fun x => sp_ca_n (fun h => e h.1)
        rw [if_neg e, if_pos rfl]
        refine ⟨_, rfl, ?_, (nI_succ v).symm, ?_, e4⟩
        · dsimp only; rw [ext]
        · rw [ext]; exact e3
    · rintro ⟨s1, s2, I3⟩ ⟨e1, e2, e3, e4⟩
      dsimp only at e1 e2 e3 e4 ⊢
      subst e1 e2
      unfold fX12_leftBy_26 fX12_leftBy_98
      rw [if_pos (by decide)]
      exact ⟨_, rfl, rfl, e4⟩
theorem px_mask {d0 : Nat} {a2 a3 : Int32} {r : Nat → Nat → Nat → Int32} {lf : Nat → Nat} (hnb : nb ≤ 5) (hb1 : 0 < nb) (hd : d0 < 12) (h40 : I 73 40 = nI nb) (h106 : ∀ v, v < 21 → I 106 v = (if g v = true then 1 else 0)) (h104 : ∀ v d b, v < 21 → d < 12 → b < nb → I 104 (60 * v + 5 * d + b) = r v d b) (hri : ∀ u b, ri u b ≤ 6 ∧ r u d0 b + 1 = nI (ri u b)) (hlf : ∀ b, lf b = sp_mx (sp_ca g ri b 21) 7) :
    ∃ m I', sp_lst (fun _ => true) lf nb = some m ∧ ab_it (fun s : Int32 × Int32 × ab_I => fX12_ask_35 (nI (d0 + 1)) a2 a3 s.1 s.2.1 s.2.2) 5000 (0, 1, I) = some (if a2 = 0 then nI m else nI (lf m), I') ∧ ∀ r, r ≠ 105 → I' r = I r := by
  have l21 : ∀ b, lf b ≤ 21 := fun b => by rw [hlf]; exact sp_mx_le 7 (fun x _ => sp_cnt_le _ 21)
  have lb : ∀ (K : ab_I) b, (∀ r, r ≠ 105 → K r = I r) → b < nb → ∃ I', fX12_leftBy (nI (d0 + 1)) (nI b) K = some (nI (lf b), I') ∧ ∀ r, r ≠ 105 → I' r = I r := fun K b hK hb => by
    obtain ⟨I', y1, y2⟩ := px_leftBy (I := K) (g := g) (ri := ri) (r := r) (b := b) (d0 := d0) hb hnb hd (fun v hv => by rw [hK 106 (by decide)]; exact h106 v hv) (fun v d b hv hd hb => by rw [hK 104 (by decide)]; exact h104 v d b hv hd hb) hri
    exact ⟨I', by rw [y1, hlf], fun r hr => (y2 r hr).trans (hK r hr)⟩
  have key := px_for (body := fun s : Int32 × Int32 × ab_I => fX12_ask_35 (nI (d0 + 1)) a2 a3 s.1 s.2.1 s.2.2) (Out := fun y : Int32 × ab_I => ∃ m, sp_lst (fun _ => true) lf nb = some m ∧ y.1 = (if a2 = 0 then nI m else nI (lf m)) ∧ ∀ r, r ≠ 105 → y.2 r = I r)
    (fun i s => (∃ m, sp_lst (fun _ => true) lf i = some m ∧ s.1 = nI m) ∧ s.2.1 = nI i ∧ ∀ r, r ≠ 105 → s.2.2 r = I r) nb ?_ ?_ (nb - 1) 1 5000 (0, 1, I) (by omega) (by omega) ⟨⟨0, rfl, rfl⟩, rfl, fun _ _ => rfl⟩
  · obtain ⟨y, k1, m, k2, k3, k4⟩ := key
    exact ⟨m, y.2, k2, by rw [k1, ← k3], k4⟩
  · rintro i ⟨s1, s2, I2⟩ hi ⟨⟨m, e0, e1⟩, e2, e3⟩
    dsimp only at e1 e2 e3 ⊢
    subst e1 e2
    have hm := sp_lst_lt _ lf i m e0
    obtain ⟨I3, c1, c2⟩ := lb I2 i e3 hi
    obtain ⟨I4, d1, d2⟩ := lb I3 m c2 (by omega)
    have b1 := l21 i
    have b2 := l21 m
    unfold fX12_ask_35 fX12_ask_68
    rw [e3 73 (by decide), h40, if_neg (nI_ge hi (by omega)), c1, px_bd]
    dsimp only
    rw [d1, px_bd]
    dsimp only
    by_cases e : lf m ≤ lf i
    · rw [if_pos (nI_le e (by omega))]
      refine ⟨_, rfl, ⟨m, ?_, rfl⟩, (nI_succ i).symm, d2⟩
      rw [sp_lst, if_pos rfl, e0]
      dsimp only
      rw [if_pos e]
    · rw [if_neg (nI_ge (by omega) (by omega))]
      refine ⟨_, rfl, ⟨i, ?_, rfl⟩, (nI_succ i).symm, d2⟩
      rw [sp_lst, if_pos rfl, e0]
      dsimp only
      rw [if_neg e]
  · rintro ⟨s1, s2, I2⟩ ⟨⟨m, e0, e1⟩, e2, e3⟩
    dsimp only at e1 e2 e3 ⊢
    subst e1 e2
    have hm := sp_lst_lt _ lf nb m e0
    unfold fX12_ask_35 fX12_ask_76 fX12_ask_92
    rw [e3 73 (by decide), h40, if_pos (nI_le (Nat.le_refl _) (by omega))]
    by_cases e : a2 = 0
    · rw [if_pos e]
      exact ⟨_, rfl, m, e0, by rw [if_pos e], e3⟩
    · obtain ⟨I3, c1, c2⟩ := lb I2 m e3 hm
      rw [if_neg e, c1, px_bd]
      exact ⟨_, rfl, m, e0, by rw [if_neg e], c2⟩
theorem pr_ask (hR : rx_R S I J P) (a1 a2 a3 : Int32) : lz_pr l G rx_R mX11_ask 7 mX12_ask 7 [.int a1, .int a2, .int a3] S I J P := by
  have hB := hR.1
  by_cases hd : a1 < 1 ∨ (12 : Int32) < a1
  · have hx : fX11_ask a1 a2 a3 I = some (-1, I) := by
      unfold fX11_ask fX11_ask_19
      rw [px_within, if_pos hd, px_bd, if_pos rfl]
    have hm : fX12_ask a1 a2 a3 I = some (-1, I) := by
      unfold fX12_ask fX12_ask_27
      rw [px_isIn, if_pos hd, px_bd, if_pos rfl]
    exact lz_q _ hR (fun Q hQ => mX11_ask_ok hB hx hQ) (fun Q hQ => mX12_ask_ok hB hm hQ) (fun _ _ => rfl)
  by_cases ha : a2 < 0 ∨ (1 : Int32) < a2
  · have hx : fX11_ask a1 a2 a3 I = some (-1, I) := by
      unfold fX11_ask fX11_ask_19
      rw [px_within, if_neg hd, px_bd, if_neg (by decide), px_within, if_pos ha, px_bd, if_pos rfl]
    have hm : fX12_ask a1 a2 a3 I = some (-1, I) := by
      unfold fX12_ask fX12_ask_27
      rw [px_isIn, if_neg hd, px_bd, if_neg (by decide), px_isIn, if_pos ha, px_bd, if_pos rfl]
    exact lz_q _ hR (fun Q hQ => mX11_ask_ok hB hx hQ) (fun Q hQ => mX12_ask_ok hB hm hQ) (fun _ _ => rfl)
  obtain ⟨np, nb, nl, fa, lc, dr, t, F, hrs, q, w, cn, D, B, Q, is, ct, hH, hW⟩ := rx_R_H hR a3
  by_cases hl : nl = 0
  · subst hl
    have hx : fX11_ask a1 a2 a3 I = some (-1, I) := by
      unfold fX11_ask
      rw [px_within, if_neg hd, px_bd, if_neg (by decide), px_within, if_neg ha, px_bd, if_neg (by decide), px_fit0 hH.2.2.1, px_bd, if_pos rfl]
    have hm : fX12_ask a1 a2 a3 I = some (-1, I) := by
      unfold fX12_ask fX12_ask_27
      rw [px_isIn, if_neg hd, px_bd, if_neg (by decide), px_isIn, if_neg ha, px_bd, if_neg (by decide), px_lay0 hH.2.2.2.1, px_bd, if_pos rfl]
    exact lz_q _ hR (fun Q hQ => mX11_ask_ok hB hx hQ) (fun Q hQ => mX12_ask_ok hB hm hQ) (fun _ _ => rfl)
  obtain ⟨g, hg⟩ : ∃ g : Nat → Bool, ∀ v, g v = sp_fit (sp_r F hrs np fa nb t lc dr v) cn D B Q is ct := ⟨_, fun _ => rfl⟩
  obtain ⟨I1, x1, x2⟩ := px_fitting hH hW (by omega) hg
  have ml := sp_msk_lt g 21
  have cl := sp_cnt_le g 21
  by_cases hz : sp_cnt g 21 = 0
  · obtain ⟨I2, y1, y2, y3, y4⟩ := px_layFits (rx_H_sc hH x2) (rx_Wd_sc hW x2) (by omega) hg
    have hx : fX11_ask a1 a2 a3 I = some (-1, I1) := by
      unfold fX11_ask
      rw [px_within, if_neg hd, px_bd, if_neg (by decide), px_within, if_neg ha, px_bd, if_neg (by decide), x1, px_bd, (sp_msk_0 g 21).mpr hz, if_pos (show nI 0 = 0 from rfl)]
    have hm : fX12_ask a1 a2 a3 I1 = some (-1, I2) := by
      unfold fX12_ask fX12_ask_27
      rw [px_isIn, if_neg hd, px_bd, if_neg (by decide), px_isIn, if_neg ha, px_bd, if_neg (by decide), y1, px_bd, hz, if_pos (show nI 0 = 0 from rfl)]
    exact lz_q _ hR (fun Q hQ => mX11_ask_ok hB hx hQ) (fun Q hQ => mX12_ask_ok hB hm hQ) (fun r hr => (y4 r hr).trans (x2 r hr))
  have mz : ¬ nI (sp_msk g 21) = 0 := fun h => hz ((sp_msk_0 g 21).mp ((px_eq0 (by omega)).mp h))
  have cz : ¬ nI (sp_cnt g 21) = 0 := fun h => hz ((px_eq0 (by omega)).mp h)
  obtain ⟨d, hd1, rfl⟩ : ∃ d, d < 12 ∧ a1 = nI (d + 1) := by
    obtain ⟨e, he, rfl⟩ := px_in (hi := 12) (a := a1) (by decide) (fun h => hd (h.elim (fun h => Or.inl (Int32.lt_of_lt_of_le h (by decide))) (fun h => Or.inr h)))
    by_cases e0 : e = 0
    · subst e0; exact absurd (Or.inl (by decide)) hd
    · exact ⟨e - 1, by omega, by rw [show e - 1 + 1 = e by omega]⟩
  have h1 := hH.1.1
  have h2 := hH.1.2.1
  have hch : ∀ u b, ∃ x, x ≤ np ∧ sp_r F hrs np fa nb t lc dr u d b + 1 = nI x := fun u b => sp_r_ri h1 u d b
  obtain ⟨ri, hri⟩ : ∃ ri : Nat → Nat → Nat, ∀ u b, ri u b ≤ np ∧ sp_r F hrs np fa nb t lc dr u d b + 1 = nI (ri u b) := ⟨fun u b => Classical.choose (hch u b), fun u b => Classical.choose_spec (hch u b)⟩
  have hb1 : 0 < nb := by
    have := (hH.2.1.2.2.2.1 (by omega)).2.1
    omega
  obtain ⟨I2, c1, c2, c3⟩ := px_countAnswers (g := g) (rx_H_sc hH x2) hd1 (by omega) hri
  have f2 : ∀ r, ¬ rx_sc r → I2 r = I r := fun r hr => (c3 r hr).trans (x2 r hr)
  have hH2 := rx_H_sc hH f2
  obtain ⟨lf, hlf⟩ : ∃ lf : Nat → Nat, ∀ b, lf b = sp_mx (sp_ca g ri b 21) 7 := ⟨_, fun _ => rfl⟩
  have l21 : ∀ b, lf b ≤ 21 := fun b => by rw [hlf]; exact sp_mx_le 7 (fun x _ => sp_cnt_le _ 21)
  have hlx : ∀ b, b < nb → fX10_leftAtMost (nI b) I2 = some (nI (lf b)) := fun b hb => by
    rw [px_leftX h1 hb h2 hH2.1.2.2.2.1 c2, hlf, sp_mx_z (m := 7) (by omega) (fun x hx1 hx2 => ?_)]
    have : ∀ n, sp_cnt (fun u => g u && decide (ri u b = x)) n = 0 := fun n => by
      induction n with
      | zero => rfl
      | succ n ih =>
        rw [sp_cnt, ih]
        have e : decide (ri n b = x) = false := decide_eq_false (fun h => by have := (hri n b).1; omega)
        rw [e, Bool.and_false]; rfl
    exact this 21
  have hbx := px_bestAsked (I := I2) (lf := lf) h2 hH2.1.2.2.2.2.1 (fun b hb => ⟨hlx b hb, l21 b⟩)
  obtain ⟨I3, y1, y2, y3, y4⟩ := px_layFits hH2 (rx_Wd_sc hW f2) (by omega) hg
  obtain ⟨m, I4, z1, z2, z3⟩ := px_mask (I := I3) (a2 := a2) (a3 := a3) (lf := lf) h2 hb1 hd1 (by rw [y4 73 (by unfold rx_sc; omega)]; exact hH2.1.2.2.2.2.2.2.2.1) y2 y3 (fun u b => ⟨by have := (hri u b).1; omega, (hri u b).2⟩) hlf
  have hm := sp_lst_lt _ lf nb m z1
  rw [z1] at hbx
  have hx : fX11_ask (nI (d + 1)) a2 a3 I = some (if a2 = 0 then nI m else nI (lf m), I2) := by
    unfold fX11_ask fX11_ask_67 fX11_ask_81
    rw [px_within, if_neg hd, px_bd, if_neg (by decide), px_within, if_neg ha, px_bd, if_neg (by decide), x1, px_bd]
    dsimp only
    rw [if_neg mz, c1, px_bd, hbx, px_bd, show sp_int (some m) = nI m from rfl]
    by_cases e : a2 = 0
    · rw [if_pos e, if_pos e]
    · rw [if_neg e, if_neg e, if_neg (px_m1 (by omega)), hlx m hm, px_bd]
  have hmm : fX12_ask (nI (d + 1)) a2 a3 I2 = some (if a2 = 0 then nI m else nI (lf m), I4) := by
    unfold fX12_ask
    rw [px_isIn, if_neg hd, px_bd, if_neg (by decide), px_isIn, if_neg ha, px_bd, if_neg (by decide), y1, px_bd]
    dsimp only
    rw [if_neg cz]
    exact z2
  exact lz_q _ hR (fun Q hQ => mX11_ask_ok hB hx hQ) (fun Q hQ => mX12_ask_ok hB hmm hQ) (fun r hr => by
    have hr' := hr
    unfold rx_sc at hr
    show I4 r = I r
    rw [z3 r (by omega), y4 r hr', f2 r hr'])
end ASK
