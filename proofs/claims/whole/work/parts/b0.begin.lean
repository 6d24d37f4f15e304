/-! ===== all as told: class and reference ===== -/
theorem px_fillr {I : ab_I} {r0 n0 : Nat} {x : Int32} (hn : n0 ≤ 40) : ∃ I', fJ7_fill_53178 r0 n0 x I = some I' ∧ (∀ k, k < n0 → I' r0 k = x) ∧ ∀ r, r ≠ r0 → I' r = I r := by
  have key := px_for (body := fun s : Int32 × Int32 × ab_I => fJ7_fill_53178_5 r0 n0 x s.1 s.2.1 s.2.2) (Out := fun I' : ab_I => (∀ k, k < n0 → I' r0 k = x) ∧ ∀ r, r ≠ r0 → I' r = I r)
    (fun i s => s.1 = nI i ∧ s.2.1 = nI n0 ∧ (∀ k, k < i → s.2.2 r0 k = x) ∧ ∀ r, r ≠ r0 → s.2.2 r = I r) n0 ?_ ?_ n0 0 5000 (0, Int32.ofNat n0, I) (by omega) (by omega) ⟨rfl, rfl, fun k hk => absurd hk (Nat.not_lt_zero k), fun _ _ => rfl⟩
  · obtain ⟨I', k1, k2⟩ := key
    exact ⟨I', k1, k2⟩
  · rintro i ⟨a, b, I2⟩ hi ⟨e1, e2, e3, e4⟩
    dsimp only at e1 e2 e3 e4 ⊢
    subst e1 e2
    unfold fJ7_fill_53178_5
    rw [if_neg (nI_ge hi (by omega)), px_gd (px_ix hi (by omega)), nI_clamp (by omega)]
    refine ⟨_, rfl, (nI_succ i).symm, rfl, fun k hk => ?_, fun r hr => ?_⟩
    · dsimp only
      by_cases ek : k = i
      · rw [ek, ab_u_at]
      · rw [ab_u_ne ek]; exact e3 k (by omega)
    · dsimp only
      rw [ab_u_o hr]; exact e4 r hr
  · rintro ⟨a, b, I2⟩ ⟨e1, e2, e3, e4⟩
    dsimp only at e1 e2 e3 e4 ⊢
    subst e1 e2
    unfold fJ7_fill_53178_5 fJ7_fill_53178_20
    rw [if_pos (nI_le (Nat.le_refl _) (by omega))]
    exact ⟨_, rfl, e3, e4⟩
/-- all as told, the seed being s -/
def sp_b0 (np : Nat) (t : Nat → Nat) (s k : Nat) : Nat := if k < 6 then t k else if k < 12 then 0 else if k = 12 then 2 ^ np - 1 else if k < 43 then t k else if k = 43 then 0 else if k = 44 then s else 0
theorem px_ones : ∀ n, n < 7 → ((1 : Int32) <<< (nI n &&& 31)) - 1 = nI (2 ^ n - 1) := by decide +kernel
section BEG
variable {I : ab_I} {np nb nl lc dr : Nat} {t : Nat → Nat}
theorem px_begin {q : Nat} (hq : 10 < q) (hn : np ≤ 6) (h34 : I 3 4 = nI np) (hT : rx_T I np nb nl t lc dr) : ∃ I', fX9_begin q I = some I' ∧ rx_is np (rx_v I' q) (sp_b0 np t dr) ∧ ∀ r, (r < q ∨ q + 3 < r) → I' r = I r := by
  obtain ⟨t1, t2, t3, t4, t5, t6⟩ := hT
  generalize hI1 : ab_r I (q + 1) (va_cpy (I 4) (I (q + 1)) (0 : Int32).toNatClampNeg (0 : Int32).toNatClampNeg (6 : Int32).toNatClampNeg) = I1
  have a1 : ∀ k, k < 6 → I1 (q + 1) k = I 4 k := fun k hk => by rw [← hI1, ab_r_s, px_cpy0 (n := 6) rfl hk]
  have a2 : ∀ r, r ≠ q + 1 → I1 r = I r := fun r hr => by rw [← hI1, ab_r_o hr]
  generalize hI2 : ab_r I1 (q + 3) (va_cpy (I1 6) (I1 (q + 3)) (0 : Int32).toNatClampNeg (0 : Int32).toNatClampNeg (30 : Int32).toNatClampNeg) = I2
  have b1 : ∀ k, k < 30 → I2 (q + 3) k = I 6 k := fun k hk => by rw [← hI2, ab_r_s, px_cpy0 (n := 30) rfl hk, a2 6 (by omega)]
  have b2 : ∀ r, r ≠ q + 3 → I2 r = I1 r := fun r hr => by rw [← hI2, ab_r_o hr]
  obtain ⟨I3, c1, c2, c3⟩ := px_fillr (I := I2) (r0 := q + 2) (n0 := 6) (x := 0) (by decide)
  have d3 : ∀ r, (r < q ∨ q + 3 < r) → I3 r = I r := fun r hr => by rw [c3 r (by omega), b2 r (by omega), a2 r (by omega)]
  have e34 : I3 3 4 = nI np := by rw [d3 3 (by omega)]; exact h34
  refine ⟨ab_u (ab_u (ab_u I3 q 3 (nI (2 ^ np - 1))) q 4 0) q 5 (nI dr), ?_, fun k hk hp => ?_, fun r hr => ?_⟩
  · unfold fX9_begin
    rw [hI1, hI2, c1, px_bd, e34, px_ones np (by omega), px_u (by omega), px_u (by omega), d3 3 (by omega), t5]
  · unfold rx_v sp_b0
    by_cases x1 : k < 6
    · rw [if_pos x1, if_pos x1, px_u (by omega), px_u (by omega), px_u (by omega), c3 _ (by omega), b2 _ (by omega), a1 k x1]
      exact (t1 k (hp x1)).1
    · rw [if_neg x1, if_neg x1]
      by_cases x2 : k < 12
      · rw [if_pos x2, if_pos x2, px_u (by omega), px_u (by omega), px_u (by omega), c2 _ (by omega)]
        rfl
      · rw [if_neg x2, if_neg x2]
        by_cases x3 : k = 12
        · rw [if_pos x3, if_pos x3, px_u (by omega), px_u (by omega), ab_u_at]
        · rw [if_neg x3, if_neg x3]
          by_cases x4 : k < 43
          · rw [if_pos x4, if_pos x4, px_u (by omega), px_u (by omega), px_u (by omega), c3 _ (by omega), b1 _ (by omega), (t2 (k - 13) (by omega)).1, show 13 + (k - 13) = k by omega]
          · rw [if_neg x4, if_neg x4]
            by_cases x5 : k = 43
            · rw [if_pos x5, if_pos x5, px_u (by omega), ab_u_at]
              rfl
            · rw [if_neg x5, if_neg x5, ab_u_at, if_pos (by omega)]
  · rw [ab_u_o (by omega), ab_u_o (by omega), ab_u_o (by omega)]
    exact d3 r hr
theorem px_mbegin (hn : np ≤ 6) (h39 : I 73 39 = nI np) (hT : rx_T I np nb nl t lc dr) : ∃ I', fX12_begin I = some I' ∧ rx_is np (I' 90) (sp_b0 np t 0) ∧ ∀ r, r ≠ 90 → I' r = I r := by
  obtain ⟨t1, t2, t3, t4, t5, t6⟩ := hT
  unfold fX12_begin
  refine px_cpl (body := fun s : Int32 × ab_I => fX12_begin_2 s.1 s.2) (I := I) 45 90 0 (fun _ => 0) ?_ ?_ (m := 5000) (by decide)
  · intro i I2 hi f1 f2
    dsimp only
    unfold fX12_begin_2
    rw [if_neg (show ¬ (45 : Int32) ≤ nI i from nI_ge (b := 45) hi (by decide)), px_gd (px_ix hi (by decide)), nI_clamp (by omega), Nat.zero_add]
  · intro I2 f1 f2
    dsimp only
    have key := px_cpl (body := fun s : Int32 × ab_I => fX12_begin_23 s.1 s.2) (I := I2) (Out := fun I' : ab_I => rx_is np (I' 90) (sp_b0 np t 0) ∧ ∀ r, r ≠ 90 → I' r = I r) np 90 0 (I 86) ?_ ?_ (m := 5000) (by omega)
    · obtain ⟨x, k1, k2⟩ := key
      unfold fX12_begin_2 fX12_begin_21
      rw [if_pos (show (45 : Int32) ≤ nI 45 by decide), k1]
      exact ⟨x, rfl, k2⟩
    · intro i I3 hi g1 g2
      dsimp only
      unfold fX12_begin_23
      rw [g1 73 (by decide), f1 73 (by decide), h39, if_neg (nI_ge hi (by omega)), px_gd (px_ix (by omega) (by decide)), px_gd (px_ix (by omega) (by decide)), nI_clamp (by omega), g1 86 (by decide), f1 86 (by decide), Nat.zero_add]
    · intro I3 g1 g2
      dsimp only
      have k2 := px_cpl (body := fun s : Int32 × ab_I => fX12_begin_66 s.1 s.2) (I := ab_u I3 90 12 (nI (2 ^ np - 1))) (Out := fun I' : ab_I => rx_is np (I' 90) (sp_b0 np t 0) ∧ ∀ r, r ≠ 90 → I' r = I r) 30 90 13 (I 88) ?_ ?_ (m := 5000) (by decide)
      · obtain ⟨x, k1, k2⟩ := k2
        unfold fX12_begin_23 fX12_begin_49
        rw [g1 73 (by decide), f1 73 (by decide), h39, if_pos (nI_le (Nat.le_refl _) (by omega)), px_gd (by decide), show ((12 : Int32).toNatClampNeg) = 12 from rfl, px_ones np (by omega), k1]
        exact ⟨x, rfl, k2⟩
      · intro i I4 hi j1 j2
        dsimp only
        unfold fX12_begin_66
        rw [if_neg (show ¬ (30 : Int32) ≤ nI i from nI_ge (b := 30) hi (by decide)), px_gd (px_ix hi (by decide)), show (13 : Int32) = nI 13 from rfl, px_add, px_gd (px_ix (by omega) (by decide)), nI_clamp (by omega), nI_clamp (by omega), j1 88 (by decide), ab_u_o (by decide), g1 88 (by decide), f1 88 (by decide)]
      · intro I4 j1 j2
        dsimp only
        unfold fX12_begin_66 fX12_begin_93
        rw [if_pos (show (30 : Int32) ≤ nI 30 by decide)]
        refine ⟨_, rfl, fun k hk hp => ?_, fun r hr => by rw [j1 r hr, ab_u_o hr, g1 r hr, f1 r hr]⟩
        rw [j2 k]
        unfold sp_b0
        by_cases x1 : k < 6
        · rw [if_neg (by omega), if_pos x1, ab_u_ne (by omega), g2 k, if_pos (by have := hp x1; omega), Nat.sub_zero]
          exact (t1 k (hp x1)).2.1
        · rw [if_neg x1]
          by_cases x2 : k < 12
          · rw [if_neg (by omega), if_pos x2, ab_u_ne (by omega), g2 k, if_neg (by omega), f2 k, if_pos (by omega)]
            rfl
          · rw [if_neg x2]
            by_cases x3 : k = 12
            · rw [if_neg (by omega), if_pos x3, x3, ab_u_at]
            · rw [if_neg x3]
              by_cases x4 : k < 43
              · rw [if_pos (by omega), if_pos x4, (t2 (k - 13) (by omega)).2.1, show 13 + (k - 13) = k by omega]
              · rw [if_neg (by omega), if_neg x4, ab_u_ne (by omega), g2 k, if_neg (by omega), f2 k, if_pos (by omega), ite_self, ite_self]
                rfl
theorem sp_b0_ok {s : Nat} (hn : np ≤ 6) (hT : rx_T I np nb nl t lc dr) (hs : s ≤ 999) : rx_ok np nb 0 (sp_b0 np t s) := by
  obtain ⟨t1, t2, t3, t4, t5, t6⟩ := hT
  have hpow : 0 < 2 ^ np := Nat.pow_pos (by decide)
  refine ⟨fun p hp => ?_, fun p hp => ?_, ?_, fun c hc => ?_, fun p b hp hb1 hb2 => ?_, ?_, ?_⟩
  · unfold sp_b0; rw [if_pos (by omega)]; exact (t1 p hp).2.2
  · unfold sp_b0; rw [if_neg (by omega), if_pos (by omega)]; omega
  · show sp_b0 np t s 12 < 2 ^ np
    unfold sp_b0; rw [if_neg (by omega), if_neg (by omega), if_pos rfl]; omega
  · unfold sp_b0; rw [if_neg (by omega), if_neg (by omega), if_neg (by omega), if_pos (by omega)]; exact (t2 c hc).2.2
  · unfold sp_b0; rw [if_neg (by omega), if_neg (by omega), if_neg (by omega), if_pos (by omega)]; exact t3 p b hp hb1 hb2
  · show sp_b0 np t s 43 ≤ 0
    unfold sp_b0; rw [if_neg (by omega), if_neg (by omega), if_neg (by omega), if_neg (by omega), if_pos rfl]; omega
  · show sp_b0 np t s 44 ≤ 999
    unfold sp_b0; rw [if_neg (by omega), if_neg (by omega), if_neg (by omega), if_neg (by omega), if_neg (by omega), if_pos rfl]; exact hs
/-- all as told, but the last of loses tells v -/
def sp_bw (np : Nat) (t : Nat → Nat) (lc s v : Nat) : Nat → Nat := sp_up (sp_b0 np t s) (13 + lc) v
theorem sp_bw_ok {s v : Nat} (hn : np ≤ 6) (hnb : nb ≤ 5) (hT : rx_T I np nb nl t lc dr) (hs : s ≤ 999) (hl : 0 < nl) (hv : v ≤ 20) : rx_ok np nb 0 (sp_bw np t lc s v) := by
  obtain ⟨l1, l2, l3, l4⟩ := hT.2.2.2.1 hl
  unfold sp_bw
  rw [show 13 + lc = 13 + 5 * (lc / 5) + lc % 5 by omega]
  exact rx_ok_l hn (sp_b0_ok hn hT hs) (by omega) l2 hnb hv
theorem px_beginWith {v : Nat} (hn : np ≤ 6) (h34 : I 3 4 = nI np) (hT : rx_T I np nb nl t lc dr) (hl : 0 < nl) : ∃ I', fX10_beginWith (nI v) I = some I' ∧ rx_is np (rx_v I' 42) (sp_bw np t lc dr v) ∧ ∀ r, (r < 42 ∨ 45 < r) → I' r = I r := by
  obtain ⟨l1, l2, l3, l4⟩ := hT.2.2.2.1 hl
  obtain ⟨I1, c1, c2, c3⟩ := px_begin (q := 42) (by decide) hn h34 hT
  have e7 : I1 3 7 = nI lc := by rw [c3 3 (by omega)]; exact l3
  refine ⟨ab_u I1 45 lc (nI v), ?_, ?_, fun r hr => ?_⟩
  · unfold fX10_beginWith fX10_beginWith_38
    rw [c1, px_bd, e7, if_neg (px_m1 (by omega)), px_gd (px_ix l1 (by decide)), nI_clamp (by omega)]
  · exact rx_u3 l1 c2
  · rw [ab_u_o (by omega)]; exact c3 r (by omega)
theorem px_mbeginWith {v : Nat} (hn : np ≤ 6) (h39 : I 73 39 = nI np) (hT : rx_T I np nb nl t lc dr) (hl : 0 < nl) : ∃ I1, fX12_begin I = some I1 ∧ ab_ix ((13 : Int32) + I1 73 42) 45 = true ∧ rx_is np (ab_u I1 90 ((13 : Int32) + I1 73 42).toNatClampNeg (nI v) 90) (sp_bw np t lc 0 v) ∧ ∀ r, r ≠ 90 → I1 r = I r := by
  obtain ⟨l1, l2, l3, l4⟩ := hT.2.2.2.1 hl
  obtain ⟨I1, c1, c2, c3⟩ := px_mbegin hn h39 hT
  have e7 : I1 73 42 = nI lc := by rw [c3 73 (by omega)]; exact l4
  have e8 : (13 : Int32) + I1 73 42 = nI (13 + lc) := by rw [e7, show (13 : Int32) = nI 13 from rfl, px_add]
  refine ⟨I1, c1, by rw [e8]; exact px_ix (by omega) (by decide), ?_, c3⟩
  rw [e8, nI_clamp (by omega)]
  exact rx_m c2
end BEG
/-! the seed tells nothing where no face does -/
def sp_eqs (w w' : Nat → Nat) : Prop := ∀ k, k ≠ 44 → w k = w' k
section SEED
variable {F : Int32 → Int32 → Int32 → Int32 → Int32 → Int32 → Int32} {hrs : Nat → Int32} {hr : Int32} {np nb fa b : Nat} {w w' : Nat → Nat}
theorem sp_rg_s (h : sp_eqs w w') (hb : b < 5) : ∀ n, n ≤ 6 → sp_rg F hr w b n = sp_rg F hr w' b n
  | 0, _ => rfl
  | n + 1, hn => by
    have ih := sp_rg_s h hb n (by omega)
    have e : sp_wt F hr w n b = sp_wt F hr w' n b := by
      unfold sp_wt
      rw [h (13 + 5 * n + b) (by omega), h n (by omega), h (6 + n) (by omega), h 12 (by omega), h 43 (by omega)]
    rw [sp_rg, sp_rg, ih, e, h 12 (by omega), h (13 + 5 * n + b) (by omega)]
theorem sp_who_s (h : sp_eqs w w') (hb : b < 5) (hn : np ≤ 6) : sp_who F hr w b np = sp_who F hr w' b np := by
  unfold sp_who
  rw [sp_rg_s h hb np hn]
theorem sp_up_s {k x y : Nat} (h : sp_eqs w w') (e : x = y) : sp_eqs (sp_up w k x) (sp_up w' k y) := fun j hj => by
  unfold sp_up
  by_cases ej : j = k
  · rw [if_pos ej, if_pos ej, e]
  · rw [if_neg ej, if_neg ej]; exact h j hj
theorem sp_ring_s (h : sp_eqs w w') (hb : b < 5) (hn : np ≤ 6) : sp_eqs (sp_ring F hr w b np false fa) (sp_ring F hr w' b np false fa) := by
  unfold sp_ring
  rw [← sp_who_s h hb hn]
  by_cases e : sp_who F hr w b np = -1
  · rw [if_pos e, if_pos e]; exact h
  · rw [if_neg e, if_neg e]
    rcases sp_rg_cases (F := F) (hr := hr) (w := w) (b := b) np with hc | ⟨p, hp, hc, _, _⟩
    · exact absurd hc e
    · have ep : (sp_who F hr w b np).toNatClampNeg = p := by
        unfold sp_who
        rw [hc, nI_clamp (by omega)]
      rw [ep]
      unfold sp_rung
      simp only [Bool.false_eq_true, if_false]
      exact sp_up_s (sp_up_s h (by rw [h (6 + p) (by omega)])) (by rw [h p (by omega), h (13 + 5 * p + b) (by omega)])
theorem sp_dy_s (h : sp_eqs w w') (hn : np ≤ 6) : ∀ n, n ≤ 5 → sp_eqs (sp_dy F hrs np false fa w n).1 (sp_dy F hrs np false fa w' n).1
  | 0, _ => h
  | n + 1, hn5 => by
    rw [sp_dy, sp_dy]
    exact sp_ring_s (sp_dy_s h hn n (by omega)) (by omega) hn
theorem sp_day_s (h : sp_eqs w w') (hn : np ≤ 6) (hnb : nb ≤ 5) : sp_eqs (sp_day F hrs np false fa w nb) (sp_day F hrs np false fa w' nb) := by
  unfold sp_day
  exact sp_up_s (sp_dy_s h hn nb hnb) (by rw [sp_dy_s h hn nb hnb 43 (by omega)])
theorem sp_go_s (h : sp_eqs w w') (hn : np ≤ 6) (hnb : nb ≤ 5) : ∀ n, sp_eqs (sp_go F hrs np false fa nb w n).1 (sp_go F hrs np false fa nb w' n).1
  | 0 => h
  | n + 1 => by
    rw [sp_go, sp_go]
    exact sp_day_s (sp_go_s h hn hnb n) hn hnb
theorem sp_rgr_s (h : sp_eqs w w') (hn : np ≤ 6) (hb : b < 5) : sp_rgr F hrs np false fa w b = sp_rgr F hrs np false fa w' b := by
  unfold sp_rgr
  exact sp_who_s (sp_dy_s h hn b (by omega)) hb hn
end SEED
theorem sp_bw_s (np : Nat) (t : Nat → Nat) (lc s s' v : Nat) : sp_eqs (sp_bw np t lc s v) (sp_bw np t lc s' v) := by
  unfold sp_bw
  refine sp_up_s (fun k hk => ?_) rfl
  unfold sp_b0
  by_cases x1 : k < 6
  · rw [if_pos x1, if_pos x1]
  · rw [if_neg x1, if_neg x1]
    by_cases x2 : k < 12
    · rw [if_pos x2, if_pos x2]
    · rw [if_neg x2, if_neg x2]
      by_cases x3 : k = 12
      · rw [if_pos x3, if_pos x3]
      · rw [if_neg x3, if_neg x3]
        by_cases x4 : k < 43
        · rw [if_pos x4, if_pos x4]
        · rw [if_neg x4, if_neg x4]
          by_cases x5 : k = 43
          · rw [if_pos x5, if_pos x5]
          · rw [if_neg x5, if_neg x5, if_neg hk, if_neg hk]
