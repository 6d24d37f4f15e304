/-! ===== acts: keep and act ===== -/
theorem rx_dyn_ne {a b : Nat} (ha : rx_dyn a) (hb : rx_dyn b) (h : a ≠ b) : a + 3 < b ∨ b + 3 < a := by
  rcases ha with rfl | ⟨i, rfl⟩ <;> rcases hb with rfl | ⟨j, rfl⟩ <;> omega
/-- the numbers that a side has -/
def rx_sd (I : ab_I) (P : ab_P) (np j : Nat) (w : Nat → Nat) : Prop := ∃ a, P 54 j = some a ∧ rx_is np (rx_v I a) w
def rx_ds (P : ab_P) : Prop := (∀ j q, P 54 j = some q → j < 40 ∧ rx_dyn q ∧ P 0 12 ≠ some q) ∧ (∀ i j q, P 54 i = some q → P 54 j = some q → i = j)
section KEEP
variable {S : ab_S} {I : ab_I} {J : ab_J} {P : ab_P} {np q dn : Nat} {w : Nat → Nat} {W : Nat → Nat → Nat}
theorem px_keep2 {a : Nat} (h53 : I 53 1 = nI dn) (ha : rx_dyn a) (hq : rx_dyn q) (hne : a ≠ q) : ∃ I1, fX0_keep2 q a S I P = some (S, I1, P) ∧ (∀ k, k < 45 → rx_v I1 a k = rx_v I q k) ∧ I1 53 1 = nI (dn + 1) ∧ I1 53 2 = nI (dn + 1) ∧ ∀ r, (r < a ∨ a + 3 < r) → r ≠ 53 → I1 r = I r := by
  obtain ⟨I1, c1, c2, c3⟩ := px_copy (I := I) (q0 := a) (q1 := q) ((rx_dyn_ne hq ha (Ne.symm hne)))
  have e53 : I1 53 1 = nI dn := by rw [c3 53 (by rcases ha with rfl | ⟨i, rfl⟩ <;> omega)]; exact h53
  refine ⟨ab_u (ab_u I1 53 1 (nI dn + 1)) 53 2 (nI dn + 1), ?_, fun k hk => ?_, ?_, ?_, fun r h1 h2 => ?_⟩
  · unfold fX0_keep2
    rw [c1, px_bd, e53]
  · rw [rx_v_c (I := I1) (fun e he g => by rw [ab_u_o (by rcases ha with rfl | ⟨i, rfl⟩ <;> omega), ab_u_o (by rcases ha with rfl | ⟨i, rfl⟩ <;> omega)])]
    exact c2 k hk
  · rw [ab_u_ne (by decide), ab_u_at, nI_succ]
  · rw [ab_u_at, nI_succ]
  · rw [ab_u_o h2, ab_u_o h2]
    exact c3 r h1
theorem px_keep1 (hB : bz_B S P) (hZ : bz_Z S.length I J P) (hS : ∃ i, S.length = 109 + 4 * i) (hdn : dn < 40) (h53 : I 53 1 = nI dn) (hq : P 0 12 = some q) (hqd : rx_dyn q) (hw : rx_is np (rx_v I q) w) (hW : ∀ j, j < dn → rx_sd I P np j (W j)) (hd : rx_ds P) :
    ∃ S1 I1 P1, fX0_keep1 q S I P = some (S1, I1, P1) ∧ bz_B S1 P1 ∧ bz_Z S1.length I1 J P1 ∧ (∃ i, S1.length = 109 + 4 * i) ∧ P1 0 12 = some q ∧ (∀ j, j < 4 → I1 (q + j) = I (q + j)) ∧ (∀ r, ¬ rx_dD r → r ≠ 53 → I1 r = I r) ∧ I1 53 1 = nI (dn + 1) ∧ I1 53 2 = nI (dn + 1) ∧ (∀ j, j < dn + 1 → rx_sd I1 P1 np j (if j = dn then w else W j)) ∧ rx_ds P1 := by
  have qst := hB.2.2.1 q hq
  have qlt : q + 3 < S.length := bz_lt qst.2.2.2.1
  have hix : ab_ix (nI dn) 40 = true := px_ix hdn (by decide)
  have h54l : 54 < S.length := by obtain ⟨i, hi⟩ := hS; omega
  cases ha : P 54 dn with
  | some a =>
    obtain ⟨a1, a2, a3⟩ := hd.1 dn a ha
    have hne : a ≠ q := fun h => a3 (by rw [hq, h])
    have ast := hB.2.2.2 dn a ha
    have alt : a + 3 < S.length := bz_lt ast.2.2.2.1
    obtain ⟨I1, c1, c2, c3, c4, c5⟩ := px_keep2 (S := S) (P := P) h53 a2 hqd hne
    have hk : fX0_keep1 q S I P = some (S, I1, P) := by
      unfold fX0_keep1
      rw [h53, px_gd hix, nI_clamp (by omega), ha]
      exact c1
    have hda := rx_dyn_ne a2 hqd hne
    refine ⟨S, I1, P, hk, hB, fun r hr => ?_, hS, hq, fun j hj => ?_, fun r h1 h2 => ?_, c3, c4, fun j hj => ?_, hd⟩
    · rw [c5 r (by omega) (by omega)]
      exact hZ r hr
    · exact c5 (q + j) (by omega) (by rcases hqd with rfl | ⟨i, rfl⟩ <;> omega)
    · refine c5 r ?_ h2
      unfold rx_dD at h1
      rcases a2 with rfl | ⟨i, rfl⟩ <;> omega
    · by_cases ej : j = dn
      · subst ej
        rw [if_pos rfl]
        exact ⟨a, ha, fun k h1 h2 => by rw [c2 k h1]; exact hw k h1 h2⟩
      · rw [if_neg ej]
        obtain ⟨b, b1, b2⟩ := hW j (by omega)
        have hab : b ≠ a := fun h => ej (hd.2 j dn a (by rw [b1, h]) ha)
        have hdb := rx_dyn_ne (hd.1 j b b1).2.1 a2 hab
        exact ⟨b, b1, rx_is_c (fun e he g => by rw [c5 (b + e) (by omega) (by have := (hd.1 j b b1).2.1; rcases this with rfl | ⟨i, rfl⟩ <;> omega)]) b2⟩
  | none =>
    obtain ⟨i, hi⟩ := hS
    have a2 : rx_dyn S.length := Or.inr ⟨i, hi⟩
    have hne : S.length ≠ q := by omega
    obtain ⟨I1, c1, c2, c3, c4, c5⟩ := px_keep2 (S := ac_ap S) (P := ac_new S P dn) h53 a2 hqd hne
    have hk : fX0_keep1 q S I P = some (ac_ap S, I1, ac_new S P dn) := by
      unfold fX0_keep1
      rw [h53, px_gd hix, nI_clamp (by omega), ha]
      exact c1
    have hlen : (ac_ap S).length = S.length + 4 := by unfold ac_ap; rw [List.length_append]; rfl
    have p54 : ∀ j, ac_new S P dn 54 j = if j = dn then some S.length else P 54 j := fun j => by
      unfold ac_new
      by_cases e : j = dn
      · rw [if_pos e, e, ab_u_at]
      · rw [if_neg e, ab_u_ne e, ac_nP_o (by omega)]
    have p0 : ac_new S P dn 0 = P 0 := by
      unfold ac_new
      rw [ab_u_o (by decide), ac_nP_o (by omega)]
    have lt54 : ∀ j b, P 54 j = some b → b + 3 < S.length := fun j b hb => bz_lt (hB.2.2.2 j b hb).2.2.2.1
    refine ⟨ac_ap S, I1, ac_new S P dn, hk, ac_new_B hB, fun r hr => ?_, ⟨i + 1, by rw [hlen]; omega⟩, by rw [p0]; exact hq, fun j hj => ?_, fun r h1 h2 => ?_, c3, c4, fun j hj => ?_, ?_, ?_⟩
    · rw [hlen] at hr
      obtain ⟨z1, z2, z3⟩ := hZ r (by omega)
      refine ⟨by rw [c5 r (by omega) (by omega)]; exact z1, z2, ?_⟩
      unfold ac_new
      rw [ab_u_o (by omega), ac_nP_o (by omega)]
      exact z3
    · exact c5 (q + j) (by omega) (by rcases hqd with rfl | ⟨i, rfl⟩ <;> omega)
    · refine c5 r ?_ h2
      unfold rx_dD at h1
      omega
    · by_cases ej : j = dn
      · subst ej
        rw [if_pos rfl]
        exact ⟨S.length, by rw [p54, if_pos rfl], fun k h1 h2 => by rw [c2 k h1]; exact hw k h1 h2⟩
      · rw [if_neg ej]
        obtain ⟨b, b1, b2⟩ := hW j (by omega)
        have := lt54 j b b1
        exact ⟨b, by rw [p54, if_neg ej]; exact b1, rx_is_c (fun e he g => by rw [c5 (b + e) (by omega) (by have := (hd.1 j b b1).2.1; rcases this with rfl | ⟨i, rfl⟩ <;> omega)]) b2⟩
    · intro j b hb
      rw [p54] at hb
      rw [p0]
      by_cases ej : j = dn
      · rw [if_pos ej] at hb
        cases hb
        exact ⟨by omega, a2, fun h => by rw [hq] at h; cases h; omega⟩
      · rw [if_neg ej] at hb
        exact hd.1 j b hb
    · intro j1 j2 b h1 h2
      rw [p54] at h1 h2
      by_cases e1 : j1 = dn
      · rw [if_pos e1] at h1
        by_cases e2 : j2 = dn
        · rw [e1, e2]
        · rw [if_neg e2] at h2
          cases h1
          have := lt54 j2 _ h2
          omega
      · rw [if_neg e1] at h1
        by_cases e2 : j2 = dn
        · rw [if_pos e2] at h2
          cases h2
          have := lt54 j1 _ h1
          omega
        · rw [if_neg e2] at h2
          exact hd.2 j1 j2 b h1 h2
theorem px_keep (hB : bz_B S P) (hZ : bz_Z S.length I J P) (hS : ∃ i, S.length = 109 + 4 * i) (hdn : dn ≤ 40) (h53 : I 53 1 = nI dn) (hq : P 0 12 = some q) (hqd : rx_dyn q) (hw : rx_is np (rx_v I q) w) (hW : ∀ j, j < dn → rx_sd I P np j (W j)) (hd : rx_ds P) :
    ∃ S1 I1 P1, fX0_keep q S I P = some (S1, I1, P1) ∧ bz_B S1 P1 ∧ bz_Z S1.length I1 J P1 ∧ (∃ i, S1.length = 109 + 4 * i) ∧ P1 0 12 = some q ∧ (∀ j, j < 4 → I1 (q + j) = I (q + j)) ∧ (∀ r, ¬ rx_dD r → r ≠ 53 → I1 r = I r) ∧ I1 53 1 = nI (min dn 39 + 1) ∧ I1 53 2 = nI (min dn 39 + 1) ∧ (∀ j, j < min dn 39 + 1 → rx_sd I1 P1 np j (if j = min dn 39 then w else W (if dn = 40 then j + 1 else j))) ∧ rx_ds P1 := by
  by_cases e : dn < 40
  · have hlt : nI dn < (40 : Int32) := nI_lt (b := 40) e (by decide)
    have em : min dn 39 = dn := by omega
    obtain ⟨S1, I1, P1, k0, k⟩ := px_keep1 hB hZ hS e h53 hq hqd hw hW hd
    refine ⟨S1, I1, P1, ?_, ?_⟩
    · unfold fX0_keep
      rw [h53, if_pos hlt]
      exact k0
    · rw [em]
      simp only [if_neg (show ¬ dn = 40 by omega)]
      exact k
  · obtain rfl : dn = 40 := by omega
    have hall : ac_all P = true := by
      unfold ac_all
      rw [List.all_eq_true]
      intro j hj
      obtain ⟨a, h1, _⟩ := hW j (List.mem_range.mp hj)
      rw [h1]
      rfl
    have r54 : ∀ j, ac_rot P 54 j = if j < 39 then P 54 (j + 1) else if j = 39 then P 54 0 else P 54 j := fun j => by unfold ac_rot; rw [if_pos rfl]
    have r0 : ac_rot P 0 = P 0 := ac_rot_row 0 (by decide)
    have hn : ∀ j, 40 ≤ j → P 54 j = none := fun j hj => by
      cases h : P 54 j with
      | none => rfl
      | some a => have := (hd.1 j a h).1; omega
    have h54l : 54 < S.length := by obtain ⟨i, hi⟩ := hS; omega
    have hd2 : rx_ds (ac_rot P) := by
      refine ⟨fun j b hb => ?_, fun j1 j2 b h1 h2 => ?_⟩
      · rw [r54] at hb
        rw [r0]
        by_cases e1 : j < 39
        · rw [if_pos e1] at hb
          exact ⟨by omega, (hd.1 _ b hb).2⟩
        · rw [if_neg e1] at hb
          by_cases e2 : j = 39
          · rw [if_pos e2] at hb
            exact ⟨by omega, (hd.1 _ b hb).2⟩
          · rw [if_neg e2] at hb
            exact hd.1 j b hb
      · rw [r54] at h1 h2
        by_cases a1 : j1 < 39
        · rw [if_pos a1] at h1
          by_cases b1 : j2 < 39
          · rw [if_pos b1] at h2
            have := hd.2 _ _ b h1 h2
            omega
          · rw [if_neg b1] at h2
            by_cases b2 : j2 = 39
            · rw [if_pos b2] at h2
              have := hd.2 _ _ b h1 h2
              omega
            · rw [if_neg b2, hn j2 (by omega)] at h2
              cases h2
        · rw [if_neg a1] at h1
          by_cases a2 : j1 = 39
          · rw [if_pos a2] at h1
            by_cases b1 : j2 < 39
            · rw [if_pos b1] at h2
              have := hd.2 _ _ b h1 h2
              omega
            · rw [if_neg b1] at h2
              by_cases b2 : j2 = 39
              · omega
              · rw [if_neg b2, hn j2 (by omega)] at h2
                cases h2
          · rw [if_neg a2, hn j1 (by omega)] at h1
            cases h1
    have hZ2 : bz_Z S.length (ab_u I 53 1 39) J (ac_rot P) := fun r hr => by
      obtain ⟨z1, z2, z3⟩ := hZ r hr
      exact ⟨by rw [ab_u_o (by omega)]; exact z1, z2, by rw [ac_rot_row r (by omega)]; exact z3⟩
    have v53 : ∀ a, rx_dyn a → ∀ u, rx_is np (rx_v I a) u → rx_is np (rx_v (ab_u I 53 1 39) a) u := fun a ha u hu => rx_is_c (fun e he g => by rw [ab_u_o (by rcases ha with rfl | ⟨i, rfl⟩ <;> omega)]) hu
    obtain ⟨S1, I1, P1, k0, k1, k2, k3, k4, k5, k6, k7, k8, k9, k10⟩ := px_keep1 (W := fun j => W (j + 1)) (dn := 39) (ac_rot_B hB) hZ2 hS (by decide) (by rw [ab_u_at]; rfl) (by rw [r0]; exact hq) hqd (v53 q hqd w hw) (fun j hj => by
      obtain ⟨a, h1, h2⟩ := hW (j + 1) (by omega)
      exact ⟨a, by rw [r54, if_pos hj]; exact h1, v53 a (hd.1 _ a h1).2.1 _ h2⟩) hd2
    refine ⟨S1, I1, P1, ?_, k1, k2, k3, k4, fun j hj => ?_, fun r h1 h2 => ?_, k7, k8, ?_, k10⟩
    · unfold fX0_keep
      rw [h53, if_neg (by decide), px_gd hall]
      exact k0
    · rw [k5 j hj, ab_u_o (by rcases hqd with rfl | ⟨i, rfl⟩ <;> omega)]
    · rw [k6 r h1 h2, ab_u_o h2]
    · intro j hj
      have := k9 j (by omega)
      simpa using this
end KEEP
section ACT
variable {I : ab_I} {dn : Nat}
theorem px_act49 (hdn : dn < 40) (h50 : I 73 50 = nI dn) : ∃ I', fX12_act_49 I = some I' ∧ I' 73 50 = nI (dn + 1) ∧ I' 73 51 = 0 ∧ (∀ k, k < 45 → I' 90 k = I 89 k) ∧ (∀ k, k < 45 → I' 92 (45 * dn + k) = I 89 k) ∧ (∀ k, (k < 45 * dn ∨ 45 * dn + 45 ≤ k) → I' 92 k = I 92 k) ∧ ∀ r k, r ≠ 90 → r ≠ 92 → ¬ (r = 73 ∧ (k = 50 ∨ k = 51)) → I' r k = I r k := by
  unfold fX12_act_49
  refine px_cpl (body := fun s : Int32 × ab_I => fX12_act_51 s.1 s.2) (I := I) 45 92 (45 * dn) (I 89) ?_ ?_ (m := 5000) (by decide)
  · intro i I2 hi f1 f2
    dsimp only
    unfold fX12_act_51
    rw [if_neg (show ¬ (45 : Int32) ≤ nI i from nI_ge (b := 45) hi (by decide)), px_gd (px_ix hi (by decide)), f1 73 (by decide), h50, px_45, px_gd (px_ix (by omega) (by decide)), nI_clamp (by omega), nI_clamp (by omega), f1 89 (by decide)]
  · intro I2 f1 f2
    dsimp only
    obtain ⟨I3, c1, c2, c3⟩ := px_fill (I := ab_u (ab_u I2 73 50 (nI dn + 1)) 73 51 0)
    unfold fX12_act_51 fX12_act_83
    rw [if_pos (show (45 : Int32) ≤ nI 45 by decide), f1 73 (by decide), h50, c1, px_bd]
    refine ⟨_, rfl, ?_, ?_, fun k hk => ?_, fun k hk => ?_, fun k hk => ?_, fun r k h1 h2 h3 => ?_⟩
    · rw [c3 73 (by decide), px_u (by decide), ab_u_at, nI_succ]
    · rw [c3 73 (by decide), ab_u_at]
    · rw [c2 k hk, px_u (by omega), px_u (by omega), f1 89 (by decide)]
    · rw [c3 92 (by decide), px_u (by omega), px_u (by omega), f2, if_pos (by omega), Nat.add_sub_cancel_left]
    · rw [c3 92 (by decide), px_u (by omega), px_u (by omega), f2, if_neg (by omega)]
    · rw [c3 r h1, px_u (by omega), px_u (by omega), f1 r h2]
theorem px_act (hdn : dn ≤ 40) (h50 : I 73 50 = nI dn) : ∃ I', fX12_act I = some I' ∧ I' 73 50 = nI (min dn 39 + 1) ∧ I' 73 51 = 0 ∧ (∀ k, k < 45 → I' 90 k = I 89 k) ∧ (∀ j, j < min dn 39 + 1 → ∀ k, k < 45 → I' 92 (45 * j + k) = if j = min dn 39 then I 89 k else I 92 (45 * (if dn = 40 then j + 1 else j) + k)) ∧ ∀ r k, r ≠ 90 → r ≠ 92 → ¬ (r = 73 ∧ (k = 50 ∨ k = 51)) → I' r k = I r k := by
  by_cases e : dn = 40
  · subst e
    have key := px_cpl (body := fun s : Int32 × ab_I => fX12_act_11 s.1 s.2) (I := I) (Out := fun I' : ab_I => I' 73 50 = nI 40 ∧ I' 73 51 = 0 ∧ (∀ k, k < 45 → I' 90 k = I 89 k) ∧ (∀ j, j < 40 → ∀ k, k < 45 → I' 92 (45 * j + k) = if j = 39 then I 89 k else I 92 (45 * (j + 1) + k)) ∧ ∀ r k, r ≠ 90 → r ≠ 92 → ¬ (r = 73 ∧ (k = 50 ∨ k = 51)) → I' r k = I r k) 1755 92 0 (fun i => I 92 (45 + i)) ?_ ?_ (m := 5000) (by decide)
    · obtain ⟨I', k1, k2, k3, k4, k5, k6⟩ := key
      refine ⟨I', ?_, k2, k3, k4, k5, k6⟩
      unfold fX12_act
      rw [h50, if_pos (by decide)]
      exact k1
    · intro i I2 hi f1 f2
      dsimp only
      unfold fX12_act_11
      rw [if_neg (show ¬ (1755 : Int32) ≤ nI i from nI_ge (b := 1755) hi (by decide)), show (45 : Int32) = nI 45 from rfl, px_add, px_gd (px_ix (by omega) (by decide)), px_gd (px_ix (by omega) (by decide)), nI_clamp (by omega), nI_clamp (by omega), f2, if_neg (by omega), Nat.zero_add]
    · intro I2 f1 f2
      dsimp only
      have h39 : ab_u I2 73 50 (nI 40 - 1) 73 50 = nI 39 := by rw [ab_u_at]; rfl
      obtain ⟨I', k1, k2, k3, k4, k5, k6, k7⟩ := px_act49 (I := ab_u I2 73 50 (nI 40 - 1)) (by decide) h39
      unfold fX12_act_11 fX12_act_39
      rw [if_pos (show (1755 : Int32) ≤ nI 1755 by decide), f1 73 (by decide), h50, k1]
      refine ⟨_, rfl, k2, k3, fun k hk => ?_, fun j hj k hk => ?_, fun r k h1 h2 h3 => ?_⟩
      · rw [k4 k hk, px_u (by omega), f1 89 (by decide)]
      · by_cases ej : j = 39
        · subst ej
          rw [if_pos rfl, k5 k hk, px_u (by omega), f1 89 (by decide)]
        · rw [if_neg ej, k6 _ (by omega), px_u (by omega), f2, if_pos (by omega), Nat.sub_zero]
          show I 92 (45 + (45 * j + k)) = _
          rw [show 45 + (45 * j + k) = 45 * (j + 1) + k by omega]
      · rw [k7 r k h1 h2 h3, px_u (by omega), f1 r h2]
  · have hlt : dn < 40 := by omega
    have em : min dn 39 = dn := by omega
    obtain ⟨I', k1, k2, k3, k4, k5, k6, k7⟩ := px_act49 hlt h50
    refine ⟨I', ?_, by rw [em]; exact k2, k3, k4, fun j hj k hk => ?_, k7⟩
    · unfold fX12_act
      rw [h50, if_neg (show ¬ nI dn = (40 : Int32) from fun h => absurd ((nI_eq (b := 40) (by omega) (by decide)).mp h) e)]
      exact k1
    · rw [em] at hj ⊢
      rw [if_neg e]
      by_cases ej : j = dn
      · subst ej
        rw [if_pos rfl]; exact k5 k hk
      · rw [if_neg ej, k6 _ (by omega)]
end ACT
