/-! ===== duties: a number for each ===== -/
section DUS
variable (np : Nat) (w : Nat → Nat)
/-- who have a duty among the first b bells -/
def du_us : Nat → Nat → Nat
  | 0, _ => 0
  | b + 1, c => if c % (np + 1) = np then du_us b (c / (np + 1)) else du_us b (c / (np + 1)) ||| 2 ^ (c % (np + 1))
def du_fe : Nat → Nat → Bool
  | 0, _ => true
  | b + 1, c => du_fe b (c / (np + 1)) && (decide (c % (np + 1) = np) || (!(du_us np b (c / (np + 1))).testBit (c % (np + 1)) && (w 12).testBit (c % (np + 1)) && decide (0 < w (13 + 5 * (c % (np + 1)) + b))))
def du_ct : Nat → Nat → Nat
  | 0, _ => 0
  | b + 1, c => du_ct b (c / (np + 1)) + (if c % (np + 1) = np then 0 else 1)
def du_ls : Nat → Nat → Nat
  | 0, _ => 0
  | b + 1, c => du_ls b (c / (np + 1)) + (if c % (np + 1) = np then 0 else w (13 + 5 * (c % (np + 1)) + b))
def du_dg : Nat → Nat → Nat → Nat
  | 0, _, _ => 0
  | b + 1, c, j => if j = b then c % (np + 1) else du_dg b (c / (np + 1)) j
/-- who has the bell, as a row tells it -/
def du_di (d : Nat) : Int32 := if d = np then -1 else nI d
def du_st (nb : Nat) (o : Option Nat) (c : Nat) : Option Nat := if du_fe np w nb c = true then (match o with
  | none => some c
  | some m => if du_ct np nb m < du_ct np nb c ∨ (du_ct np nb c = du_ct np nb m ∧ du_ls np w nb c < du_ls np w nb m) then some c else some m) else o
def du_fr (nb : Nat) (o : Option Nat) (s : Nat) : Nat → Option Nat
  | 0 => o
  | n + 1 => du_st np w nb (du_fr nb o s n) (s + n)
end DUS
section DUT
variable {np nb : Nat} {w : Nat → Nat}
theorem du_st_n {o : Option Nat} {c : Nat} (h : ¬ du_fe np w nb c = true) : du_st np w nb o c = o := by
  unfold du_st
  exact if_neg h
theorem du_st_y {o : Option Nat} {c : Nat} (h : du_fe np w nb c = true) : du_st np w nb o c = (match o with
  | none => some c
  | some m => if du_ct np nb m < du_ct np nb c ∨ (du_ct np nb c = du_ct np nb m ∧ du_ls np w nb c < du_ls np w nb m) then some c else some m) := by
  unfold du_st
  exact if_pos h
theorem du_fr_add {o : Option Nat} {s n : Nat} : ∀ m, du_fr np w nb o s (n + m) = du_fr np w nb (du_fr np w nb o s n) (s + n) m
  | 0 => rfl
  | m + 1 => by
    rw [← Nat.add_assoc, du_fr, du_fr, du_fr_add m, Nat.add_assoc]
theorem du_div {c d : Nat} (h : d ≤ np) : (c * (np + 1) + d) / (np + 1) = c ∧ (c * (np + 1) + d) % (np + 1) = d := by
  constructor
  · rw [Nat.mul_comm, Nat.mul_add_div (by omega), Nat.div_eq_of_lt (by omega), Nat.add_zero]
  · rw [Nat.mul_comm, Nat.mul_add_mod, Nat.mod_eq_of_lt (by omega)]
theorem du_pre : ∀ m b c r, r < (np + 1) ^ m → du_fe np w (b + m) (c * (np + 1) ^ m + r) = true → du_fe np w b c = true
  | 0, b, c, r, hr, h => by
    rw [Nat.pow_zero] at hr h
    obtain rfl : r = 0 := by omega
    simpa using h
  | m + 1, b, c, r, hr, h => by
    have hp : 0 < np + 1 := by omega
    rw [show b + (m + 1) = (b + m) + 1 from rfl, du_fe, Bool.and_eq_true] at h
    have e : (c * (np + 1) ^ (m + 1) + r) / (np + 1) = c * (np + 1) ^ m + r / (np + 1) := by
      rw [Nat.pow_succ, ← Nat.mul_assoc, Nat.mul_comm _ (np + 1), Nat.mul_add_div hp]
    rw [e] at h
    exact du_pre m b c (r / (np + 1)) (by
      rw [Nat.pow_succ, Nat.mul_comm] at hr
      exact Nat.div_lt_of_lt_mul hr) h.1
theorem du_skip {b c m : Nat} (hb : b + m = nb) (h : ¬ du_fe np w b c = true) {o : Option Nat} : ∀ n, n ≤ (np + 1) ^ m → du_fr np w nb o (c * (np + 1) ^ m) n = o
  | 0, _ => rfl
  | n + 1, hn => by
    rw [du_fr, du_skip hb h n (by omega)]
    refine du_st_n (fun hf => ?_)
    rw [← hb] at hf
    exact h (du_pre m b c n (by omega) hf)
theorem du_us64 (hn : np ≤ 6) : ∀ b c, du_us np b c < 2 ^ np
  | 0, c => Nat.pow_pos (by decide)
  | b + 1, c => by
    have ih := du_us64 hn b (c / (np + 1))
    have hm := Nat.mod_lt c (show 0 < np + 1 by omega)
    rw [du_us]
    by_cases e : c % (np + 1) = np
    · rw [if_pos e]; exact ih
    · rw [if_neg e]
      exact px_or_lt np (by omega) _ ih _ (by omega)
theorem du_ct_le : ∀ b c, du_ct np b c ≤ b
  | 0, c => Nat.le_refl _
  | b + 1, c => by
    have ih := du_ct_le b (c / (np + 1))
    rw [du_ct]
    split <;> omega
theorem du_ls_le {nb0 dm : Nat} (hn : np ≤ 6) (ho : rx_ok np nb0 dm w) : ∀ b c, b ≤ 5 → du_ls np w b c ≤ 20 * b
  | 0, c, _ => Nat.le_refl _
  | b + 1, c, h => by
    have ih := du_ls_le hn ho b (c / (np + 1)) (by omega)
    have hm := Nat.mod_lt c (show 0 < np + 1 by omega)
    rw [du_ls]
    by_cases e : c % (np + 1) = np
    · rw [if_pos e]; omega
    · rw [if_neg e]
      have := ho.2.2.2.1 (5 * (c % (np + 1)) + b) (by omega)
      rw [← Nat.add_assoc] at this
      omega
theorem du_tb : ∀ h, h < 64 → ∀ s, s < 64 → ∀ p, p < 6 → (sp_wo h s).testBit p = (h.testBit p && !s.testBit p) := by decide +kernel
theorem du_wo : ∀ h, h < 64 → ∀ s, s < 64 → ∀ p, p < 6 → sp_wo (sp_wo h s) (2 ^ p) = sp_wo h (s ||| 2 ^ p) := by decide +kernel
/-- the best so far, as the class has it -/
def du_bx (I : ab_I) (np nb : Nat) (w : Nat → Nat) (o : Option Nat) : Prop := match o with
  | none => I 34 5 = -1 ∧ I 34 6 = 0
  | some m => I 34 5 = nI (du_ct np nb m) ∧ I 34 6 = nI (du_ls np w nb m) ∧ ∀ j, j < nb → I 40 j = du_di np (du_dg np nb m j)
theorem du_bx_c {I I' : ab_I} {o : Option Nat} (h : du_bx I np nb w o) (h34 : I' 34 = I 34) (h40 : I' 40 = I 40) : du_bx I' np nb w o := by
  unfold du_bx at *
  rw [h34, h40]
  exact h
set_option maxHeartbeats 1000000 in
theorem px_share {q dm : Nat} (hn : np ≤ 6) (hnb : nb ≤ 5) (hq : rx_dyn q) (ho : rx_ok np nb dm w) : ∀ m b c fuel (I : ab_I) (o : Option Nat), b + m = nb → m < fuel → du_fe np w b c = true → I 3 4 = nI np → I 3 5 = nI nb → rx_is np (rx_v I q) w → (∀ j, j < b → I 39 j = du_di np (du_dg np b c j)) → du_bx I np nb w o →
    ∃ I', fX3_shareFrom fuel q (nI b) (nI (sp_wo (w 12) (du_us np b c))) (nI (du_ct np b c)) (nI (du_ls np w b c)) I = some I' ∧ du_bx I' np nb w (du_fr np w nb o (c * (np + 1) ^ m) ((np + 1) ^ m)) ∧ (∀ j, j < b → I' 39 j = I 39 j) ∧ ∀ r, r ≠ 34 → r ≠ 39 → r ≠ 40 → I' r = I r
  | 0, b, c, fuel, I, o, hb, hf, hfe, h34, h35, hw, h39, hbx => by
    obtain ⟨n, rfl⟩ : ∃ n, fuel = n + 1 := ⟨fuel - 1, by omega⟩
    obtain rfl : b = nb := by omega
    have c5 := du_ct_le (np := np) b c
    have l5 := du_ls_le hn ho b c hnb
    rw [Nat.pow_zero, Nat.mul_one]
    have est : du_fr np w b o c 1 = (match o with
      | none => some c
      | some m => if du_ct np b m < du_ct np b c ∨ (du_ct np b c = du_ct np b m ∧ du_ls np w b c < du_ls np w b m) then some c else some m) := by
      show du_st np w b o (c + 0) = _
      rw [Nat.add_zero, du_st_y hfe]
      cases o <;> rfl
    rw [est]
    show ∃ I', fX3_shareFrom_b (fX3_shareFrom n) q (nI b) _ _ _ I = some I' ∧ _
    have take : ∃ I', fX3_shareFrom_38 (fX3_shareFrom n) q (nI b) (nI (sp_wo (w 12) (du_us np b c))) (nI (du_ct np b c)) (nI (du_ls np w b c)) I = some I' ∧ du_bx I' np b w (some c) ∧ (∀ j, j < b → I' 39 j = I 39 j) ∧ ∀ r, r ≠ 34 → r ≠ 39 → r ≠ 40 → I' r = I r := by
      unfold fX3_shareFrom_38 fX3_shareFrom_70
      rw [h35, nI_clamp (by omega), px_gd ⟨nI_pos (by omega), by omega, by omega⟩]
      refine ⟨_, rfl, ⟨?_, ?_, fun j hj => ?_⟩, fun j hj => ?_, fun r a1 a2 a3 => ?_⟩
      · rw [ab_r_o (by decide), ab_u_ne (by decide), ab_u_at]
      · rw [ab_r_o (by decide), ab_u_at]
      · rw [ab_r_s, bz_z, pk_cpy_in (Nat.zero_le _) (by omega), Nat.zero_add, Nat.sub_zero, ab_u_o (by decide), ab_u_o (by decide)]
        exact h39 j hj
      · rw [ab_r_o (by decide), ab_u_o (by decide), ab_u_o (by decide)]
      · rw [ab_r_o a3, ab_u_o a1, ab_u_o a1]
    unfold fX3_shareFrom_b
    rw [h35, if_neg (nI_nlt (Nat.le_refl _) (by omega))]
    cases o with
    | none =>
      obtain ⟨x1, x2⟩ := hbx
      have hlt : I 34 5 < nI (du_ct np b c) := by
        rw [x1]
        exact Int32.lt_of_lt_of_le (by decide : (-1 : Int32) < 0) (nI_pos' (by omega))
      rw [if_pos hlt]
      exact take
    | some m =>
      obtain ⟨x1, x2, x3⟩ := id hbx
      have c6 := du_ct_le (np := np) b m
      have l6 := du_ls_le hn ho b m hnb
      have keep : ∃ I', fX3_shareFrom_70 (fX3_shareFrom n) q (nI b) (nI (sp_wo (w 12) (du_us np b c))) (nI (du_ct np b c)) (nI (du_ls np w b c)) I = some I' ∧ du_bx I' np b w (some m) ∧ (∀ j, j < b → I' 39 j = I 39 j) ∧ ∀ r, r ≠ 34 → r ≠ 39 → r ≠ 40 → I' r = I r := ⟨I, rfl, hbx, fun _ _ => rfl, fun _ _ _ _ => rfl⟩
      dsimp only
      rw [x1, x2]
      by_cases e1 : du_ct np b m < du_ct np b c
      · rw [if_pos (nI_lt e1 (by omega)), if_pos (Or.inl e1)]
        exact take
      · rw [if_neg (nI_nlt (by omega) (by omega))]
        by_cases e2 : du_ct np b c = du_ct np b m
        · rw [if_pos (by rw [e2])]
          by_cases e3 : du_ls np w b m ≤ du_ls np w b c
          · rw [if_pos (nI_le e3 (by omega)), if_neg (by omega)]
            exact keep
          · rw [if_neg (nI_ge (by omega) (by omega)), if_pos (by omega)]
            exact take
        · rw [if_neg (fun h => e2 ((nI_eq (by omega) (by omega)).mp h)), if_neg (by omega)]
          exact keep
  | m + 1, b, c, fuel, I, o, hb, hf, hfe, h34, h35, hw, h39, hbx => by
    obtain ⟨n, rfl⟩ : ∃ n, fuel = n + 1 := ⟨fuel - 1, by omega⟩
    have hh := rx_ok_h ho hn
    have hus : du_us np b c < 64 := Nat.lt_of_lt_of_le (du_us64 hn b c) (sp_two64 hn)
    have hfree : sp_wo (w 12) (du_us np b c) < 64 := Nat.lt_of_le_of_lt (sp_wo_le _ _) hh
    have c5 := du_ct_le (np := np) b c
    have l5 := du_ls_le hn ho b c (by omega)
    have epow : (np + 1) ^ (m + 1) = np * (np + 1) ^ m + (np + 1) ^ m := by rw [Nat.pow_succ, Nat.mul_comm, Nat.add_mul, Nat.one_mul]
    have eoff : ∀ p, c * (np + 1) ^ (m + 1) + p * (np + 1) ^ m = (c * (np + 1) + p) * (np + 1) ^ m := fun p => by rw [Nat.pow_succ, Nat.add_mul, Nat.mul_assoc, Nat.mul_comm ((np + 1) ^ m)]
    -- one recursion, tried[b] being d
    have rec1 : ∀ d K o', d ≤ np → du_fe np w (b + 1) (c * (np + 1) + d) = true → (∀ r, r ≠ 34 → r ≠ 39 → r ≠ 40 → K r = I r) → (∀ j, j < b → K 39 j = I 39 j) → K 39 b = du_di np d → du_bx K np nb w o' → ∃ K', fX3_shareFrom n q (nI (b + 1)) (nI (sp_wo (w 12) (du_us np (b + 1) (c * (np + 1) + d)))) (nI (du_ct np (b + 1) (c * (np + 1) + d))) (nI (du_ls np w (b + 1) (c * (np + 1) + d))) K = some K' ∧ du_bx K' np nb w (du_fr np w nb o' ((c * (np + 1) + d) * (np + 1) ^ m) ((np + 1) ^ m)) ∧ (∀ j, j < b → K' 39 j = I 39 j) ∧ ∀ r, r ≠ 34 → r ≠ 39 → r ≠ 40 → K' r = I r := by
      intro d K o' hd hfe2 hK hK39 hKb hKx
      obtain ⟨v1, v2⟩ := du_div (c := c) hd
      obtain ⟨K', y1, y2, y3, y4⟩ := px_share hn hnb hq ho m (b + 1) (c * (np + 1) + d) n K o' (by omega) (by omega) hfe2 (by rw [hK 3 (by decide) (by decide) (by decide)]; exact h34) (by rw [hK 3 (by decide) (by decide) (by decide)]; exact h35) (rx_is_c (fun e he g => by rw [hK (q + e) (by rcases hq with rfl | ⟨i, rfl⟩ <;> omega) (by rcases hq with rfl | ⟨i, rfl⟩ <;> omega) (by rcases hq with rfl | ⟨i, rfl⟩ <;> omega)]) hw) (fun j hj => by
        rw [du_dg, v1, v2]
        by_cases ej : j = b
        · rw [if_pos ej, ej]; exact hKb
        · rw [if_neg ej, hK39 j (by omega)]; exact h39 j (by omega)) hKx
      exact ⟨K', y1, y2, fun j hj => by rw [y3 j (by omega), hK39 j hj], fun r a1 a2 a3 => by rw [y4 r a1 a2 a3, hK r a1 a2 a3]⟩
    have key := px_for (body := fun s : Int32 × ab_I => fX3_shareFrom_74 (fX3_shareFrom n) q (nI b) (nI (sp_wo (w 12) (du_us np b c))) (nI (du_ct np b c)) (nI (du_ls np w b c)) s.1 s.2) (Out := fun I' : ab_I => du_bx I' np nb w (du_fr np w nb o (c * (np + 1) ^ (m + 1)) ((np + 1) ^ (m + 1))) ∧ (∀ j, j < b → I' 39 j = I 39 j) ∧ ∀ r, r ≠ 34 → r ≠ 39 → r ≠ 40 → I' r = I r)
      (fun p s => s.1 = nI p ∧ du_bx s.2 np nb w (du_fr np w nb o (c * (np + 1) ^ (m + 1)) (p * (np + 1) ^ m)) ∧ (∀ j, j < b → s.2 39 j = I 39 j) ∧ ∀ r, r ≠ 34 → r ≠ 39 → r ≠ 40 → s.2 r = I r) np ?_ ?_ np 0 5000 (0, I) (by omega) (by omega) ⟨rfl, by rw [Nat.zero_mul]; exact hbx, fun _ _ => rfl, fun _ _ _ _ => rfl⟩
    · obtain ⟨x, k1, k2⟩ := key
      refine ⟨x, ?_, k2⟩
      show fX3_shareFrom_b (fX3_shareFrom n) q (nI b) _ _ _ I = _
      unfold fX3_shareFrom_b
      rw [h35, if_pos (nI_lt (by omega) (by omega))]
      exact k1
    · rintro p ⟨s1, I2⟩ hp ⟨e1, e2, e3, e4⟩
      dsimp only at e1 e2 e3 e4 ⊢
      subst e1
      obtain ⟨v1, v2⟩ := du_div (c := c) (show p ≤ np by omega)
      have eq3 : I2 (q + 3) (5 * p + b) = nI (w (13 + 5 * p + b)) := by
        rw [e4 (q + 3) (by rcases hq with rfl | ⟨i, rfl⟩ <;> omega) (by rcases hq with rfl | ⟨i, rfl⟩ <;> omega) (by rcases hq with rfl | ⟨i, rfl⟩ <;> omega), rx_loss hw (by omega), Nat.add_assoc]
      have w20 := ho.2.2.2.1 (5 * p + b) (by omega)
      rw [← Nat.add_assoc] at w20
      have hfeq : du_fe np w (b + 1) (c * (np + 1) + p) = ((w 12).testBit p && !(du_us np b c).testBit p && decide (0 < w (13 + 5 * p + b))) := by
        rw [du_fe, v1, v2, hfe, decide_eq_false (show ¬ p = np by omega), Bool.true_and, Bool.false_or, Bool.and_comm (!(du_us np b c).testBit p)]
      have hnext : (p + 1) * (np + 1) ^ m = p * (np + 1) ^ m + (np + 1) ^ m := by rw [Nat.add_mul, Nat.one_mul]
      have skip : ¬ du_fe np w (b + 1) (c * (np + 1) + p) = true → du_bx I2 np nb w (du_fr np w nb o (c * (np + 1) ^ (m + 1)) ((p + 1) * (np + 1) ^ m)) := fun h => by
        rw [hnext, du_fr_add, eoff, du_skip (b := b + 1) (by omega) h _ (Nat.le_refl _)]
        exact e2
      have hcell : fX11_cell (nI p) (nI b) = some (nI (5 * p + b)) := px_cell p b
      unfold fX3_shareFrom_74 fX3_shareFrom_147
      rw [e4 3 (by decide) (by decide) (by decide), h34, if_neg (nI_ge hp (by omega)), hcell, px_bd, px_gd (px_ix (by omega) (by decide)), nI_clamp (by omega), eq3]
      by_cases f1 : (sp_wo (w 12) (du_us np b c)).testBit p = true
      · rw [if_pos ((px_bit _ hfree p (by omega)).mpr f1)]
        rw [du_tb _ hh _ hus p (by omega)] at f1
        by_cases f2 : w (13 + 5 * p + b) = 0
        · rw [if_pos (by rw [f2]; decide)]
          exact ⟨_, rfl, (nI_succ p).symm, skip (by rw [hfeq, f2]; simp), e3, e4⟩
        · have hfe2 : du_fe np w (b + 1) (c * (np + 1) + p) = true := by rw [hfeq, f1, decide_eq_true (show 0 < w (13 + 5 * p + b) by omega)]; rfl
          obtain ⟨K', y1, y2, y3, y4⟩ := rec1 p (ab_u I2 39 b (nI p)) _ (by omega) hfe2 (fun r a1 a2 a3 => by rw [ab_u_o a2]; exact e4 r a1 a2 a3) (fun j hj => by rw [ab_u_ne (by omega)]; exact e3 j hj) (by rw [ab_u_at, du_di, if_neg (by omega)]) (du_bx_c e2 (ab_u_o (by decide)) (ab_u_o (by decide)))
          have eus : du_us np (b + 1) (c * (np + 1) + p) = du_us np b c ||| 2 ^ p := by rw [du_us, v1, v2, if_neg (by omega)]
          have ect : du_ct np (b + 1) (c * (np + 1) + p) = du_ct np b c + 1 := by rw [du_ct, v1, v2, if_neg (by omega)]
          have els : du_ls np w (b + 1) (c * (np + 1) + p) = du_ls np w b c + w (13 + 5 * p + b) := by rw [du_ls, v1, v2, if_neg (by omega)]
          rw [eus, ← du_wo _ hh _ hus p (by omega), ect, els] at y1
          rw [if_neg (nI_nle (by omega) (by omega)), px_gd (px_ix (by omega) (by decide)), nI_clamp (by omega), px_one p (by omega), px_wo _ hfree _ (sp_pow64 p (by omega)), px_add, ← nI_succ, ← nI_succ, y1, px_bd]
          refine ⟨_, rfl, (nI_succ p).symm, ?_, y3, y4⟩
          dsimp only
          rw [hnext, du_fr_add, eoff]
          exact y2
      · rw [if_neg (fun h => f1 ((px_bit _ hfree p (by omega)).mp h))]
        rw [du_tb _ hh _ hus p (by omega)] at f1
        refine ⟨_, rfl, (nI_succ p).symm, skip (fun h => ?_), e3, e4⟩
        rw [hfeq, Bool.and_eq_true] at h
        exact f1 h.1
    · rintro ⟨s1, I2⟩ ⟨e1, e2, e3, e4⟩
      dsimp only at e1 e2 e3 e4 ⊢
      subst e1
      obtain ⟨v1, v2⟩ := du_div (c := c) (Nat.le_refl np)
      have hfe2 : du_fe np w (b + 1) (c * (np + 1) + np) = true := by rw [du_fe, v1, v2, hfe]; simp
      obtain ⟨K', y1, y2, y3, y4⟩ := rec1 np (ab_u I2 39 b (-1)) _ (Nat.le_refl _) hfe2 (fun r a1 a2 a3 => by rw [ab_u_o a2]; exact e4 r a1 a2 a3) (fun j hj => by rw [ab_u_ne (by omega)]; exact e3 j hj) (by rw [ab_u_at, du_di, if_pos rfl]) (du_bx_c e2 (ab_u_o (by decide)) (ab_u_o (by decide)))
      have eus : du_us np (b + 1) (c * (np + 1) + np) = du_us np b c := by rw [du_us, v1, v2, if_pos rfl]
      have ect : du_ct np (b + 1) (c * (np + 1) + np) = du_ct np b c := by rw [du_ct, v1, v2, if_pos rfl, Nat.add_zero]
      have els : du_ls np w (b + 1) (c * (np + 1) + np) = du_ls np w b c := by rw [du_ls, v1, v2, if_pos rfl, Nat.add_zero]
      rw [eus, ect, els] at y1
      unfold fX3_shareFrom_74 fX3_shareFrom_153
      rw [e4 3 (by decide) (by decide) (by decide), h34, if_pos (nI_le (Nat.le_refl _) (by omega)), px_gd (px_ix (by omega) (by decide)), nI_clamp (by omega), ← nI_succ, y1, px_bd]
      refine ⟨_, rfl, ?_, y3, y4⟩
      rw [show du_fr np w nb o (c * (np + 1) ^ (m + 1)) ((np + 1) ^ (m + 1)) = du_fr np w nb o (c * (np + 1) ^ (m + 1)) (np * (np + 1) ^ m + (np + 1) ^ m) from congrArg _ epow, du_fr_add, eoff]
      exact y2
end DUT
