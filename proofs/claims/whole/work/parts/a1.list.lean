/-! ===== what lies there; the great list ===== -/
theorem px_lay {I : ab_I} {r1 n1 m : Nat} (hr : r1 ≠ 0) (hm : m ≤ n1) (hn : n1 = 6 ∨ n1 = 2) : ∃ I', fX11_layDown r1 n1 (nI m) I = some I' ∧ I' 0 9 = nI m ∧ (∀ k, k < m → I' 55 k = I r1 k) ∧ ∀ r k, r ≠ 55 → ¬ (r = 0 ∧ k = 9) → I' r k = I r k := by
  have e1 : (if (Int32.ofNat n1) < (6 : Int32) then (Int32.ofNat n1) else (6 : Int32)) = nI n1 := by
    rcases hn with rfl | rfl <;> rfl
  have e2 : (if nI n1 < nI m then nI n1 else nI m) = nI m := if_neg (nI_nlt hm (by omega))
  unfold fX11_layDown
  rw [e1, e2, nI_clamp (by omega), px_gd]
  · refine ⟨_, rfl, ?_, fun k hk => ?_, fun r k h1 h2 => ?_⟩
    · rw [ab_r_o (by decide), ab_u_at]
    · rw [ab_r_s, bz_z, pk_cpy_in (Nat.zero_le _) (by omega), Nat.zero_add, Nat.sub_zero, ab_u_o hr]
    · rw [ab_r_o h1, px_u h2]
  · exact ⟨nI_pos (by omega), hm, by rcases hn with rfl | rfl <;> omega⟩
/-- a stands before b in the great list -/
def sp_bf (r : Nat → Nat) (a b : Nat) : Prop := r b < r a ∨ (r a = r b ∧ a < b)
/-- f tells 0 .. n - 1 in the list's order -/
def sp_srt (r : Nat → Nat) (n : Nat) (f : Nat → Nat) : Prop := (∀ j, j < n → f j < n) ∧ (∀ i j, i < j → j < n → sp_bf r (f i) (f j)) ∧ ∀ p, p < n → ∃ j, j < n ∧ f j = p
theorem sp_srt_u {r : Nat → Nat} {n : Nat} {f g : Nat → Nat} (hf : sp_srt r n f) (hg : sp_srt r n g) : ∀ m k, k < m → m ≤ n → f k = g k
  | 0, k, h, _ => absurd h (Nat.not_lt_zero k)
  | m + 1, k, h, hm => by
    by_cases e : k < m
    · exact sp_srt_u hf hg m k e (by omega)
    · have ek : k = m := by omega
      subst ek
      have ih := fun j hj => sp_srt_u hf hg k j hj (by omega)
      obtain ⟨a, ha, ea⟩ := hg.2.2 (f k) (hf.1 k (by omega))
      obtain ⟨b, hb, eb⟩ := hf.2.2 (g k) (hg.1 k (by omega))
      have irr : ∀ x, ¬ sp_bf r x x := fun x hx => by unfold sp_bf at hx; omega
      by_cases a1 : a < k
      · have := hf.2.1 a k a1 (by omega)
        rw [ih a a1, ea] at this
        exact absurd this (irr _)
      · by_cases a2 : a = k
        · rw [← ea, a2]
        · have h1 := hg.2.1 k a (by omega) ha
          rw [ea] at h1
          by_cases b1 : b < k
          · have := hg.2.1 b k b1 (by omega)
            rw [← ih b b1, eb] at this
            exact absurd this (irr _)
          · by_cases b2 : b = k
            · rw [← eb, b2]
            · have h2 := hf.2.1 k b (by omega) hb
              rw [eb] at h2
              unfold sp_bf at h1 h2
              omega
theorem sp_ins {r : Nat → Nat} {i pl : Nat} {f g : Nat → Nat} (hf : sp_srt r i f) (hpl : pl ≤ i) (h1 : ∀ k, k < pl → g k = f k) (h2 : g pl = i) (h3 : ∀ k, pl < k → k ≤ i → g k = f (k - 1)) (h4 : ∀ j, pl ≤ j → j < i → r (f j) < r i) (h5 : pl = 0 ∨ r i ≤ r (f (pl - 1))) : sp_srt r (i + 1) g := by
  have lo : ∀ k, k < pl → r i ≤ r (f k) := fun k hk => by
    rcases h5 with h5 | h5
    · omega
    · by_cases e : k = pl - 1
      · rw [e]; exact h5
      · have := hf.2.1 k (pl - 1) (by omega) (by omega)
        unfold sp_bf at this
        omega
  refine ⟨fun j hj => ?_, fun a b hab hb => ?_, fun p hp => ?_⟩
  · by_cases e1 : j < pl
    · rw [h1 j e1]; have := hf.1 j (by omega); omega
    · by_cases e2 : j = pl
      · rw [e2, h2]; omega
      · rw [h3 j (by omega) (by omega)]; have := hf.1 (j - 1) (by omega); omega
  · by_cases a1 : a < pl
    · rw [h1 a a1]
      by_cases b1 : b < pl
      · rw [h1 b b1]; exact hf.2.1 a b hab (by omega)
      · by_cases b2 : b = pl
        · rw [b2, h2]
          have := lo a a1
          have := hf.1 a (by omega)
          unfold sp_bf
          omega
        · rw [h3 b (by omega) (by omega)]
          exact hf.2.1 a (b - 1) (by omega) (by omega)
    · by_cases a2 : a = pl
      · rw [a2, h2, h3 b (by omega) (by omega)]
        exact Or.inl (h4 (b - 1) (by omega) (by omega))
      · rw [h3 a (by omega) (by omega), h3 b (by omega) (by omega)]
        exact hf.2.1 (a - 1) (b - 1) (by omega) (by omega)
  · by_cases e : p = i
    · exact ⟨pl, by omega, by rw [h2, e]⟩
    · obtain ⟨j, hj, ej⟩ := hf.2.2 p (by omega)
      by_cases e1 : j < pl
      · exact ⟨j, by omega, by rw [h1 j e1, ej]⟩
      · exact ⟨j + 1, by omega, by rw [h3 (j + 1) (by omega) (by omega), Nat.add_sub_cancel, ej]⟩
theorem px_pop_ex : ∀ n, n < 7 → ∀ h, h < 2 ^ n → rx_pop h < n → ∃ p, p < n ∧ h.testBit p = false := by decide +kernel
theorem px_pop_or : ∀ h, h < 64 → ∀ p, p < 6 → h.testBit p = false → rx_pop (h ||| 2 ^ p) = rx_pop h + 1 := by decide +kernel
theorem px_or_lt : ∀ n, n < 7 → ∀ h, h < 2 ^ n → ∀ p, p < n → h ||| 2 ^ p < 2 ^ n := by decide +kernel
theorem px_or_tb : ∀ h, h < 64 → ∀ p, p < 6 → ∀ k, k < 6 → (h ||| 2 ^ p).testBit k = (decide (k = p) || h.testBit k) := by decide +kernel
theorem px_or_nI : ∀ h, h < 64 → ∀ p, p < 6 → nI h ||| ((1 : Int32) <<< (nI p &&& 31)) = nI (h ||| 2 ^ p) := by decide +kernel
theorem px_pop_all : ∀ n, n < 7 → ∀ h, h < 2 ^ n → rx_pop h = n → ∀ p, p < n → h.testBit p = true := by decide +kernel
section PR16
variable {S : ab_S} {I : ab_I} {J : ab_J} {P : ab_P} {l : Launch} {G : ab_G} {np nb q : Nat} {w : Nat → Nat}
theorem px_glIn {i : Nat} {f : Nat → Nat} (hq : rx_dyn q) (hn : np ≤ 6) (hi : i < np) (hw : rx_is np (rx_v I q) w) (ho : rx_ok np nb 999 w) (h40 : ∀ k, k < i → I 40 k = nI (f k)) (hf : ∀ k, k < i → f k < i) :
    ∃ I3, ab_it (fun s : Int32 × Int32 × ab_I => fX3_greatList_15 q s.1 s.2.1 s.2.2) 5000 (nI i, nI i, I) = some (.inl (nI i + 1, I3)) ∧ (∃ pl, pl ≤ i ∧ (∀ k, k < pl → I3 40 k = nI (f k)) ∧ I3 40 pl = nI i ∧ (∀ k, pl < k → k ≤ i → I3 40 k = nI (f (k - 1))) ∧ (∀ j, pl ≤ j → j < i → w (6 + f j) < w (6 + i)) ∧ (pl = 0 ∨ w (6 + i) ≤ w (6 + f (pl - 1)))) ∧ ∀ r, r ≠ 40 → I3 r = I r := by
  have hr : ∀ I2 : ab_I, (∀ r, r ≠ 40 → I2 r = I r) → ∀ p, p < 6 → I2 (q + 2) p = nI (w (6 + p)) := fun I2 h p hp => by
    rw [h (q + 2) (by rcases hq with rfl | ⟨i, rfl⟩ <;> omega)]
    exact rx_rang hw hp
  have r9 : ∀ p, p < 6 → w (6 + p) ≤ 999 := ho.2.1
  have stop : ∀ (pl : Nat) (I2 : ab_I), pl ≤ i → (∀ r, r ≠ 40 → I2 r = I r) → (∀ k, k < pl → I2 40 k = nI (f k)) → (∀ k, pl < k → k ≤ i → I2 40 k = nI (f (k - 1))) → (∀ j, pl ≤ j → j < i → w (6 + f j) < w (6 + i)) → (pl = 0 ∨ w (6 + i) ≤ w (6 + f (pl - 1))) → ∃ x, (fX3_greatList_61 q (nI i) (nI pl) I2).map (Sum.inr (α := Int32 × Int32 × ab_I)) = some (.inr x) ∧ ∃ I3, x = .inl (nI i + 1, I3) ∧ (∃ pl, pl ≤ i ∧ (∀ k, k < pl → I3 40 k = nI (f k)) ∧ I3 40 pl = nI i ∧ (∀ k, pl < k → k ≤ i → I3 40 k = nI (f (k - 1))) ∧ (∀ j, pl ≤ j → j < i → w (6 + f j) < w (6 + i)) ∧ (pl = 0 ∨ w (6 + i) ≤ w (6 + f (pl - 1)))) ∧ ∀ r, r ≠ 40 → I3 r = I r := by
    intro pl I2 g1 g2 g3 g4 g5 g6
    unfold fX3_greatList_61
    rw [px_gd (px_ix (by omega) (by decide)), nI_clamp (by omega)]
    refine ⟨_, rfl, _, rfl, ⟨pl, g1, fun k hk => ?_, ab_u_at, fun k h1 h2 => ?_, g5, g6⟩, fun r hr => ?_⟩
    · rw [ab_u_ne (by omega)]; exact g3 k hk
    · rw [ab_u_ne (by omega)]; exact g4 k h1 h2
    · rw [ab_u_o hr]; exact g2 r hr
  have key := px_forE (body := fun s : Int32 × Int32 × ab_I => fX3_greatList_15 q s.1 s.2.1 s.2.2) (Out := fun x : (Int32 × ab_I) ⊕ ab_I => ∃ I3, x = .inl (nI i + 1, I3) ∧ (∃ pl, pl ≤ i ∧ (∀ k, k < pl → I3 40 k = nI (f k)) ∧ I3 40 pl = nI i ∧ (∀ k, pl < k → k ≤ i → I3 40 k = nI (f (k - 1))) ∧ (∀ j, pl ≤ j → j < i → w (6 + f j) < w (6 + i)) ∧ (pl = 0 ∨ w (6 + i) ≤ w (6 + f (pl - 1)))) ∧ ∀ r, r ≠ 40 → I3 r = I r)
    (fun t s => s.1 = nI i ∧ s.2.1 = nI (i - t) ∧ (∀ r, r ≠ 40 → s.2.2 r = I r) ∧ (∀ k, k < i - t → s.2.2 40 k = nI (f k)) ∧ (∀ k, i - t < k → k ≤ i → s.2.2 40 k = nI (f (k - 1))) ∧ (∀ j, i - t ≤ j → j < i → w (6 + f j) < w (6 + i))) i ?_ ?_ i 0 5000 (nI i, nI i, I) (by omega) (by omega) ⟨rfl, rfl, fun _ _ => rfl, fun k hk => h40 k (by omega), fun k h1 h2 => by omega, fun j h1 h2 => by omega⟩
  · obtain ⟨x, k1, I3, k2, k3⟩ := key
    exact ⟨I3, by rw [k1, k2], k3⟩
  · rintro t ⟨a1, a2, I2⟩ ht ⟨e1, e2, e3, e4, e5, e6⟩
    dsimp only at e1 e2 e3 e4 e5 e6 ⊢
    subst e1 e2
    obtain ⟨pl, hpl⟩ : ∃ pl, i - t = pl + 1 := ⟨i - t - 1, by omega⟩
    rw [hpl] at e4 e5 e6 ⊢
    have hfp := hf pl (by omega)
    have q40 : q + 2 ≠ 40 := by rcases hq with rfl | ⟨i, rfl⟩ <;> omega
    unfold fX3_greatList_15
    rw [if_neg (nI_nle (by omega) (by omega)), nI_pred, px_gd (px_ix (by omega) (by decide)), nI_clamp (n := pl) (by omega), e4 pl (by omega), px_gd (px_ix (by omega) (by decide)), px_gd (px_ix (by omega) (by decide)), nI_clamp (n := f pl) (by omega), nI_clamp (n := i) (by omega), hr I2 e3 _ (by omega), hr I2 e3 _ (by omega)]
    have b1 := r9 i (by omega)
    have b2 := r9 (f pl) (by omega)
    by_cases e : w (6 + i) ≤ w (6 + f pl)
    · rw [if_pos (nI_le e (by omega))]
      exact Or.inr (stop (pl + 1) I2 (by omega) e3 e4 e5 e6 (Or.inr (by rw [Nat.add_sub_cancel]; exact e)))
    · rw [if_neg (nI_ge (by omega) (by omega)), px_gd (px_ix (by omega) (by decide)), px_gd (px_ix (by omega) (by decide)), nI_clamp (n := pl + 1) (by omega)]
      refine Or.inl ⟨_, rfl, rfl, ?_, fun r hr => ?_, fun k hk => ?_, fun k h1 h2 => ?_, fun j h1 h2 => ?_⟩
      · show nI (pl + 1) + (-1 : Int32) = _
        rw [show i - (t + 1) = pl by omega, px_dec, nI_pred]
      · show ab_u I2 40 (pl + 1) (nI (f pl)) r = _
        rw [ab_u_o hr]; exact e3 r hr
      · show ab_u I2 40 (pl + 1) (nI (f pl)) 40 k = _
        rw [ab_u_ne (by omega)]; exact e4 k (by omega)
      · show ab_u I2 40 (pl + 1) (nI (f pl)) 40 k = _
        by_cases ek : k = pl + 1
        · subst ek
          rw [ab_u_at, Nat.add_sub_cancel]
        · rw [ab_u_ne ek]; exact e5 k (by omega) h2
      · by_cases ej : j = pl
        · rw [ej]; omega
        · exact e6 j (by omega) h2
  · rintro ⟨a1, a2, I2⟩ ⟨e1, e2, e3, e4, e5, e6⟩
    dsimp only at e1 e2 e3 e4 e5 e6 ⊢
    subst e1 e2
    rw [Nat.sub_self] at e4 e5 e6 ⊢
    unfold fX3_greatList_15
    rw [if_pos (show nI 0 ≤ 0 by decide)]
    exact stop 0 I2 (by omega) e3 e4 e5 e6 (Or.inl rfl)
theorem px_greatList (hq : rx_dyn q) (hn : np ≤ 6) (h34 : I 3 4 = nI np) (hw : rx_is np (rx_v I q) w) (ho : rx_ok np nb 999 w) :
    ∃ I' f, fX3_greatList q I = some I' ∧ (∀ k, k < np → I' 40 k = nI (f k)) ∧ sp_srt (fun p => w (6 + p)) np f ∧ ∀ r, r ≠ 40 → I' r = I r := by
  have key := px_for (body := fun s : Int32 × ab_I => fX3_greatList_2 q s.1 s.2) (Out := fun x : ab_I => ∃ f, (∀ k, k < np → x 40 k = nI (f k)) ∧ sp_srt (fun p => w (6 + p)) np f ∧ ∀ r, r ≠ 40 → x r = I r)
    (fun i s => s.1 = nI i ∧ (∃ f, (∀ k, k < i → s.2 40 k = nI (f k)) ∧ sp_srt (fun p => w (6 + p)) i f) ∧ ∀ r, r ≠ 40 → s.2 r = I r) np ?_ ?_ np 0 5000 (0, I) (by omega) (by omega) ⟨rfl, ⟨fun _ => 0, fun k hk => absurd hk (Nat.not_lt_zero k), fun k hk => absurd hk (Nat.not_lt_zero k), fun i j _ hj => absurd hj (Nat.not_lt_zero j), fun p hp => absurd hp (Nat.not_lt_zero p)⟩, fun _ _ => rfl⟩
  · obtain ⟨x, k1, f, k2, k3, k4⟩ := key
    exact ⟨x, f, k1, k2, k3, k4⟩
  · rintro i ⟨a1, I2⟩ hi ⟨e1, ⟨f, e2, e3⟩, e4⟩
    dsimp only at e1 e2 e3 e4 ⊢
    subst e1
    have hw2 : rx_is np (rx_v I2 q) w := rx_is_c (fun j hj k => by rw [e4 (q + j) (by rcases hq with rfl | ⟨i, rfl⟩ <;> omega)]) hw
    obtain ⟨I3, c1, ⟨pl, p1, p2, p3, p4, p5, p6⟩, c3⟩ := px_glIn (f := f) hq hn hi hw2 ho e2 e3.1
    unfold fX3_greatList_2
    rw [e4 3 (by decide), h34, if_neg (nI_ge hi (by omega)), c1]
    refine ⟨_, rfl, (nI_succ i).symm, ⟨fun k => if k < pl then f k else if k = pl then i else f (k - 1), fun k hk => ?_, ?_⟩, fun r hr => (c3 r hr).trans (e4 r hr)⟩
    · show I3 40 k = nI (if k < pl then f k else if k = pl then i else f (k - 1))
      by_cases k1 : k < pl
      · rw [if_pos k1]; exact p2 k k1
      · rw [if_neg k1]
        by_cases k2 : k = pl
        · rw [if_pos k2, k2]; exact p3
        · rw [if_neg k2]; exact p4 k (by omega) (by omega)
    · exact sp_ins e3 p1 (fun k hk => if_pos hk) (by rw [if_neg (by omega), if_pos rfl]) (fun k h1 h2 => by rw [if_neg (by omega), if_neg (by omega)]) p5 p6
  · rintro ⟨a1, I2⟩ ⟨e1, ⟨f, e2, e3⟩, e4⟩
    dsimp only at e1 e2 e3 e4 ⊢
    subst e1
    unfold fX3_greatList_2 fX3_greatList_74
    rw [e4 3 (by decide), h34, if_pos (nI_le (Nat.le_refl _) (by omega))]
    exact ⟨_, rfl, f, e2, e3, e4⟩
/-- the reference's choice of the next: o of those below n that had has not -/
def sp_nx (r : Nat → Nat) (had n : Nat) (o : Option Nat) : Prop := match o with
  | none => ∀ x, x < n → had.testBit x = true
  | some m => m < n ∧ had.testBit m = false ∧ ∀ x, x < n → had.testBit x = false → x = m ∨ sp_bf r m x
theorem px_mlistIn {had k : Nat} (hn : np ≤ 6) (hh : had < 2 ^ np) (hk : k < np) (h39 : I 73 39 = nI np) (hw : rx_is np (I 89) w) (ho : rx_ok np nb 999 w) (hp : rx_pop had = k) :
    ∃ m, sp_nx (fun p => w (6 + p)) had np (some m) ∧ ab_it (fun s : Int32 × Int32 × Int32 × Int32 × ab_I => fX12_list_17 s.1 s.2.1 s.2.2.1 s.2.2.2.1 s.2.2.2.2) 5000 (nI had, nI k, -1, 0, I) = some (.inl (nI (had ||| 2 ^ m), nI k + 1, ab_u I 93 k (nI m))) := by
  have h64 : had < 64 := Nat.lt_of_lt_of_le hh (sp_two64 hn)
  have r9 : ∀ p, p < 6 → w (6 + p) ≤ 999 := ho.2.1
  have h89 : ∀ p, p < 6 → I 89 (6 + p) = nI (w (6 + p)) := fun p hp => hw (6 + p) (by omega) (fun h => by omega)
  have key := px_for (body := fun s : Int32 × Int32 × Int32 × Int32 × ab_I => fX12_list_17 s.1 s.2.1 s.2.2.1 s.2.2.2.1 s.2.2.2.2) (Out := fun x : (Int32 × Int32 × ab_I) ⊕ (Int32 × ab_I) => ∃ m, sp_nx (fun p => w (6 + p)) had np (some m) ∧ x = .inl (nI (had ||| 2 ^ m), nI k + 1, ab_u I 93 k (nI m)))
    (fun i s => s.1 = nI had ∧ s.2.1 = nI k ∧ (∃ o, s.2.2.1 = sp_int o ∧ sp_nx (fun p => w (6 + p)) had i o) ∧ s.2.2.2.1 = nI i ∧ s.2.2.2.2 = I) np ?_ ?_ np 0 5000 (nI had, nI k, -1, 0, I) (by omega) (by omega) ⟨rfl, rfl, ⟨none, rfl, fun x hx => absurd hx (Nat.not_lt_zero x)⟩, rfl, rfl⟩
  · obtain ⟨x, k1, m, k2, k3⟩ := key
    exact ⟨m, k2, by rw [k1, k3]⟩
  · rintro i ⟨a1, a2, a3, a4, I2⟩ hi ⟨e1, e2, ⟨o, e3, e4⟩, e5, e6⟩
    dsimp only at e1 e2 e3 e4 e5 e6 ⊢
    subst e1 e2 e3 e5 e6
    unfold fX12_list_17 fX12_list_61 fX12_list_64
    rw [h39, if_neg (nI_ge hi (by omega)), px_bit01 had h64 i (by omega)]
    by_cases eb : had.testBit i = true
    · rw [if_pos eb, if_neg (by decide)]
      refine ⟨_, rfl, rfl, rfl, ⟨o, rfl, ?_⟩, (nI_succ i).symm, rfl⟩
      match o, e4 with
      | none, e4 =>
        intro x hx
        by_cases ex : x = i
        · rw [ex]; exact eb
        · exact e4 x (by omega)
      | some m, e4 =>
        refine ⟨by have := e4.1; omega, e4.2.1, fun x hx hb => ?_⟩
        by_cases ex : x = i
        · rw [ex, eb] at hb; exact absurd hb (by decide)
        · exact e4.2.2 x (by omega) hb
    · have eb0 : had.testBit i = false := by simpa using eb
      rw [if_neg eb, if_pos rfl]
      match o, e4 with
      | none, e4 =>
        rw [show sp_int none = -1 from rfl, if_pos (by decide)]
        refine ⟨_, rfl, rfl, rfl, ⟨some i, rfl, Nat.lt_succ_self i, eb0, fun x hx hb => ?_⟩, (nI_succ i).symm, rfl⟩
        by_cases ex : x = i
        · exact Or.inl ex
        · have := e4 x (by omega)
          rw [this] at hb
          exact absurd hb (by decide)
      | some m, e4 =>
        have hm := e4.1
        have b1 := r9 i (by omega)
        have b2 := r9 m (by omega)
        rw [show sp_int (some m) = nI m from rfl, if_neg (nI_pos (by omega)), show (6 : Int32) = nI 6 from rfl, px_add, px_add, px_gd (px_ix (by omega) (by decide)), px_gd (px_ix (by omega) (by decide)), nI_clamp (by omega), nI_clamp (by omega), h89 i (by omega), h89 m (by omega)]
        by_cases e : w (6 + i) ≤ w (6 + m)
        · rw [if_pos (nI_le e (by omega))]
          refine ⟨_, rfl, rfl, rfl, ⟨some m, rfl, by omega, e4.2.1, fun x hx hb => ?_⟩, (nI_succ i).symm, rfl⟩
          by_cases ex : x = i
          · right
            rw [ex]
            unfold sp_bf
            dsimp only
            omega
          · exact e4.2.2 x (by omega) hb
        · rw [if_neg (nI_ge (by omega) (by omega))]
          refine ⟨_, rfl, rfl, rfl, ⟨some i, rfl, by omega, eb0, fun x hx hb => ?_⟩, (nI_succ i).symm, rfl⟩
          by_cases ex : x = i
          · exact Or.inl ex
          · right
            rcases e4.2.2 x (by omega) hb with h | h
            · rw [h]
              unfold sp_bf
              dsimp only
              omega
            · unfold sp_bf at h ⊢
              dsimp only at h ⊢
              omega
  · rintro ⟨a1, a2, a3, a4, I2⟩ ⟨e1, e2, ⟨o, e3, e4⟩, e5, e6⟩
    dsimp only at e1 e2 e3 e4 e5 e6 ⊢
    subst e1 e2 e3 e5 e6
    match o, e4 with
    | none, e4 =>
      obtain ⟨p, hp1, hp2⟩ := px_pop_ex np (by omega) had hh (by omega)
      have := e4 p hp1
      rw [this] at hp2
      exact absurd hp2 (by decide)
    | some m, e4 =>
      have hm := e4.1
      unfold fX12_list_17 fX12_list_70
      rw [h39, if_pos (nI_le (Nat.le_refl _) (by omega)), show sp_int (some m) = nI m from rfl, px_gd (px_ix (by omega) (by decide)), nI_clamp (by omega), px_or_nI had h64 m (by omega)]
      exact ⟨_, rfl, m, e4, rfl⟩
theorem px_mlist (hn : np ≤ 6) (h39 : I 73 39 = nI np) (hw : rx_is np (I 89) w) (ho : rx_ok np nb 999 w) :
    ∃ I' g, fX12_list I = some (nI np, I') ∧ (∀ k, k < np → I' 93 k = nI (g k)) ∧ sp_srt (fun p => w (6 + p)) np g ∧ I' 73 54 = nI np ∧ ∀ r k, r ≠ 93 → ¬ (r = 73 ∧ k = 54) → I' r k = I r k := by
  have key := px_for (body := fun s : Int32 × Int32 × ab_I => fX12_list_4 s.1 s.2.1 s.2.2) (Out := fun x : Int32 × ab_I => x.1 = nI np ∧ ∃ g, (∀ k, k < np → x.2 93 k = nI (g k)) ∧ sp_srt (fun p => w (6 + p)) np g ∧ x.2 73 54 = nI np ∧ ∀ r k, r ≠ 93 → ¬ (r = 73 ∧ k = 54) → x.2 r k = I r k)
    (fun i s => (∃ had g, s.1 = nI had ∧ had < 2 ^ np ∧ rx_pop had = i ∧ (∀ k, k < i → s.2.2 93 k = nI (g k) ∧ g k < np ∧ had.testBit (g k) = true) ∧ (∀ a b, a < b → b < i → sp_bf (fun p => w (6 + p)) (g a) (g b)) ∧ (∀ p, p < np → had.testBit p = true → ∃ j, j < i ∧ g j = p) ∧ (∀ p j, p < np → had.testBit p = false → j < i → sp_bf (fun p => w (6 + p)) (g j) p)) ∧ s.2.1 = nI i ∧ ∀ r, r ≠ 93 → s.2.2 r = I r) np ?_ ?_ np 0 5000 (0, 0, I) (by omega) (by omega) ⟨⟨0, fun _ => 0, rfl, Nat.pow_pos (by decide), rfl, fun k hk => absurd hk (Nat.not_lt_zero k), fun a b _ hb => absurd hb (Nat.not_lt_zero b), fun p _ hb => absurd hb (by simp), fun p j _ _ hj => absurd hj (Nat.not_lt_zero j)⟩, rfl, fun _ _ => rfl⟩
  · obtain ⟨⟨x, I2⟩, k1, k2, g, k3, k4, k5, k6⟩ := key
    dsimp only at k2 k3 k4 k5 k6
    exact ⟨I2, g, by rw [← k2]; exact k1, k3, k4, k5, k6⟩
  · rintro i ⟨a1, a2, I2⟩ hi ⟨⟨had, g, e1, e2, e3, e4, e5, e6, e7⟩, e8, e9⟩
    dsimp only at e1 e4 e8 e9 ⊢
    subst e1 e8
    have h64 : had < 64 := Nat.lt_of_lt_of_le e2 (sp_two64 hn)
    have hw2 : rx_is np (I2 89) w := by rw [e9 89 (by decide)]; exact hw
    obtain ⟨m, c1, c2⟩ := px_mlistIn hn e2 hi (by rw [e9 73 (by decide)]; exact h39) hw2 ho e3
    obtain ⟨m1, m2, m3⟩ := c1
    unfold fX12_list_4
    rw [e9 73 (by decide), h39, if_neg (nI_ge hi (by omega)), c2]
    refine ⟨_, rfl, ⟨had ||| 2 ^ m, fun k => if k = i then m else g k, rfl, px_or_lt np (by omega) had e2 m m1, by rw [px_pop_or had h64 m (by omega) m2, e3], fun k hk => ?_, fun a b hab hb => ?_, fun p hp hb => ?_, fun p j hp hb hj => ?_⟩, (nI_succ i).symm, fun r hr => ?_⟩
    · show ab_u I2 93 i (nI m) 93 k = nI (if k = i then m else g k) ∧ (if k = i then m else g k) < np ∧ (had ||| 2 ^ m).testBit (if k = i then m else g k) = true
      by_cases ek : k = i
      · rw [if_pos ek, ek, ab_u_at]
        exact ⟨rfl, m1, by rw [px_or_tb had h64 m (by omega) m (by omega)]; simp⟩
      · rw [if_neg ek, ab_u_ne ek]
        obtain ⟨y1, y2, y3⟩ := e4 k (by omega)
        exact ⟨y1, y2, by rw [px_or_tb had h64 m (by omega) _ (by omega), y3]; simp⟩
    · dsimp only
      by_cases eb : b = i
      · rw [if_pos eb, if_neg (show ¬ a = i by omega)]
        exact e7 m a m1 m2 (by omega)
      · rw [if_neg eb, if_neg (show ¬ a = i by omega)]
        exact e5 a b hab (by omega)
    · rw [px_or_tb had h64 m (by omega) p (by omega)] at hb
      by_cases ep : p = m
      · exact ⟨i, by omega, by dsimp only; rw [if_pos rfl, ep]⟩
      · rw [decide_eq_false ep, Bool.false_or] at hb
        obtain ⟨j, hj, ej⟩ := e6 p hp hb
        exact ⟨j, by omega, by dsimp only; rw [if_neg (by omega), ej]⟩
    · rw [px_or_tb had h64 m (by omega) p (by omega)] at hb
      have ep : ¬ p = m := fun h => by rw [decide_eq_true h] at hb; exact absurd hb (by simp)
      rw [decide_eq_false ep, Bool.false_or] at hb
      dsimp only
      by_cases ej : j = i
      · rw [if_pos ej]
        exact (m3 p hp hb).resolve_left ep
      · rw [if_neg ej]
        exact e7 p j hp hb (by omega)
    · show ab_u I2 93 i (nI m) r = _
      rw [ab_u_o hr]
      exact e9 r hr
  · rintro ⟨a1, a2, I2⟩ ⟨⟨had, g, e1, e2, e3, e4, e5, e6, e7⟩, e8, e9⟩
    dsimp only at e1 e4 e8 e9 ⊢
    subst e1 e8
    unfold fX12_list_4 fX12_list_89
    rw [e9 73 (by decide), h39, if_pos (nI_le (Nat.le_refl _) (by omega))]
    refine ⟨_, rfl, rfl, g, fun k hk => ?_, ⟨fun j hj => (e4 j hj).2.1, e5, fun p hp => e6 p hp (px_pop_all np (by omega) had e2 e3 p hp)⟩, ?_, fun r k h1 h2 => ?_⟩
    · dsimp only; rw [px_u (by omega)]
      exact (e4 k hk).1
    · dsimp only; rw [ab_u_at]
    · dsimp only; rw [px_u h2, e9 r h1]
theorem pr_list (hR : rx_R S I J P) : lz_pr l G rx_R mX11_list 2 mX12_list 0 [] S I J P := by
  obtain ⟨hB, hZ, ⟨i, hS⟩, np, nb, nl, fa, lc, dr, t, F, hG, ⟨q, w, hN⟩, ⟨dn, kp, hA⟩, ⟨bf, hX⟩, ⟨c, hL⟩, ⟨z, hP⟩, hU, cn, tm, hW⟩ := id hR
  obtain ⟨v1, v2, v3, v4, v5, v6, v7, v8, v9, v10, v11, v12, v13, v14⟩ := hG.1
  obtain ⟨n1, n2, n3, n4, n5⟩ := id hN
  obtain ⟨I1, f, c1, c2, c3, c4⟩ := px_greatList n2 v1 v5 n3 n5
  obtain ⟨I2, d1, d2, d3, d4⟩ := px_lay (I := I1) (r1 := 40) (n1 := 6) (m := np) (by decide) v1 (Or.inl rfl)
  have hx : fX11_list I P = some (nI np, I2) := by
    unfold fX11_list
    rw [n1, px_bd, c1, px_bd, c4 3 (by decide), v5, d1, px_bd, d4 3 4 (by decide) (by decide), c4 3 (by decide), v5]
  have g1 : ∀ r k, r ≠ 40 → r ≠ 55 → ¬ (r = 0 ∧ k = 9) → I2 r k = I r k := fun r k h1 h2 h3 => by rw [d4 r k h2 h3, c4 r h1]
  have hw2 : rx_is np (I2 89) w := fun k h1 h2 => by rw [g1 89 k (by decide) (by decide) (by omega)]; exact n4 k h1 h2
  obtain ⟨I3, g, m1, m2, m3, m4, m5⟩ := px_mlist v1 (by rw [g1 73 39 (by decide) (by decide) (by decide)]; exact v6) hw2 n5
  refine ⟨nI np, S, I2, J, P, S, I3, J, P, fun Q hQ => mX11_list_ok hB hx hQ, fun Q hQ => mX12_list_ok hB m1 hQ, hB.1 73 _ rfl, ?_⟩
  refine rx_R_L (c2 := np) hB hZ ⟨i, hS⟩ hG hN hA hX hP hU hW (fun r k hd hs => ?_) ⟨v1, ?_, m4, fun k hk => ?_⟩
  · unfold rx_dL at hd
    unfold rx_sc at hs
    rw [m5 r k (by omega) (by omega), g1 r k (by omega) (by omega) (by omega)]
  · rw [m5 0 9 (by decide) (by decide)]; exact d2
  · rw [m2 k hk, m5 55 k (by decide) (by omega), d3 k hk, c2 k hk, sp_srt_u c3 m3 np k hk (Nat.le_refl _)]
end PR16
