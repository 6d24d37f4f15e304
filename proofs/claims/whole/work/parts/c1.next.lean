/-! ===== the next order: class and reference ===== -/
section NXT
variable {I : ab_I} {nb : Nat} {f : Nat → Nat}
theorem px_83 {k : Nat} (hnb : nb ≤ 5) (h1 : 1 ≤ nb) (hk : k ≤ nb) (h35 : I 3 5 = nI nb) (hf : or_h I 39 nb f) {a : Int32} (ha : a + 1 = nI k) : ∃ I', fX3_nextOrder_83 a I = some I' ∧ or_h I' 39 nb (or_rv 3 f k (nb - 1)) ∧ ∀ x, x ≠ 39 → I' x = I x := by
  obtain ⟨n, rfl⟩ : ∃ n, nb = n + 1 := ⟨nb - 1, by omega⟩
  obtain ⟨I', k1, k2, k3⟩ := px_revT hnb 3 4996 k n f I (by omega) (by omega) (by omega) hf
  refine ⟨I', ?_, by rw [Nat.add_sub_cancel]; exact k2, k3⟩
  unfold fX3_nextOrder_83
  rw [ha, h35, nI_pred]
  exact k1
theorem px_ovT (hnb : nb ≤ 5) {k : Nat} (hk : k < nb) (hf : or_h I 39 nb f) : ∀ j n, j < nb → k ≤ j → ab_it (fun s : Int32 × Int32 × ab_I => fX3_nextOrder_51 s.1 s.2.1 s.2.2) (n + j + 1) (nI k, nI j, I) = fX3_nextOrder_77 (nI k) (nI (or_ov f k j)) I
  | 0, n, h1, h2 => by
    refine px_itO (body := fun s : Int32 × Int32 × ab_I => fX3_nextOrder_51 s.1 s.2.1 s.2.2) ?_
    dsimp only
    unfold fX3_nextOrder_51
    rw [if_pos (nI_le (by omega) (by omega))]
    rfl
  | j + 1, n, h1, h2 => by
    by_cases e : j + 1 ≤ k
    · refine px_itO (body := fun s : Int32 × Int32 × ab_I => fX3_nextOrder_51 s.1 s.2.1 s.2.2) ?_
      dsimp only
      unfold fX3_nextOrder_51
      rw [if_pos (nI_le e (by omega)), or_ov, if_neg (by omega)]
    · obtain ⟨y1, y2⟩ := hf k hk
      obtain ⟨z1, z2⟩ := hf (j + 1) h1
      have b : fX3_nextOrder_51 (nI k) (nI (j + 1)) I = if f k ≤ f (j + 1) then (fX3_nextOrder_77 (nI k) (nI (j + 1)) I).map .inr else some (.inl (nI k, nI j, I)) := by
        unfold fX3_nextOrder_51
        rw [if_neg (nI_ge (by omega) (by omega)), px_gd (px_ix (by omega) (by decide)), px_gd (px_ix (by omega) (by decide)), nI_clamp (n := k) (by omega), nI_clamp (n := j + 1) (by omega), y1, z1, px_dec, nI_pred]
        by_cases c : f k ≤ f (j + 1)
        · rw [if_pos (nI_le c (by omega)), if_pos c]
        · rw [if_neg (nI_ge (by omega) (by omega)), if_neg c]
      by_cases c : f k ≤ f (j + 1)
      · rw [if_pos c] at b
        rw [or_ov, if_neg (by omega)]
        exact px_itO (body := fun s : Int32 × Int32 × ab_I => fX3_nextOrder_51 s.1 s.2.1 s.2.2) b
      · rw [if_neg c] at b
        rw [or_ov, if_pos (by omega), show n + (j + 1) + 1 = (n + j + 1) + 1 by omega]
        refine (px_itL (body := fun s : Int32 × Int32 × ab_I => fX3_nextOrder_51 s.1 s.2.1 s.2.2) (s := (nI k, nI (j + 1), I)) (s' := (nI k, nI j, I)) b).trans ?_
        exact px_ovT hnb hk hf j n (by omega) (by omega)
theorem px_nrT (hnb : nb ≤ 5) (hf : or_h I 39 nb f) : ∀ k n, k < nb → ab_it (fun s : Int32 × ab_I => fX3_nextOrder_10 s.1 s.2) (n + k + 1) (nI k - 1, I) = fX3_nextOrder_37 (sp_int (or_nr f k)) I
  | 0, n, h1 => by
    refine px_itO (body := fun s : Int32 × ab_I => fX3_nextOrder_10 s.1 s.2) ?_
    dsimp only
    unfold fX3_nextOrder_10
    rw [if_pos (by decide)]
    rfl
  | k + 1, n, h1 => by
    obtain ⟨y1, y2⟩ := hf k (by omega)
    obtain ⟨z1, z2⟩ := hf (k + 1) h1
    have b : fX3_nextOrder_10 (nI (k + 1) - 1) I = if f k ≤ f (k + 1) then (fX3_nextOrder_37 (nI k) I).map .inr else some (.inl (nI k - 1, I)) := by
      unfold fX3_nextOrder_10
      rw [nI_pred, if_neg (nI_pos (by omega)), ← nI_succ, px_gd (px_ix (by omega) (by decide)), px_gd (px_ix (by omega) (by decide)), nI_clamp (n := k) (by omega), nI_clamp (n := k + 1) (by omega), y1, z1, px_dec]
      by_cases c : f k ≤ f (k + 1)
      · rw [if_pos (nI_le c (by omega)), if_pos c]
      · rw [if_neg (nI_ge (by omega) (by omega)), if_neg c]
    by_cases c : f k ≤ f (k + 1)
    · rw [if_pos c] at b
      rw [or_nr, if_neg (by omega)]
      exact px_itO (body := fun s : Int32 × ab_I => fX3_nextOrder_10 s.1 s.2) b
    · rw [if_neg c] at b
      rw [or_nr, if_pos (by omega), show n + (k + 1) + 1 = (n + k + 1) + 1 by omega]
      refine (px_itL (body := fun s : Int32 × ab_I => fX3_nextOrder_10 s.1 s.2) (s := (nI (k + 1) - 1, I)) (s' := (nI k - 1, I)) b).trans ?_
      exact px_nrT hnb hf k n (by omega)
theorem px_next (hnb : nb ≤ 5) (h35 : I 3 5 = nI nb) (hf : or_h I 39 nb f) : ∃ I', fX3_nextOrder I = some I' ∧ or_h I' 39 nb (or_nx nb f) ∧ ∀ x, x ≠ 39 → I' x = I x := by
  by_cases h0 : nb = 0
  · subst h0
    refine ⟨I, ?_, fun j hj => absurd hj (Nat.not_lt_zero j), fun _ _ => rfl⟩
    unfold fX3_nextOrder
    rw [h35]
    refine px_itR (body := fun s : Int32 × ab_I => fX3_nextOrder_10 s.1 s.2) ?_
    dsimp only
    unfold fX3_nextOrder_10 fX3_nextOrder_37 fX3_nextOrder_83
    rw [if_pos (by decide), if_pos (by decide), h35]
    rw [px_itR (body := fun s : Int32 × Int32 × ab_I => fX3_nextOrder_97 s.1 s.2.1 s.2.2) (r := I)]
    · rfl
    · dsimp only
      unfold fX3_nextOrder_97 fX3_nextOrder_117
      rw [if_pos (by decide)]
      rfl
  · obtain ⟨n, rfl⟩ : ∃ n, nb = n + 1 := ⟨nb - 1, by omega⟩
    have hA := px_nrT hnb hf n (4999 - n) (by omega)
    rw [show 4999 - n + n + 1 = 5000 by omega] at hA
    have hs : nI (n + 1) - 2 = nI n - 1 := by
      rw [nI_succ, show (2 : Int32) = 1 + 1 from rfl]
      apply Int32.toBitVec_inj.1
      show (nI n).toBitVec + 1 - (1 + 1) = (nI n).toBitVec - 1
      bv_omega
    unfold fX3_nextOrder
    rw [h35, hs, hA]
    unfold or_nx
    rw [Nat.add_sub_cancel]
    cases hr : or_nr f n with
    | none =>
      unfold fX3_nextOrder_37
      rw [show sp_int none = -1 from rfl, if_pos (by decide)]
      exact px_83 hnb (by omega) (k := 0) (by omega) h35 hf (by decide)
    | some k =>
      have hk := or_nr_lt n k hr
      have hB := px_ovT hnb (k := k) (by omega) hf n (4999 - n) (by omega) (by omega)
      rw [show 4999 - n + n + 1 = 5000 by omega] at hB
      have ho := or_ov_le (f := f) (r := k) n
      unfold fX3_nextOrder_37
      rw [show sp_int (some k) = nI k from rfl, if_neg (nI_pos (by omega)), h35, nI_pred, hB]
      unfold fX3_nextOrder_77
      rw [px_swapT (by omega) (by omega), px_bd]
      obtain ⟨I', k1, k2, k3⟩ := px_83 (I := ab_u (ab_u I 39 k (I 39 (or_ov f k n))) 39 (or_ov f k n) (I 39 k)) (f := or_sw f k (or_ov f k n)) hnb (by omega) (k := k + 1) (by omega) (by rw [ab_u_o (by decide), ab_u_o (by decide)]; exact h35) (or_sw_h hf (by omega) (by omega)) (nI_succ k).symm
      exact ⟨I', k1, by rw [Nat.add_sub_cancel] at k2; exact k2, fun x hx => by rw [k3 x hx, ab_u_o hx, ab_u_o hx]⟩
/-! the reference -/
theorem px_mswap {a b : Nat} (ha : a < 6) (hb : b < 6) : fX12_swap (nI a) (nI b) I = some (ab_u (ab_u I 94 a (I 94 b)) 94 b (I 94 a)) := by
  have ga : ab_ix (nI a) 6 = true := px_ix ha (by decide)
  have gb : ab_ix (nI b) 6 = true := px_ix hb (by decide)
  unfold fX12_swap
  rw [px_gd ga, px_gd gb, px_gd ga, px_gd gb, nI_clamp (by omega), nI_clamp (by omega)]
theorem px_mrev (hnb : nb ≤ 5) : ∀ n m l r (f : Nat → Nat) (I : ab_I), r ≤ l + 2 * n → r < nb → l ≤ 5 → or_h I 94 nb f → ∃ I', ab_it (fun s : Int32 × Int32 × ab_I => fX12_nextRow_86 s.1 s.2.1 s.2.2) (m + n + 1) (nI l, nI r, I) = some (1, I') ∧ or_h I' 94 nb (or_rv n f l r) ∧ ∀ x, x ≠ 94 → I' x = I x
  | 0, m, l, r, f, I, h1, h2, hl, hf => by
    refine ⟨I, ?_, hf, fun _ _ => rfl⟩
    refine px_itR ?_
    dsimp only
    unfold fX12_nextRow_86 fX12_nextRow_108
    rw [if_pos (nI_le (by omega) (by omega))]
    rfl
  | n + 1, m, l, r, f, I, h1, h2, hl, hf => by
    by_cases e : r ≤ l
    · refine ⟨I, ?_, by rw [or_rv, if_pos e]; exact hf, fun _ _ => rfl⟩
      refine px_itR ?_
      dsimp only
      unfold fX12_nextRow_86 fX12_nextRow_108
      rw [if_pos (nI_le e (by omega))]
      rfl
    · obtain ⟨r', rfl⟩ : ∃ r', r = r' + 1 := ⟨r - 1, by omega⟩
      obtain ⟨I', k1, k2, k3⟩ := px_mrev hnb n m (l + 1) r' (or_sw f l (r' + 1)) (ab_u (ab_u I 94 l (I 94 (r' + 1))) 94 (r' + 1) (I 94 l)) (by omega) (by omega) (by omega) (or_sw_h hf (by omega) h2)
      refine ⟨I', ?_, by rw [or_rv, if_neg e, Nat.add_sub_cancel]; exact k2, fun x hx => by rw [k3 x hx, ab_u_o hx, ab_u_o hx]⟩
      rw [show m + (n + 1) + 1 = (m + n + 1) + 1 by omega, px_itL (s' := (nI (l + 1), nI r', ab_u (ab_u I 94 l (I 94 (r' + 1))) 94 (r' + 1) (I 94 l)))]
      · exact k1
      · dsimp only
        unfold fX12_nextRow_86
        rw [if_neg (nI_ge (by omega) (by omega)), px_mswap (by omega) (by omega), px_bd, ← nI_succ, px_dec, nI_pred]
theorem px_mov (hnb : nb ≤ 5) {k : Nat} (hk : k < nb) (hf : or_h I 94 nb f) : ∀ j n, j < nb → k ≤ j → ab_it (fun s : Int32 × Int32 × ab_I => fX12_nextRow_47 s.1 s.2.1 s.2.2) (n + j + 1) (nI k, nI j, I) = fX12_nextRow_68 (nI k) (nI (or_ov f k j)) I
  | 0, n, h1, h2 => by
    obtain rfl : k = 0 := by omega
    obtain ⟨y1, y2⟩ := hf 0 hk
    refine px_itO (body := fun s : Int32 × Int32 × ab_I => fX12_nextRow_47 s.1 s.2.1 s.2.2) ?_
    dsimp only
    unfold fX12_nextRow_47
    rw [px_gd (px_ix (by omega) (by decide)), px_gd (px_ix (by omega) (by decide)), if_pos (Int32.le_refl _)]
    rfl
  | j + 1, n, h1, h2 => by
    obtain ⟨y1, y2⟩ := hf k hk
    obtain ⟨z1, z2⟩ := hf (j + 1) h1
    have b : fX12_nextRow_47 (nI k) (nI (j + 1)) I = if f k ≤ f (j + 1) then (fX12_nextRow_68 (nI k) (nI (j + 1)) I).map .inr else some (.inl (nI k, nI j, I)) := by
      unfold fX12_nextRow_47
      rw [px_gd (px_ix (by omega) (by decide)), px_gd (px_ix (by omega) (by decide)), nI_clamp (n := k) (by omega), nI_clamp (n := j + 1) (by omega), y1, z1, px_dec, nI_pred]
      by_cases c : f k ≤ f (j + 1)
      · rw [if_pos (nI_le c (by omega)), if_pos c]
      · rw [if_neg (nI_ge (by omega) (by omega)), if_neg c]
    by_cases c : f k ≤ f (j + 1)
    · rw [if_pos c] at b
      rw [or_ov, if_neg (by omega)]
      exact px_itO (body := fun s : Int32 × Int32 × ab_I => fX12_nextRow_47 s.1 s.2.1 s.2.2) b
    · have hkj : k < j + 1 := by
        by_cases e : k = j + 1
        · subst e; omega
        · omega
      rw [if_neg c] at b
      rw [or_ov, if_pos (by omega), show n + (j + 1) + 1 = (n + j + 1) + 1 by omega]
      refine (px_itL (body := fun s : Int32 × Int32 × ab_I => fX12_nextRow_47 s.1 s.2.1 s.2.2) (s := (nI k, nI (j + 1), I)) (s' := (nI k, nI j, I)) b).trans ?_
      exact px_mov hnb hk hf j n (by omega) (by omega)
theorem px_mnr (hnb : nb ≤ 5) (hf : or_h I 94 nb f) : ∀ k n, k < nb → ab_it (fun s : Int32 × ab_I => fX12_nextRow_7 s.1 s.2) (n + k + 1) (nI k - 1, I) = fX12_nextRow_34 (sp_int (or_nr f k)) I
  | 0, n, h1 => by
    refine px_itO (body := fun s : Int32 × ab_I => fX12_nextRow_7 s.1 s.2) ?_
    dsimp only
    unfold fX12_nextRow_7
    rw [if_pos (by decide)]
    rfl
  | k + 1, n, h1 => by
    obtain ⟨y1, y2⟩ := hf k (by omega)
    obtain ⟨z1, z2⟩ := hf (k + 1) h1
    have b : fX12_nextRow_7 (nI (k + 1) - 1) I = if f k ≤ f (k + 1) then (fX12_nextRow_34 (nI k) I).map .inr else some (.inl (nI k - 1, I)) := by
      unfold fX12_nextRow_7
      rw [nI_pred, if_neg (nI_pos (by omega)), ← nI_succ, px_gd (px_ix (by omega) (by decide)), px_gd (px_ix (by omega) (by decide)), nI_clamp (n := k) (by omega), nI_clamp (n := k + 1) (by omega), y1, z1, px_dec]
      by_cases c : f k ≤ f (k + 1)
      · rw [if_pos (nI_le c (by omega)), if_pos c]
      · rw [if_neg (nI_ge (by omega) (by omega)), if_neg c]
    by_cases c : f k ≤ f (k + 1)
    · rw [if_pos c] at b
      rw [or_nr, if_neg (by omega)]
      exact px_itO (body := fun s : Int32 × ab_I => fX12_nextRow_7 s.1 s.2) b
    · rw [if_neg c] at b
      rw [or_nr, if_pos (by omega), show n + (k + 1) + 1 = (n + k + 1) + 1 by omega]
      refine (px_itL (body := fun s : Int32 × ab_I => fX12_nextRow_7 s.1 s.2) (s := (nI (k + 1) - 1, I)) (s' := (nI k - 1, I)) b).trans ?_
      exact px_mnr hnb hf k n (by omega)
theorem px_mnext (hnb : nb ≤ 5) (h40 : I 73 40 = nI nb) (hf : or_h I 94 nb f) : (or_nr f (nb - 1) = none ∧ fX12_nextRow I = some (0, I)) ∨ ((or_nr f (nb - 1)).isSome = true ∧ ∃ I', fX12_nextRow I = some (1, I') ∧ or_h I' 94 nb (or_nx nb f) ∧ ∀ x, x ≠ 94 → I' x = I x) := by
  by_cases h0 : nb = 0
  · subst h0
    refine Or.inl ⟨rfl, ?_⟩
    unfold fX12_nextRow
    rw [h40]
    refine px_itR (body := fun s : Int32 × ab_I => fX12_nextRow_7 s.1 s.2) ?_
    dsimp only
    unfold fX12_nextRow_7 fX12_nextRow_34
    rw [if_pos (by decide), if_neg (by decide)]
    rfl
  · obtain ⟨n, rfl⟩ : ∃ n, nb = n + 1 := ⟨nb - 1, by omega⟩
    have hA := px_mnr hnb hf n (4999 - n) (by omega)
    rw [show 4999 - n + n + 1 = 5000 by omega] at hA
    have hs : nI (n + 1) - 2 = nI n - 1 := by
      rw [nI_succ, show (2 : Int32) = 1 + 1 from rfl]
      apply Int32.toBitVec_inj.1
      show (nI n).toBitVec + 1 - (1 + 1) = (nI n).toBitVec - 1
      bv_omega
    have hA' : fX12_nextRow I = fX12_nextRow_34 (sp_int (or_nr f n)) I := by
      unfold fX12_nextRow
      rw [h40, hs, hA]
    rw [hA']
    unfold or_nx
    rw [Nat.add_sub_cancel]
    cases hr : or_nr f n with
    | none =>
      refine Or.inl ⟨rfl, ?_⟩
      unfold fX12_nextRow_34
      rw [show sp_int none = -1 from rfl, if_neg (by decide)]
    | some k =>
      refine Or.inr ⟨rfl, ?_⟩
      have hk := or_nr_lt n k hr
      have hB := px_mov hnb (k := k) (by omega) hf n (4999 - n) (by omega) (by omega)
      rw [show 4999 - n + n + 1 = 5000 by omega] at hB
      have ho := or_ov_le (f := f) (r := k) n
      unfold fX12_nextRow_34
      rw [show sp_int (some k) = nI k from rfl, if_pos (nI_pos' (by omega)), h40, nI_pred, hB]
      unfold fX12_nextRow_68
      rw [px_mswap (by omega) (by omega), px_bd]
      obtain ⟨I', k1, k2, k3⟩ := px_mrev hnb 3 4996 (k + 1) n (or_sw f k (or_ov f k n)) (ab_u (ab_u I 94 k (I 94 (or_ov f k n))) 94 (or_ov f k n) (I 94 k)) (by omega) (by omega) (by omega) (or_sw_h hf (by omega) (by omega))
      refine ⟨I', ?_, k2, fun x hx => by rw [k3 x hx, ab_u_o hx, ab_u_o hx]⟩
      rw [ab_u_o (show (73 : Nat) ≠ 94 by decide), ab_u_o (show (73 : Nat) ≠ 94 by decide), h40, nI_pred, ← nI_succ]
      exact k1
end NXT
