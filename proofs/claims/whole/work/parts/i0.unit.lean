/-! ===== village: a unit ===== -/
section UNI
variable {I0 K0 : ab_I} {J0 L0 : ab_J} {z a b : Nat} {B : Nat → Nat}
def as_n (i : Nat) : Nat := match i with | 0 => 1 | 1 => 3 | 2 => 0 | 3 => 2 | 4 => 4 | _ => 5
theorem as_w : ∀ i, i < 15 → (if lg_cmp (bz_word i) 1819243379 = 0 then some (0 : Int32) else if lg_cmp (bz_word i) 6840691 = 0 then some 1 else if lg_cmp (bz_word i) 1920298599 = 0 then some 2 else if lg_cmp (bz_word i) 1752135026 = 0 then some 3 else if lg_cmp (bz_word i) 1751478885 = 0 then some 4 else if lg_cmp (bz_word i) 6578553 = 0 then some 5 else some (-1)) = some (if 206 ≤ 200 + i ∧ 200 + i ≤ 211 then nI (as_n (200 + i - 206)) else -1) := by decide +kernel
theorem as_ok {I K : ab_I} {J L : ab_J} {p0 c : Nat} (hT : tk_R I J K L z p0 c) : fX12_asked K L = some (if 206 ≤ c ∧ c ≤ 211 then nI (as_n (c - 206)) else -1) := by
  have hs := tk_sort hT
  unfold fX12_asked fX12_asked_91
  by_cases e : K 73 6 = 1
  · rw [if_pos e]
    have hc := hs.2.2.2.1.mpr e
    obtain ⟨pl, _, _, _, _, _, h6⟩ := hT
    rcases h6 with h | h | ⟨p, _, _, _, _, h | h | h⟩
    · omega
    · omega
    · obtain ⟨_, _, h | ⟨i, i1, i2, i3⟩⟩ := h
      · have n : ∀ i, i < 15 → ¬ lg_cmp (L 73 9) (bz_word i) = 0 := fun i hi h' => h.2 i hi ((tk_cmp _ _).mp h')
        rw [if_neg (show ¬ lg_cmp (L 73 9) 1819243379 = 0 from n 8 (by decide)), if_neg (show ¬ lg_cmp (L 73 9) 6840691 = 0 from n 6 (by decide)), if_neg (show ¬ lg_cmp (L 73 9) 1920298599 = 0 from n 9 (by decide)), if_neg (show ¬ lg_cmp (L 73 9) 1752135026 = 0 from n 7 (by decide)), if_neg (show ¬ lg_cmp (L 73 9) 1751478885 = 0 from n 10 (by decide)), if_neg (show ¬ lg_cmp (L 73 9) 6578553 = 0 from n 11 (by decide)), if_neg (by omega)]
      · rw [i3, i2]; exact as_w i i1
    · have := h.1; omega
    · have h1 := h.1
      have c2 : c ≠ 2 := fun e2 => by rw [e2] at h1; exact absurd h1 (by decide)
      have : c < 100 := by
        by_cases e : c < 256
        · exact tk_sg_c c e h1
        · exfalso; unfold tk_sg at h1; simp at h1; omega
      omega
  · rw [if_neg e, if_neg (show ¬ (206 ≤ c ∧ c ≤ 211) from fun h => e (hs.2.2.2.1.mp (by omega)))]
theorem if_ok {K : ab_I} {u : Nat} (h1 : K 73 20 = nI u) (h2 : K 73 22 = nI u) (hu : u ≤ 30) : fX12_isFull K = some (if u = 30 then 1 else 0) := by
  unfold fX12_isFull fX12_isFull_18 fX12_isFull_23
  rw [h1, h2, if_neg (show ¬ nI u = 60 from fun h => by have := (nI_eq (b := 60) (by omega) (by decide)).mp h; omega), px_gd (Or.inr rfl), px_gd (Or.inl rfl)]
  by_cases e : u = 30
  · rw [if_pos (show nI u = 30 by rw [e]; rfl), if_pos e]
  · rw [if_neg (show ¬ nI u = 30 from fun h => e ((nI_eq (b := 30) (by omega) (by decide)).mp h)), if_neg e]
/-- one unit more on both sides -/
theorem fq_cnt {I K : ab_I} {J L : ab_J} {p0 c s u h : Nat} {σ : List Nat} (hq : fq I0 K0 J0 L0 z a b I J K L p0 c s u h [] σ) (hu : u < 30) : fq I0 K0 J0 L0 z a b (ab_u I 18 4 (nI (u + 1))) J (ab_u (ab_u K 73 20 (nI (u + 1))) 73 22 (nI (u + 1))) L p0 c s (u + 1) h [] σ := by
  obtain ⟨hz, ⟨b1, b2⟩, ⟨o1, o2, o3, o4⟩, ⟨u1, u2, u3, u4⟩, ⟨k1, k2, k3, k4⟩, m1, m2, m3⟩ := hq
  have g : ∀ r k, ¬ (r = 73 ∧ (k = 20 ∨ k = 22)) → ab_u (ab_u K 73 20 (nI (u + 1))) 73 22 (nI (u + 1)) r k = K r k := fun r k hr => by rw [px_u (by omega), px_u (by omega)]
  have e19 : ab_u I 18 4 (nI (u + 1)) 19 = I 19 := funext fun k => px_u (by omega)
  exact ⟨pz_w hz (fun r k hr => px_u (by omega)) (fun r k hr => g r k (by omega)), ⟨by rw [px_u (by omega)]; exact b1, by rw [g 73 24 (by omega)]; exact b2⟩, ⟨by rw [px_u (by omega)]; exact o1, by rw [g 73 17 (by omega)]; exact o2, trivial, fun i hi => by rw [e19, g 76 i (by omega), g 77 i (by omega)]; exact o4 i hi⟩, ⟨ab_u_at, by rw [px_u (by omega), ab_u_at], ab_u_at, by omega⟩, ⟨by rw [g 73 19 (by omega)]; exact k1, sks_c _ k2 (fun k _ => g 80 k (by omega)), by rw [g 73 23 (by omega)]; exact k3, k4⟩, by rw [e19]; exact m1, by omega, by rw [e19]; exact m3⟩
/-- a value is written down on both sides -/
theorem fq_val {I K : ab_I} {J L : ab_J} {p0 c s u h : Nat} {σ : List Nat} {x st ar : Int32} (hq : fq I0 K0 J0 L0 z a b I J K L p0 c s u h [] σ) (hh : h + 1 ≤ u) (h1 : fm_1 x st ar) (hx : ¬ x = -214) (hx2 : 0 ≤ x ∨ (-211 ≤ x ∧ x ≤ -206)) : fq I0 K0 J0 L0 z a b (ab_u (ab_u I 19 s x) 18 3 (nI (s + 1))) J (ab_u (ab_u (ab_u K 76 s st) 77 s ar) 73 17 (nI (s + 1))) L p0 c (s + 1) u (h + 1) [] σ := by
  obtain ⟨hz, ⟨b1, b2⟩, ⟨o1, o2, o3, o4⟩, ⟨u1, u2, u3, u4⟩, ⟨k1, k2, k3, k4⟩, m1, m2, m3⟩ := hq
  have g : ∀ r k, ¬ (r = 76 ∨ r = 77 ∨ (r = 73 ∧ k = 17)) → ab_u (ab_u (ab_u K 76 s st) 77 s ar) 73 17 (nI (s + 1)) r k = K r k := fun r k hr => by rw [px_u (by omega), px_u (by omega), px_u (by omega)]
  have gI : ∀ r k, ¬ (r = 19 ∨ (r = 18 ∧ k = 3)) → ab_u (ab_u I 19 s x) 18 3 (nI (s + 1)) r k = I r k := fun r k hr => by rw [px_u (by omega), px_u (by omega)]
  have g19 : ∀ i, i ≠ s → ab_u (ab_u I 19 s x) 18 3 (nI (s + 1)) 19 i = I 19 i := fun i hi => by rw [px_u (by omega), px_u (by omega)]
  have g19' : ab_u (ab_u I 19 s x) 18 3 (nI (s + 1)) 19 s = x := by rw [px_u (by omega), ab_u_at]
  have fh : ∀ i, i ≤ s → fm_h (ab_u (ab_u I 19 s x) 18 3 (nI (s + 1)) 19) i = fm_h (I 19) i := fun i hi => fm_h_c i (fun j hj => g19 j (by omega))
  have m1' : fm_h (I 19) s = some h := m1
  have hN : fm_h (ab_u (ab_u I 19 s x) 18 3 (nI (s + 1)) 19) (s + 1) = some (h + 1) := by
    rw [fm_h, fh s (Nat.le_refl _), m1']
    dsimp only
    rw [g19', if_neg hx, if_pos hx2]
  refine ⟨pz_w hz (fun r k hr => gI r k (by omega)) (fun r k hr => g r k (by omega)), ⟨by rw [gI 11 3 (by omega)]; exact b1, by rw [g 73 24 (by omega)]; exact b2⟩, ⟨ab_u_at, ab_u_at, trivial, fun i hi => ?_⟩, ⟨by rw [gI 18 4 (by omega)]; exact u1, by rw [g 73 20 (by omega)]; exact u2, by rw [g 73 22 (by omega)]; exact u3, u4⟩, ⟨by rw [g 73 19 (by omega)]; exact k1, sks_c _ k2 (fun k _ => g 80 k (by omega)), by rw [g 73 23 (by omega)]; exact k3, k4⟩, hN, hh, fun i hi => ?_⟩
  · by_cases e : i = s
    · rw [e, g19', px_u (by omega), px_u (by omega), ab_u_at, px_u (by omega), ab_u_at]; exact h1
    · rw [g19 i e, px_u (by omega), px_u (by omega), px_u (by omega), px_u (by omega), px_u (by omega), px_u (by omega)]; exact o4 i (by omega)
  · have hi' : i ≤ s + 1 := hi
    by_cases e : i = s + 1
    · exact ⟨h + 1, by rw [e]; exact hN, by omega⟩
    · rw [fh i (by omega)]; exact m3 i (by show i ≤ s + 0; omega)
/-- a bracket is taken off the reference's stack -/
theorem fq_popb {I K : ab_I} {J L : ab_J} {p0 c s u h : Nat} {σ : List Nat} (hq : fq I0 K0 J0 L0 z a b I J K L p0 c s u h [] (20 :: σ)) : fq I0 K0 J0 L0 z a b I J (ab_u (ab_u K 73 19 (nI σ.length)) 73 23 (nI (dl σ))) L p0 c s u h [] σ := by
  obtain ⟨hz, ⟨b1, b2⟩, ⟨o1, o2, o3, o4⟩, ⟨u1, u2, u3, u4⟩, ⟨k1, k2, k3, k4⟩, m1, m2, m3⟩ := hq
  have g : ∀ r k, ¬ (r = 73 ∧ (k = 19 ∨ k = 23)) → ab_u (ab_u K 73 19 (nI σ.length)) 73 23 (nI (dl σ)) r k = K r k := fun r k hr => by rw [px_u (by omega), px_u (by omega)]
  exact ⟨pz_w hz (fun r k _ => rfl) (fun r k hr => g r k (by omega)), ⟨b1, by rw [g 73 24 (by omega)]; exact b2⟩, ⟨o1, by rw [g 73 17 (by omega)]; exact o2, trivial, fun i hi => by rw [g 76 i (by omega), g 77 i (by omega)]; exact o4 i hi⟩, ⟨u1, by rw [g 73 20 (by omega)]; exact u2, by rw [g 73 22 (by omega)]; exact u3, u4⟩, ⟨by rw [px_u (by omega), ab_u_at]; rfl, sks_c σ k2.2 (fun k _ => g 80 k (by omega)), by rw [ab_u_at]; rfl, fun e he => k4 e (List.mem_cons_of_mem _ he)⟩, m1, m2, m3⟩
end UNI
