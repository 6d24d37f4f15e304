/-! ===== village: the draft on both sides ===== -/
def dr_P (I : ab_I) (J : ab_J) (K : ab_I) (L : ab_J) (a : Nat) : Prop := a ≤ 6 ∧ I 14 4 = nI a ∧ K 73 33 = nI a ∧ (∀ p, p < a → ∃ x, x ≤ 999 ∧ I 15 p = nI x ∧ K 83 p = nI x) ∧ (∀ i, i < a → J 12 i = L 75 i) ∧ ∀ i j, i < j → j < a → J 12 i ≠ J 12 j
def dr_B (I : ab_I) (J : ab_J) (K : ab_I) (L : ab_J) (b : Nat) : Prop := b ≤ 5 ∧ I 14 5 = nI b ∧ K 73 34 = nI b ∧ (∀ p, p < b → ∃ x, x ≤ 23 ∧ I 16 p = nI x ∧ K 84 p = nI x) ∧ (∀ i, i < b → J 13 i = L 75 (6 + i)) ∧ ∀ i j, i < j → j < b → J 13 i ≠ J 13 j
def dr_L (I K : ab_I) (a b : Nat) : Prop := ∃ n, n ≤ 20 ∧ I 14 6 = nI n ∧ K 73 35 = nI n ∧ (∀ c, c < 30 → ∃ x, x ≤ 20 ∧ I 17 c = nI x ∧ K 85 c = nI x ∧ (0 < x → c / 5 < a ∧ c % 5 < b)) ∧ (0 < n → ∃ lc, lc < 30 ∧ lc % 5 < b ∧ I 14 7 = nI lc ∧ K 73 36 = nI lc)
def dr_F (I K : ab_I) : Prop := ∃ f, f ≤ 100 ∧ I 14 8 = nI f ∧ K 73 37 = nI f ∧ I 11 4 = K 73 44 ∧ (K 73 44 = 0 ∨ K 73 44 = 1)
def dr_D (I K : ab_I) : Prop := ∃ f, f ≤ 999 ∧ I 14 9 = nI f ∧ K 73 38 = nI f ∧ I 11 5 = K 73 45 ∧ (K 73 45 = 0 ∨ K 73 45 = 1)
/-- steps that the class and the reference have alike: one step -/
def fm_1 (x st ar : Int32) : Prop := (∃ v, v ≤ 9999 ∧ x = nI v ∧ st = 0 ∧ ar = nI v) ∨ (∃ i, i < 6 ∧ x = -(nI (206 + i)) ∧ st = 1 ∧ ar = nI (match i with | 0 => 1 | 1 => 3 | 2 => 0 | 3 => 2 | 4 => 4 | _ => 5)) ∨ (x = -214 ∧ st = 2) ∨ (∃ t, (t = 37 ∨ t = 42 ∨ t = 43 ∨ t = 45 ∨ t = 47 ∨ t = 60 ∨ t = 61 ∨ t = 62 ∨ t = 212 ∨ t = 213) ∧ x = -(nI t) ∧ st = 3 ∧ ar = (if t = 212 then 124 else if t = 213 then 38 else nI t))
/-- how high the stack stands behind s steps; none: a step lacks what it joins -/
def fm_h (x : Nat → Int32) : Nat → Option Nat
  | 0 => some 0
  | s + 1 => match fm_h x s with
    | none => none
    | some h => if x s = -214 then (if 1 ≤ h then some h else none) else if 0 ≤ x s ∨ (-211 ≤ x s ∧ x s ≤ -206) then some (h + 1) else (if 2 ≤ h then some (h - 1) else none)
/-- a whole formula, both sides alike -/
def fm_W (x st ar : Nat → Int32) (s : Nat) : Prop := 0 < s ∧ s ≤ 300 ∧ (∀ i, i < s → fm_1 (x i) (st i) (ar i)) ∧ fm_h x s = some 1 ∧ ∀ i, i ≤ s → ∃ h, fm_h x i = some h ∧ h ≤ 30
def dr_W (I K : ab_I) : Prop := (I 11 3 = 0 ∧ K 73 24 = 0 ∧ I 18 3 = 0 ∧ I 18 4 = 0 ∧ K 73 20 = 0) ∨ (I 11 3 = 1 ∧ K 73 24 = 1 ∧ I 18 4 = K 73 20 ∧ ∃ s, I 18 3 = nI s ∧ K 73 17 = nI s ∧ fm_W (I 19) (K 76) (K 77) s)
def dr (I : ab_I) (J : ab_J) (K : ab_I) (L : ab_J) (a b : Nat) : Prop := dr_P I J K L a ∧ dr_B I J K L b ∧ dr_L I K a b ∧ dr_F I K ∧ dr_D I K ∧ dr_W I K
def dr_x (r k : Nat) : Prop := (r = 11 ∧ (k = 3 ∨ k = 4 ∨ k = 5)) ∨ (14 ≤ r ∧ r ≤ 19)
def dr_m (r k : Nat) : Prop := r = 76 ∨ r = 77 ∨ r = 83 ∨ r = 84 ∨ r = 85 ∨ (r = 73 ∧ (k = 17 ∨ k = 20 ∨ k = 24 ∨ k = 33 ∨ k = 34 ∨ k = 35 ∨ k = 36 ∨ k = 37 ∨ k = 38 ∨ k = 44 ∨ k = 45))
section DRC
variable {I I' K K' : ab_I} {J J' L L' : ab_J} {a b : Nat}
theorem dr_c (h : dr I J K L a b) (hI : ∀ r k, dr_x r k → I' r k = I r k) (hK : ∀ r k, dr_m r k → K' r k = K r k) (hJ : ∀ r k, r = 12 ∨ r = 13 → J' r k = J r k) (hL : ∀ k, L' 75 k = L 75 k) : dr I' J' K' L' a b := by
  have e14 : I' 14 = I 14 := funext fun k => hI 14 k (by unfold dr_x; omega)
  have e15 : I' 15 = I 15 := funext fun k => hI 15 k (by unfold dr_x; omega)
  have e16 : I' 16 = I 16 := funext fun k => hI 16 k (by unfold dr_x; omega)
  have e17 : I' 17 = I 17 := funext fun k => hI 17 k (by unfold dr_x; omega)
  have e18 : I' 18 = I 18 := funext fun k => hI 18 k (by unfold dr_x; omega)
  have e19 : I' 19 = I 19 := funext fun k => hI 19 k (by unfold dr_x; omega)
  have f3 := hI 11 3 (by unfold dr_x; omega)
  have f4 := hI 11 4 (by unfold dr_x; omega)
  have f5 := hI 11 5 (by unfold dr_x; omega)
  have k76 : K' 76 = K 76 := funext fun k => hK 76 k (by unfold dr_m; omega)
  have k77 : K' 77 = K 77 := funext fun k => hK 77 k (by unfold dr_m; omega)
  have k83 : K' 83 = K 83 := funext fun k => hK 83 k (by unfold dr_m; omega)
  have k84 : K' 84 = K 84 := funext fun k => hK 84 k (by unfold dr_m; omega)
  have k85 : K' 85 = K 85 := funext fun k => hK 85 k (by unfold dr_m; omega)
  have m17 := hK 73 17 (by unfold dr_m; omega)
  have m20 := hK 73 20 (by unfold dr_m; omega)
  have m24 := hK 73 24 (by unfold dr_m; omega)
  have m33 := hK 73 33 (by unfold dr_m; omega)
  have m34 := hK 73 34 (by unfold dr_m; omega)
  have m35 := hK 73 35 (by unfold dr_m; omega)
  have m36 := hK 73 36 (by unfold dr_m; omega)
  have m37 := hK 73 37 (by unfold dr_m; omega)
  have m38 := hK 73 38 (by unfold dr_m; omega)
  have m44 := hK 73 44 (by unfold dr_m; omega)
  have m45 := hK 73 45 (by unfold dr_m; omega)
  have j12 : J' 12 = J 12 := funext fun k => hJ 12 k (by omega)
  have j13 : J' 13 = J 13 := funext fun k => hJ 13 k (by omega)
  have l75 : L' 75 = L 75 := funext fun k => hL k
  unfold dr dr_P dr_B dr_L dr_F dr_D dr_W at *
  rw [e14, e15, e16, e17, e18, e19, f3, f4, f5, k76, k77, k83, k84, k85, m17, m20, m24, m33, m34, m35, m36, m37, m38, m44, m45, j12, j13, l75]
  exact h
end DRC
/-- what reading a text may write -/
def zx (r : Nat) : Prop := r = 11 ∨ (14 ≤ r ∧ r ≤ 22)
def zm (r k : Nat) : Prop := r = 76 ∨ r = 77 ∨ r = 80 ∨ r = 83 ∨ r = 84 ∨ r = 85 ∨ (r = 73 ∧ (k = 2 ∨ k = 3 ∨ k = 4 ∨ k = 6 ∨ k = 7 ∨ k = 8 ∨ k = 17 ∨ k = 19 ∨ k = 20 ∨ k = 22 ∨ k = 23 ∨ k = 24 ∨ k = 33 ∨ k = 34 ∨ k = 35 ∨ k = 36 ∨ k = 37 ∨ k = 38 ∨ k = 44 ∨ k = 45))
def ps_F (I0 K0 : ab_I) (J0 L0 : ab_J) (I : ab_I) (J : ab_J) (K : ab_I) (L : ab_J) : Prop := (∀ r k, ¬ zx r → I r k = I0 r k) ∧ (∀ r k, ¬ zm r k → K r k = K0 r k) ∧ (∀ r k, r ≠ 12 → r ≠ 13 → r ≠ 22 → J r k = J0 r k) ∧ ∀ r k, ¬ (r = 73 ∧ k = 9) → r ≠ 75 → L r k = L0 r k
section PS
variable (I0 K0 : ab_I) (J0 L0 : ab_J) (z : Nat)
/-- reading goes on: the token at hand is c, behind p0; a people, b bells so far -/
def ps (I : ab_I) (J : ab_J) (K : ab_I) (L : ab_J) (p0 c a b : Nat) : Prop := ps_F I0 K0 J0 L0 I J K L ∧ tk_R I J K L z p0 c ∧ I 11 8 = 0 ∧ I 11 9 = -1 ∧ K 73 2 = 0 ∧ K 73 3 = -1 ∧ dr I J K L a b
/-- a fault: the same on both sides -/
def ft (I : ab_I) (J : ab_J) (K : ab_I) (L : ab_J) : Prop := ps_F I0 K0 J0 L0 I J K L ∧ ∃ k pl, 1 ≤ k ∧ k ≤ 5 ∧ pl ≤ 1600 ∧ I 11 8 = nI k ∧ K 73 2 = nI k ∧ I 11 9 = nI pl ∧ K 73 3 = nI pl
end PS
section PSL
variable {I0 K0 : ab_I} {J0 L0 : ab_J} {z : Nat} {B : Nat → Nat} {I K : ab_I} {J L : ab_J} {p0 c a b : Nat}
theorem ps_tB (hB0 : tk_B I0 K0 z B) (h : ps_F I0 K0 J0 L0 I J K L) : tk_B I K z B := tk_B_c hB0 (h.1 1 1 (by unfold zx; omega)) (fun i => h.1 2 i (by unfold zx; omega)) (h.2.1 73 5 (by unfold zm; omega)) (fun i => h.2.1 74 i (by unfold zm; omega))
theorem ps_adv (hB0 : tk_B I0 K0 z B) (h : ps I0 K0 J0 L0 z I J K L p0 c a b) (h0 : c ≠ 0) (h1 : c ≠ 1) : ∃ I' J' K' L' c' p1, fX8_advance I J = some (I', J') ∧ fX12_token K L = some (K', L') ∧ ps I0 K0 J0 L0 z I' J' K' L' p1 c' a b ∧ p0 < p1 ∧ tk_fx I I' J J' ∧ tk_fm K K' L L' := by
  obtain ⟨hF, ⟨pl, t1, t2, t3, t4, t5, t6⟩, f8, f9, f2, f3, hd⟩ := h
  obtain ⟨p, q1, q2, q3, q4⟩ : ∃ p, p0 < p ∧ p ≤ z ∧ I 22 1 = nI p ∧ K 73 4 = nI p := by
    rcases t6 with h | h | ⟨p, h1, h2, h3, h4, _⟩
    · exact absurd h.1 h1
    · exact absurd h.1 h0
    · exact ⟨p, h1, h2, h3, h4⟩
  obtain ⟨I', J', K', L', c', a1, a2, a3, a4, a5⟩ := tk_A (J := J) (L := L) (ps_tB hB0 hF) q3 q4 q2
  refine ⟨I', J', K', L', c', p, a1, a2, ⟨⟨fun r k hz => ?_, fun r k hz => ?_, fun r k x y w => ?_, fun r k x y => ?_⟩, a3, ?_, ?_, ?_, ?_, ?_⟩, q1, a4, a5⟩
  · rw [a4.1 r k (by unfold zx at hz; omega)]; exact hF.1 r k hz
  · rw [a5.1 r k (by unfold zm at hz; omega)]; exact hF.2.1 r k hz
  · rw [a4.2 r k (by omega)]; exact hF.2.2.1 r k x y w
  · rw [a5.2 r k (by omega)]; exact hF.2.2.2 r k x y
  · rw [a4.1 11 8 (by omega)]; exact f8
  · rw [a4.1 11 9 (by omega)]; exact f9
  · rw [a5.1 73 2 (by omega)]; exact f2
  · rw [a5.1 73 3 (by omega)]; exact f3
  · exact dr_c hd (fun r k hx => a4.1 r k (by unfold dr_x at hx; omega)) (fun r k hx => a5.1 r k (by unfold dr_m at hx; omega)) (fun r k hx => a4.2 r k (by omega)) (fun k => a5.2 75 k (by omega))
/-- how the reference sees the token -/
theorem tk_sort (h : tk_R I J K L z p0 c) : (c = 1 ↔ K 73 6 = 3) ∧ (c = 0 ↔ K 73 6 = 0) ∧ (c = 3 ↔ K 73 6 = 2) ∧ ((c = 2 ∨ 200 ≤ c) ↔ K 73 6 = 1) ∧ (∀ t, tk_sg t = true → (c = t ↔ K 73 6 = nI t)) := by
  obtain ⟨pl, t1, t2, t3, t4, t5, t6⟩ := h
  have sgl : ∀ t, tk_sg t = true → 37 ≤ t ∧ t ≤ 62 := fun t ht => by
    unfold tk_sg at ht
    simp only [Bool.or_eq_true, beq_iff_eq] at ht
    omega
  have key : ∃ s, K 73 6 = nI s ∧ s < 300 ∧ ((c = 1 ∧ s = 3) ∨ (c = 0 ∧ s = 0) ∨ (s = 1 ∧ (c = 2 ∨ 200 ≤ c)) ∨ (c = 3 ∧ s = 2) ∨ (tk_sg c = true ∧ s = c)) := by
    rcases t6 with ⟨h1, h2⟩ | ⟨h1, h2, _⟩ | ⟨p, _, _, _, _, h⟩
    · exact ⟨3, h2, by decide, Or.inl ⟨h1, rfl⟩⟩
    · exact ⟨0, h2, by decide, Or.inr (Or.inl ⟨h1, rfl⟩)⟩
    · rcases h with ⟨h1, _, h2⟩ | ⟨h1, h2, _⟩ | ⟨h1, h2⟩
      · refine ⟨1, h1, by decide, Or.inr (Or.inr (Or.inl ⟨rfl, ?_⟩))⟩
        rcases h2 with ⟨h, _⟩ | ⟨i, _, h, _⟩
        · exact Or.inl h
        · exact Or.inr (by omega)
      · exact ⟨2, h2, by decide, Or.inr (Or.inr (Or.inr (Or.inl ⟨h1, rfl⟩)))⟩
      · exact ⟨c, h2, t3, Or.inr (Or.inr (Or.inr (Or.inr ⟨h1, rfl⟩)))⟩
  obtain ⟨s, k1, k2, k3⟩ := key
  have eqn : ∀ t, t < 300 → (K 73 6 = nI t ↔ s = t) := fun t ht => by rw [k1]; exact nI_eq (by omega) (by omega)
  have sc : tk_sg c = true → 37 ≤ c ∧ c ≤ 62 := sgl c
  refine ⟨?_, ?_, ?_, ?_, fun t ht => ?_⟩
  · refine Iff.trans ?_ (eqn 3 (by decide)).symm
    rcases k3 with h | h | h | h | ⟨h, h'⟩
    · omega
    · omega
    · omega
    · omega
    · have := sc h; omega
  · refine Iff.trans ?_ (eqn 0 (by decide)).symm
    rcases k3 with h | h | h | h | ⟨h, h'⟩
    · omega
    · omega
    · omega
    · omega
    · have := sc h; omega
  · refine Iff.trans ?_ (eqn 2 (by decide)).symm
    rcases k3 with h | h | h | h | ⟨h, h'⟩
    · omega
    · omega
    · omega
    · omega
    · have := sc h; omega
  · refine Iff.trans ?_ (eqn 1 (by decide)).symm
    rcases k3 with h | h | h | h | ⟨h, h'⟩
    · omega
    · omega
    · omega
    · omega
    · have := sc h; omega
  · have := sgl t ht
    refine Iff.trans ?_ (eqn t (by omega)).symm
    rcases k3 with h | h | h | h | ⟨h, h'⟩
    · omega
    · omega
    · omega
    · omega
    · omega
theorem ps_ref (h : ps I0 K0 J0 L0 z I J K L p0 c a b) {k : Nat} (hk : 1 ≤ k) (hk5 : k ≤ 5) : ∃ I' K', fX4_refuses (nI k) I = some (0, I') ∧ fX12_wrong (nI k) K = some K' ∧ ft I0 K0 J0 L0 I' J K' L ∧ (∀ r i, ¬ (r = 11 ∧ (i = 8 ∨ i = 9)) → I' r i = I r i) ∧ (∀ r i, ¬ (r = 73 ∧ (i = 2 ∨ i = 3)) → K' r i = K r i) ∧ ¬ K' 73 2 ≤ 0 ∧ ¬ K' 73 2 = 0 := by
  obtain ⟨hF, hT, f8, f9, f2, f3, hd⟩ := h
  have hs := tk_sort hT
  obtain ⟨pl, t1, t2, t3, t4, t5, t6⟩ := hT
  have ec : (I 22 2 = (1 : Int32)) ↔ c = 1 := by rw [t2]; exact nI_eq (b := 1) (by omega) (by decide)
  have fin : ∀ m, 1 ≤ m → m ≤ 5 → ft I0 K0 J0 L0 (ab_u (ab_u I 11 8 (nI m)) 11 9 (nI pl)) J (ab_u (ab_u K 73 2 (nI m)) 73 3 (nI pl)) L ∧ ¬ ab_u (ab_u K 73 2 (nI m)) 73 3 (nI pl) 73 2 ≤ 0 ∧ ¬ ab_u (ab_u K 73 2 (nI m)) 73 3 (nI pl) 73 2 = 0 := fun m m1 m2 => by
    have e2 : ab_u (ab_u K 73 2 (nI m)) 73 3 (nI pl) 73 2 = nI m := by rw [px_u (by decide), ab_u_at]
    refine ⟨⟨⟨fun r i hz => ?_, fun r i hz => ?_, hF.2.2.1, hF.2.2.2⟩, m, pl, m1, m2, t1, by rw [px_u (by decide), ab_u_at], e2, by rw [ab_u_at], by rw [ab_u_at]⟩, ?_, ?_⟩
    · unfold zx at hz; rw [px_u (by omega), px_u (by omega)]; exact hF.1 r i (by unfold zx; omega)
    · unfold zm at hz; rw [px_u (by omega), px_u (by omega)]; exact hF.2.1 r i (by unfold zm; omega)
    · rw [e2]; exact nI_nle (by omega) (by omega)
    · rw [e2]; exact nI_ne0 (by omega) (by omega)
  have fr1 : ∀ m, ∀ r i, ¬ (r = 11 ∧ (i = 8 ∨ i = 9)) → ab_u (ab_u I 11 8 (nI m)) 11 9 (nI pl) r i = I r i := fun m r i h => by rw [px_u (by omega), px_u (by omega)]
  have fr2 : ∀ m, ∀ r i, ¬ (r = 73 ∧ (i = 2 ∨ i = 3)) → ab_u (ab_u K 73 2 (nI m)) 73 3 (nI pl) r i = K r i := fun m r i h => by rw [px_u (by omega), px_u (by omega)]
  unfold fX4_refuses fX4_refuses_17 fX12_wrong fX12_wrong_22
  rw [f2, if_pos (show (0 : Int32) ≤ 0 by decide), t4, t5]
  by_cases e : c = 1
  · rw [if_pos (ec.mpr e), if_pos (hs.1.mp e)]
    obtain ⟨x1, x2, x3⟩ := fin 1 (by decide) (by decide)
    exact ⟨_, _, rfl, rfl, x1, fr1 1, fr2 1, x2, x3⟩
  · rw [if_neg (fun h => e (ec.mp h)), if_neg (fun h => e (hs.1.mpr h))]
    obtain ⟨x1, x2, x3⟩ := fin k hk hk5
    exact ⟨_, _, rfl, rfl, x1, fr1 k, fr2 k, x2, x3⟩
end PSL
