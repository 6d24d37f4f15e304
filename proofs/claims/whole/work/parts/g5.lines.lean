/-! ===== village: lines ===== -/
section LIN
variable {I0 K0 : ab_I} {J0 L0 : ab_J} {z : Nat} {B : Nat → Nat} {I K : ab_I} {J L : ab_J} {p0 c a b : Nat}
/-- a line's end on both sides -/
def lb (I0 K0 : ab_I) (J0 L0 : ab_J) (z p0 : Nat) (cl : Option (Int32 × ab_I × ab_J)) (rf : Option (ab_I × ab_J)) : Prop := (∃ I' J' K' L' c' p1 a' b', cl = some (1, I', J') ∧ rf = some (K', L') ∧ ps I0 K0 J0 L0 z I' J' K' L' p1 c' a' b' ∧ p0 < p1) ∨ ∃ I' J' K' L', cl = some (0, I', J') ∧ rf = some (K', L') ∧ ft I0 K0 J0 L0 I' J' K' L'
theorem ft_ne (h : ft I0 K0 J0 L0 I J K L) : ¬ K 73 2 ≤ 0 ∧ ¬ K 73 2 = 0 := by
  obtain ⟨_, k, pl, h1, h2, _, _, h3, _⟩ := h
  rw [h3]
  exact ⟨nI_nle (by omega) (by omega), nI_ne0 (by omega) (by omega)⟩
theorem ft_K {r i : Nat} {x : Int32} (h : ft I0 K0 J0 L0 I J K L) (hz : zm r i) (hne : ¬ (r = 73 ∧ (i = 2 ∨ i = 3))) : ft I0 K0 J0 L0 I J (ab_u K r i x) L := by
  obtain ⟨⟨hF1, hF2, hF3⟩, k, pl, h1, h2, h3, h4, h5, h6, h7⟩ := h
  refine ⟨⟨hF1, fun r' i' hz' => ?_, hF3⟩, k, pl, h1, h2, h3, h4, by rw [px_u (by omega)]; exact h5, h6, by rw [px_u (by omega)]; exact h7⟩
  rw [px_u (fun h => hz' (by rw [h.1, h.2]; exact hz))]
  exact hF2 r' i' hz'
theorem dr_n {I : ab_I} (h : dr I J K L a b) : a ≤ 6 ∧ b ≤ 5 ∧ I 14 4 = nI a ∧ K 73 33 = nI a ∧ I 14 5 = nI b ∧ K 73 34 = nI b := ⟨h.1.1, h.2.1.1, h.1.2.1, h.1.2.2.1, h.2.1.2.1, h.2.1.2.2.1⟩
theorem dr_addP (h : dr I J K L a b) (ha : a < 6) {x : Nat} (hx : x ≤ 999) (hn : J 12 a = L 75 a) (hd : ∀ i, i < a → J 12 i ≠ J 12 a) : dr (ab_u (ab_u I 15 a (nI x)) 14 4 (nI (a + 1))) J (ab_u (ab_u K 83 a (nI x)) 73 33 (nI (a + 1))) L (a + 1) b := by
  obtain ⟨⟨p1, p2, p3, p4, p5, p6⟩, hB, hL, hF, hD, hW⟩ := h
  have gI : ∀ r k, ¬ (r = 15 ∧ k = a) → ¬ (r = 14 ∧ k = 4) → ab_u (ab_u I 15 a (nI x)) 14 4 (nI (a + 1)) r k = I r k := fun r k u v => by rw [px_u v, px_u u]
  have gK : ∀ r k, ¬ (r = 83 ∧ k = a) → ¬ (r = 73 ∧ k = 33) → ab_u (ab_u K 83 a (nI x)) 73 33 (nI (a + 1)) r k = K r k := fun r k u v => by rw [px_u v, px_u u]
  refine ⟨⟨by omega, ab_u_at, ab_u_at, fun p hp => ?_, fun i hi => ?_, fun i j hij hj => ?_⟩, ?_, ?_, ?_, ?_, ?_⟩
  · by_cases e : p = a
    · subst e
      exact ⟨x, hx, by rw [px_u (by omega), ab_u_at], by rw [px_u (by omega), ab_u_at]⟩
    · rw [gI 15 p (by omega) (by omega), gK 83 p (by omega) (by omega)]
      exact p4 p (by omega)
  · by_cases e : i = a
    · subst e; exact hn
    · exact p5 i (by omega)
  · by_cases e : j = a
    · subst e; exact hd i hij
    · exact p6 i j hij (by omega)
  · unfold dr_B at *
    rw [gI 14 5 (by omega) (by omega), gK 73 34 (by omega) (by omega), show ab_u (ab_u I 15 a (nI x)) 14 4 (nI (a + 1)) 16 = I 16 from funext fun k => gI 16 k (by omega) (by omega), show ab_u (ab_u K 83 a (nI x)) 73 33 (nI (a + 1)) 84 = K 84 from funext fun k => gK 84 k (by omega) (by omega)]
    exact hB
  · obtain ⟨n, l1, l2, l3, l4, l5⟩ := hL
    refine ⟨n, l1, by rw [gI 14 6 (by omega) (by omega)]; exact l2, by rw [gK 73 35 (by omega) (by omega)]; exact l3, fun c hc => ?_, fun hn => ?_⟩
    · obtain ⟨y, y1, y2, y3, y4⟩ := l4 c hc
      exact ⟨y, y1, by rw [gI 17 c (by omega) (by omega)]; exact y2, by rw [gK 85 c (by omega) (by omega)]; exact y3, fun h => ⟨by have := (y4 h).1; omega, (y4 h).2⟩⟩
    · obtain ⟨y, y1, y2, y3, y4⟩ := l5 hn
      exact ⟨y, y1, y2, by rw [gI 14 7 (by omega) (by omega)]; exact y3, by rw [gK 73 36 (by omega) (by omega)]; exact y4⟩
  · unfold dr_F at *
    rw [gI 14 8 (by omega) (by omega), gK 73 37 (by omega) (by omega), gI 11 4 (by omega) (by omega), gK 73 44 (by omega) (by omega)]
    exact hF
  · unfold dr_D at *
    rw [gI 14 9 (by omega) (by omega), gK 73 38 (by omega) (by omega), gI 11 5 (by omega) (by omega), gK 73 45 (by omega) (by omega)]
    exact hD
  · unfold dr_W at *
    rw [gI 11 3 (by omega) (by omega), gK 73 24 (by omega) (by omega), gI 18 3 (by omega) (by omega), gI 18 4 (by omega) (by omega), gK 73 20 (by omega) (by omega), gK 73 17 (by omega) (by omega), show ab_u (ab_u I 15 a (nI x)) 14 4 (nI (a + 1)) 19 = I 19 from funext fun k => gI 19 k (by omega) (by omega), show ab_u (ab_u K 83 a (nI x)) 73 33 (nI (a + 1)) 76 = K 76 from funext fun k => gK 76 k (by omega) (by omega), show ab_u (ab_u K 83 a (nI x)) 73 33 (nI (a + 1)) 77 = K 77 from funext fun k => gK 77 k (by omega) (by omega)]
    exact hW
theorem dr_addB (h : dr I J K L a b) (hb : b < 5) {x : Nat} (hx : x ≤ 23) (hn : J 13 b = L 75 (6 + b)) (hd : ∀ i, i < b → J 13 i ≠ J 13 b) : dr (ab_u (ab_u I 16 b (nI x)) 14 5 (nI (b + 1))) J (ab_u (ab_u K 84 b (nI x)) 73 34 (nI (b + 1))) L a (b + 1) := by
  obtain ⟨hP, ⟨p1, p2, p3, p4, p5, p6⟩, hL, hF, hD, hW⟩ := h
  have gI : ∀ r k, ¬ (r = 16 ∧ k = b) → ¬ (r = 14 ∧ k = 5) → ab_u (ab_u I 16 b (nI x)) 14 5 (nI (b + 1)) r k = I r k := fun r k u v => by rw [px_u v, px_u u]
  have gK : ∀ r k, ¬ (r = 84 ∧ k = b) → ¬ (r = 73 ∧ k = 34) → ab_u (ab_u K 84 b (nI x)) 73 34 (nI (b + 1)) r k = K r k := fun r k u v => by rw [px_u v, px_u u]
  refine ⟨?_, ⟨by omega, ab_u_at, ab_u_at, fun p hp => ?_, fun i hi => ?_, fun i j hij hj => ?_⟩, ?_, ?_, ?_, ?_⟩
  · unfold dr_P at *
    rw [gI 14 4 (by omega) (by omega), gK 73 33 (by omega) (by omega), show ab_u (ab_u I 16 b (nI x)) 14 5 (nI (b + 1)) 15 = I 15 from funext fun k => gI 15 k (by omega) (by omega), show ab_u (ab_u K 84 b (nI x)) 73 34 (nI (b + 1)) 83 = K 83 from funext fun k => gK 83 k (by omega) (by omega)]
    exact hP
  · by_cases e : p = b
    · subst e
      exact ⟨x, hx, by rw [px_u (by omega), ab_u_at], by rw [px_u (by omega), ab_u_at]⟩
    · rw [gI 16 p (by omega) (by omega), gK 84 p (by omega) (by omega)]
      exact p4 p (by omega)
  · by_cases e : i = b
    · subst e; exact hn
    · exact p5 i (by omega)
  · by_cases e : j = b
    · subst e; exact hd i hij
    · exact p6 i j hij (by omega)
  · obtain ⟨n, l1, l2, l3, l4, l5⟩ := hL
    refine ⟨n, l1, by rw [gI 14 6 (by omega) (by omega)]; exact l2, by rw [gK 73 35 (by omega) (by omega)]; exact l3, fun c hc => ?_, fun hn => ?_⟩
    · obtain ⟨y, y1, y2, y3, y4⟩ := l4 c hc
      exact ⟨y, y1, by rw [gI 17 c (by omega) (by omega)]; exact y2, by rw [gK 85 c (by omega) (by omega)]; exact y3, fun h => ⟨(y4 h).1, by have := (y4 h).2; omega⟩⟩
    · obtain ⟨y, y1, y2, y3, y4⟩ := l5 hn
      exact ⟨y, y1, by omega, by rw [gI 14 7 (by omega) (by omega)]; exact y3, by rw [gK 73 36 (by omega) (by omega)]; exact y4⟩
  · unfold dr_F at *
    rw [gI 14 8 (by omega) (by omega), gK 73 37 (by omega) (by omega), gI 11 4 (by omega) (by omega), gK 73 44 (by omega) (by omega)]
    exact hF
  · unfold dr_D at *
    rw [gI 14 9 (by omega) (by omega), gK 73 38 (by omega) (by omega), gI 11 5 (by omega) (by omega), gK 73 45 (by omega) (by omega)]
    exact hD
  · unfold dr_W at *
    rw [gI 11 3 (by omega) (by omega), gK 73 24 (by omega) (by omega), gI 18 3 (by omega) (by omega), gI 18 4 (by omega) (by omega), gK 73 20 (by omega) (by omega), gK 73 17 (by omega) (by omega), show ab_u (ab_u I 16 b (nI x)) 14 5 (nI (b + 1)) 19 = I 19 from funext fun k => gI 19 k (by omega) (by omega), show ab_u (ab_u K 84 b (nI x)) 73 34 (nI (b + 1)) 76 = K 76 from funext fun k => gK 76 k (by omega) (by omega), show ab_u (ab_u K 84 b (nI x)) 73 34 (nI (b + 1)) 77 = K 77 from funext fun k => gK 77 k (by omega) (by omega)]
    exact hW
/-- R of reading again, the draft being new -/
theorem ps_d {I' K' : ab_I} {a' b' : Nat} (h : ps I0 K0 J0 L0 z I J K L p0 c a b) (hI : ∀ r k, ¬ (14 ≤ r ∧ r ≤ 19) → ¬ (r = 11 ∧ (k = 3 ∨ k = 4 ∨ k = 5)) → I' r k = I r k) (hK : ∀ r k, (r ≠ 73 → ¬ zm r k) → (r = 73 → k = 2 ∨ k = 3 ∨ k = 4 ∨ k = 6 ∨ k = 7 ∨ k = 8 ∨ ¬ zm r k) → K' r k = K r k) (hd : dr I' J K' L a' b') : ps I0 K0 J0 L0 z I' J K' L p0 c a' b' := by
  obtain ⟨hF, hT, f8, f9, f2, f3, _⟩ := h
  have e22 : I' 22 = I 22 := funext fun k => hI 22 k (by omega) (by omega)
  have m : ∀ k, k = 2 ∨ k = 3 ∨ k = 4 ∨ k = 6 ∨ k = 7 ∨ k = 8 → K' 73 k = K 73 k := fun k hk => hK 73 k (fun h => absurd rfl h) (fun _ => by omega)
  refine ⟨⟨fun r k hz => ?_, fun r k hz => ?_, hF.2.2.1, hF.2.2.2⟩, ?_, ?_, ?_, ?_, ?_, hd⟩
  · unfold zx at hz
    rw [hI r k (by omega) (by omega)]; exact hF.1 r k (by unfold zx; omega)
  · rw [hK r k (fun _ => hz) (fun _ => by simp [hz])]; exact hF.2.1 r k hz
  · unfold tk_R at *
    rw [e22, m 4 (by omega), m 6 (by omega), m 7 (by omega), m 8 (by omega)]; exact hT
  · rw [hI 11 8 (by omega) (by omega)]; exact f8
  · rw [hI 11 9 (by omega) (by omega)]; exact f9
  · rw [m 2 (by omega)]; exact f2
  · rw [m 3 (by omega)]; exact f3
/-- the word of a line, then a new name -/
theorem ps_line (hB0 : tk_B I0 K0 z B) (h : ps I0 K0 J0 L0 z I J K L p0 c a b) (h0 : c ≠ 0) (h1 : c ≠ 1) {r1 n1 f k : Nat} (hr : r1 = 12 ∨ r1 = 13) (hk : k < n1) (hn : n1 ≤ 6) (hf : f + k < 11) (hJL : ∀ i, i < k → J r1 i = L 75 (f + i)) (hdis : ∀ i j, i < j → j < k → J r1 i ≠ J r1 j) (hkeep : ∀ x I' J' K' L', dr I' J' K' L' a b → dr I' (ab_u J' r1 k x) K' (ab_u L' 75 (f + k) x) a b) :
    ∃ I1 J1, fX8_advance I J = some (I1, J1) ∧ I1 14 4 = nI a ∧ I1 14 5 = nI b ∧ ((∃ I' J' K' L' c' p1, fX4_takesNewName r1 n1 (nI k) I1 J1 = some (1, I', J') ∧ fX12_newName (nI f) (nI k) K L = some (K', L') ∧ ps I0 K0 J0 L0 z I' J' K' L' p1 c' a b ∧ p0 < p1 ∧ J' r1 k = L' 75 (f + k) ∧ ∀ i, i < k → J' r1 i ≠ J' r1 k) ∨
    ∃ I' K' L', fX4_takesNewName r1 n1 (nI k) I1 J1 = some (0, I', J1) ∧ fX12_newName (nI f) (nI k) K L = some (K', L') ∧ ft I0 K0 J0 L0 I' J1 K' L' ∧ K' 73 33 = nI a ∧ K' 73 34 = nI b) := by
  obtain ⟨I1, J1, K1, L1, c1, p1, x1, x2, hps1, x4, x5, x6⟩ := ps_adv hB0 h h0 h1
  obtain ⟨q1, q2, q3, q4, q5, q6⟩ := dr_n hps1.2.2.2.2.2.2
  have hd1 := hps1.2.2.2.2.2.2
  refine ⟨I1, J1, x1, q3, q5, ?_⟩
  have hJ : ∀ i, J1 r1 i = J r1 i := fun i => x5.2 r1 i (by omega)
  have hL : ∀ i, L1 75 i = L 75 i := fun i => x6.2 75 i (by omega)
  have en : fX12_newName (nI f) (nI k) K L = (fX12_isName K1 L1).bind (fun u2 => if u2 = 0 then (fX12_wrong 2 K1).bind fun u5 => fX12_newName_33 (nI f) (nI k) u5 L1 else (fX12_find (nI f) (nI k) L1).bind fun u3 => if u3 < 0 then fX12_newName_33 (nI f) (nI k) K1 L1 else (fX12_wrong 3 K1).bind fun u4 => fX12_newName_33 (nI f) (nI k) u4 L1) := by
    unfold fX12_newName
    rw [x2, px_bd]
  rw [en]
  rcases ps_new (r1 := r1) (n1 := n1) (f := f) (k := k) hB0 hps1 hr hk hn hf (fun i hi => by rw [hJ, hL]; exact hJL i hi) (fun i j hij hj => by rw [hJ, hJ]; exact hdis i j hij hj) (fun x => hkeep x I1 J1 K1 L1 hd1) with ⟨I2, J2, K2, L2, c2, p2, x, w1, w2, hps2, w4, w5, w6, w7⟩ | ⟨I2, K2, w1, w2, w3, w4, w5, w6⟩
  · left
    have ej : J2 r1 k = x := by rw [w5.2 r1 k (by omega), ab_u_at]
    have el : L2 75 (f + k) = x := by rw [w6.2 75 (f + k) (by omega), ab_u_at]
    refine ⟨I2, J2, K2, L2, c2, p2, w1, w2, hps2, by omega, by rw [ej, el], fun i hi => ?_⟩
    rw [ej, w5.2 r1 i (by omega), ab_u_ne (by omega)]
    exact w7 i hi
  · right
    exact ⟨I2, K2, L1, w1, w2, w3, by rw [w4 73 33 (by omega)]; exact q4, by rw [w4 73 34 (by omega)]; exact q6⟩
/-- a word, then a number -/
theorem ps_told (hB0 : tk_B I0 K0 z B) (h : ps I0 K0 J0 L0 z I J K L p0 c a b) {i lo hi : Nat} (hi15 : i < 15) (hlo : lo < 10000) (hhi : hi < 10000) :
    (∃ I1 J1 I' J' K' L' c' p1 v, lo ≤ v ∧ v ≤ hi ∧ fX4_takes (nI (200 + i)) I J = some (1, I1, J1) ∧ fX4_takesNumber (nI lo) (nI hi) I1 J1 = some (1, I', J') ∧ fX12_told (bz_word i) (nI lo) (nI hi) K L = some (nI v, K', L') ∧ I' 11 6 = nI v ∧ ps I0 K0 J0 L0 z I' J' K' L' p1 c' a b ∧ p0 < p1 ∧ (∀ r k, r = 12 ∨ r = 13 → J' r k = J r k) ∧ ∀ k, L' 75 k = L 75 k) ∨
    ∃ I' J' K' L' x, (fX4_takes (nI (200 + i)) I J = some (0, I', J') ∨ ∃ I1 J1, fX4_takes (nI (200 + i)) I J = some (1, I1, J1) ∧ fX4_takesNumber (nI lo) (nI hi) I1 J1 = some (0, I', J')) ∧ fX12_told (bz_word i) (nI lo) (nI hi) K L = some (x, K', L') ∧ ft I0 K0 J0 L0 I' J' K' L' := by
  rcases ps_word hB0 h hi15 with ⟨I1, J1, K1, L1, c1, p1, a1, a2, a3, a4, a5, a6⟩ | ⟨I1, K1, a1, a2, a3, a4, a5, a6⟩
  · rcases ps_num (lo := lo) (hi := hi) hB0 a3 hlo hhi with ⟨I2, J2, K2, L2, c2, p2, v, b1, b2, b3, b4, b5, b6, b7, b8, b9⟩ | ⟨I2, K2, x, b1, b2, b3, b4, b5, b6⟩
    · left
      refine ⟨I1, J1, I2, J2, K2, L2, c2, p2, v, b1, b2, a1, b3, ?_, b5, b6, by omega, fun r k hr => ?_, fun k => ?_⟩
      · unfold fX12_told
        rw [a2, px_bd]
        dsimp only
        rw [b4, px_bd]
      · rw [b8.2 r k (by omega), a5.2 r k (by omega)]
      · rw [b9.2 75 k (by omega), a6.2 75 k (by omega)]
    · right
      refine ⟨I2, J1, K2, L1, x, Or.inr ⟨I1, J1, a1, b1⟩, ?_, b3⟩
      unfold fX12_told
      rw [a2, px_bd]
      dsimp only
      rw [b2, px_bd]
  · right
    refine ⟨I1, J, K1, L, 0, Or.inl a1, ?_, a3⟩
    unfold fX12_told fX12_toldNumber
    rw [a2, px_bd]
    dsimp only
    rw [if_neg a5, px_bd]
theorem ln_person (hB0 : tk_B I0 K0 z B) (h : ps I0 K0 J0 L0 z I J K L p0 c a b) (hc : c = 200) (ha : a < 6) : lb I0 K0 J0 L0 z p0 (fX4_readsPerson I J) (fX12_readPerson K L) := by
  obtain ⟨n1, n2, n3, n4, n5, n6⟩ := dr_n h.2.2.2.2.2.2
  have hd := h.2.2.2.2.2.2
  have hlt : nI a < (6 : Int32) := nI_lt (b := 6) ha (by decide)
  obtain ⟨I1, J1, x1, q3, q5, hx⟩ := ps_line (r1 := 12) (n1 := 6) (f := 0) (k := a) hB0 h (by omega) (by omega) (Or.inl rfl) ha (by decide) (by omega) (fun i hi => by rw [Nat.zero_add]; exact hd.1.2.2.2.2.1 i hi) hd.1.2.2.2.2.2 (fun x I' J' K' L' hd1 => by
    obtain ⟨⟨r1, r2, r3, r4, r5, r6⟩, ⟨s1, s2, s3, s4, s5, s6⟩, hrest⟩ := hd1
    rw [Nat.zero_add]
    exact ⟨⟨r1, r2, r3, r4, fun i hi => by rw [ab_u_ne (by omega), ab_u_ne (by omega)]; exact r5 i hi, fun i j hij hj => by rw [ab_u_ne (by omega), ab_u_ne (by omega)]; exact r6 i j hij hj⟩, ⟨s1, s2, s3, s4, fun i hi => by rw [ab_u_o (by decide), ab_u_ne (by omega)]; exact s5 i hi, fun i j hij hj => by rw [ab_u_o (by decide)]; exact s6 i j hij hj⟩, hrest⟩)
  unfold fX4_readsPerson fX4_readsPerson_64 fX12_readPerson fX12_readPerson_46
  rw [n3, if_pos hlt, x1, px_bd, n4]
  dsimp only
  rw [q3]
  rcases hx with ⟨I2, J2, K2, L2, c2, p2, w1, w2, hps2, w4, w5, w6⟩ | ⟨I2, K2, L2, w1, w2, w3, w4, w5⟩
  · have w2' : fX12_newName 0 (nI a) K L = some (K2, L2) := w2
    obtain ⟨u1, u2, u3, u4, u5, u6⟩ := dr_n hps2.2.2.2.2.2.2
    rw [w1, px_bd, w2', px_bd]
    dsimp only
    have hix : ab_ix (K2 73 33) 6 = true := by rw [u4]; exact px_ix ha (by decide)
    have hcl : (K2 73 33).toNatClampNeg = a := by rw [u4, nI_clamp (by omega)]
    rw [if_neg (show ¬ (1 : Int32) = 0 by decide)]
    rcases ps_told (i := 6) (lo := 0) (hi := 999) hB0 hps2 (by decide) (by decide) (by decide) with ⟨I3, J3, I4, J4, K4, L4, c4, p4, v, v1, v2, v3, v4, v5, v6, hps4, v8, v9, v10⟩ | ⟨I4, J4, K4, L4, x, v1, v2, v3⟩
    · left
      have v3' : fX4_takes 206 I2 J2 = some (1, I3, J3) := v3
      have v4' : fX4_takesNumber 0 999 I3 J3 = some (1, I4, J4) := v4
      have v5' : fX12_told 6840691 0 999 K2 L2 = some (nI v, K4, L4) := v5
      obtain ⟨t1, t2, t3, t4, t5, t6⟩ := dr_n hps4.2.2.2.2.2.2
      rw [v3', px_bd]
      dsimp only
      rw [if_neg (show ¬ (1 : Int32) = 0 by decide), v4', px_bd]
      dsimp only
      rw [if_neg (show ¬ (1 : Int32) = 0 by decide), px_gd (show ab_ix (I4 14 4) 6 = true by rw [t3]; exact px_ix ha (by decide)), t3, nI_clamp (by omega), v6, v5', px_bd, px_gd hix, hcl]
      dsimp only
      rw [if_pos hps4.2.2.2.2.1, t4, ← nI_succ]
      refine ⟨_, _, _, _, c4, p4, a + 1, b, rfl, rfl, ps_d hps4 (fun r k u1 u2 => by rw [px_u (by omega), px_u (by omega)]) (fun r k u1 u2 => ?_) (dr_addP hps4.2.2.2.2.2.2 ha v2 ?_ (fun i hi => ?_)), by omega⟩
      · by_cases er : r = 73
        · subst er
          have hne : k ≠ 33 := fun h => by
            have := u2 rfl
            unfold zm at this
            omega
          rw [px_u (by omega), px_u (by omega)]
        · have hz := u1 er
          unfold zm at hz
          rw [px_u (by omega), px_u (by omega)]
      · rw [v9 12 a (Or.inl rfl), v10 a]
        rw [Nat.zero_add] at w5
        exact w5
      · rw [v9 12 i (Or.inl rfl), v9 12 a (Or.inl rfl)]
        exact w6 i hi
    · right
      have v2' : fX12_told 6840691 0 999 K2 L2 = some (x, K4, L4) := v2
      have hn := ft_ne v3
      rw [v2', px_bd, px_gd hix, hcl]
      dsimp only
      rw [if_neg hn.2]
      have hk := ft_K (r := 83) (i := a) (x := x) v3 (by unfold zm; omega) (by omega)
      rcases v1 with v1 | ⟨I3, J3, v1, v1b⟩
      · have v1' : fX4_takes 206 I2 J2 = some (0, I4, J4) := v1
        rw [v1', px_bd]
        exact ⟨_, _, _, _, rfl, rfl, hk⟩
      · have v1' : fX4_takes 206 I2 J2 = some (1, I3, J3) := v1
        have v1b' : fX4_takesNumber 0 999 I3 J3 = some (0, I4, J4) := v1b
        rw [v1', px_bd]
        dsimp only
        rw [if_neg (show ¬ (1 : Int32) = 0 by decide), v1b', px_bd]
        exact ⟨_, _, _, _, rfl, rfl, hk⟩
  · right
    have w2' : fX12_newName 0 (nI a) K L = some (K2, L2) := w2
    have hn := ft_ne w3
    rw [w1, px_bd, w2', px_bd]
    unfold fX12_told fX12_want0
    dsimp only
    rw [if_neg hn.1, px_bd]
    unfold fX12_toldNumber
    dsimp only
    have hix : ab_ix (K2 73 33) 6 = true := by rw [w4]; exact px_ix ha (by decide)
    have hcl : (K2 73 33).toNatClampNeg = a := by rw [w4, nI_clamp (by omega)]
    rw [if_neg hn.1, px_bd, px_bd, px_gd hix, hcl]
    dsimp only
    rw [if_neg hn.2]
    exact ⟨_, _, _, _, rfl, rfl, ft_K w3 (by unfold zm; omega) (by omega)⟩
end LIN
