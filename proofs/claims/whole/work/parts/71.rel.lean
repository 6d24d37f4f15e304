/-! ===== R: what class and reference have in common ===== -/
/-- the 45 numbers of a State at q, in the reference's order -/
def rx_v (I : ab_I) (q k : Nat) : Int32 := if k < 6 then I (q + 1) k else if k < 12 then I (q + 2) (k - 6) else if k = 12 then I q 3 else if k < 43 then I (q + 3) (k - 13) else if k = 43 then I q 4 else I q 5
/-- the numbers f are w's, as far as they count (what one HAS who is not told counts nowhere) -/
def rx_is (np : Nat) (f : Nat → Int32) (w : Nat → Nat) : Prop := ∀ k, k < 45 → (k < 6 → k < np) → f k = nI (w k)
def rx_ok (np nb dm : Nat) (w : Nat → Nat) : Prop := (∀ p, p < np → w p ≤ 999) ∧ (∀ p, p < 6 → w (6 + p) ≤ 999) ∧ w 12 < 2 ^ np ∧ (∀ c, c < 30 → w (13 + c) ≤ 20) ∧ (∀ p b, p < 6 → nb ≤ b → b < 5 → w (13 + 5 * p + b) = 0) ∧ w 43 ≤ dm ∧ w 44 ≤ 999
/-- a State that now or one of sides may be -/
def rx_dyn (q : Nat) : Prop := q = 57 ∨ ∃ i, q = 109 + 4 * i
def rx_pop (h : Nat) : Nat := h % 2 + h / 2 % 2 + h / 4 % 2 + h / 8 % 2 + h / 16 % 2 + h / 32 % 2
/-- what the class's steps come to -/
def rx_FX (F : Int32 → Int32 → Int32 → Int32 → Int32 → Int32 → Int32) (s8 : Nat → Int32) (sz : Int32) : Prop :=
  ∀ (I : ab_I) (q p b h12 : Nat) (h : Int32), I 8 = s8 → I 7 3 = sz → 25 < q → p < 6 → b < 5 → I q 3 = nI h12 → h12 < 64 → ∃ I', fX2_comesTo q (nI p) (nI b) h I = some (F (I (q + 3) (5 * p + b)) (I (q + 1) p) (I (q + 2) p) h (nI (rx_pop h12)) (I q 4), I') ∧ ∀ r, r ≠ 9 → r ≠ 10 → I' r = I r
/-- what the reference's steps come to -/
def rx_FM (F : Int32 → Int32 → Int32 → Int32 → Int32 → Int32 → Int32) (sp ar : Nat → Int32) (n hf : Int32) : Prop :=
  ∀ (I : ab_I) (p b h12 : Nat), I 78 = sp → I 79 = ar → I 73 18 = n → I 73 25 = hf → p < 6 → b < 5 → I 90 12 = nI h12 → h12 < 64 → ∃ I', fX12_weightOf (nI p) (nI b) I = some (F (I 90 (13 + 5 * p + b)) (I 90 p) (I 90 (6 + p)) (I 87 b) (nI (rx_pop h12)) (I 90 43), I') ∧ ∀ r, r ≠ 81 → r ≠ 82 → I' r = I r
def rx_V (I : ab_I) (np nb nl fa : Nat) : Prop := np ≤ 6 ∧ nb ≤ 5 ∧ nl ≤ 20 ∧ fa ≤ 100 ∧ I 3 4 = nI np ∧ I 73 39 = nI np ∧ I 3 5 = nI nb ∧ I 73 40 = nI nb ∧ I 3 6 = nI nl ∧ I 73 41 = nI nl ∧ I 3 8 = nI fa ∧ I 73 43 = nI fa ∧ (∀ b, b < nb → I 87 b = I 5 b) ∧ I 73 21 = I 7 4
def rx_T (I : ab_I) (np nb nl : Nat) (t : Nat → Nat) (lc dr : Nat) : Prop := (∀ p, p < np → I 4 p = nI (t p) ∧ I 86 p = nI (t p) ∧ t p ≤ 999) ∧ (∀ c, c < 30 → I 6 c = nI (t (13 + c)) ∧ I 88 c = nI (t (13 + c)) ∧ t (13 + c) ≤ 20) ∧ (∀ p b, p < 6 → nb ≤ b → b < 5 → t (13 + 5 * p + b) = 0) ∧ (0 < nl → lc < 30 ∧ lc % 5 < nb ∧ I 3 7 = nI lc ∧ I 73 42 = nI lc) ∧ I 3 9 = nI dr ∧ dr ≤ 999
def rx_N (I : ab_I) (P : ab_P) (np nb q : Nat) (w : Nat → Nat) : Prop := P 0 12 = some q ∧ rx_dyn q ∧ rx_is np (rx_v I q) w ∧ rx_is np (I 89) w ∧ rx_ok np nb 999 w
def rx_A (I : ab_I) (P : ab_P) (np nb dn kp : Nat) : Prop := dn ≤ kp ∧ kp ≤ 40 ∧ I 53 1 = nI dn ∧ I 53 2 = nI kp ∧ I 73 50 = nI dn ∧ I 73 51 = nI (kp - dn) ∧ (∀ j, j < kp → ∃ q w, P 54 j = some q ∧ rx_is np (rx_v I q) w ∧ rx_is np (fun k => I 92 (45 * j + k)) w ∧ rx_ok np nb 999 w) ∧ (∀ j q, P 54 j = some q → j < 40 ∧ rx_dyn q ∧ P 0 12 ≠ some q) ∧ (∀ i j q, P 54 i = some q → P 54 j = some q → i = j)
def rx_X (I : ab_I) (np nb bf : Nat) : Prop := bf < 8 ∧ I 0 11 = nI bf ∧ ∀ j, j < 3 → (bf.testBit j = false ∧ I 107 j = 0) ∨ (bf.testBit j = true ∧ I 107 j = 1 ∧ ∃ w, rx_is np (rx_v I (61 + 4 * j)) w ∧ rx_is np (fun k => I 108 (45 * j + k)) w ∧ rx_ok np nb 999 w)
def rx_L (I : ab_I) (c : Nat) : Prop := c ≤ 6 ∧ I 0 9 = nI c ∧ I 73 54 = nI c ∧ ∀ i, i < c → I 93 i = I 55 i
def rx_P (I : ab_I) (z : Nat) : Prop := z ≤ 1600 ∧ I 1 1 = nI z ∧ I 73 1 = nI z ∧ ∀ i, i < z → I 74 i = I 2 i &&& 255
def rx_U (I : ab_I) : Prop := I 73 2 = I 0 13 ∧ I 73 3 = I 0 14
def rx_W (I : ab_I) (np nb cn tm : Nat) : Prop := cn ≤ 30 ∧ tm ≤ 100000 ∧ I 41 10 = nI cn ∧ I 73 64 = nI cn ∧ I 41 11 = nI tm ∧ I 73 65 = nI tm ∧ ∀ i, i < cn → ∃ d b p t, 1 ≤ d ∧ d ≤ 12 ∧ b < nb ∧ p < np ∧ t ≤ 100000 ∧ I 46 i = nI d ∧ I 98 i = nI d ∧ I 47 i = nI b ∧ I 99 i = nI b ∧ I 48 i = nI p ∧ I 100 i = nI p ∧ (I 49 i = 0 ∨ I 49 i = 1) ∧ I 103 i = I 49 i ∧ I 50 i = nI t ∧ I 101 i = nI t ∧ ((I 51 i = 100001 ∧ I 102 i = -1) ∨ ∃ v, v ≤ 100000 ∧ I 51 i = nI v ∧ I 102 i = nI v)
/-- the village: how many people, bells, loses, faces; what is told; the formula -/
def rx_G (I : ab_I) (np nb nl fa : Nat) (t : Nat → Nat) (lc dr : Nat) (F : Int32 → Int32 → Int32 → Int32 → Int32 → Int32 → Int32) : Prop := rx_V I np nb nl fa ∧ rx_T I np nb nl t lc dr ∧ rx_FX F (I 8) (I 7 3) ∧ rx_FM F (I 78) (I 79) (I 73 18) (I 73 25)
def rx_R (S : ab_S) (I : ab_I) (J : ab_J) (P : ab_P) : Prop := bz_B S P ∧ bz_Z S.length I J P ∧ (∃ i, S.length = 109 + 4 * i) ∧ ∃ (np nb nl fa lc dr : Nat) (t : Nat → Nat) (F : Int32 → Int32 → Int32 → Int32 → Int32 → Int32 → Int32), rx_G I np nb nl fa t lc dr F ∧ (∃ q w, rx_N I P np nb q w) ∧ (∃ dn kp, rx_A I P np nb dn kp) ∧ (∃ bf, rx_X I np nb bf) ∧ (∃ c, rx_L I c) ∧ (∃ z, rx_P I z) ∧ rx_U I ∧ (∃ cn tm, rx_W I np nb cn tm)
/-! what each part reads -/
def rx_dG (r k : Nat) : Prop := r = 3 ∨ r = 4 ∨ r = 5 ∨ r = 6 ∨ r = 7 ∨ r = 8 ∨ r = 78 ∨ r = 79 ∨ r = 86 ∨ r = 87 ∨ r = 88 ∨ (r = 73 ∧ (k = 18 ∨ k = 21 ∨ k = 25 ∨ k = 39 ∨ k = 40 ∨ k = 41 ∨ k = 42 ∨ k = 43))
def rx_dD (r : Nat) : Prop := (57 ≤ r ∧ r < 61) ∨ 109 ≤ r
def rx_dN (r : Nat) : Prop := rx_dD r ∨ r = 89
def rx_dA (r k : Nat) : Prop := rx_dD r ∨ r = 92 ∨ r = 53 ∨ (r = 73 ∧ (k = 50 ∨ k = 51))
def rx_dX (r k : Nat) : Prop := (61 ≤ r ∧ r < 73) ∨ r = 107 ∨ r = 108 ∨ (r = 0 ∧ k = 11)
def rx_dL (r k : Nat) : Prop := r = 55 ∨ r = 93 ∨ (r = 0 ∧ k = 9) ∨ (r = 73 ∧ k = 54)
def rx_dP (r k : Nat) : Prop := r = 1 ∨ r = 2 ∨ r = 74 ∨ (r = 73 ∧ k = 1)
def rx_dU (r k : Nat) : Prop := (r = 0 ∧ (k = 13 ∨ k = 14)) ∨ (r = 73 ∧ (k = 2 ∨ k = 3))
def rx_dW (r k : Nat) : Prop := r = 41 ∨ (46 ≤ r ∧ r ≤ 51) ∨ (98 ≤ r ∧ r ≤ 103) ∨ (r = 73 ∧ (k = 64 ∨ k = 65))
section RXC
variable {I I' : ab_I} {P : ab_P} {np nb nl fa lc dr : Nat} {t : Nat → Nat} {F : Int32 → Int32 → Int32 → Int32 → Int32 → Int32 → Int32}
theorem rx_v_c {q k : Nat} (h : ∀ j, j < 4 → ∀ k, I' (q + j) k = I (q + j) k) : rx_v I' q k = rx_v I q k := by
  unfold rx_v
  rw [h 1 (by decide), h 2 (by decide), h 3 (by decide), show I' q = I q from funext (h 0 (by decide))]
theorem rx_is_c {q : Nat} {w : Nat → Nat} (h : ∀ j, j < 4 → ∀ k, I' (q + j) k = I (q + j) k) (hw : rx_is np (rx_v I q) w) : rx_is np (rx_v I' q) w := fun k h1 h2 => by rw [rx_v_c h]; exact hw k h1 h2
theorem rx_dyn_d {q j : Nat} (h : rx_dyn q) (hj : j < 4) : rx_dD (q + j) := by
  unfold rx_dD
  rcases h with rfl | ⟨i, rfl⟩ <;> omega
theorem rx_G_c (hG : rx_G I np nb nl fa t lc dr F) (h : ∀ r k, rx_dG r k → I' r k = I r k) : rx_G I' np nb nl fa t lc dr F := by
  have e3 : I' 3 = I 3 := funext fun k => h 3 k (by unfold rx_dG; omega)
  have e4 : I' 4 = I 4 := funext fun k => h 4 k (by unfold rx_dG; omega)
  have e5 : I' 5 = I 5 := funext fun k => h 5 k (by unfold rx_dG; omega)
  have e6 : I' 6 = I 6 := funext fun k => h 6 k (by unfold rx_dG; omega)
  have e7 : I' 7 = I 7 := funext fun k => h 7 k (by unfold rx_dG; omega)
  have e8 : I' 8 = I 8 := funext fun k => h 8 k (by unfold rx_dG; omega)
  have e78 : I' 78 = I 78 := funext fun k => h 78 k (by unfold rx_dG; omega)
  have e79 : I' 79 = I 79 := funext fun k => h 79 k (by unfold rx_dG; omega)
  have e86 : I' 86 = I 86 := funext fun k => h 86 k (by unfold rx_dG; omega)
  have e87 : I' 87 = I 87 := funext fun k => h 87 k (by unfold rx_dG; omega)
  have e88 : I' 88 = I 88 := funext fun k => h 88 k (by unfold rx_dG; omega)
  have m18 : I' 73 18 = I 73 18 := h 73 18 (by unfold rx_dG; omega)
  have m21 : I' 73 21 = I 73 21 := h 73 21 (by unfold rx_dG; omega)
  have m25 : I' 73 25 = I 73 25 := h 73 25 (by unfold rx_dG; omega)
  have m39 : I' 73 39 = I 73 39 := h 73 39 (by unfold rx_dG; omega)
  have m40 : I' 73 40 = I 73 40 := h 73 40 (by unfold rx_dG; omega)
  have m41 : I' 73 41 = I 73 41 := h 73 41 (by unfold rx_dG; omega)
  have m42 : I' 73 42 = I 73 42 := h 73 42 (by unfold rx_dG; omega)
  have m43 : I' 73 43 = I 73 43 := h 73 43 (by unfold rx_dG; omega)
  unfold rx_G rx_V rx_T
  rw [e3, e4, e5, e6, e7, e8, e78, e79, e86, e87, e88, m18, m21, m25, m39, m40, m41, m42, m43]
  exact hG
theorem rx_N_c {q : Nat} {w : Nat → Nat} (hN : rx_N I P np nb q w) (h : ∀ r k, rx_dN r → I' r k = I r k) : rx_N I' P np nb q w := by
  obtain ⟨h1, h2, h3, h4, h5⟩ := hN
  exact ⟨h1, h2, rx_is_c (fun j hj k => h _ k (Or.inl (rx_dyn_d h2 hj))) h3, fun k a b => by rw [h 89 k (Or.inr rfl)]; exact h4 k a b, h5⟩
theorem rx_A_c {dn kp : Nat} (hA : rx_A I P np nb dn kp) (h : ∀ r k, rx_dA r k → I' r k = I r k) : rx_A I' P np nb dn kp := by
  obtain ⟨h1, h2, h3, h4, h5, h6, h7, h8, h9⟩ := hA
  refine ⟨h1, h2, by rw [h 53 1 (by unfold rx_dA; omega)]; exact h3, by rw [h 53 2 (by unfold rx_dA; omega)]; exact h4, by rw [h 73 50 (by unfold rx_dA; omega)]; exact h5, by rw [h 73 51 (by unfold rx_dA; omega)]; exact h6, fun j hj => ?_, h8, h9⟩
  obtain ⟨q, w, a1, a2, a3, a4⟩ := h7 j hj
  exact ⟨q, w, a1, rx_is_c (fun i hi k => h _ k (Or.inl (rx_dyn_d (h8 j q a1).2.1 hi))) a2, fun k x y => by show I' 92 _ = _; rw [h 92 _ (by unfold rx_dA; omega)]; exact a3 k x y, a4⟩
theorem rx_X_c {bf : Nat} (hX : rx_X I np nb bf) (h : ∀ r k, rx_dX r k → I' r k = I r k) : rx_X I' np nb bf := by
  obtain ⟨h1, h2, h3⟩ := hX
  refine ⟨h1, by rw [h 0 11 (by unfold rx_dX; omega)]; exact h2, fun j hj => ?_⟩
  rw [h 107 j (by unfold rx_dX; omega)]
  rcases h3 j hj with a | ⟨a1, a2, w, a3, a4, a5⟩
  · exact Or.inl a
  · exact Or.inr ⟨a1, a2, w, rx_is_c (fun i hi k => h _ k (by unfold rx_dX; omega)) a3, fun k x y => by show I' 108 _ = _; rw [h 108 _ (by unfold rx_dX; omega)]; exact a4 k x y, a5⟩
theorem rx_L_c {c : Nat} (hL : rx_L I c) (h : ∀ r k, rx_dL r k → I' r k = I r k) : rx_L I' c := by
  obtain ⟨h1, h2, h3, h4⟩ := hL
  exact ⟨h1, by rw [h 0 9 (by unfold rx_dL; omega)]; exact h2, by rw [h 73 54 (by unfold rx_dL; omega)]; exact h3, fun i hi => by rw [h 93 i (by unfold rx_dL; omega), h 55 i (by unfold rx_dL; omega)]; exact h4 i hi⟩
theorem rx_P_c {z : Nat} (hP : rx_P I z) (h : ∀ r k, rx_dP r k → I' r k = I r k) : rx_P I' z := by
  obtain ⟨h1, h2, h3, h4⟩ := hP
  exact ⟨h1, by rw [h 1 1 (by unfold rx_dP; omega)]; exact h2, by rw [h 73 1 (by unfold rx_dP; omega)]; exact h3, fun i hi => by rw [h 74 i (by unfold rx_dP; omega), h 2 i (by unfold rx_dP; omega)]; exact h4 i hi⟩
theorem rx_U_c (hU : rx_U I) (h : ∀ r k, rx_dU r k → I' r k = I r k) : rx_U I' := by
  obtain ⟨h1, h2⟩ := hU
  exact ⟨by rw [h 73 2 (by unfold rx_dU; omega), h 0 13 (by unfold rx_dU; omega)]; exact h1, by rw [h 73 3 (by unfold rx_dU; omega), h 0 14 (by unfold rx_dU; omega)]; exact h2⟩
theorem rx_W_c {cn tm : Nat} (hW : rx_W I np nb cn tm) (h : ∀ r k, rx_dW r k → I' r k = I r k) : rx_W I' np nb cn tm := by
  have e41 : I' 41 = I 41 := funext fun k => h 41 k (by unfold rx_dW; omega)
  have e46 : I' 46 = I 46 := funext fun k => h 46 k (by unfold rx_dW; omega)
  have e47 : I' 47 = I 47 := funext fun k => h 47 k (by unfold rx_dW; omega)
  have e48 : I' 48 = I 48 := funext fun k => h 48 k (by unfold rx_dW; omega)
  have e49 : I' 49 = I 49 := funext fun k => h 49 k (by unfold rx_dW; omega)
  have e50 : I' 50 = I 50 := funext fun k => h 50 k (by unfold rx_dW; omega)
  have e51 : I' 51 = I 51 := funext fun k => h 51 k (by unfold rx_dW; omega)
  have e98 : I' 98 = I 98 := funext fun k => h 98 k (by unfold rx_dW; omega)
  have e99 : I' 99 = I 99 := funext fun k => h 99 k (by unfold rx_dW; omega)
  have e100 : I' 100 = I 100 := funext fun k => h 100 k (by unfold rx_dW; omega)
  have e101 : I' 101 = I 101 := funext fun k => h 101 k (by unfold rx_dW; omega)
  have e102 : I' 102 = I 102 := funext fun k => h 102 k (by unfold rx_dW; omega)
  have e103 : I' 103 = I 103 := funext fun k => h 103 k (by unfold rx_dW; omega)
  have m64 : I' 73 64 = I 73 64 := h 73 64 (by unfold rx_dW; omega)
  have m65 : I' 73 65 = I 73 65 := h 73 65 (by unfold rx_dW; omega)
  unfold rx_W
  rw [e41, e46, e47, e48, e49, e50, e51, e98, e99, e100, e101, e102, e103, m64, m65]
  exact hW
/-- rows that questions may write -/
def rx_sc (r : Nat) : Prop := r = 9 ∨ r = 10 ∨ r = 24 ∨ (26 ≤ r ∧ r ≤ 40) ∨ (42 ≤ r ∧ r ≤ 45) ∨ r = 52 ∨ r = 81 ∨ r = 82 ∨ r = 90 ∨ r = 91 ∨ (94 ≤ r ∧ r ≤ 97) ∨ (104 ≤ r ∧ r ≤ 106)
theorem rx_R_sc {S : ab_S} {J : ab_J} (hR : rx_R S I J P) (h : ∀ r, ¬ rx_sc r → I' r = I r) : rx_R S I' J P := by
  obtain ⟨hB, hZ, ⟨i, hS⟩, np, nb, nl, fa, lc, dr, t, F, hG, ⟨q, w, hN⟩, ⟨dn, kp, hA⟩, ⟨bf, hX⟩, ⟨c, hL⟩, ⟨z, hP⟩, hU, cn, tm, hW⟩ := hR
  refine ⟨hB, fun r hr => ?_, ⟨i, hS⟩, np, nb, nl, fa, lc, dr, t, F, rx_G_c hG (fun r k hd => ?_), ⟨q, w, rx_N_c hN (fun r k hd => ?_)⟩, ⟨dn, kp, rx_A_c hA (fun r k hd => ?_)⟩, ⟨bf, rx_X_c hX (fun r k hd => ?_)⟩, ⟨c, rx_L_c hL (fun r k hd => ?_)⟩, ⟨z, rx_P_c hP (fun r k hd => ?_)⟩, rx_U_c hU (fun r k hd => ?_), cn, tm, rx_W_c hW (fun r k hd => ?_)⟩
  · rw [h r (by unfold rx_sc; omega)]
    exact hZ r hr
  · rw [h r (by unfold rx_sc; unfold rx_dG at hd; omega)]
  · rw [h r (by unfold rx_sc; unfold rx_dN rx_dD at hd; omega)]
  · rw [h r (by unfold rx_sc; unfold rx_dA rx_dD at hd; omega)]
  · rw [h r (by unfold rx_sc; unfold rx_dX at hd; omega)]
  · rw [h r (by unfold rx_sc; unfold rx_dL at hd; omega)]
  · rw [h r (by unfold rx_sc; unfold rx_dP at hd; omega)]
  · rw [h r (by unfold rx_sc; unfold rx_dU at hd; omega)]
  · rw [h r (by unfold rx_sc; unfold rx_dW at hd; omega)]
end RXC
theorem rx_hS : ∀ S I J P, rx_R S I J P → S[0]? = some (16, 0) := fun _ _ _ _ h => h.1.1 0 _ rfl
theorem px_u {α : Type} {I : Nat → Nat → α} {r0 k0 r k : Nat} {x : α} (h : ¬ (r = r0 ∧ k = k0)) : ab_u I r0 k0 x r k = I r k := by
  by_cases e : r = r0
  · subst e
    exact ab_u_ne (fun e2 => h ⟨rfl, e2⟩)
  · rw [ab_u_o e]
/-- a pair of questions that write nothing, or scratch rows alone -/
theorem lz_q {l : Launch} {G : ab_G} {S : ab_S} {I I1 I2 : ab_I} {J : ab_J} {P : ab_P} {gX gM : ab_M} {dX dM : Nat} {as : List Value} (v : Int32) (hR : rx_R S I J P) (hX : ∀ Q : ab_Q, Q (some (.int v)) S I1 J P → ab_Call l G gX dX (.ref 0 :: as) S I J P Q) (hM : ∀ Q : ab_Q, Q (some (.int v)) S I2 J P → ab_Call l G gM dM (.ref 73 :: as) S I1 J P Q) (h : ∀ r, ¬ rx_sc r → I2 r = I r) : lz_pr l G rx_R gX dX gM dM as S I J P :=
  ⟨v, S, I1, J, P, S, I2, J, P, hX, hM, hR.1.1 73 _ rfl, rx_R_sc hR h⟩
