/-! ===== village: the reference, all of it ===== -/
/-- the reference's heap Y behind a village well told, K being the one behind the reading -/
def vy (K Y : ab_I) (a b s : Nat) (t : Nat → Nat) (dr : Nat) : Prop := (Y 73 39 = nI a ∧ Y 73 40 = nI b ∧ Y 73 41 = K 73 35 ∧ Y 73 42 = K 73 36 ∧ Y 73 43 = K 73 37 ∧ Y 73 21 = K 73 20 ∧ Y 73 25 = K 73 24 ∧ Y 73 18 = nI s) ∧ (Y 73 50 = 0 ∧ Y 73 51 = 0 ∧ Y 73 64 = 0 ∧ Y 73 54 = 0 ∧ ∀ j, j < 3 → Y 107 j = 0) ∧ ((∀ c, c < 30 → Y 88 c = K 85 c) ∧ (∀ p, p < b → Y 87 p = K 84 p) ∧ (∀ p, p < a → Y 86 p = K 83 p) ∧ (∀ i, i < s → Y 78 i = K 76 i) ∧ ∀ i, i < s → Y 79 i = K 77 i) ∧ rx_is a (Y 89) (sp_b0 a t dr) ∧ ∀ r k, r ≠ 78 → r ≠ 79 → r ≠ 86 → r ≠ 87 → r ≠ 88 → r ≠ 89 → r ≠ 90 → r ≠ 107 → ¬ (r = 73 ∧ (k = 39 ∨ k = 40 ∨ k = 41 ∨ k = 42 ∨ k = 43 ∨ k = 21 ∨ k = 25 ∨ k = 18 ∨ k = 50 ∨ k = 51 ∨ k = 64 ∨ k = 54)) → Y r k = K r k
theorem vm_ok {X K : ab_I} {J1 L : ab_J} {a b s dr : Nat} {t : Nat → Nat} (hr : fX12_readAll X J1 = some (K, L)) (h2 : K 73 2 = 0) (hn : a ≤ 6) (hb : b ≤ 5) (hs : s ≤ 300) (h33 : K 73 33 = nI a) (h34 : K 73 34 = nI b) (h38 : K 73 38 = nI dr) (t1 : ∀ p, p < a → K 83 p = nI (t p)) (t2 : ∀ c, c < 30 → K 85 c = nI (t (13 + c))) (hf : (K 73 24 = 0 ∧ s = 0) ∨ (K 73 24 = 1 ∧ K 73 17 = nI s)) : ∃ Y, fX12_village X J1 = some (nI a, Y, L) ∧ vy K Y a b s t dr := by
  generalize hK1 : ab_u (ab_u (ab_u (ab_u (ab_u (ab_u (ab_u K 73 39 (K 73 33)) 73 40 (K 73 34)) 73 41 (K 73 35)) 73 42 (K 73 36)) 73 43 (K 73 37)) 73 21 (K 73 20)) 73 25 (K 73 24) = K1
  have c39 : K1 73 39 = nI a := by rw [← hK1, px_u (by omega), px_u (by omega), px_u (by omega), px_u (by omega), px_u (by omega), px_u (by omega), ab_u_at]; exact h33
  have c40 : K1 73 40 = nI b := by rw [← hK1, px_u (by omega), px_u (by omega), px_u (by omega), px_u (by omega), px_u (by omega), ab_u_at]; exact h34
  have c41 : K1 73 41 = K 73 35 := by rw [← hK1, px_u (by omega), px_u (by omega), px_u (by omega), px_u (by omega), ab_u_at]
  have c42 : K1 73 42 = K 73 36 := by rw [← hK1, px_u (by omega), px_u (by omega), px_u (by omega), ab_u_at]
  have c43 : K1 73 43 = K 73 37 := by rw [← hK1, px_u (by omega), px_u (by omega), ab_u_at]
  have c21 : K1 73 21 = K 73 20 := by rw [← hK1, px_u (by omega), ab_u_at]
  have c25 : K1 73 25 = K 73 24 := by rw [← hK1, ab_u_at]
  have co : ∀ r k, ¬ (r = 73 ∧ (k = 39 ∨ k = 40 ∨ k = 41 ∨ k = 42 ∨ k = 43 ∨ k = 21 ∨ k = 25)) → K1 r k = K r k := fun r k h => by rw [← hK1, px_u (by omega), px_u (by omega), px_u (by omega), px_u (by omega), px_u (by omega), px_u (by omega), px_u (by omega)]
  obtain ⟨M, Y, g1, ⟨o1, o2, o3, o4, o5, o6, o7⟩, g2, g3, g4, g5, g6, g7, g8⟩ := vm_85 (I := K1) (J := L) (t := t) (dr := dr) (s := s) hn hb hs c39 c40 (by rw [co 73 38 (by omega)]; exact h38) (fun p hp => by rw [co 83 p (by omega)]; exact t1 p hp) (fun c hc => by rw [co 85 c (by omega)]; exact t2 c hc)
  have y : ∀ r k, r ≠ 78 → r ≠ 79 → r ≠ 86 → r ≠ 87 → r ≠ 88 → r ≠ 89 → r ≠ 90 → r ≠ 107 → ¬ (r = 73 ∧ (k = 18 ∨ k = 50 ∨ k = 51 ∨ k = 64 ∨ k = 54)) → Y r k = K1 r k := fun r k n1 n2 n3 n4 n5 n6 n7 n8 n9 => by rw [o7 r k n6 n7 n8 (by omega), g8 r k n1 n2 n3 n4 n5 (by omega)]
  have y73 : ∀ k, ¬ (k = 18 ∨ k = 50 ∨ k = 51 ∨ k = 64 ∨ k = 54) → Y 73 k = K1 73 k := fun k h => y 73 k (by omega) (by omega) (by omega) (by omega) (by omega) (by omega) (by omega) (by omega) (by omega)
  refine ⟨Y, ?_, ⟨?_, ?_, ?_, ?_, ?_, ?_, ?_, ?_⟩, ⟨o2, o3, o4, o5, o6⟩, ⟨fun c hc => ?_, fun p hp => ?_, fun p hp => ?_, fun i hi => ?_, fun i hi => ?_⟩, o1, fun r k n1 n2 n3 n4 n5 n6 n7 n8 n9 => ?_⟩
  · unfold fX12_village
    rw [hr, px_bd]
    dsimp only
    rw [if_pos (show K 73 2 ≤ 0 from (congrArg (fun v : Int32 => v ≤ 0) h2).mpr (by decide)), hK1]
    rcases hf with ⟨f1, f2⟩ | ⟨f1, f2⟩
    · subst f2
      rw [px_gd (show K 73 24 = 0 ∨ K 73 24 = 1 from Or.inl f1), if_pos f1]
      exact g1
    · rw [px_gd (show K 73 24 = 0 ∨ K 73 24 = 1 from Or.inr f1), if_neg (show ¬ K 73 24 = 0 from fun h => absurd (f1.symm.trans h) (by decide)), f2]
      exact g1
  · rw [y73 39 (by omega)]; exact c39
  · rw [y73 40 (by omega)]; exact c40
  · rw [y73 41 (by omega)]; exact c41
  · rw [y73 42 (by omega)]; exact c42
  · rw [y73 43 (by omega)]; exact c43
  · rw [y73 21 (by omega)]; exact c21
  · rw [y73 25 (by omega)]; exact c25
  · rw [o7 73 18 (by omega) (by omega) (by omega) (by omega)]; exact g7
  · rw [o7 88 c (by omega) (by omega) (by omega) (by omega), g2 c hc, co 85 c (by omega)]
  · rw [o7 87 p (by omega) (by omega) (by omega) (by omega), g3 p hp, co 84 p (by omega)]
  · rw [o7 86 p (by omega) (by omega) (by omega) (by omega), g4 p hp, co 83 p (by omega)]
  · rw [o7 78 i (by omega) (by omega) (by omega) (by omega), g5 i hi, co 76 i (by omega)]
  · rw [o7 79 i (by omega) (by omega) (by omega) (by omega), g6 i hi, co 77 i (by omega)]
  · rw [y r k n1 n2 n3 n4 n5 n6 n7 n8 (by omega)]
    exact co r k (by omega)
