/-! ===== how many bits of 21: Integer.bitCount ===== -/
theorem wz_and (a b : Nat) : nI a &&& nI b = nI (a &&& b) := by
  apply Int32.toBitVec_inj.1
  show BitVec.ofNat 32 a &&& BitVec.ofNat 32 b = BitVec.ofNat 32 (a &&& b)
  apply BitVec.eq_of_getLsbD_eq
  intro i hi
  simp [hi]
theorem wz_split {u x v y : Nat} (hu : u < 256) (hx : x < 256) : (u + 256 * v) &&& (x + 256 * y) = (u &&& x) + 256 * (v &&& y) := by
  have hux : u &&& x < 256 := Nat.lt_of_le_of_lt Nat.and_le_left hu
  have e1 : ((u + 256 * v) &&& (x + 256 * y)) % 2 ^ 8 = u &&& x := by
    rw [Nat.and_mod_two_pow, show (u + 256 * v) % 2 ^ 8 = u by omega, show (x + 256 * y) % 2 ^ 8 = x by omega]
  have e2 : ((u + 256 * v) &&& (x + 256 * y)) / 2 ^ 8 = v &&& y := by
    rw [← Nat.shiftRight_eq_div_pow, Nat.shiftRight_and_distrib, Nat.shiftRight_eq_div_pow, Nat.shiftRight_eq_div_pow, show (u + 256 * v) / 2 ^ 8 = v by omega, show (x + 256 * y) / 2 ^ 8 = y by omega]
  omega
def wz_1 (x : Nat) : Nat := x - (x / 2 &&& 85)
def wz_2 (x : Nat) : Nat := (x &&& 51) + (x / 4 &&& 51)
def wz_3 (x : Nat) : Nat := (x + x / 16) &&& 15
theorem wz_f1 : ∀ x, x < 256 → ∀ e, e < 2 → (x / 2 + 128 * e) &&& 85 = x / 2 &&& 85 := by decide +kernel
theorem wz_f1c : ∀ x, x < 256 → x / 2 &&& 21845 = x / 2 &&& 85 := by decide +kernel
theorem wz_f1l : ∀ x, x < 256 → x / 2 &&& 85 ≤ x := by decide +kernel
theorem wz_f2 : ∀ x, x < 256 → ∀ e, e < 4 → (x / 4 + 64 * e) &&& 51 = x / 4 &&& 51 := by decide +kernel
theorem wz_f2c : ∀ x, x < 256 → x / 4 &&& 13107 = x / 4 &&& 51 ∧ x &&& 13107 = x &&& 51 := by decide +kernel
theorem wz_f3 : ∀ x, x < 69 → ∀ e, e < 5 → (x + x / 16 + 16 * e) &&& 15 = (x + x / 16) &&& 15 := by decide +kernel
theorem wz_f3c : ∀ x, x < 69 → (x + x / 16) &&& 3855 = (x + x / 16) &&& 15 := by decide +kernel
theorem wz_b1 : ∀ x, x < 256 → wz_1 x < 256 := by decide +kernel
theorem wz_b2 : ∀ x, x < 256 → wz_2 (wz_1 x) < 69 ∧ wz_2 (wz_1 x) % 16 < 5 := by decide +kernel
theorem wz_b3 : ∀ x, x < 256 → wz_3 (wz_2 (wz_1 x)) ≤ 8 := by decide +kernel
theorem wz_s1 {a b c : Nat} (ha : a < 256) (hb : b < 256) (hc : c < 256) : (a + 256 * (b + 256 * c)) - ((a + 256 * (b + 256 * c)) / 2 &&& 1431655765) = wz_1 a + 256 * (wz_1 b + 256 * wz_1 c) := by
  have e : (a + 256 * (b + 256 * c)) / 2 = (a / 2 + 128 * (b % 2)) + 256 * ((b / 2 + 128 * (c % 2)) + 256 * (c / 2)) := by omega
  rw [e, show 1431655765 = 85 + 256 * (85 + 256 * 21845) from rfl, wz_split (by omega) (by decide), wz_split (by omega) (by decide), wz_f1 a ha _ (by omega), wz_f1 b hb _ (by omega), wz_f1c c hc]
  have := wz_f1l a ha
  have := wz_f1l b hb
  have := wz_f1l c hc
  unfold wz_1
  omega
theorem wz_s2 {a b c : Nat} (ha : a < 256) (hb : b < 256) (hc : c < 256) : ((a + 256 * (b + 256 * c)) &&& 858993459) + ((a + 256 * (b + 256 * c)) / 4 &&& 858993459) = wz_2 a + 256 * (wz_2 b + 256 * wz_2 c) := by
  have e : (a + 256 * (b + 256 * c)) / 4 = (a / 4 + 64 * (b % 4)) + 256 * ((b / 4 + 64 * (c % 4)) + 256 * (c / 4)) := by omega
  rw [e, show 858993459 = 51 + 256 * (51 + 256 * 13107) from rfl, wz_split (by omega) (by decide), wz_split (by omega) (by decide), wz_split (by omega) (by decide), wz_split (by omega) (by decide), wz_f2 a ha _ (by omega), wz_f2 b hb _ (by omega), (wz_f2c c hc).1, (wz_f2c c hc).2]
  unfold wz_2
  omega
theorem wz_s3 {a b c : Nat} (ha : a < 69) (hb : b < 69) (hc : c < 69) (hb5 : b % 16 < 5) (hc5 : c % 16 < 5) : ((a + 256 * (b + 256 * c)) + (a + 256 * (b + 256 * c)) / 16) &&& 252645135 = wz_3 a + 256 * (wz_3 b + 256 * wz_3 c) := by
  have e : (a + 256 * (b + 256 * c)) + (a + 256 * (b + 256 * c)) / 16 = (a + a / 16 + 16 * (b % 16)) + 256 * ((b + b / 16 + 16 * (c % 16)) + 256 * (c + c / 16)) := by omega
  rw [e, show 252645135 = 15 + 256 * (15 + 256 * 3855) from rfl, wz_split (by omega) (by decide), wz_split (by omega) (by decide), wz_f3 a ha _ hb5, wz_f3 b hb _ hc5, wz_f3c c hc]
  rfl
theorem wz_ush {n : Nat} (hn : n < 2 ^ 32) {j : Int32} (k : Nat) (hs : ((j.toUInt32 &&& Int32.toUInt32 31).toBitVec % 32).toNat = k) : ((nI n).toUInt32 >>> (j.toUInt32 &&& Int32.toUInt32 31)).toInt32 = nI (n / 2 ^ k) := pk_ushrN hn j k hs
theorem wz_last {x y z : Nat} (hx : x ≤ 8) (hy : y ≤ 8) (hz : z ≤ 8) : some (((nI (x + 256 * (y + 256 * z)) + ((nI (x + 256 * (y + 256 * z))).toUInt32 >>> ((8 : Int32).toUInt32 &&& Int32.toUInt32 31)).toInt32) + (((nI (x + 256 * (y + 256 * z)) + ((nI (x + 256 * (y + 256 * z))).toUInt32 >>> ((8 : Int32).toUInt32 &&& Int32.toUInt32 31)).toInt32)).toUInt32 >>> ((16 : Int32).toUInt32 &&& Int32.toUInt32 31)).toInt32) &&& (63 : Int32)) = some (nI (x + y + z)) := by
  have s4 : nI (x + 256 * (y + 256 * z)) + ((nI (x + 256 * (y + 256 * z))).toUInt32 >>> ((8 : Int32).toUInt32 &&& Int32.toUInt32 31)).toInt32 = nI (x + y + 256 * (y + z + 256 * z)) := by
    rw [wz_ush (by omega) 8 (by decide), px_add, show x + 256 * (y + 256 * z) + (x + 256 * (y + 256 * z)) / 2 ^ 8 = x + y + 256 * (y + z + 256 * z) by omega]
  rw [s4]
  have q1 : (x + y + 256 * (y + z + 256 * z)) / 2 ^ 16 = z := by
    rw [show (2 : Nat) ^ 16 = 65536 from rfl]
    omega
  have q2 : (x + y + 256 * (y + z + 256 * z) + z) % 2 ^ 6 = x + y + z := by
    rw [show (2 : Nat) ^ 6 = 64 from rfl]
    omega
  rw [wz_ush (by omega) 16 (by decide), px_add, pk_andN (by omega) 6 (by decide), q1, q2]
theorem wz_bc {a b c : Nat} (ha : a < 256) (hb : b < 256) (hc : c < 32) : fJ6_bitCount_0f7a4 (nI (a + 256 * (b + 256 * c))) = some (nI (wz_3 (wz_2 (wz_1 a)) + wz_3 (wz_2 (wz_1 b)) + wz_3 (wz_2 (wz_1 c)))) := by
  have hc2 : c < 256 := by omega
  have m5 : (1431655765 : Int32) = nI 1431655765 := rfl
  have m3 : (858993459 : Int32) = nI 858993459 := rfl
  have mf : (252645135 : Int32) = nI 252645135 := rfl
  have a1 := wz_b1 a ha
  have b1 := wz_b1 b hb
  have c1 := wz_b1 c hc2
  have a2 := wz_b2 a ha
  have b2 := wz_b2 b hb
  have c2 := wz_b2 c hc2
  have a3 := wz_b3 a ha
  have b3 := wz_b3 b hb
  have c3 := wz_b3 c hc2
  unfold fJ6_bitCount_0f7a4
  rw [m5, m3, mf]
  have s1 : nI (a + 256 * (b + 256 * c)) - (((nI (a + 256 * (b + 256 * c))).toUInt32 >>> ((1 : Int32).toUInt32 &&& Int32.toUInt32 31)).toInt32 &&& nI 1431655765) = nI (wz_1 a + 256 * (wz_1 b + 256 * wz_1 c)) := by
    rw [wz_ush (by omega) 1 (by decide), wz_and, pk_sub (by
      have := Nat.and_le_left (n := (a + 256 * (b + 256 * c)) / 2 ^ 1) (m := 1431655765)
      omega), wz_s1 ha hb hc2]
  rw [s1]
  have s2 : (nI (wz_1 a + 256 * (wz_1 b + 256 * wz_1 c)) &&& nI 858993459) + (((nI (wz_1 a + 256 * (wz_1 b + 256 * wz_1 c))).toUInt32 >>> ((2 : Int32).toUInt32 &&& Int32.toUInt32 31)).toInt32 &&& nI 858993459) = nI (wz_2 (wz_1 a) + 256 * (wz_2 (wz_1 b) + 256 * wz_2 (wz_1 c))) := by
    rw [wz_ush (by omega) 2 (by decide), wz_and, wz_and, px_add, show 2 ^ 2 = 4 from rfl, wz_s2 a1 b1 c1]
  rw [s2]
  have s3 : (nI (wz_2 (wz_1 a) + 256 * (wz_2 (wz_1 b) + 256 * wz_2 (wz_1 c))) + ((nI (wz_2 (wz_1 a) + 256 * (wz_2 (wz_1 b) + 256 * wz_2 (wz_1 c)))).toUInt32 >>> ((4 : Int32).toUInt32 &&& Int32.toUInt32 31)).toInt32) &&& nI 252645135 = nI (wz_3 (wz_2 (wz_1 a)) + 256 * (wz_3 (wz_2 (wz_1 b)) + 256 * wz_3 (wz_2 (wz_1 c)))) := by
    rw [wz_ush (by omega) 4 (by decide), px_add, wz_and, show 2 ^ 4 = 16 from rfl, wz_s3 a2.1 b2.1 c2.1 b2.2 c2.2]
  rw [s3]
  exact wz_last a3 b3 c3
theorem wz_byte : ∀ b0 b1 b2 b3 b4 b5 b6 b7 : Bool, wz_3 (wz_2 (wz_1 (b0.toNat + 2 * b1.toNat + 4 * b2.toNat + 8 * b3.toNat + 16 * b4.toNat + 32 * b5.toNat + 64 * b6.toNat + 128 * b7.toNat))) = b0.toNat + b1.toNat + b2.toNat + b3.toNat + b4.toNat + b5.toNat + b6.toNat + b7.toNat := by decide +kernel
theorem wz_tn (g : Nat → Bool) (n p : Nat) : (if g n = true then p else 0) = p * (g n).toNat := by cases g n <;> simp
theorem wz_msk (g : Nat → Bool) : fJ6_bitCount_0f7a4 (nI (sp_msk g 21)) = some (nI (sp_cnt g 21)) := by
  have l : ∀ i, (g i).toNat ≤ 1 := fun i => Bool.toNat_le _
  have e : sp_msk g 21 = ((g 0).toNat + 2 * (g 1).toNat + 4 * (g 2).toNat + 8 * (g 3).toNat + 16 * (g 4).toNat + 32 * (g 5).toNat + 64 * (g 6).toNat + 128 * (g 7).toNat) + 256 * (((g 8).toNat + 2 * (g 9).toNat + 4 * (g 10).toNat + 8 * (g 11).toNat + 16 * (g 12).toNat + 32 * (g 13).toNat + 64 * (g 14).toNat + 128 * (g 15).toNat) + 256 * ((g 16).toNat + 2 * (g 17).toNat + 4 * (g 18).toNat + 8 * (g 19).toNat + 16 * (g 20).toNat + 32 * false.toNat + 64 * false.toNat + 128 * false.toNat)) := by
    simp only [sp_msk, wz_tn, Bool.toNat_false]
    omega
  have h0 := l 0
  have h1 := l 1
  have h2 := l 2
  have h3 := l 3
  have h4 := l 4
  have h5 := l 5
  have h6 := l 6
  have h7 := l 7
  have h8 := l 8
  have h9 := l 9
  have h10 := l 10
  have h11 := l 11
  have h12 := l 12
  have h13 := l 13
  have h14 := l 14
  have h15 := l 15
  have h16 := l 16
  have h17 := l 17
  have h18 := l 18
  have h19 := l 19
  have h20 := l 20
  rw [e, wz_bc (by omega) (by omega) (by rw [Bool.toNat_false]; omega), wz_byte, wz_byte, wz_byte]
  simp only [sp_cnt, Bool.toNat_false]
  congr 2
  omega
