/-! ===== village: a byte ===== -/
theorem px_byte (x : Int32) : ∃ n, n < 256 ∧ x &&& 255 = nI n := by
  refine ⟨(x &&& 255).toBitVec.toNat, ?_, ?_⟩
  · rw [Int32.toBitVec_and, BitVec.toNat_and]
    exact Nat.lt_succ_of_le Nat.and_le_right
  · apply Int32.toBitVec_inj.mp
    show _ = BitVec.ofNat 32 _
    rw [BitVec.ofNat_toNat, BitVec.setWidth_eq]
theorem vg_B {I K : ab_I} {z : Nat} (hP : rx_P I z) (h1 : K 73 1 = I 73 1) (h2 : ∀ i, K 74 i = I 74 i) : ∃ B, tk_B I (ab_u (ab_u K 73 5 (K 73 1)) 73 1 0) z B := by
  obtain ⟨p1, p2, p3, p4⟩ := hP
  refine ⟨fun i => Classical.choose (px_byte (I 2 i)), p1, p2, by rw [px_u (by omega), ab_u_at, h1]; exact p3, fun i hi => ?_⟩
  have hc := Classical.choose_spec (px_byte (I 2 i))
  exact ⟨hc.2, by rw [px_u (by omega), px_u (by omega), h2 i, p4 i hi]; exact hc.2, hc.1⟩
