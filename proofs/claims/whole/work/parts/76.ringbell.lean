/-! ===== ringBell and ring ===== -/
theorem px_seed (s : Nat) (hs : s ≤ 999) : nI s * (137 : Int32) + (71 : Int32) - (nI s * (137 : Int32) + (71 : Int32)) / (1000 : Int32) * (1000 : Int32) = nI ((s * 137 + 71) % 1000) := by
  rw [show (137 : Int32) = nI 137 from rfl, show (71 : Int32) = nI 71 from rfl, show (1000 : Int32) = nI 1000 from rfl, pk_mul, px_add]
  exact pk_rem (by omega) (by decide) (by decide)
theorem px_rem100 (s : Nat) (hs : s ≤ 999) : nI s - nI s / (100 : Int32) * (100 : Int32) = nI (s % 100) := pk_rem (a := s) (d := 100) (by omega) (by decide) (by decide)
theorem px_m1 {p : Nat} (hp : p < 2 ^ 31) : ¬ nI p = -1 := fun h => absurd (show nI p < 0 by rw [h]; decide) (nI_pos hp)
theorem px_rang {r : Nat} (hr : r ≤ 999) : (if nI r + (1 : Int32) < (999 : Int32) then nI r + (1 : Int32) else (999 : Int32)) = nI (min 999 (r + 1)) := by
  rw [← nI_succ, show (999 : Int32) = nI 999 from rfl]
  exact px_min (by omega) (by decide)
section RB
variable {I : ab_I} {F : Int32 → Int32 → Int32 → Int32 → Int32 → Int32 → Int32} {np nb dm b fa : Nat} {w : Nat → Nat}
theorem sp_lost_p {hr : Int32} {p : Nat} (h : sp_who F hr w b np = nI p) (hp : p < 6) : sp_lost F hr w b np = min (w p) (w (13 + 5 * p + b)) := by
  unfold sp_lost
  rw [h, if_neg (px_m1 (by omega)), nI_clamp (by omega)]
theorem sp_ring_p {hr : Int32} {p : Nat} {fo : Bool} (h : sp_who F hr w b np = nI p) (hp : p < 6) : sp_ring F hr w b np fo fa = sp_rung w b p fo fa := by
  unfold sp_ring
  rw [h, if_neg (px_m1 (by omega)), nI_clamp (by omega)]
set_option maxHeartbeats 2000000 in
theorem px_ringBell {q : Nat} (hq : 25 < q) (hn : np ≤ 6) (hb : b < 5) (h34 : I 3 4 = nI np) (h38 : I 3 8 = nI fa) (hfa : fa ≤ 100) (hF : rx_FX F (I 8) (I 7 3)) (hw : rx_is np (rx_v I q) w) (ho : rx_ok np nb dm w) (fo : Bool) : ∃ I', fX5_ringBell q (nI b) (if fo = true then 1 else 0) I = some (nI (sp_lost F (I 5 b) w b np), I') ∧ rx_is np (rx_v I' q) (sp_ring F (I 5 b) w b np fo fa) ∧ I' 24 = (fun j => if j = b then sp_who F (I 5 b) w b np else I 24 j) ∧ ∀ r, r ≠ 9 → r ≠ 10 → r ≠ 24 → (r < q ∨ q + 3 < r) → I' r = I r := by
  obtain ⟨I0, hc, e0⟩ := px_chosen hq hn hb h34 hF hw ho
  have hw0 : rx_is np (rx_v I0 q) w := rx_is_c (fun j hj k => by rw [e0 (q + j) (by omega) (by omega)]) hw
  have hb31 : b < 2 ^ 31 := by omega
  have h24 : ∀ y : Int32, ab_u I0 24 b y 24 = (fun j => if j = b then y else I 24 j) := fun y => by rw [ab_u_s, e0 24 (by decide) (by decide)]
  rcases sp_rg_cases F (I 5 b) w b np with h | ⟨p, hp, h, hbit, h0⟩
  · refine ⟨ab_u I0 24 b (-1), ?_, ?_, ?_, ?_⟩
    · unfold fX5_ringBell sp_lost sp_who
      rw [hc, px_bd, px_gd (px_ix hb (by decide)), nI_clamp hb31]
      dsimp only
      rw [h, if_pos rfl, if_pos rfl]
      rfl
    · unfold sp_ring sp_who
      rw [h, if_pos rfl]
      exact rx_uo (by omega) hw0
    · unfold sp_who
      rw [h]
      exact h24 _
    · intro r r1 r2 r3 _
      rw [ab_u_o r3]
      exact e0 r r1 r2
  · have hwho : sp_who F (I 5 b) w b np = nI p := h
    have hp31 : p < 2 ^ 31 := by omega
    have hl20 : w (13 + 5 * p + b) ≤ 20 := by have := ho.2.2.2.1 (5 * p + b) (by omega); rwa [← Nat.add_assoc] at this
    have hh9 : w p ≤ 999 := ho.1 p hp
    have hr9 : w (6 + p) ≤ 999 := ho.2.1 p (by omega)
    have hs9 : w 44 ≤ 999 := ho.2.2.2.2.2.2
    rw [sp_lost_p hwho (by omega), sp_ring_p hwho (by omega), hwho]
    have i6 : ab_ix (nI p) 6 = true := px_ix (by omega) (by decide)
    have i30 : ab_ix (nI (5 * p + b)) 30 = true := px_ix (by omega) (by decide)
    have hv1 : rx_is np (rx_v (ab_u I0 24 b (nI p)) q) w := rx_uo (by omega) hw0
    have r24 := h24 (nI p)
    have e1 : ∀ r, r ≠ 9 → r ≠ 10 → r ≠ 24 → ab_u I0 24 b (nI p) r = I r := fun r r1 r2 r3 => by rw [ab_u_o r3]; exact e0 r r1 r2
    have val : ∀ tf : Int32, fX5_ringBell q (nI b) tf I = (fun I1 : ab_I => if tf = 0 then some (nI (min (w p) (w (13 + 5 * p + b))), ab_u (ab_u I1 (q + 2) p (nI (min 999 (w (6 + p) + 1)))) (q + 1) p (nI (w p - min (w p) (w (13 + 5 * p + b))))) else if nI fa ≤ nI ((w 44 * 137 + 71) % 1000 % 100) then some (nI (min (w p) (w (13 + 5 * p + b))), ab_u (ab_u (ab_u I1 (q + 2) p (nI (min 999 (w (6 + p) + 1)))) (q + 1) p (nI (w p - min (w p) (w (13 + 5 * p + b))))) q 5 (nI ((w 44 * 137 + 71) % 1000))) else some (nI (min (w p) (w (13 + 5 * p + b))), ab_u (ab_u (ab_u (ab_u I1 (q + 2) p (nI (min 999 (w (6 + p) + 1)))) (q + 1) p (nI (w p - min (w p) (w (13 + 5 * p + b))))) q 5 (nI ((w 44 * 137 + 71) % 1000))) (q + 3) (5 * p + b) 0)) (ab_u I0 24 b (nI p)) := by
      intro tf
      unfold fX5_ringBell fX5_ringBell_133
      rw [hc, px_bd]
      dsimp only
      rw [h]
      simp only [px_gd (px_ix hb (show 5 < 2 ^ 31 by decide)), px_cell, px_bd, px_gd i6, px_gd i30, nI_clamp hb31, nI_clamp hp31, nI_clamp (show 5 * p + b < 2 ^ 31 by omega)]
      rw [if_neg (px_m1 hp31)]
      have a1 : ab_u I0 24 b (nI p) (q + 1) p = nI (w p) := rx_has hv1 hn hp
      have a2 : ab_u I0 24 b (nI p) (q + 2) p = nI (w (6 + p)) := rx_rang hv1 (by omega)
      have a3 : ab_u I0 24 b (nI p) (q + 3) (5 * p + b) = nI (w (13 + 5 * p + b)) := by rw [rx_loss hv1 (by omega), Nat.add_assoc]
      have a5 : ab_u I0 24 b (nI p) q 5 = nI (w 44) := rx_seed hv1
      have a38 : ab_u I0 24 b (nI p) 3 8 = nI fa := by rw [px_u (by omega), e0 3 (by decide) (by decide)]; exact h38
      generalize ab_u I0 24 b (nI p) = I1 at a1 a2 a3 a5 a38 ⊢
      rw [a1, a2, a3, px_min (by omega) (by omega), px_rang hr9]
      have b1 : ab_u I1 (q + 2) p (nI (min 999 (w (6 + p) + 1))) (q + 1) p = nI (w p) := by rw [px_u (by omega)]; exact a1
      rw [b1, pk_sub (Nat.min_le_left _ _)]
      have b5 : ab_u (ab_u I1 (q + 2) p (nI (min 999 (w (6 + p) + 1)))) (q + 1) p (nI (w p - min (w p) (w (13 + 5 * p + b)))) q 5 = nI (w 44) := by rw [px_u (by omega), px_u (by omega)]; exact a5
      have b38 : ab_u (ab_u I1 (q + 2) p (nI (min 999 (w (6 + p) + 1)))) (q + 1) p (nI (w p - min (w p) (w (13 + 5 * p + b)))) 3 8 = nI fa := by rw [px_u (by omega), px_u (by omega)]; exact a38
      generalize ab_u (ab_u I1 (q + 2) p (nI (min 999 (w (6 + p) + 1)))) (q + 1) p (nI (w p - min (w p) (w (13 + 5 * p + b)))) = I3 at b5 b38 ⊢
      rw [b5, px_seed _ hs9, ab_u_at, px_rem100 _ (by omega), show ab_u I3 q 5 (nI ((w 44 * 137 + 71) % 1000)) 3 8 = nI fa by rw [px_u (by omega)]; exact b38]
    have fin1 : rx_is np (rx_v (ab_u (ab_u (ab_u I0 24 b (nI p)) (q + 2) p (nI (min 999 (w (6 + p) + 1)))) (q + 1) p (nI (w p - min (w p) (w (13 + 5 * p + b))))) q) (sp_up (sp_up w (6 + p) (min 999 (w (6 + p) + 1))) p (w p - min (w p) (w (13 + 5 * p + b)))) := rx_u1 (by omega) (rx_u2 (by omega) hv1)
    cases fo with
    | false =>
      refine ⟨_, (val 0).trans (if_pos rfl), fin1, ?_, fun r r1 r2 r3 r4 => ?_⟩
      · rw [ab_u_o (by omega), ab_u_o (by omega)]; exact r24
      · rw [ab_u_o (by omega), ab_u_o (by omega)]; exact e1 r r1 r2 r3
    | true =>
      have v1 := (val 1).trans (if_neg (by decide))
      by_cases hf : (w 44 * 137 + 71) % 1000 % 100 < fa
      · have v2 := v1.trans (if_neg (nI_ge hf (by omega)))
        refine ⟨_, v2, ?_, ?_, fun r r1 r2 r3 r4 => ?_⟩
        · have : sp_rung w b p true fa = sp_up (sp_up (sp_up (sp_up w (6 + p) (min 999 (w (6 + p) + 1))) p (w p - min (w p) (w (13 + 5 * p + b)))) 44 ((w 44 * 137 + 71) % 1000)) (13 + (5 * p + b)) 0 := by
            unfold sp_rung
            rw [if_pos rfl, if_pos hf, Nat.add_assoc]
          rw [this]
          exact rx_u3 (x := 0) (by omega) (rx_uq (Or.inr (Or.inr ⟨rfl, rfl⟩)) fin1)
        · rw [ab_u_o (by omega), ab_u_o (by omega), ab_u_o (by omega), ab_u_o (by omega)]; exact r24
        · rw [ab_u_o (by omega), ab_u_o (by omega), ab_u_o (by omega), ab_u_o (by omega)]; exact e1 r r1 r2 r3
      · have v2 := v1.trans (if_pos (nI_le (by omega) (by omega)))
        refine ⟨_, v2, ?_, ?_, fun r r1 r2 r3 r4 => ?_⟩
        · have : sp_rung w b p true fa = sp_up (sp_up (sp_up w (6 + p) (min 999 (w (6 + p) + 1))) p (w p - min (w p) (w (13 + 5 * p + b)))) 44 ((w 44 * 137 + 71) % 1000) := by
            unfold sp_rung
            rw [if_pos rfl, if_neg hf]
          rw [this]
          exact rx_uq (Or.inr (Or.inr ⟨rfl, rfl⟩)) fin1
        · rw [ab_u_o (by omega), ab_u_o (by omega), ab_u_o (by omega)]; exact r24
        · rw [ab_u_o (by omega), ab_u_o (by omega), ab_u_o (by omega)]; exact e1 r r1 r2 r3
end RB
