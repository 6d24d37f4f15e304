/-! ===== the reference's ring ===== -/
theorem sp_up_comm {w : Nat → Nat} {i j x y : Nat} (h : i ≠ j) : sp_up (sp_up w i x) j y = sp_up (sp_up w j y) i x := by
  funext k
  unfold sp_up
  by_cases e1 : k = j
  · rw [if_pos e1, if_neg (by omega), if_pos e1]
  · rw [if_neg e1]
    by_cases e2 : k = i
    · rw [if_pos e2, if_pos e2]
    · rw [if_neg e2, if_neg e2, if_neg e1]
section RM2
variable {I : ab_I} {F : Int32 → Int32 → Int32 → Int32 → Int32 → Int32 → Int32} {np nb dm b fa : Nat} {w : Nat → Nat}
set_option maxHeartbeats 2000000 in
theorem px_ring (hn : np ≤ 6) (hb : b < 5) (h39 : I 73 39 = nI np) (h43 : I 73 43 = nI fa) (hfa : fa ≤ 100) (hF : rx_FM F (I 78) (I 79) (I 73 18) (I 73 25)) (hw : rx_is np (I 90) w) (ho : rx_ok np nb dm w) (fo : Bool) : ∃ I', fX12_ring (nI b) (if fo = true then 1 else 0) I = some (nI (sp_lost F (I 87 b) w b np), I') ∧ rx_is np (I' 90) (sp_ring F (I 87 b) w b np fo fa) ∧ I' 91 = (fun j => if j = b then sp_who F (I 87 b) w b np else I 91 j) ∧ ∀ r, r ≠ 81 → r ≠ 82 → r ≠ 90 → r ≠ 91 → I' r = I r := by
  obtain ⟨I0, hc, e0⟩ := px_ringerOf hn hb h39 hF hw ho
  have hw0 : rx_is np (I0 90) w := by rw [e0 90 (by decide) (by decide)]; exact hw
  have hb31 : b < 2 ^ 31 := by omega
  have h24 : ∀ y : Int32, ab_u I0 91 b y 91 = (fun j => if j = b then y else I 91 j) := fun y => by rw [ab_u_s, e0 91 (by decide) (by decide)]
  rcases sp_rg_cases F (I 87 b) w b np with h | ⟨p, hp, h, hbit, h0⟩
  · refine ⟨ab_u I0 91 b (-1), ?_, ?_, ?_, ?_⟩
    · unfold fX12_ring sp_lost sp_who
      rw [hc, px_bd, px_gd (px_ix hb (by decide)), nI_clamp hb31]
      dsimp only
      rw [h, if_neg (by decide), if_pos rfl]
      rfl
    · unfold sp_ring sp_who
      rw [h, if_pos rfl]
      exact rx_mo (by decide) hw0
    · unfold sp_who
      rw [h]
      exact h24 _
    · intro r r1 r2 _ r4
      rw [ab_u_o r4]
      exact e0 r r1 r2
  · have hwho : sp_who F (I 87 b) w b np = nI p := h
    have hp31 : p < 2 ^ 31 := by omega
    have hl20 : w (13 + 5 * p + b) ≤ 20 := by have := ho.2.2.2.1 (5 * p + b) (by omega); rwa [← Nat.add_assoc] at this
    have hh9 : w p ≤ 999 := ho.1 p hp
    have hr9 : w (6 + p) ≤ 999 := ho.2.1 p (by omega)
    have hs9 : w 44 ≤ 999 := ho.2.2.2.2.2.2
    rw [sp_lost_p hwho (by omega), sp_ring_p hwho (by omega), hwho]
    have i45 : ab_ix (nI p) 45 = true := px_ix (by omega) (by decide)
    have i45b : ab_ix (nI (13 + 5 * p + b)) 45 = true := px_ix (by omega) (by decide)
    have i45c : ab_ix (nI (6 + p)) 45 = true := px_ix (by omega) (by decide)
    have i45d : ab_ix (44 : Int32) 45 = true := by decide
    have e44 : (44 : Int32).toNatClampNeg = 44 := by decide
    have e6 : (6 : Int32) + nI p = nI (6 + p) := by rw [show (6 : Int32) = nI 6 from rfl, px_add]
    have r24 := h24 (nI p)
    have hm : min (w p) (w (13 + 5 * p + b)) ≤ w p := Nat.min_le_left _ _
    have val : ∀ tf : Int32, fX12_ring (nI b) tf I = (fun I1 : ab_I => if tf = 0 then some (nI (min (w p) (w (13 + 5 * p + b))), ab_u (ab_u I1 90 p (nI (w p - min (w p) (w (13 + 5 * p + b))))) 90 (6 + p) (nI (min 999 (w (6 + p) + 1)))) else if nI fa ≤ nI ((w 44 * 137 + 71) % 1000 % 100) then some (nI (min (w p) (w (13 + 5 * p + b))), ab_u (ab_u (ab_u I1 90 p (nI (w p - min (w p) (w (13 + 5 * p + b))))) 90 (6 + p) (nI (min 999 (w (6 + p) + 1)))) 90 44 (nI ((w 44 * 137 + 71) % 1000))) else some (nI (min (w p) (w (13 + 5 * p + b))), ab_u (ab_u (ab_u (ab_u I1 90 p (nI (w p - min (w p) (w (13 + 5 * p + b))))) 90 (6 + p) (nI (min 999 (w (6 + p) + 1)))) 90 44 (nI ((w 44 * 137 + 71) % 1000))) 90 (13 + 5 * p + b) 0)) (ab_u I0 91 b (nI p)) := by
      intro tf
      unfold fX12_ring fX12_ring_143
      rw [hc, px_bd]
      dsimp only
      rw [h]
      simp only [px_gd (px_ix hb (show 5 < 2 ^ 31 by decide)), px_mcell, e6, e44, px_gd i45, px_gd i45b, px_gd i45c, px_gd i45d, nI_clamp hb31, nI_clamp hp31, nI_clamp (show 13 + 5 * p + b < 2 ^ 31 by omega), nI_clamp (show 6 + p < 2 ^ 31 by omega)]
      have a0 : I0 90 p = nI (w p) := hw0 p (by omega) (fun _ => hp)
      have a3 : I0 90 (13 + 5 * p + b) = nI (w (13 + 5 * p + b)) := hw0 _ (by omega) (fun h => by omega)
      rw [if_pos (nI_pos' hp31), a0, a3, px_lesser (by omega) (by omega), px_bd, pk_sub hm]
      have a43 : I0 73 43 = nI fa := by rw [e0 73 (by decide) (by decide)]; exact h43
      have b2 : ab_u (ab_u I0 91 b (nI p)) 90 p (nI (w p - min (w p) (w (13 + 5 * p + b)))) 90 (6 + p) = nI (w (6 + p)) := by rw [px_u (by omega), px_u (by omega)]; exact hw0 _ (by omega) (fun h => by omega)
      have b5 : ab_u (ab_u I0 91 b (nI p)) 90 p (nI (w p - min (w p) (w (13 + 5 * p + b)))) 90 44 = nI (w 44) := by rw [px_u (by omega), px_u (by omega)]; exact hw0 _ (by omega) (fun h => by omega)
      generalize ab_u I0 91 b (nI p) = I1 at b2 b5 ⊢
      rw [b2, ← nI_succ, show (999 : Int32) = nI 999 from rfl, px_lesser (by decide) (by omega), px_bd]
      have c5 : ab_u (ab_u I1 90 p (nI (w p - min (w p) (w (13 + 5 * p + b))))) 90 (6 + p) (nI (min 999 (w (6 + p) + 1))) 90 44 = nI (w 44) := by rw [px_u (by omega)]; exact b5
      generalize ab_u (ab_u I1 90 p (nI (w p - min (w p) (w (13 + 5 * p + b))))) 90 (6 + p) (nI (min 999 (w (6 + p) + 1))) = I3 at c5 ⊢
      rw [c5, px_seed _ hs9, ab_u_at, px_rem100 _ (by omega), a43]
    have fin1 : rx_is np (ab_u (ab_u (ab_u I0 91 b (nI p)) 90 p (nI (w p - min (w p) (w (13 + 5 * p + b))))) 90 (6 + p) (nI (min 999 (w (6 + p) + 1))) 90) (sp_up (sp_up w (6 + p) (min 999 (w (6 + p) + 1))) p (w p - min (w p) (w (13 + 5 * p + b)))) := by
      rw [sp_up_comm (by omega)]
      exact rx_m (rx_m (rx_mo (by decide) hw0))
    cases fo with
    | false =>
      refine ⟨_, (val 0).trans (if_pos rfl), fin1, ?_, fun r r1 r2 r3 r4 => ?_⟩
      · rw [ab_u_o (by omega), ab_u_o (by omega)]; exact r24
      · rw [ab_u_o (by omega), ab_u_o (by omega), ab_u_o (by omega)]; exact e0 r r1 r2
    | true =>
      have v1 := (val 1).trans (if_neg (by decide))
      by_cases hf : (w 44 * 137 + 71) % 1000 % 100 < fa
      · have v2 := v1.trans (if_neg (nI_ge hf (by omega)))
        refine ⟨_, v2, ?_, ?_, fun r r1 r2 r3 r4 => ?_⟩
        · have : sp_rung w b p true fa = sp_up (sp_up (sp_up (sp_up w (6 + p) (min 999 (w (6 + p) + 1))) p (w p - min (w p) (w (13 + 5 * p + b)))) 44 ((w 44 * 137 + 71) % 1000)) (13 + 5 * p + b) 0 := by
            unfold sp_rung
            rw [if_pos rfl, if_pos hf]
          rw [this]
          exact rx_m (x := 0) (rx_m fin1)
        · rw [ab_u_o (by omega), ab_u_o (by omega), ab_u_o (by omega), ab_u_o (by omega)]; exact r24
        · rw [ab_u_o (by omega), ab_u_o (by omega), ab_u_o (by omega), ab_u_o (by omega), ab_u_o (by omega)]; exact e0 r r1 r2
      · have v2 := v1.trans (if_pos (nI_le (by omega) (by omega)))
        refine ⟨_, v2, ?_, ?_, fun r r1 r2 r3 r4 => ?_⟩
        · have : sp_rung w b p true fa = sp_up (sp_up (sp_up w (6 + p) (min 999 (w (6 + p) + 1))) p (w p - min (w p) (w (13 + 5 * p + b)))) 44 ((w 44 * 137 + 71) % 1000) := by
            unfold sp_rung
            rw [if_pos rfl, if_neg hf]
          rw [this]
          exact rx_m fin1
        · rw [ab_u_o (by omega), ab_u_o (by omega), ab_u_o (by omega)]; exact r24
        · rw [ab_u_o (by omega), ab_u_o (by omega), ab_u_o (by omega), ab_u_o (by omega)]; exact e0 r r1 r2
end RM2
/-! ===== what ringing keeps ===== -/
theorem sp_up_at {w : Nat → Nat} {k x : Nat} : sp_up w k x k = x := if_pos rfl
theorem sp_up_ne {w : Nat → Nat} {k x j : Nat} (h : j ≠ k) : sp_up w k x j = w j := if_neg h
section KEEP
variable {F : Int32 → Int32 → Int32 → Int32 → Int32 → Int32 → Int32} {hr : Int32} {np nb dm b fa : Nat} {w : Nat → Nat}
theorem rx_ok_up {k x : Nat} (hn : np ≤ 6) (ho : rx_ok np nb dm w) (h1 : k < 6 → x ≤ 999) (h2 : 6 ≤ k → k < 12 → x ≤ 999) (h3 : k = 12 → x < 2 ^ np) (h4 : 13 ≤ k → k < 43 → x ≤ w k) (h5 : k = 43 → x ≤ dm) (h6 : k = 44 → x ≤ 999) : rx_ok np nb dm (sp_up w k x) := by
  obtain ⟨o1, o2, o3, o4, o5, o6, o7⟩ := ho
  refine ⟨fun p hp => ?_, fun p hp => ?_, ?_, fun c hc => ?_, fun p b hp hb hb2 => ?_, ?_, ?_⟩
  · by_cases e : p = k
    · subst e; rw [sp_up_at]; exact h1 (by omega)
    · rw [sp_up_ne e]; exact o1 p hp
  · by_cases e : 6 + p = k
    · subst e; rw [sp_up_at]; exact h2 (by omega) (by omega)
    · rw [sp_up_ne e]; exact o2 p hp
  · by_cases e : 12 = k
    · subst e; rw [sp_up_at]; exact h3 rfl
    · rw [sp_up_ne e]; exact o3
  · by_cases e : 13 + c = k
    · subst e; rw [sp_up_at]; exact Nat.le_trans (h4 (by omega) (by omega)) (o4 c hc)
    · rw [sp_up_ne e]; exact o4 c hc
  · by_cases e : 13 + 5 * p + b = k
    · subst e; rw [sp_up_at]
      have := h4 (by omega) (by omega)
      rw [o5 p b hp hb hb2] at this
      omega
    · rw [sp_up_ne e]; exact o5 p b hp hb hb2
  · by_cases e : 43 = k
    · subst e; rw [sp_up_at]; exact h5 rfl
    · rw [sp_up_ne e]; exact o6
  · by_cases e : 44 = k
    · subst e; rw [sp_up_at]; exact h6 rfl
    · rw [sp_up_ne e]; exact o7
end KEEP
