/-! ===== pair: spare ===== -/
/-- the first of the least among those of the first n that g takes -/
def sp_lst (g : Nat → Bool) (c : Nat → Nat) : Nat → Option Nat
  | 0 => none
  | n + 1 => if g n = true then (match sp_lst g c n with
    | none => some n
    | some m => if c m ≤ c n then some m else some n) else sp_lst g c n
theorem sp_lst_lt (g : Nat → Bool) (c : Nat → Nat) : ∀ n m, sp_lst g c n = some m → m < n
  | 0, m, h => by cases h
  | n + 1, m, h => by
    unfold sp_lst at h
    split at h
    · split at h
      · cases h; exact Nat.lt_succ_self n
      · rename_i k hk
        split at h
        · cases h; exact Nat.lt_succ_of_lt (sp_lst_lt g c n m hk)
        · cases h; exact Nat.lt_succ_self n
    · exact Nat.lt_succ_of_lt (sp_lst_lt g c n m h)
theorem px_one : ∀ p, p < 6 → (1 : Int32) <<< (nI p &&& 31) = nI (2 ^ p) := by decide +kernel
theorem sp_pow64 : ∀ p, p < 6 → 2 ^ p < 64 := by decide
theorem sp_lost_le {F : Int32 → Int32 → Int32 → Int32 → Int32 → Int32 → Int32} {hr : Int32} {w : Nat → Nat} {np nb dm b : Nat} (hn : np ≤ 6) (hb : b < 5) (ho : rx_ok np nb dm w) : sp_lost F hr w b np ≤ 20 := by
  rcases sp_rg_cases F hr w b np with h | ⟨p, hp, h, hbit, h0⟩
  · unfold sp_lost sp_who
    rw [h, if_pos rfl]
    omega
  · rw [sp_lost_p h (by omega)]
    have := ho.2.2.2.1 (5 * p + b) (by omega)
    rw [← Nat.add_assoc] at this
    omega
theorem sp_dy_le {F : Int32 → Int32 → Int32 → Int32 → Int32 → Int32 → Int32} {hrs : Nat → Int32} {w : Nat → Nat} {np nb dm fa : Nat} {fo : Bool} (hn : np ≤ 6) (ho : rx_ok np nb dm w) : ∀ i, i ≤ 5 → (sp_dy F hrs np fo fa w i).2 ≤ 20 * i
  | 0, _ => Nat.le_refl _
  | i + 1, hi => by
    have h1 := sp_dy_le (F := F) (hrs := hrs) (fo := fo) (fa := fa) hn ho i (by omega)
    have h2 := sp_lost_le (F := F) (hr := hrs i) hn (show i < 5 by omega) (sp_dy_ok (F := F) (hrs := hrs) (fo := fo) (fa := fa) hn ho i (by omega))
    rw [sp_dy]
    dsimp only
    omega
section PR11
variable {S : ab_S} {I : ab_I} {J : ab_J} {P : ab_P} {l : Launch} {G : ab_G}
theorem px_bestSpared {np nb fa q : Nat} {hrs : Nat → Int32} {F : Int32 → Int32 → Int32 → Int32 → Int32 → Int32 → Int32} {w : Nat → Nat} (hQ : rx_Q I P np nb fa hrs F q w) {c : Nat → Nat} (hc : ∀ s, (sp_dy F hrs np false fa (sp_up w 12 (sp_wo (w 12) (2 ^ s))) nb).2 = c s) :
    ∃ I', fX1_bestSpared q I = some (sp_int (sp_lst (w 12).testBit c np), I') ∧ ∀ r, ¬ rx_sc r → I' r = I r := by
  obtain ⟨h1, h2, h3, h4, h5, h6, h7, h8, h9, h10, h11, h12, h13, h14, h15, h16, h17, h18⟩ := id hQ
  have hh := rx_ok_h h18 h1
  have hc9 : ∀ s, c s ≤ 100 := fun s => by
    have := sp_dy_le (F := F) (hrs := hrs) (fo := false) (fa := fa) h1 (sp_wo_ok (s := 2 ^ s) h1 h18) nb h2
    rw [hc] at this
    omega
  have key := px_for (body := fun s : Int32 × Int32 × Int32 × ab_I => fX1_bestSpared_7 q s.1 s.2.1 s.2.2.1 s.2.2.2) (Out := fun x : Int32 × ab_I => x.1 = sp_int (sp_lst (w 12).testBit c np) ∧ ∀ r, ¬ rx_sc r → x.2 r = I r)
    (fun i s => s.1 = sp_int (sp_lst (w 12).testBit c i) ∧ s.2.1 = nI (sp_topv c (sp_lst (w 12).testBit c i)) ∧ s.2.2.1 = nI i ∧ ∀ r, ¬ rx_sc r → s.2.2.2 r = I r) np ?_ ?_ np 0 5000 (-1, 0, 0, I) (by omega) (by omega) ⟨rfl, rfl, rfl, fun _ _ => rfl⟩
  · obtain ⟨x, k1, k2, k3⟩ := key
    refine ⟨x.2, ?_, k3⟩
    unfold fX1_bestSpared
    rw [k1, ← k2]
  · rintro i ⟨a1, a2, a3, I3⟩ hi ⟨e1, e2, e3, e4⟩
    dsimp only at e1 e2 e3 e4 ⊢
    subst e1 e2 e3
    have hQ3 := rx_Q_sc hQ e4
    unfold fX1_bestSpared_7 fX1_bestSpared_50 fX1_bestSpared_56
    rw [hQ3.2.2.2.1, if_neg (nI_ge hi (by omega)), px_isHere (rx_here hQ3.2.2.2.2.2.2.2.2.2.2.2.2.2.2.2.1) hh (by omega), px_bd]
    by_cases e : (w 12).testBit i = true
    · obtain ⟨I4, c1, c2, c3, c4⟩ := px_passWithout hQ3 (s := 2 ^ i) (sp_pow64 i (by omega))
      rw [hc] at c1
      have fr : ∀ r, ¬ rx_sc r → I4 r = I r := fun r hr => (c4 r hr).trans (e4 r hr)
      rw [if_pos e, if_neg (by decide), px_one i (by omega), c1, px_bd]
      have b1 := hc9 i
      cases ht : sp_lst (w 12).testBit c i with
      | none =>
        rw [show sp_int none = -1 from rfl, if_pos rfl]
        refine ⟨_, rfl, ?_, ?_, (nI_succ i).symm, fr⟩
        · show nI i = sp_int (sp_lst _ c (i + 1))
          rw [sp_lst, if_pos e, ht]
          rfl
        · show nI (c i) = nI (sp_topv c (sp_lst _ c (i + 1)))
          rw [sp_lst, if_pos e, ht]
          rfl
      | some m =>
        have hm := sp_lst_lt _ c i m ht
        have b2 := hc9 m
        rw [show sp_int (some m) = nI m from rfl, if_neg (px_m1 (by omega)), show sp_topv c (some m) = c m from rfl]
        dsimp only
        by_cases e' : c m ≤ c i
        · have hn : sp_lst (w 12).testBit c (i + 1) = some m := by rw [sp_lst, if_pos e, ht]; exact if_pos e'
          rw [if_pos (nI_le e' (by omega))]
          refine ⟨_, rfl, ?_, ?_, (nI_succ i).symm, fr⟩
          · rw [hn]; rfl
          · rw [hn]; rfl
        · have hn : sp_lst (w 12).testBit c (i + 1) = some i := by rw [sp_lst, if_pos e, ht]; exact if_neg e'
          rw [if_neg (nI_ge (by omega) (by omega))]
          refine ⟨_, rfl, ?_, ?_, (nI_succ i).symm, fr⟩
          · rw [hn]; rfl
          · rw [hn]; rfl
    · have hn : sp_lst (w 12).testBit c (i + 1) = sp_lst (w 12).testBit c i := by rw [sp_lst, if_neg e]
      rw [if_neg e, if_pos rfl]
      refine ⟨_, rfl, ?_, ?_, (nI_succ i).symm, e4⟩
      · rw [hn]
      · rw [hn]
  · rintro ⟨a1, a2, a3, I3⟩ ⟨e1, e2, e3, e4⟩
    dsimp only at e1 e2 e3 e4 ⊢
    subst e1 e2 e3
    have hQ3 := rx_Q_sc hQ e4
    unfold fX1_bestSpared_7 fX1_bestSpared_62
    rw [hQ3.2.2.2.1, if_pos (nI_le (Nat.le_refl _) (by omega))]
    exact ⟨_, rfl, rfl, e4⟩
/-- the reference's: what is lost then, or 1000000 -/
def sp_lstv (c : Nat → Nat) (o : Option Nat) : Nat := match o with
  | none => 1000000
  | some m => c m
theorem px_mspare {np nb fa q : Nat} {hrs : Nat → Int32} {F : Int32 → Int32 → Int32 → Int32 → Int32 → Int32 → Int32} {w : Nat → Nat} (hQ : rx_Q I P np nb fa hrs F q w) {c : Nat → Nat} (hc : ∀ s, (sp_dy F hrs np false fa (sp_up w 12 (sp_wo (w 12) (2 ^ s))) nb).2 = c s) (a : Int32) :
    ∃ I', ab_it (fun s : Int32 × Int32 × Int32 × ab_I => fX12_spare_20 a s.1 s.2.1 s.2.2.1 s.2.2.2) 5000 ((-1 : Int32), (1000000 : Int32), (0 : Int32), I) = some (match sp_lst (w 12).testBit c np with
      | none => -1
      | some m => if a = 0 then nI m else nI (c m), I') ∧ ∀ r, ¬ rx_sc r → I' r = I r := by
  obtain ⟨h1, h2, h3, h4, h5, h6, h7, h8, h9, h10, h11, h12, h13, h14, h15, h16, h17, h18⟩ := id hQ
  have hh := rx_ok_h h18 h1
  have hc9 : ∀ s, c s ≤ 100 := fun s => by
    have := sp_dy_le (F := F) (hrs := hrs) (fo := false) (fa := fa) h1 (sp_wo_ok (s := 2 ^ s) h1 h18) nb h2
    rw [hc] at this
    omega
  have key := px_for (body := fun s : Int32 × Int32 × Int32 × ab_I => fX12_spare_20 a s.1 s.2.1 s.2.2.1 s.2.2.2) (Out := fun x : Int32 × ab_I => x.1 = (match sp_lst (w 12).testBit c np with
      | none => -1
      | some m => if a = 0 then nI m else nI (c m)) ∧ ∀ r, ¬ rx_sc r → x.2 r = I r)
    (fun i s => s.1 = sp_int (sp_lst (w 12).testBit c i) ∧ s.2.1 = nI (sp_lstv c (sp_lst (w 12).testBit c i)) ∧ s.2.2.1 = nI i ∧ ∀ r, ¬ rx_sc r → s.2.2.2 r = I r) np ?_ ?_ np 0 5000 (-1, 1000000, 0, I) (by omega) (by omega) ⟨rfl, rfl, rfl, fun _ _ => rfl⟩
  · obtain ⟨x, k1, k2, k3⟩ := key
    refine ⟨x.2, ?_, k3⟩
    rw [k1, ← k2]
  · rintro i ⟨a1, a2, a3, I3⟩ hi ⟨e1, e2, e3, e4⟩
    dsimp only at e1 e2 e3 e4 ⊢
    subst e1 e2 e3
    have hQ3 := rx_Q_sc hQ e4
    unfold fX12_spare_20 fX12_spare_66
    rw [hQ3.2.2.2.2.2.2.1, if_neg (nI_ge hi (by omega)), px_isThere (hQ3.2.2.2.2.2.2.2.2.2.2.2.2.2.2.2.2.1 12 (by decide) (fun h => absurd h (by decide))) hh (by omega), px_bd]
    by_cases e : (w 12).testBit i = true
    · obtain ⟨I4, c1, c2, c3, c4⟩ := px_dayWithout hQ3 (s := 2 ^ i) (sp_pow64 i (by omega))
      rw [hc] at c1
      have fr : ∀ r, ¬ rx_sc r → I4 r = I r := fun r hr => (c4 r hr).trans (e4 r hr)
      rw [if_pos e, if_neg (by decide), px_one i (by omega), c1, px_bd]
      dsimp only
      have b1 := hc9 i
      cases ht : sp_lst (w 12).testBit c i with
      | none =>
        have hn : sp_lst (w 12).testBit c (i + 1) = some i := by rw [sp_lst, if_pos e, ht]
        rw [show sp_lstv c none = 1000000 from rfl, if_pos (nI_lt (by omega) (by omega))]
        refine ⟨_, rfl, ?_, ?_, (nI_succ i).symm, fr⟩
        · rw [hn]; rfl
        · rw [hn]; rfl
      | some m =>
        have hm := sp_lst_lt _ c i m ht
        have b2 := hc9 m
        rw [show sp_lstv c (some m) = c m from rfl]
        by_cases e' : c m ≤ c i
        · have hn : sp_lst (w 12).testBit c (i + 1) = some m := by rw [sp_lst, if_pos e, ht]; exact if_pos e'
          rw [if_neg (nI_nlt e' (by omega))]
          refine ⟨_, rfl, ?_, ?_, (nI_succ i).symm, fr⟩
          · rw [hn]
          · rw [hn]; rfl
        · have hn : sp_lst (w 12).testBit c (i + 1) = some i := by rw [sp_lst, if_pos e, ht]; exact if_neg e'
          rw [if_pos (nI_lt (by omega) (by omega))]
          refine ⟨_, rfl, ?_, ?_, (nI_succ i).symm, fr⟩
          · rw [hn]; rfl
          · rw [hn]; rfl
    · have hn : sp_lst (w 12).testBit c (i + 1) = sp_lst (w 12).testBit c i := by rw [sp_lst, if_neg e]
      rw [if_neg e, if_pos rfl]
      refine ⟨_, rfl, ?_, ?_, (nI_succ i).symm, e4⟩
      · rw [hn]
      · rw [hn]
  · rintro ⟨a1, a2, a3, I3⟩ ⟨e1, e2, e3, e4⟩
    dsimp only at e1 e2 e3 e4 ⊢
    subst e1 e2 e3
    have hQ3 := rx_Q_sc hQ e4
    unfold fX12_spare_20 fX12_spare_72 fX12_spare_89
    rw [hQ3.2.2.2.2.2.2.1, if_pos (nI_le (Nat.le_refl _) (by omega))]
    cases ht : sp_lst (w 12).testBit c np with
    | none =>
      rw [show sp_int none = -1 from rfl, if_neg (by decide)]
      exact ⟨_, rfl, rfl, e4⟩
    | some m =>
      have hm := sp_lst_lt _ c np m ht
      rw [show sp_int (some m) = nI m from rfl, if_pos (show (0 : Int32) ≤ nI m from nI_le (a := 0) (b := m) (by omega) (by omega)), show sp_lstv c (some m) = c m from rfl]
      by_cases ea : a = 0
      · rw [if_pos ea]
        exact ⟨_, rfl, (if_pos ea).symm, e4⟩
      · rw [if_neg ea]
        exact ⟨_, rfl, (if_neg ea).symm, e4⟩
theorem pr_spare (hR : rx_R S I J P) (a1 : Int32) : lz_pr l G rx_R mX11_spare 7 mX12_spare 7 [.int a1] S I J P := by
  have hB := hR.1
  obtain ⟨np, nb, fa, hrs, F, q, w, hQ⟩ := rx_R_Q hR
  obtain ⟨h1, h2, h3, h4, h5, h6, h7, h8, h9, h10, h11, h12, h13, h14, h15, h16, h17, h18⟩ := id hQ
  by_cases ha : a1 < 0 ∨ (1 : Int32) < a1
  · have hx : fX11_spare a1 I P = some (-1, I) := by
      unfold fX11_spare
      rw [px_within, if_pos ha, px_bd, if_pos rfl]
    have hm : fX12_spare a1 I = some (-1, I) := by
      unfold fX12_spare
      rw [px_isIn, if_pos ha, px_bd, if_pos rfl]
    exact lz_q _ hR (fun Q hQ => mX11_spare_ok hB hx hQ) (fun Q hQ => mX12_spare_ok hB hm hQ) (fun _ _ => rfl)
  generalize hcc : (fun s => (sp_dy F hrs np false fa (sp_up w 12 (sp_wo (w 12) (2 ^ s))) nb).2) = c
  have hc : ∀ s, (sp_dy F hrs np false fa (sp_up w 12 (sp_wo (w 12) (2 ^ s))) nb).2 = c s := fun s => by rw [← hcc]
  obtain ⟨I1, c1, c2⟩ := px_bestSpared hQ hc
  have hQ1 := rx_Q_sc hQ c2
  have hx : ∃ I2, fX11_spare a1 I P = some (match sp_lst (w 12).testBit c np with
      | none => -1
      | some m => if a1 = 0 then nI m else nI (c m), I2) ∧ ∀ r, ¬ rx_sc r → I2 r = I r := by
    unfold fX11_spare fX11_spare_32 fX11_spare_50
    rw [px_within, if_neg ha, px_bd, if_neg (by decide), h14, px_bd, c1, px_bd]
    dsimp only
    cases ht : sp_lst (w 12).testBit c np with
    | none =>
      by_cases ea : a1 = 0
      · rw [if_pos ea]
        exact ⟨_, rfl, c2⟩
      · rw [if_neg ea, show sp_int none = -1 from rfl, if_pos rfl]
        exact ⟨_, rfl, c2⟩
    | some m =>
      have hm := sp_lst_lt _ c np m ht
      by_cases ea : a1 = 0
      · rw [if_pos ea]
        refine ⟨_, ?_, c2⟩
        dsimp only
        rw [if_pos ea]
        rfl
      · obtain ⟨I2, d1, d2, d3, d4⟩ := px_passWithout hQ1 (s := 2 ^ m) (sp_pow64 m (by omega))
        rw [hc] at d1
        rw [if_neg ea, show sp_int (some m) = nI m from rfl, if_neg (px_m1 (by omega)), px_bd, px_one m (by omega), d1, px_bd]
        refine ⟨_, ?_, fun r hr => (d4 r hr).trans (c2 r hr)⟩
        dsimp only
        rw [if_neg ea]
  obtain ⟨I2, x1, x2⟩ := hx
  obtain ⟨I3, m1, m2⟩ := px_mspare (rx_Q_sc hQ x2) hc a1
  have hm : fX12_spare a1 I2 = some (match sp_lst (w 12).testBit c np with
      | none => -1
      | some m => if a1 = 0 then nI m else nI (c m), I3) := by
    unfold fX12_spare
    rw [px_isIn, if_neg ha, px_bd, if_neg (by decide)]
    exact m1
  exact lz_q _ hR (fun Q hQ => mX11_spare_ok hB x1 hQ) (fun Q hQ => mX12_spare_ok hB hm hQ) (fun r hr => (m2 r hr).trans (x2 r hr))
end PR11
