/-! ===== village: within a formula ===== -/
theorem ab_u_cg {α : Type} {I I' : Nat → Nat → α} {r0 k0 r k : Nat} {x : α} (h : I' r k = I r k) : ab_u I' r0 k0 x r k = ab_u I r0 k0 x r k := by
  by_cases e : r = r0 ∧ k = k0
  · rw [e.1, e.2, ab_u_at, ab_u_at]
  · rw [px_u e, px_u e, h]
section PZ
variable {I0 K0 : ab_I} {J0 L0 : ab_J} {z : Nat} {B : Nat → Nat} {I K : ab_I} {J L : ab_J} {p0 c a b : Nat}
def dz (I : ab_I) (J : ab_J) (K : ab_I) (L : ab_J) (a b : Nat) : Prop := dr_P I J K L a ∧ dr_B I J K L b ∧ dr_L I K a b ∧ dr_F I K ∧ dr_D I K
/-- reading goes on, within a formula -/
def pz (I0 K0 : ab_I) (J0 L0 : ab_J) (z : Nat) (I : ab_I) (J : ab_J) (K : ab_I) (L : ab_J) (p0 c a b : Nat) : Prop := ps_F I0 K0 J0 L0 I J K L ∧ tk_R I J K L z p0 c ∧ I 11 8 = 0 ∧ I 11 9 = -1 ∧ K 73 2 = 0 ∧ K 73 3 = -1 ∧ dz I J K L a b
theorem pz_w {I' K' : ab_I} (h : pz I0 K0 J0 L0 z I J K L p0 c a b) (hI : ∀ r k, ¬ (r = 18 ∨ r = 19 ∨ (r = 11 ∧ k = 3)) → I' r k = I r k) (hK : ∀ r k, ¬ (r = 76 ∨ r = 77 ∨ r = 80 ∨ (r = 73 ∧ (k = 17 ∨ k = 19 ∨ k = 20 ∨ k = 22 ∨ k = 23 ∨ k = 24))) → K' r k = K r k) : pz I0 K0 J0 L0 z I' J K' L p0 c a b := by
  obtain ⟨hF, hT, f8, f9, f2, f3, dP, dB, dL, dF, dD⟩ := h
  have e22 : I' 22 = I 22 := funext fun k => hI 22 k (by omega)
  refine ⟨⟨fun r k hz => ?_, fun r k hz => ?_, hF.2.2.1, hF.2.2.2⟩, ?_, ?_, ?_, ?_, ?_, dr_P_c dP (fun r k hr => hI r k (by omega)) (fun r k hr => hK r k (by omega)), dr_B_c dB (fun r k hr => hI r k (by omega)) (fun r k hr => hK r k (by omega)), dr_L_c dL (fun r k hr => hI r k (by omega)) (fun r k hr => hK r k (by omega)), dr_F_c dF (hI 14 8 (by omega)) (hI 11 4 (by omega)) (hK 73 37 (by omega)) (hK 73 44 (by omega)), dr_D_c dD (hI 14 9 (by omega)) (hI 11 5 (by omega)) (hK 73 38 (by omega)) (hK 73 45 (by omega))⟩
  · unfold zx at hz
    rw [hI r k (by omega)]; exact hF.1 r k (by unfold zx; omega)
  · unfold zm at hz
    rw [hK r k (by omega)]; exact hF.2.1 r k (by unfold zm; omega)
  · unfold tk_R at *
    rw [e22, hK 73 4 (by omega), hK 73 6 (by omega), hK 73 7 (by omega), hK 73 8 (by omega)]; exact hT
  · rw [hI 11 8 (by omega)]; exact f8
  · rw [hI 11 9 (by omega)]; exact f9
  · rw [hK 73 2 (by omega)]; exact f2
  · rw [hK 73 3 (by omega)]; exact f3
/-- a draft whose formula is taken for untold: so what stands of ps serves here too -/
theorem pz_ps (h : pz I0 K0 J0 L0 z I J K L p0 c a b) : ps I0 K0 J0 L0 z (ab_u (ab_u (ab_u I 11 3 0) 18 3 0) 18 4 0) J (ab_u (ab_u K 73 24 0) 73 20 0) L p0 c a b := by
  obtain ⟨hF, hT, f8, f9, f2, f3, dP, dB, dL, dF, dD⟩ := pz_w (I' := ab_u (ab_u (ab_u I 11 3 0) 18 3 0) 18 4 0) (K' := ab_u (ab_u K 73 24 0) 73 20 0) h (fun r k hr => by rw [px_u (by omega), px_u (by omega), px_u (by omega)]) (fun r k hr => by rw [px_u (by omega), px_u (by omega)])
  exact ⟨hF, hT, f8, f9, f2, f3, dP, dB, dL, dF, dD, Or.inl ⟨by rw [px_u (by omega), px_u (by omega), ab_u_at], by rw [px_u (by omega), ab_u_at], by rw [px_u (by omega), ab_u_at], ab_u_at, ab_u_at⟩⟩
theorem ps_pz (h : ps I0 K0 J0 L0 z I J K L p0 c a b) : pz I0 K0 J0 L0 z I J K L p0 c a b := by
  obtain ⟨hF, hT, f8, f9, f2, f3, dP, dB, dL, dF, dD, _⟩ := h
  exact ⟨hF, hT, f8, f9, f2, f3, dP, dB, dL, dF, dD⟩
theorem pz_adv (hB0 : tk_B I0 K0 z B) (h : pz I0 K0 J0 L0 z I J K L p0 c a b) (h0 : c ≠ 0) (h1 : c ≠ 1) : ∃ I' J' K' L' c' p1, fX8_advance I J = some (I', J') ∧ fX12_token K L = some (K', L') ∧ pz I0 K0 J0 L0 z I' J' K' L' p1 c' a b ∧ p0 < p1 ∧ p0 < z ∧ tk_fx I I' J J' ∧ tk_fm K K' L L' := by
  obtain ⟨hF, ⟨pl, t1, t2, t3, t4, t5, t6⟩, f8, f9, f2, f3, hd⟩ := h
  obtain ⟨p, q1, q2, q3, q4⟩ : ∃ p, p0 < p ∧ p ≤ z ∧ I 22 1 = nI p ∧ K 73 4 = nI p := by
    rcases t6 with h | h | ⟨p, h1, h2, h3, h4, _⟩
    · exact absurd h.1 h1
    · exact absurd h.1 h0
    · exact ⟨p, h1, h2, h3, h4⟩
  obtain ⟨I', J', K', L', c', a1, a2, a3, a4, a5⟩ := tk_A (J := J) (L := L) (ps_tB hB0 hF) q3 q4 q2
  refine ⟨I', J', K', L', c', p, a1, a2, ⟨⟨fun r k hz => ?_, fun r k hz => ?_, fun r k x y w => ?_, fun r k x y => ?_⟩, a3, ?_, ?_, ?_, ?_, ?_⟩, q1, by omega, a4, a5⟩
  · rw [a4.1 r k (by unfold zx at hz; omega)]; exact hF.1 r k hz
  · rw [a5.1 r k (by unfold zm at hz; omega)]; exact hF.2.1 r k hz
  · rw [a4.2 r k (by omega)]; exact hF.2.2.1 r k x y w
  · rw [a5.2 r k (by omega)]; exact hF.2.2.2 r k x y
  · rw [a4.1 11 8 (by omega)]; exact f8
  · rw [a4.1 11 9 (by omega)]; exact f9
  · rw [a5.1 73 2 (by omega)]; exact f2
  · rw [a5.1 73 3 (by omega)]; exact f3
  · have hd' : dr (ab_u (ab_u (ab_u I 11 3 0) 18 3 0) 18 4 0) J (ab_u (ab_u K 73 24 0) 73 20 0) L a b := (pz_ps ⟨hF, ⟨pl, t1, t2, t3, t4, t5, t6⟩, f8, f9, f2, f3, hd⟩).2.2.2.2.2.2
    have hd2 : dr (ab_u (ab_u (ab_u I' 11 3 0) 18 3 0) 18 4 0) J' (ab_u (ab_u K' 73 24 0) 73 20 0) L' a b := dr_c hd' (fun r k hx => ab_u_cg (ab_u_cg (ab_u_cg (a4.1 r k (by unfold dr_x at hx; omega))))) (fun r k hx => ab_u_cg (ab_u_cg (a5.1 r k (by unfold dr_m at hx; omega)))) (fun r k hx => a4.2 r k (by omega)) (fun k => a5.2 75 k (by omega))
    obtain ⟨dP, dB, dL, dF, dD, _⟩ := hd2
    have gI : ∀ r k, ¬ (r = 18 ∨ (r = 11 ∧ k = 3)) → I' r k = ab_u (ab_u (ab_u I' 11 3 0) 18 3 0) 18 4 0 r k := fun r k hr => by rw [px_u (by omega), px_u (by omega), px_u (by omega)]
    have gK : ∀ r k, ¬ (r = 73 ∧ (k = 20 ∨ k = 24)) → K' r k = ab_u (ab_u K' 73 24 0) 73 20 0 r k := fun r k hr => by rw [px_u (by omega), px_u (by omega)]
    exact ⟨dr_P_c dP (fun r k hr => gI r k (by omega)) (fun r k hr => gK r k (by omega)), dr_B_c dB (fun r k hr => gI r k (by omega)) (fun r k hr => gK r k (by omega)), dr_L_c dL (fun r k hr => gI r k (by omega)) (fun r k hr => gK r k (by omega)), dr_F_c dF (gI 14 8 (by omega)) (gI 11 4 (by omega)) (gK 73 37 (by omega)) (gK 73 44 (by omega)), dr_D_c dD (gI 14 9 (by omega)) (gI 11 5 (by omega)) (gK 73 38 (by omega)) (gK 73 45 (by omega))⟩
theorem pz_ref (h : pz I0 K0 J0 L0 z I J K L p0 c a b) {k : Nat} (hk : 1 ≤ k) (hk5 : k ≤ 5) : ∃ I' K', fX4_refuses (nI k) I = some (0, I') ∧ fX12_wrong (nI k) K = some K' ∧ ft I0 K0 J0 L0 I' J K' L ∧ (∀ r i, ¬ (r = 11 ∧ (i = 8 ∨ i = 9)) → I' r i = I r i) ∧ (∀ r i, ¬ (r = 73 ∧ (i = 2 ∨ i = 3)) → K' r i = K r i) ∧ ¬ K' 73 2 ≤ 0 ∧ ¬ K' 73 2 = 0 := by
  obtain ⟨hF, hT, f8, f9, f2, f3, hd⟩ := h
  have hs := tk_sort hT
  obtain ⟨pl, t1, t2, t3, t4, t5, t6⟩ := hT
  have ec : (I 22 2 = (1 : Int32)) ↔ c = 1 := by rw [t2]; exact nI_eq (b := 1) (by omega) (by decide)
  have fin : ∀ m, 1 ≤ m → m ≤ 5 → ft I0 K0 J0 L0 (ab_u (ab_u I 11 8 (nI m)) 11 9 (nI pl)) J (ab_u (ab_u K 73 2 (nI m)) 73 3 (nI pl)) L ∧ ¬ ab_u (ab_u K 73 2 (nI m)) 73 3 (nI pl) 73 2 ≤ 0 ∧ ¬ ab_u (ab_u K 73 2 (nI m)) 73 3 (nI pl) 73 2 = 0 := fun m m1 m2 => by
    have e2 : ab_u (ab_u K 73 2 (nI m)) 73 3 (nI pl) 73 2 = nI m := by rw [px_u (by decide), ab_u_at]
    refine ⟨⟨⟨fun r i hz => ?_, fun r i hz => ?_, hF.2.2.1, hF.2.2.2⟩, m, pl, m1, m2, t1, by rw [px_u (by decide), ab_u_at], e2, by rw [ab_u_at], by rw [ab_u_at]⟩, ?_, ?_⟩
    · unfold zx at hz; rw [px_u (by omega), px_u (by omega)]; exact hF.1 r i (by unfold zx; omega)
    · unfold zm at hz; rw [px_u (by omega), px_u (by omega)]; exact hF.2.1 r i (by unfold zm; omega)
    · rw [e2]; exact nI_nle (by omega) (by omega)
    · rw [e2]; exact nI_ne0 (by omega) (by omega)
  have fr1 : ∀ m, ∀ r i, ¬ (r = 11 ∧ (i = 8 ∨ i = 9)) → ab_u (ab_u I 11 8 (nI m)) 11 9 (nI pl) r i = I r i := fun m r i h => by rw [px_u (by omega), px_u (by omega)]
  have fr2 : ∀ m, ∀ r i, ¬ (r = 73 ∧ (i = 2 ∨ i = 3)) → ab_u (ab_u K 73 2 (nI m)) 73 3 (nI pl) r i = K r i := fun m r i h => by rw [px_u (by omega), px_u (by omega)]
  unfold fX4_refuses fX4_refuses_17 fX12_wrong fX12_wrong_22
  rw [f2, if_pos (show (0 : Int32) ≤ 0 by decide), t4, t5]
  by_cases e : c = 1
  · rw [if_pos (ec.mpr e), if_pos (hs.1.mp e)]
    obtain ⟨x1, x2, x3⟩ := fin 1 (by decide) (by decide)
    exact ⟨_, _, rfl, rfl, x1, fr1 1, fr2 1, x2, x3⟩
  · rw [if_neg (fun h => e (ec.mp h)), if_neg (fun h => e (hs.1.mpr h))]
    obtain ⟨x1, x2, x3⟩ := fin k hk hk5
    exact ⟨_, _, rfl, rfl, x1, fr1 k, fr2 k, x2, x3⟩
theorem ft_I {r i : Nat} {x : Int32} (h : ft I0 K0 J0 L0 I J K L) (hz : zx r) (hne : ¬ (r = 11 ∧ (i = 8 ∨ i = 9))) : ft I0 K0 J0 L0 (ab_u I r i x) J K L := by
  obtain ⟨⟨hF1, hF2, hF3⟩, k, pl, h1, h2, h3, h4, h5, h6, h7⟩ := h
  refine ⟨⟨fun r' i' hz' => ?_, hF2, hF3⟩, k, pl, h1, h2, h3, by rw [px_u (by omega)]; exact h4, h5, by rw [px_u (by omega)]; exact h6, h7⟩
  rw [px_u (fun h => hz' (by rw [h.1]; exact hz))]
  exact hF1 r' i' hz'
/-- a fault within a formula -/
def fz (I0 K0 : ab_I) (J0 L0 : ab_J) (I : ab_I) (J : ab_J) (K : ab_I) (L : ab_J) : Prop := ft I0 K0 J0 L0 I J K L ∧ ∃ m, m ≤ 300 ∧ I 18 3 = nI m
theorem fz_add {x : Int32} (h : fz I0 K0 J0 L0 I J K L) : ∃ I', fX2_add x I = some I' ∧ fz I0 K0 J0 L0 I' J K L := by
  obtain ⟨h, m, hm, e⟩ := h
  unfold fX2_add fX2_add_32
  by_cases h3 : m = 300
  · rw [if_pos (show (300 : Int32) ≤ I 18 3 by rw [e, h3]; decide)]
    exact ⟨I, rfl, h, m, hm, e⟩
  · rw [if_neg (show ¬ (300 : Int32) ≤ I 18 3 by rw [e]; exact nI_ge (b := 300) (by omega) (by decide)), px_gd (show ab_ix (I 18 3) 300 = true by rw [e]; exact px_ix (by omega) (by decide))]
    refine ⟨_, rfl, ft_I (ft_I h (by unfold zx; omega) (by omega)) (by unfold zx; omega) (by omega), m + 1, by omega, ?_⟩
    rw [ab_u_at, e, ← nI_succ]
end PZ
/-! the reference's stack -/
def tg (e : Nat) : Nat := if e = 21 then 3 else if e = 38 then 2 else if e = 43 then 5 else if e = 45 then 5 else if e = 60 then 4 else if e = 61 then 4 else if e = 62 then 4 else if e = 124 then 1 else 6
theorem tg_ok : ∀ e, e < 125 → fX12_tight (nI e) = some (nI (tg e)) := by decide +kernel
def bo (e : Nat) : Prop := e = 37 ∨ e = 42 ∨ e = 43 ∨ e = 45 ∨ e = 47 ∨ e = 60 ∨ e = 61 ∨ e = 62 ∨ e = 38 ∨ e = 124
theorem tg_le (e : Nat) : tg e ≤ 6 ∧ 1 ≤ tg e := by
  unfold tg
  constructor <;> repeat' split
  all_goals omega
/-- the class's code for what the reference keeps on its stack -/
def cst (e : Nat) : Int32 := if e = 21 then -214 else if e = 124 then -212 else if e = 38 then -213 else -(nI e)
theorem fm_e {e : Nat} (h : bo e) : fm_1 (cst e) 3 (nI e) := by
  right; right; right
  rcases h with rfl | rfl | rfl | rfl | rfl | rfl | rfl | rfl | rfl | rfl
  · exact ⟨37, by omega, rfl, rfl, rfl⟩
  · exact ⟨42, by omega, rfl, rfl, rfl⟩
  · exact ⟨43, by omega, rfl, rfl, rfl⟩
  · exact ⟨45, by omega, rfl, rfl, rfl⟩
  · exact ⟨47, by omega, rfl, rfl, rfl⟩
  · exact ⟨60, by omega, rfl, rfl, rfl⟩
  · exact ⟨61, by omega, rfl, rfl, rfl⟩
  · exact ⟨62, by omega, rfl, rfl, rfl⟩
  · exact ⟨213, by omega, by decide +kernel, rfl, rfl⟩
  · exact ⟨212, by omega, by decide +kernel, rfl, rfl⟩
def sks (K : ab_I) : List Nat → Prop
  | [] => True
  | e :: l => K 80 l.length = nI e ∧ sks K l
theorem sks_c {K K' : ab_I} : ∀ l : List Nat, sks K l → (∀ k, k < l.length → K' 80 k = K 80 k) → sks K' l := by
  intro l
  induction l with
  | nil => intro _ _; trivial
  | cons e l ih =>
    intro h hk
    exact ⟨by rw [hk l.length (by rw [List.length_cons]; omega)]; exact h.1, ih h.2 (fun k hk' => hk k (by rw [List.length_cons]; omega))⟩
def dl : List Nat → Nat
  | [] => 0
  | e :: l => (if e = 20 ∨ e = 21 then 1 else 0) + dl l
def pn (x : Nat → Int32) (s : Nat) : List Nat → Prop
  | [] => True
  | e :: l => x s = cst e ∧ pn x (s + 1) l
/-- what lies on top is not closed at tightness t -/
def tc (t : Nat) : List Nat → Prop
  | [] => True
  | e :: _ => e < 125 ∧ (e = 20 ∨ (e ≠ 20 ∧ tg e < t))
/-- what may be closed at tightness t -/
def ok (t e : Nat) : Prop := (e = 21 ∨ bo e) ∧ t ≤ tg e
theorem cl_pop {x : Nat → Int32} {t : Nat} {σ : List Nat} (ht : t < 100) (hσ : tc t σ) : ∀ (ps : List Nat) (n s : Nat) (K : ab_I), (∀ e, e ∈ ps → ok t e) → K 73 19 = nI (ps ++ σ).length → sks K (ps ++ σ) → (ps ++ σ).length ≤ 100 → K 73 17 = nI s → s + ps.length ≤ 300 → K 73 23 = nI (dl (ps ++ σ)) → pn x s ps → (∀ i, i < s → fm_1 (x i) (K 76 i) (K 77 i)) → ∃ K', ab_it (fun s => fX12_close_0 (nI t) s) (n + ps.length + 1) K = some K' ∧ K' 73 19 = nI σ.length ∧ sks K' σ ∧ K' 73 17 = nI (s + ps.length) ∧ K' 73 23 = nI (dl σ) ∧ (∀ i, i < s + ps.length → fm_1 (x i) (K' 76 i) (K' 77 i)) ∧ ∀ r k, ¬ (r = 76 ∨ r = 77 ∨ (r = 73 ∧ (k = 17 ∨ k = 19 ∨ k = 23))) → K' r k = K r k := by
  intro ps
  induction ps with
  | nil =>
    intro n s K _ h19 hs hl h17 h3 h23 _ hf
    refine ⟨K, px_itR ?_, h19, hs, h17, h23, hf, fun r k _ => rfl⟩
    unfold fX12_close_0 fX12_close_101
    cases σ with
    | nil =>
      rw [if_pos (show K 73 19 ≤ 0 by rw [h19]; decide)]; rfl
    | cons e l =>
      have hl' : l.length + 1 ≤ 100 := hl
      have h19' : K 73 19 = nI (l.length + 1) := h19
      have h80 : K 80 l.length = nI e := hs.1
      rw [if_neg (show ¬ K 73 19 ≤ 0 by rw [h19']; exact nI_nle (by omega) (by omega)), h19', nI_pred, px_gd (px_ix (by omega) (by decide)), nI_clamp (by omega), h80]
      obtain ⟨e1, e2⟩ := hσ
      by_cases e0 : e = 20
      · rw [if_pos (show nI e = 20 by rw [e0]; rfl)]; rfl
      · rw [if_neg (show ¬ nI e = 20 from fun h => e0 ((nI_eq (b := 20) (by omega) (by decide)).mp h)), px_gd (px_ix (by omega) (by decide)), tg_ok e e1, px_bd, if_pos (show nI (tg e) < nI t from nI_lt (by omega) (by omega))]; rfl
  | cons e ps ih =>
    intro n s K hok h19 hs hl h17 h3 h23 hp hf
    have hl' : (ps ++ σ).length + 1 ≤ 100 := hl
    have h19' : K 73 19 = nI ((ps ++ σ).length + 1) := h19
    have h80 : K 80 (ps ++ σ).length = nI e := hs.1
    have h3' : s + (ps.length + 1) ≤ 300 := h3
    obtain ⟨o1, o2⟩ := hok e (List.mem_cons_self ..)
    have e125 : e < 125 := by unfold bo at o1; omega
    have e0 : e ≠ 20 := by unfold bo at o1; omega
    have body : ∃ K1, fX12_close_0 (nI t) K = some (.inl K1) ∧ K1 73 19 = nI (ps ++ σ).length ∧ K1 73 17 = nI (s + 1) ∧ K1 73 23 = nI (dl (ps ++ σ)) ∧ (∀ i, i < s + 1 → fm_1 (x i) (K1 76 i) (K1 77 i)) ∧ ∀ r k, ¬ (r = 76 ∨ r = 77 ∨ (r = 73 ∧ (k = 17 ∨ k = 19 ∨ k = 23))) → K1 r k = K r k := by
      have h23' : K 73 23 = nI ((if e = 20 ∨ e = 21 then 1 else 0) + dl (ps ++ σ)) := h23
      have hix : ab_ix (nI (ps ++ σ).length) 160 = true := px_ix (by omega) (by decide)
      unfold fX12_close_0
      rw [if_neg (show ¬ K 73 19 ≤ 0 by rw [h19']; exact nI_nle (by omega) (by omega)), h19', nI_pred, px_gd hix, nI_clamp (by omega), h80, if_neg (show ¬ nI e = 20 from fun h => e0 ((nI_eq (b := 20) (by omega) (by decide)).mp h)), px_gd hix, tg_ok e e125, px_bd, if_neg (show ¬ nI (tg e) < nI t from nI_nlt o2 (by have := tg_le e; omega)), px_gd hix]
      have hf1 : ∀ (K1 : ab_I) (a1 a2 : Int32), fm_1 (x s) a1 a2 → (∀ k, K1 76 k = ab_u K 76 s a1 76 k) → (∀ k, K1 77 k = ab_u K 77 s a2 77 k) → ∀ i, i < s + 1 → fm_1 (x i) (K1 76 i) (K1 77 i) := fun K1 a1 a2 h1 h2 h3 i hi => by
        by_cases ei : i = s
        · rw [h2 i, h3 i, ei, ab_u_at, ab_u_at]; exact h1
        · rw [h2 i, h3 i, px_u (by omega), px_u (by omega)]; exact hf i (by omega)
      by_cases e21 : e = 21
      · rw [if_pos (show nI e = 21 by rw [e21]; rfl)]
        unfold fX12_add
        rw [px_u (by omega), h17, px_gd (px_ix (by omega) (by decide)), px_gd (px_ix (by omega) (by decide)), px_bd, nI_clamp (by omega)]
        rw [if_pos (Or.inr e21)] at h23'
        refine ⟨_, rfl, ?_, ?_, ?_, ?_, ?_⟩
        · rw [px_u (by omega), px_u (by omega), px_u (by omega), px_u (by omega), ab_u_at]
        · rw [px_u (by omega), ab_u_at, ← nI_succ]
        · rw [ab_u_at, px_u (by omega), px_u (by omega), px_u (by omega), px_u (by omega), h23', Nat.add_comm, nI_pred]
        · refine hf1 _ 2 0 (Or.inr (Or.inr (Or.inl ⟨by rw [hp.1, e21]; rfl, rfl⟩))) (fun k => ?_) (fun k => ?_)
          · unfold ab_u; simp
          · unfold ab_u; simp
        · intro r k hr
          rw [px_u (by omega), px_u (by omega), px_u (by omega), px_u (by omega), px_u (by omega)]
      · have hb : bo e := o1.resolve_left e21
        rw [if_neg (show ¬ nI e = 21 from fun h => e21 ((nI_eq (b := 21) (by omega) (by decide)).mp h)), px_gd hix]
        unfold fX12_add
        rw [px_u (by omega), h17, px_gd (px_ix (by omega) (by decide)), px_gd (px_ix (by omega) (by decide)), px_bd, nI_clamp (by omega)]
        rw [if_neg (by omega), Nat.zero_add] at h23'
        refine ⟨_, rfl, ?_, ?_, ?_, ?_, ?_⟩
        · rw [px_u (by omega), px_u (by omega), px_u (by omega), ab_u_at]
        · rw [ab_u_at, ← nI_succ]
        · rw [px_u (by omega), px_u (by omega), px_u (by omega), px_u (by omega), h23']
        · refine hf1 _ 3 (nI e) (by rw [hp.1]; exact fm_e hb) (fun k => ?_) (fun k => ?_)
          · unfold ab_u; simp
          · unfold ab_u; simp
        · intro r k hr
          rw [px_u (by omega), px_u (by omega), px_u (by omega), px_u (by omega)]
    obtain ⟨K1, b1, b2, b3, b4, b5, b6⟩ := body
    obtain ⟨K', c1, c2, c3, c4, c5, c6, c7⟩ := ih n (s + 1) K1 (fun e he => hok e (List.mem_cons_of_mem _ he)) b2 (sks_c _ hs.2 (fun k _ => b6 80 k (by omega))) (by omega) b3 (by omega) b4 hp.2 b5
    refine ⟨K', ?_, c2, c3, by rw [c4, List.length_cons]; congr 1; omega, c5, fun i hi => c6 i (by rw [List.length_cons] at hi; omega), fun r k hr => by rw [c7 r k hr, b6 r k hr]⟩
    rw [List.length_cons, show n + (ps.length + 1) + 1 = (n + ps.length + 1) + 1 by omega, px_itL (s := K) (s' := K1) b1]
    exact c1
