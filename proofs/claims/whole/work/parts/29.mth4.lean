/-! a toll more -/
theorem lim_n {f i R nt : Nat} (h : i < lim f R (nt + 1)) (c : ¬ (13 ≤ f ∧ f < 20 ∧ i = nt)) : i < lim f R nt := by
  unfold lim at h ⊢
  by_cases h1 : f < 9
  · rw [if_pos h1] at h ⊢; exact h
  · rw [if_neg h1] at h ⊢
    by_cases h2 : f < 13
    · rw [if_pos h2] at h ⊢; exact h
    · rw [if_neg h2] at h ⊢
      by_cases h3 : f < 20
      · rw [if_pos h3] at h ⊢; omega
      · rw [if_neg h3] at h ⊢; exact h
theorem CE_n {k : Bool} {T R nt : Nat} {σ α : Mem} (h : CE k T σ α R nt) : ∃ β, CE k T σ β R (nt + 1) ∧ ∀ f i, ¬ (13 ≤ f ∧ f < 20 ∧ i = nt) → β f i = α f i := by
  refine ⟨fun f i => if 13 ≤ f ∧ f < 20 ∧ i = nt then σ (clo T f i) (csl f i) else α f i, fun f i hv => ?_, fun f i c => if_neg c⟩
  by_cases c : 13 ≤ f ∧ f < 20 ∧ i = nt
  · exact (if_pos c).symm
  · refine (h f i ?_).trans (if_neg c).symm
    exact hv.elim (fun h => Or.inl ⟨h.1, lim_n h.2 c⟩) Or.inr
theorem RE_n {k : Bool} {S R nt : Nat} {σ α : Mem} (h : RE k S σ α R nt) : ∃ β, RE k S σ β R (nt + 1) ∧ ∀ f i, ¬ (13 ≤ f ∧ f < 20 ∧ i = nt) → β f i = α f i := by
  refine ⟨fun f i => if 13 ≤ f ∧ f < 20 ∧ i = nt then σ (rlo S f) (rsl f i) else α f i, fun f i hv f1 f2 => ?_, fun f i c => if_neg c⟩
  by_cases c : 13 ≤ f ∧ f < 20 ∧ i = nt
  · exact (if_pos c).symm
  · refine (h f i ?_ f1 f2).trans (if_neg c).symm
    exact hv.elim (fun h => Or.inl ⟨h.1, lim_n h.2 c⟩) Or.inr
def aBeg (α : Mem) (t : Nat) (b κ a pc : Int32) : Mem := sI (sI (sI (sI (sI (sI (sI α 13 t b) 14 t κ) 15 t a) 16 t pc) 17 t 0) 18 t 0) 19 t (-1)
theorem aBeg_o {α : Mem} {t f i : Nat} {b κ a pc : Int32} (e : ¬ (13 ≤ f ∧ f < 20 ∧ i = t)) : aBeg α t b κ a pc f i = α f i := by
  unfold aBeg
  rw [sI_n (by omega), sI_n (by omega), sI_n (by omega), sI_n (by omega), sI_n (by omega), sI_n (by omega), sI_n (by omega)]
theorem aBeg_v {α : Mem} {t : Nat} {b κ a pc : Int32} : aBeg α t b κ a pc 13 t = b ∧ aBeg α t b κ a pc 14 t = κ ∧ aBeg α t b κ a pc 15 t = a ∧ aBeg α t b κ a pc 16 t = pc ∧ aBeg α t b κ a pc 17 t = 0 ∧ aBeg α t b κ a pc 18 t = 0 ∧ aBeg α t b κ a pc 19 t = -1 := by
  unfold aBeg
  refine ⟨?_, ?_, ?_, ?_, ?_, ?_, ?_⟩
  · rw [sI_n (by omega), sI_n (by omega), sI_n (by omega), sI_n (by omega), sI_n (by omega), sI_n (by omega), sI_s]
  · rw [sI_n (by omega), sI_n (by omega), sI_n (by omega), sI_n (by omega), sI_n (by omega), sI_s]
  · rw [sI_n (by omega), sI_n (by omega), sI_n (by omega), sI_n (by omega), sI_s]
  · rw [sI_n (by omega), sI_n (by omega), sI_n (by omega), sI_s]
  · rw [sI_n (by omega), sI_n (by omega), sI_s]
  · rw [sI_n (by omega), sI_s]
  · rw [sI_s]
theorem aBeg_x {α β : Mem} {t : Nat} {b κ a pc : Int32} (h : ∀ f i, ¬ (13 ≤ f ∧ f < 20 ∧ i = t) → β f i = α f i) : aBeg β t b κ a pc = aBeg α t b κ a pc := by
  funext f i
  by_cases e : 13 ≤ f ∧ f < 20 ∧ i = t
  · obtain ⟨e1, e2, rfl⟩ := e
    obtain ⟨v1, v2, v3, v4, v5, v6, v7⟩ := aBeg_v (α := α) (t := i) (b := b) (κ := κ) (a := a) (pc := pc)
    obtain ⟨u1, u2, u3, u4, u5, u6, u7⟩ := aBeg_v (α := β) (t := i) (b := b) (κ := κ) (a := a) (pc := pc)
    rcases (show f = 13 ∨ f = 14 ∨ f = 15 ∨ f = 16 ∨ f = 17 ∨ f = 18 ∨ f = 19 by omega) with rfl | rfl | rfl | rfl | rfl | rfl | rfl
    · rw [v1, u1]
    · rw [v2, u2]
    · rw [v3, u3]
    · rw [v4, u4]
    · rw [v5, u5]
    · rw [v6, u6]
    · rw [v7, u7]
  · rw [aBeg_o e, aBeg_o e, h f i e]
def aAdd0 (α : Mem) (nt : Nat) (b κ a pc : Int32) : Mem := sI (aBeg α nt b κ a pc) 25 0 (nI nt + 1)
def aAdd (α : Mem) (nt b : Nat) (κ a pc : Int32) : Mem := if α 23 b = -1 then sI (aAdd0 α nt (nI b) κ a pc) 23 b (nI nt) else aAdd0 α nt (nI b) κ a pc
theorem lf_begin {σ : Mem} {L : Nat} {p0 p1 p2 p3 : Int32} (hL : ck L 3 = true) : fn_X3_begin σ L p0 p1 p2 p3 = some (sI (sI (sI (sI (sI (sI (sI σ L 1 p0) L 2 p1) L 3 p2) L 4 p3) L 5 0) L 6 0) L 7 (-1)) := by
  unfold fn_X3_begin
  simp only [hL, gd_tr, nm_so]
theorem C_add {k : Bool} {T R nt b : Nat} {σ α : Mem} {p1 p2 p3 : Int32} (hT : isT T) (hR : R ≤ 12) (hn : nt + 1 ≤ 21) (h : CE k T σ α R nt) (hN : α 25 0 = nI nt) (hb : b < 4) : cR2 k T R (nt + 1) σ (aAdd α nt b p1 p2 p3) (nI nt) (fn_X4_addToll σ T (nI b) p1 p2 p3) := by
  have h21 : nt < 21 := by omega
  have hlt : nt < nt + 1 := Nat.lt_succ_self nt
  obtain ⟨β, h0, hβ⟩ := CE_n h
  have k1 := CW_13 (nI b) hT hR hn hlt h0
  have k2 := CW_14 p1 hT hR hn hlt k1
  have k3 := CW_15 p2 hT hR hn hlt k2
  have k4 := CW_16 p3 hT hR hn hlt k3
  have k5 := CW_17 0 hT hR hn hlt k4
  have k6 := CW_18 0 hT hR hn hlt k5
  have k7 : CE k T (sI (sI (sI (sI (sI (sI (sI σ (oO T nt) 1 (nI b)) (oO T nt) 2 p1) (oO T nt) 3 p2) (oO T nt) 4 p3) (oO T nt) 5 0) (oO T nt) 6 0) (oO T nt) 7 (-1)) (aBeg β nt (nI b) p1 p2 p3) R (nt + 1) := CW_19 (-1) hT hR hn hlt k6
  rw [aBeg_x hβ] at k7
  have f7 : Fc T σ (sI (sI (sI (sI (sI (sI (sI σ (oO T nt) 1 (nI b)) (oO T nt) 2 p1) (oO T nt) 3 p2) (oO T nt) 4 p3) (oO T nt) 5 0) (oO T nt) 6 0) (oO T nt) 7 (-1)) := Fc_w (Fc_w (Fc_w (Fc_w (Fc_w (Fc_w (Fc_w Fc_0 (rgO h21)) (rgO h21)) (rgO h21)) (rgO h21)) (rgO h21)) (rgO h21)) (rgO h21)
  have e0 : σ T 5 = nI nt := (CE_25 h).trans hN
  unfold fn_X4_addToll
  rw [ck_T hT, gd_tr, nm_so, e0, rf_T2 hT, b1_so, ck_AO hT, gd_tr, sl_AO hT, if_pos (nI_lt h21 (by omega)), b1_so, ea_O hT h21, b1_so, ck_O hT h21, gd_tr, lf_begin (ck_O hT h21), b1_so, gd_tr, gd_tr, nm_so]
  generalize sI (sI (sI (sI (sI (sI (sI σ (oO T nt) 1 (nI b)) (oO T nt) 2 p1) (oO T nt) 3 p2) (oO T nt) 4 p3) (oO T nt) 5 0) (oO T nt) 6 0) (oO T nt) 7 (-1) = m at k7 f7 ⊢
  have e25 : m T 5 = nI nt := ((CE_25 k7).trans (aBeg_o (by omega))).trans hN
  have k8 : CE k T (sI m T 5 (nI nt + 1)) (aAdd0 α nt (nI b) p1 p2 p3) R (nt + 1) := CW_25 (nI nt + 1) hT hR hn k7
  have e23 : sI m T 5 (nI nt + 1) (oB T b) 5 = α 23 b := by
    rw [CE_23 k8 hb]
    unfold aAdd0
    rw [sI_n (Or.inl (by decide)), aBeg_o (by omega)]
  rw [e25, rf_T0 hT, b1_so, ea_B hT hb, b1_so, ck_B hT hb, gd_tr, e23]
  unfold aAdd
  by_cases h1 : α 23 b = -1
  · rw [if_pos h1, if_pos h1, b1_so, ea_B hT hb, b1_so, ck_B hT hb, gd_tr, nm_so]
    exact ⟨_, rfl, CW_23 (nI nt) hT hR hn hb k8, Fc_w (Fc_w f7 rgT) (rgB hb)⟩
  · rw [if_neg h1, if_neg h1]
    exact ⟨_, rfl, k8, Fc_w f7 rgT⟩
theorem aFf_lt {α β : Mem} {x : Int32} {N : Nat} (h : ∀ i, i < N → β 13 i = α 13 i ∧ β 19 i = α 19 i) : ∀ d i, i + d ≤ N → aFf β x d i = aFf α x d i
  | 0, _, _ => rfl
  | d + 1, i, hi => by
    unfold aFf
    rw [(h i (by omega)).1, (h i (by omega)).2, aFf_lt h d (i + 1) (by omega)]
theorem aFf_app {α : Mem} {x : Int32} : ∀ d i, i + d < 2 ^ 31 → aFf α x (d + 1) i = if aFf α x d i = -1 then (if α 13 (i + d) = x ∧ α 19 (i + d) < 0 then nI (i + d) else -1) else aFf α x d i
  | 0, i, _ => by
    show (if α 13 i = x ∧ α 19 i < 0 then nI i else -1) = if (-1 : Int32) = -1 then (if α 13 i = x ∧ α 19 i < 0 then nI i else -1) else -1
    rw [if_pos rfl]
  | d + 1, i, hi => by
    have ih := aFf_app (α := α) (x := x) d (i + 1) (by omega)
    rw [show i + 1 + d = i + (d + 1) by omega] at ih
    have u1 : aFf α x (d + 1 + 1) i = if α 13 i = x ∧ α 19 i < 0 then nI i else aFf α x (d + 1) (i + 1) := rfl
    have u2 : aFf α x (d + 1) i = if α 13 i = x ∧ α 19 i < 0 then nI i else aFf α x d (i + 1) := rfl
    rw [u1, u2, ih]
    by_cases h1 : α 13 i = x ∧ α 19 i < 0
    · rw [if_pos h1, if_pos h1, if_neg (nI_m1 (by omega))]
    · rw [if_neg h1, if_neg h1]
theorem WF_add {α : Mem} {nr nt μ b κ a : Nat} {pc : Int32} (hnt : nt + 1 ≤ 21) (hb : b < 4) (hκ : κ ≤ 2) (ha : a ≤ 120) (h : WF α nr nt μ) : WF (aAdd α nt b (nI κ) (nI a) pc) nr (nt + 1) μ := by
  obtain ⟨hH, hB, hR, hI, hT⟩ := h
  have o0 : ∀ f i, ¬ (13 ≤ f ∧ f < 20 ∧ i = nt) → f ≠ 25 → aAdd0 α nt (nI b) (nI κ) (nI a) pc f i = α f i := fun f i a1 a2 => by
    unfold aAdd0
    rw [sI_n (Or.inl a2), aBeg_o a1]
  have o1 : ∀ f i, ¬ (13 ≤ f ∧ f < 20 ∧ i = nt) → f ≠ 25 → f ≠ 23 → aAdd α nt b (nI κ) (nI a) pc f i = α f i := fun f i a1 a2 a3 => by
    unfold aAdd
    split
    · rw [sI_n (Or.inl a3), o0 f i a1 a2]
    · exact o0 f i a1 a2
  have o2 : ∀ f i, f ≠ 25 → f ≠ 23 → aAdd α nt b (nI κ) (nI a) pc f i = aBeg α nt (nI b) (nI κ) (nI a) pc f i := fun f i a2 a3 => by
    unfold aAdd aAdd0
    split
    · rw [sI_n (Or.inl a3), sI_n (Or.inl a2)]
    · rw [sI_n (Or.inl a2)]
  have e25 : aAdd α nt b (nI κ) (nI a) pc 25 0 = nI (nt + 1) := by
    unfold aAdd aAdd0
    split
    · rw [sI_n (Or.inl (by decide)), sI_s, nI_1]
    · rw [sI_s, nI_1]
  obtain ⟨v1, v2, v3, v4, v5, v6, v7⟩ := aBeg_v (α := α) (t := nt) (b := nI b) (κ := nI κ) (a := nI a) (pc := pc)
  have e13 := (o2 13 nt (by decide) (by decide)).trans v1
  have e19 := (o2 19 nt (by decide) (by decide)).trans v7
  refine ⟨⟨(o1 24 0 (by omega) (by decide) (by decide)).trans hH.1, e25, (o1 20 0 (by omega) (by decide) (by decide)).trans hH.2.2⟩, fun c hc => WB_o (fun g hg => o1 g c (by omega) (by omega) (by omega)) (hB c hc), WR_o (fun g i hg => o1 g i (by omega) (by omega) (by omega)) hR, fun c hc => ?_, fun u hu => ?_⟩
  · have e9 : aFf (aAdd α nt b (nI κ) (nI a) pc) (nI c) nt 0 = α 23 c := (aFf_lt (N := nt) (fun i hi => ⟨o1 13 i (by omega) (by decide) (by decide), o1 19 i (by omega) (by decide) (by decide)⟩) nt 0 (by omega)).trans (hI c hc).symm
    unfold aFirst
    rw [aFf_app nt 0 (by omega), e9, Nat.zero_add, e13, e19]
    unfold aAdd
    by_cases h1 : α 23 b = -1
    · rw [if_pos h1]
      by_cases e : c = b
      · subst e
        rw [sI_s, if_pos h1, if_pos ⟨rfl, by decide⟩]
      · rw [sI_n (Or.inr e), o0 23 c (by omega) (by decide)]
        by_cases h2 : α 23 c = -1
        · rw [if_pos h2, if_neg (fun h9 => e (nI_inj (by omega) (by omega) h9.1).symm), h2]
        · rw [if_neg h2]
    · rw [if_neg h1, o0 23 c (by omega) (by decide)]
      by_cases h2 : α 23 c = -1
      · have e : ¬ c = b := fun e => h1 (e ▸ h2)
        rw [if_pos h2, if_neg (fun h9 => e (nI_inj (by omega) (by omega) h9.1).symm), h2]
      · rw [if_neg h2]
  · by_cases e : u = nt
    · subst e
      exact ⟨⟨b, hb, e13⟩, κ, a, 0, hκ, ha, Nat.zero_le _, (o2 14 u (by decide) (by decide)).trans v2, (o2 15 u (by decide) (by decide)).trans v3, (o2 17 u (by decide) (by decide)).trans v5, Or.inl ⟨e19, by omega⟩⟩
    · exact okTo_o (fun f hf => o1 f u (by omega) (by omega) (by omega)) (hT u (by omega))
def t4 (σ : Mem) (t : Nat) (p0 p1 p2 p3 : Int32) : Mem := sI (sI (sI (sI σ 143 t p0) 144 t p1) 145 t p2) 146 t p3
theorem lf_tell {σ : Mem} {t : Nat} {p0 p1 p2 p3 : Int32} (ht : t < 21) : fn_X7_tell σ 141 (nI t) p0 p1 p2 p3 = some (t4 σ t p0 p1 p2 p3) := by
  have hc : (nI t).toNatClampNeg = t := nI_clamp (by omega)
  unfold fn_X7_tell t4
  simp only [rm_4, rm_5, rm_6, rm_7, b1_so, im_143 ht, im_144 ht, im_145 ht, im_146 ht, gd_tr, hc, nm_so]
theorem R_come {k : Bool} {S R nt : Nat} {ρ α : Mem} {b p1 p2 p3 : Int32} (hS : isS S) (hR : R ≤ 12) (hn : nt + 1 ≤ 21) (h : ∃ β, RE k S ρ β R (nt + 1) ∧ (∀ f i, ¬ (13 ≤ f ∧ f < 20 ∧ i = nt) → β f i = α f i) ∧ β 13 nt = b ∧ β 14 nt = p1 ∧ β 15 nt = p2 ∧ β 16 nt = p3) (hN : α 25 0 = nI nt) : rR2 k S R (nt + 1) ρ (aAdd0 α nt b p1 p2 p3) (nI nt) (fn_X6_come ρ S) := by
  have h21 : nt < 21 := by omega
  have hlt : nt < nt + 1 := Nat.lt_succ_self nt
  have hc : (nI nt).toNatClampNeg = nt := nI_clamp (by omega)
  obtain ⟨β, h0, hβ, b13, b14, b15, b16⟩ := h
  have q0 : ρ S 2 = nI nt := ((RE_25 h0).trans (hβ 25 0 (by omega))).trans hN
  have k1 := RW_17 0 hS hR hn hlt h0
  have q1 : sI ρ (S + 11) nt 0 S 2 = nI nt := (sI_n (Or.inl (by omega))).trans q0
  have k2 := RW_18 0 hS hR hn hlt k1
  have q2 : sI (sI ρ (S + 11) nt 0) (S + 12) nt 0 S 2 = nI nt := (sI_n (Or.inl (by omega))).trans q1
  have k3 := RW_19 (-1) hS hR hn hlt k2
  have q3 : sI (sI (sI ρ (S + 11) nt 0) (S + 12) nt 0) (S + 13) nt (-1) S 2 = nI nt := (sI_n (Or.inl (by omega))).trans q2
  have k4 := RW_25 (nI nt + 1) hS hR hn k3
  have ea : sI (sI (sI (sI β 17 nt 0) 18 nt 0) 19 nt (-1)) 25 0 (nI nt + 1) = aAdd0 α nt b p1 p2 p3 := by
    unfold aAdd0
    rw [← aBeg_x hβ]
    unfold aBeg
    rw [sI_id b13, sI_id b14, sI_id b15, sI_id b16]
  rw [ea] at k4
  refine ⟨_, ?_, k4, Fr_w (Fr_w (Fr_w (Fr_w Fr_0 hS (Or.inl (by omega))) hS (Or.inl (by omega))) hS (Or.inl (by omega))) hS (Or.inl (by omega))⟩
  unfold fn_X6_come
  simp only [rs_13 hS, b1_so, ck_S hS, gd_tr, q0, is_11 hS h21, hc, nm_so, rs_14 hS, q1, is_12 hS h21, rs_15 hS, q2, is_13 hS h21, q3, sI_s]
  rw [nI_1, nI_pred]
theorem RE_tell {k : Bool} {S R nt : Nat} {ρ α : Mem} {b p1 p2 p3 : Int32} (hS : isS S) (hR : R ≤ 12) (hn : nt + 1 ≤ 21) (h : RE k S ρ α R nt) : ∃ β, RE k S (t4 ρ nt b p1 p2 p3) β R (nt + 1) ∧ (∀ f i, ¬ (13 ≤ f ∧ f < 20 ∧ i = nt) → β f i = α f i) ∧ β 13 nt = b ∧ β 14 nt = p1 ∧ β 15 nt = p2 ∧ β 16 nt = p3 := by
  have hlt : nt < nt + 1 := Nat.lt_succ_self nt
  obtain ⟨β, h0, hβ⟩ := RE_n h
  refine ⟨_, RW_16 p3 hS hR hn hlt (RW_15 p2 hS hR hn hlt (RW_14 p1 hS hR hn hlt (RW_13 b hS hR hn hlt h0))), fun f i c => ?_, ?_, ?_, ?_, sI_s⟩
  · rw [sI_n (by omega), sI_n (by omega), sI_n (by omega), sI_n (by omega), hβ f i c]
  · rw [sI_n (by omega), sI_n (by omega), sI_n (by omega), sI_s]
  · rw [sI_n (by omega), sI_n (by omega), sI_s]
  · rw [sI_n (by omega), sI_s]
theorem aAdd_eq {α : Mem} {nt b f i : Nat} {p1 p2 p3 : Int32} (h : f ≠ 23) : aAdd α nt b p1 p2 p3 f i = aAdd0 α nt (nI b) p1 p2 p3 f i := by
  unfold aAdd
  split
  · exact sI_n (Or.inl h)
  · rfl
def kindP (p1 p2 p3 : Int32) : Prop := rng p1 0 2 ∧ rng p2 0 120 ∧ rng p3 1 5
theorem nk_ok {σ : Mem} {p1 p2 p3 : Int32} (h : kindP p1 p2 p3) : fn_X5_needTollOfSuch σ p1 p2 p3 = some (.inr ()) := by
  unfold fn_X5_needTollOfSuch
  rw [nb_ok h.1, bx_r, nb_ok h.2.1, bx_r, nb_ok h.2.2, bx_r]
theorem nk_no {σ : Mem} {p1 p2 p3 : Int32} (h : ¬ kindP p1 p2 p3) : fn_X5_needTollOfSuch σ p1 p2 p3 = some (.inl 2) := by
  unfold fn_X5_needTollOfSuch
  by_cases h1 : rng p1 0 2
  · by_cases h2 : rng p2 0 120
    · rw [nb_ok h1, bx_r, nb_ok h2, bx_r, nb_no (fun h3 => h ⟨h1, h2, h3⟩), bx_l]
    · rw [nb_ok h1, bx_r, nb_no h2, bx_l]
  · rw [nb_no h1, bx_l]
theorem ik_ok {σ : Mem} {p1 p2 p3 : Int32} (h : kindP p1 p2 p3) : fn_X7_isKind σ p1 p2 p3 = some 1 := by
  unfold fn_X7_isKind
  simp only [in_ok h.1, in_ok h.2.1, in_ok h.2.2, b1_so, i10, if_false]
theorem ik_no {σ : Mem} {p1 p2 p3 : Int32} (h : ¬ kindP p1 p2 p3) : fn_X7_isKind σ p1 p2 p3 = some 0 := by
  unfold fn_X7_isKind
  by_cases h1 : rng p1 0 2
  · by_cases h2 : rng p2 0 120
    · simp only [in_ok h1, in_ok h2, in_no (fun h3 => h ⟨h1, h2, h3⟩), b1_so, i10, if_false, if_true]
    · simp only [in_ok h1, in_no h2, b1_so, i10, if_false, if_true]
  · simp only [in_no h1, b1_so, if_true]
theorem P_toll (B : Nat) (p0 p1 p2 p3 : Int32) : mth B B [(1, 1), (2, 2), (3, 3)] (fun σ => fn_X5_toll σ 0 p0 p1 p2 p3) (fun σ => fn_X7_toll σ 141 p0 p1 p2 p3) := by
  intro σ hI
  by_cases r0 : rng p0 0 3
  case neg =>
    refine mth_no (Nat.le_refl B) hI 1 1 (by decide) ?_ ?_
    · show fn_X5_toll σ 0 p0 p1 p2 p3 = _
      unfold fn_X5_toll
      simp only [bell_no r0, bx_l]
    · show fn_X7_toll σ 141 p0 p1 p2 p3 = _
      unfold fn_X7_toll
      simp only [ck_M, gd_tr, nm_so, ib_no r0, b1_so, if_true, lf_no, b2_so]
      rfl
  by_cases r1 : kindP p1 p2 p3
  case neg =>
    refine mth_no (Nat.le_refl B) hI 2 2 (by decide) ?_ ?_
    · show fn_X5_toll σ 0 p0 p1 p2 p3 = _
      unfold fn_X5_toll
      simp only [bell_ok r0, bx_r, nk_no r1, bx_l]
    · show fn_X7_toll σ 141 p0 p1 p2 p3 = _
      unfold fn_X7_toll
      simp only [ck_M, gd_tr, nm_so, ib_ok r0, ik_no r1, b1_so, i10, if_false, if_true, lf_no, b2_so]
      rfl
  obtain ⟨T, eT⟩ : ∃ T, T = 1 := ⟨_, rfl⟩
  obtain ⟨S, eS⟩ : ∃ S, S = 148 := ⟨_, rfl⟩
  have hT : isT T := Or.inl eT
  have hS : isS S := Or.inl eS
  have hI2 := hI
  obtain ⟨α, nr, nt, μ, h1, h2, h3, h4, h5, h6, h7, h8⟩ := Inv_o eT eS hI
  obtain ⟨b, _, hb, rfl⟩ := rng_of (a := 0) (b := 3) rfl rfl (by omega) r0
  obtain ⟨κ, _, hκ, rfl⟩ := rng_of (a := 0) (b := 2) rfl rfl (by omega) r1.1
  obtain ⟨a, _, ha, rfl⟩ := rng_of (a := 0) (b := 120) rfl rfl (by omega) r1.2.1
  have hb4 : b < 4 := by omega
  by_cases hn : nt < 20
  · obtain ⟨s1, e1, k1, f1⟩ := C_add (p1 := nI κ) (p2 := nI a) (p3 := p3) hT (Nat.le_refl 12) (by omega) h1 h3.1.2.1 hb4
    have g0 := st eT eS h6 f1 h2
    have q0 : sI s1 141 0 0 141 3 = nI nt := st3 eT f1 h7
    obtain ⟨β, g1, gβ, b13, b14, b15, b16⟩ := RE_tell (b := nI b) (p1 := nI κ) (p2 := nI a) (p3 := p3) hS (Nat.le_refl 12) (by omega) g0
    have q1 : t4 (sI s1 141 0 0) nt (nI b) (nI κ) (nI a) p3 141 3 = nI nt := by
      unfold t4
      rw [sI_n (by omega), sI_n (by omega), sI_n (by omega), sI_n (by omega), q0]
    have q4 : t4 (sI s1 141 0 0) nt (nI b) (nI κ) (nI a) p3 141 0 = 0 := by
      unfold t4
      rw [sI_n (by omega), sI_n (by omega), sI_n (by omega), sI_n (by omega), sI_s]
    have q5 : ∀ j, j < 141 → t4 (sI s1 141 0 0) nt (nI b) (nI κ) (nI a) p3 j = s1 j := fun j hj => by
      unfold t4
      rw [sI_ne (by omega), sI_ne (by omega), sI_ne (by omega), sI_ne (by omega), sI_ne (by omega)]
    have g2 := RE_t (x := nI nt + 1) hS (Nat.le_refl 12) (by omega) (Or.inr rfl) g1
    obtain ⟨s2, e2, g3, f2⟩ := R_come hS (Nat.le_refl 12) (by omega) ⟨β, g2, gβ, b13, b14, b15, b16⟩ h3.1.2.1
    have g4 : RE true S s2 (aAdd α nt b (nI κ) (nI a) p3) 12 (nt + 1) := RE_eq g3 (fun f i _ h9 => aAdd_eq h9)
    have f141 := f2 141 (Or.inl ⟨by omega, fun _ => by omega⟩)
    refine mk_ok (x := nI nt) (nt := nt + 1) eT eS k1 g4 (fun j hj => (f2 j (Or.inl ⟨by omega, fun _ => by omega⟩)).trans ((sI_ne (by omega)).trans (q5 j hj))) (WF_add (by omega) hb4 hκ ha h3) ?_ h5 (by omega) (by rw [f141, sI_s, nI_1]) h8 (by rw [f141, sI_n (Or.inr (by decide)), q4]) ?_ ?_
    · refine WR_o (α := α) (fun g i hg => ?_) h4
      rw [aAdd_eq (by omega)]
      unfold aAdd0
      rw [sI_n (by omega), aBeg_o (by omega)]
    · show fn_X5_toll σ 0 (nI b) (nI κ) (nI a) p3 = _
      unfold fn_X5_toll
      simp only [bell_ok r0, bx_r, nk_ok r1, rf0 eT, b1_so, ck_T hT, gd_tr, CE_25 h1, h3.1.2.1]
      rw [if_pos (show nI nt < 20 from nI_lt (b := 20) hn (by omega)), e1, b2_so]
    · show fn_X7_toll s1 141 (nI b) (nI κ) (nI a) p3 = _
      have hne : ¬ nI nt = 20 := fun h9 => absurd (nI_inj (b := 20) (by omega) (by omega) h9) (by omega)
      unfold fn_X7_toll
      simp only [ck_M, gd_tr, nm_so, ib_ok r0, ik_ok r1, b1_so, i10, if_false, q0, hne, lf_tell (show nt < 21 by omega), q1, rm9 eS, ck_S hS, e2, b2_so]
  · have e20 : nt = 20 := by omega
    refine mth_no (Nat.le_refl B) hI2 3 3 (by decide) ?_ ?_
    · show fn_X5_toll σ 0 (nI b) (nI κ) (nI a) p3 = _
      unfold fn_X5_toll
      simp only [bell_ok r0, bx_r, nk_ok r1, rf0 eT, b1_so, ck_T hT, gd_tr, CE_25 h1, h3.1.2.1, e20]
      rfl
    · show fn_X7_toll σ 141 (nI b) (nI κ) (nI a) p3 = _
      have q0 : sI σ 141 0 0 141 3 = 20 := (sI_n (Or.inr (by decide))).trans (h7.trans (by rw [e20]; rfl))
      unfold fn_X7_toll
      simp only [ck_M, gd_tr, nm_so, ib_ok r0, ik_ok r1, b1_so, i10, if_false, q0, if_true, lf_no, b2_so]
      rfl
