/-! what is told, class and reference -/
theorem cl_0 : (0 : Int32).toNatClampNeg = 0 := by decide
theorem cl_1 : (1 : Int32).toNatClampNeg = 1 := by decide
theorem cl_2 : (2 : Int32).toNatClampNeg = 2 := by decide
theorem cl_3 : (3 : Int32).toNatClampNeg = 3 := by decide
theorem cl_4 : (4 : Int32).toNatClampNeg = 4 := by decide
theorem cl_5 : (5 : Int32).toNatClampNeg = 5 := by decide
theorem cl_6 : (6 : Int32).toNatClampNeg = 6 := by decide
theorem cl_7 : (7 : Int32).toNatClampNeg = 7 := by decide
theorem cl_8 : (8 : Int32).toNatClampNeg = 8 := by decide
theorem ib_n {j n : Nat} (h : j < n) (hn : n < 2 ^ 31) : inb (nI j) n = true := decide_eq_true (nI_in h hn)
theorem ib5_0 : inb 0 5 = true := by decide
theorem ib5_1 : inb 1 5 = true := by decide
theorem ib5_2 : inb 2 5 = true := by decide
theorem ib5_3 : inb 3 5 = true := by decide
theorem ib5_4 : inb 4 5 = true := by decide
theorem ib9_0 : inb 0 9 = true := by decide
theorem ib9_1 : inb 1 9 = true := by decide
theorem ib9_2 : inb 2 9 = true := by decide
theorem ib9_3 : inb 3 9 = true := by decide
theorem ib9_4 : inb 4 9 = true := by decide
theorem ib9_5 : inb 5 9 = true := by decide
theorem ib9_6 : inb 6 9 = true := by decide
theorem ib9_7 : inb 7 9 = true := by decide
theorem ib9_8 : inb 8 9 = true := by decide
def aLeft (α : Mem) (b ft fw : Nat) : Int32 := if α ft b = 0 then 0 else (10 * α ft b - α fw b + α 0 b - 1) / α 0 b
theorem lf_left {σ : Mem} {L : Nat} {p : Int32} (hL : ck L 1 = true) (hp : 0 < p) : fn_X1_strokesLeft σ L p = some (if σ L 0 = 0 then 0 else (10 * σ L 0 - σ L 1 + p - 1) / p) := by
  have hp0 : ¬ p = 0 := fun h => by
    rw [h] at hp
    exact absurd hp (by decide)
  unfold fn_X1_strokesLeft
  simp only [hL, gd_tr, hp, hp0, if_true, not_false_eq_true, decide_true]
  split <;> rfl
theorem okW_pos {α : Mem} {b : Nat} (h : okW α b) : 0 < α 0 b ∧ ¬ α 0 b = 0 := by
  obtain ⟨v, h1, h2, h3⟩ := h
  rw [h3]
  exact ⟨nI_lt (a := 0) (by omega) (by omega), nI_ne0 (by omega) (by omega)⟩
theorem left_z : ∀ v ∈ List.range 10, 1 ≤ v → (10 * 0 - 0 + nI v - 1) / nI v = 0 := by decide +kernel
theorem C_left0 {k : Bool} {T R nt b : Nat} {σ α : Mem} (hT : isT T) (h : CE k T σ α R nt) (hb : b < 4) (hw : okW α b) : fn_X0_strokesLeft σ (oB T b) (nI 0) = some (aLeft α b 5 6) := by
  unfold fn_X0_strokesLeft aLeft
  rw [ck_B hT hb, gd_tr, fit_l0 hT hb, b1_so, gd_tr, ck_H hT hb, gd_tr, CE_0 h hb, lf_left (ck_H hT hb) (okW_pos hw).1, b1_so, CE_5 h hb, CE_6 h hb]
theorem R_left0 {k : Bool} {S R nt b : Nat} {σ α : Mem} (eS : S = 148) (h : RE k S σ α R nt) (hb : b < 4) (hw : okW α b) (hl : okL α b 5 6) : fn_X7_lastsOn σ 141 (nI b) (nI 0) = some (aLeft α b 5 6) := by
  have hS : isS S := Or.inl eS
  have hl8 : 2 * b < 8 := by omega
  have hcl : (nI (2 * b)).toNatClampNeg = 2 * b := nI_clamp (by omega)
  have hcb : (nI b).toNatClampNeg = b := nI_clamp (by omega)
  have hli : 2 * nI b + nI 0 = nI (2 * b) := by
    rw [show (2 : Int32) = nI 2 from rfl, pk_mul, nI_add]; rfl
  unfold fn_X7_lastsOn aLeft
  simp only [rm9 eS, b1_so, rs_4 hS, hli, is_2 hS hl8, gd_tr, rs_5 hS, is_3 hS hl8, hcl, nm_so, rs_3 hS, is_1 hS hb, hcb, RE_5 h hb, RE_6 h hb, RE_0 h hb, (okW_pos hw).2, not_false_eq_true, decide_true]
  by_cases h1 : α 5 b = 0
  · obtain ⟨v, v1, v2, v3⟩ := hw
    obtain ⟨q, q1, q2, q3⟩ := hl
    have hq : q = 0 := (nI_z q1).1.mp (q2.symm.trans h1)
    rw [if_pos h1, h1, q3 hq, v3, left_z v (List.mem_range.mpr (by omega)) v1]
  · rw [if_neg h1]
theorem C_left1 {k : Bool} {T R nt b : Nat} {σ α : Mem} (hT : isT T) (h : CE k T σ α R nt) (hb : b < 4) (hw : okW α b) : fn_X0_strokesLeft σ (oB T b) (nI 1) = some (aLeft α b 7 8) := by
  unfold fn_X0_strokesLeft aLeft
  rw [ck_B hT hb, gd_tr, lf_left1 hT hb (show ¬ nI 1 = 0 by decide), b1_so, gd_tr, ck_K hT hb, gd_tr, CE_0 h hb, lf_left (ck_K hT hb) (okW_pos hw).1, b1_so, CE_7 h hb, CE_8 h hb]
theorem R_left1 {k : Bool} {S R nt b : Nat} {σ α : Mem} (eS : S = 148) (h : RE k S σ α R nt) (hb : b < 4) (hw : okW α b) (hl : okL α b 7 8) : fn_X7_lastsOn σ 141 (nI b) (nI 1) = some (aLeft α b 7 8) := by
  have hS : isS S := Or.inl eS
  have hl8 : 2 * b + 1 < 8 := by omega
  have hcl : (nI (2 * b + 1)).toNatClampNeg = 2 * b + 1 := nI_clamp (by omega)
  have hcb : (nI b).toNatClampNeg = b := nI_clamp (by omega)
  have hli : 2 * nI b + nI 1 = nI (2 * b + 1) := by
    rw [show (2 : Int32) = nI 2 from rfl, pk_mul, nI_add]
  unfold fn_X7_lastsOn aLeft
  simp only [rm9 eS, b1_so, rs_4 hS, hli, is_2 hS hl8, gd_tr, rs_5 hS, is_3 hS hl8, hcl, nm_so, rs_3 hS, is_1 hS hb, hcb, RE_7 h hb, RE_8 h hb, RE_0 h hb, (okW_pos hw).2, not_false_eq_true, decide_true]
  by_cases h1 : α 7 b = 0
  · obtain ⟨v, v1, v2, v3⟩ := hw
    obtain ⟨q, q1, q2, q3⟩ := hl
    have hq : q = 0 := (nI_z q1).1.mp (q2.symm.trans h1)
    rw [if_pos h1, h1, q3 hq, v3, left_z v (List.mem_range.mpr (by omega)) v1]
  · rw [if_neg h1]
def aTold (α : Mem) (r : Nat) : Nat → Int32
  | 0 => α 9 r
  | 1 => α 10 r
  | 2 => α 22 r
  | 3 => α 11 r
  | _ => α 12 r
theorem C_told {k : Bool} {T R nt r j : Nat} {σ α : Mem} (hT : isT T) (hR : R ≤ 12) (h : CE k T σ α R nt) (hr : r < R) (hj : j < 5) : fn_X2_fact σ (oR T r) (nI j) = some (aTold α r j) := by
  have hr2 : r < 12 := by omega
  unfold fn_X2_fact
  simp only [ck_R hT hr2, gd_tr, CE_9 h hr, CE_10 h hr, CE_22 h hr, CE_11 h hr, CE_12 h hr]
  rcases (show j = 0 ∨ j = 1 ∨ j = 2 ∨ j = 3 ∨ j = 4 by omega) with rfl | rfl | rfl | rfl | rfl
  · rw [if_pos (show nI 0 = 0 by decide)]
    rfl
  · rw [if_neg (show ¬ nI 1 = 0 by decide), if_pos (show nI 1 = 1 by decide)]
    rfl
  · rw [if_neg (show ¬ nI 2 = 0 by decide), if_neg (show ¬ nI 2 = 1 by decide), if_pos (show nI 2 = 2 by decide)]
    rfl
  · rw [if_neg (show ¬ nI 3 = 0 by decide), if_neg (show ¬ nI 3 = 1 by decide), if_neg (show ¬ nI 3 = 2 by decide), if_pos (show nI 3 = 3 by decide)]
    rfl
  · rw [if_neg (show ¬ nI 4 = 0 by decide), if_neg (show ¬ nI 4 = 1 by decide), if_neg (show ¬ nI 4 = 2 by decide), if_neg (show ¬ nI 4 = 3 by decide)]
    rfl
theorem R_told {k : Bool} {S R nt r j : Nat} {σ α : Mem} (eS : S = 148) (hR : R ≤ 12) (h : RE k S σ α R nt) (hr : r < R) (hBR : okBR α r) (hj : j < 5) : fn_X7_ringerTold σ 141 (nI r) (nI j) = some (aTold α r j) := by
  have hS : isS S := Or.inl eS
  have hr2 : r < 12 := by omega
  have hc : (nI r).toNatClampNeg = r := nI_clamp (by omega)
  have hcj : (nI j).toNatClampNeg = j := nI_clamp (by omega)
  unfold fn_X7_ringerTold
  simp only [nm_so, rm_2, b1_so, im_142 hr2, gd_tr, hc, RE_9 h hr, rm9 eS, rs_10 hS, is_8 hS hr2, RE_10 h hr, ck_S hS, R_bellOf hS h hBR, rs_11 hS, is_9 hS hr2, RE_11 h hr, rs_12 hS, is_10 hS hr2, RE_12 h hr, ib5_0, ib5_1, ib5_2, ib5_3, ib5_4, ib_n hj, cl_0, cl_1, cl_2, cl_3, cl_4, hcj]
  rcases (show j = 0 ∨ j = 1 ∨ j = 2 ∨ j = 3 ∨ j = 4 by omega) with rfl | rfl | rfl | rfl | rfl <;> rfl
def aYrs (α : Mem) (t : Nat) : Int32 := if 0 < α 17 t - 3 * (α 14 t + 1) then α 17 t - 3 * (α 14 t + 1) else 0
def aSta (α : Mem) (t : Nat) : Int32 := if α 19 t < 0 then (if α 17 t ≤ 0 then 0 else 1) else 2
def aAbout (α : Mem) (t : Nat) : Nat → Int32
  | 0 => α 13 t
  | 1 => α 14 t
  | 2 => α 15 t
  | 3 => α 16 t
  | 4 => α 17 t
  | 5 => α 18 t
  | 6 => aYrs α t
  | 7 => aSta α t
  | _ => α 19 t
theorem C_about {k : Bool} {T R nt t j : Nat} {σ α : Mem} (hT : isT T) (hn : nt ≤ 21) (h : CE k T σ α R nt) (ht : t < nt) (hj : j < 9) : fn_X3_fact σ (oO T t) (nI j) = some (aAbout α t j) := by
  have ht2 : t < 21 := by omega
  have eY : fn_X3_years σ (oO T t) = some (aYrs α t) := by
    unfold fn_X3_years aYrs
    simp only [ck_O hT ht2, gd_tr, lf_tellers (ck_O hT ht2), b1_so, CE_17 h ht, CE_14 h ht]
  have eS : fn_X3_state σ (oO T t) = some (aSta α t) := by
    unfold fn_X3_state aSta
    simp only [ck_O hT ht2, gd_tr, lf_isDone (ck_O hT ht2), b1_so, CE_17 h ht, CE_19 h ht]
    by_cases h1 : α 19 t < 0
    · rw [if_pos h1, if_pos rfl, if_pos h1]
      split <;> rfl
    · rw [if_neg h1, if_neg (show ¬ (1 : Int32) = 0 by decide), if_neg h1]
  unfold fn_X3_fact
  simp only [ck_O hT ht2, gd_tr, CE_13 h ht, CE_14 h ht, CE_15 h ht, CE_16 h ht, CE_17 h ht, CE_18 h ht, CE_19 h ht, eY, eS, b1_so]
  rcases (show j = 0 ∨ j = 1 ∨ j = 2 ∨ j = 3 ∨ j = 4 ∨ j = 5 ∨ j = 6 ∨ j = 7 ∨ j = 8 by omega) with rfl | rfl | rfl | rfl | rfl | rfl | rfl | rfl | rfl
  · rw [if_pos (show nI 0 = 0 by decide)]
    rfl
  · rw [if_neg (show ¬ nI 1 = 0 by decide), if_pos (show nI 1 = 1 by decide)]
    rfl
  · rw [if_neg (show ¬ nI 2 = 0 by decide), if_neg (show ¬ nI 2 = 1 by decide), if_pos (show nI 2 = 2 by decide)]
    rfl
  · rw [if_neg (show ¬ nI 3 = 0 by decide), if_neg (show ¬ nI 3 = 1 by decide), if_neg (show ¬ nI 3 = 2 by decide), if_pos (show nI 3 = 3 by decide)]
    rfl
  · rw [if_neg (show ¬ nI 4 = 0 by decide), if_neg (show ¬ nI 4 = 1 by decide), if_neg (show ¬ nI 4 = 2 by decide), if_neg (show ¬ nI 4 = 3 by decide), if_pos (show nI 4 = 4 by decide)]
    rfl
  · rw [if_neg (show ¬ nI 5 = 0 by decide), if_neg (show ¬ nI 5 = 1 by decide), if_neg (show ¬ nI 5 = 2 by decide), if_neg (show ¬ nI 5 = 3 by decide), if_neg (show ¬ nI 5 = 4 by decide), if_pos (show nI 5 = 5 by decide)]
    rfl
  · rw [if_neg (show ¬ nI 6 = 0 by decide), if_neg (show ¬ nI 6 = 1 by decide), if_neg (show ¬ nI 6 = 2 by decide), if_neg (show ¬ nI 6 = 3 by decide), if_neg (show ¬ nI 6 = 4 by decide), if_neg (show ¬ nI 6 = 5 by decide), if_pos (show nI 6 = 6 by decide)]
    rfl
  · rw [if_neg (show ¬ nI 7 = 0 by decide), if_neg (show ¬ nI 7 = 1 by decide), if_neg (show ¬ nI 7 = 2 by decide), if_neg (show ¬ nI 7 = 3 by decide), if_neg (show ¬ nI 7 = 4 by decide), if_neg (show ¬ nI 7 = 5 by decide), if_neg (show ¬ nI 7 = 6 by decide), if_pos (show nI 7 = 7 by decide)]
    rfl
  · rw [if_neg (show ¬ nI 8 = 0 by decide), if_neg (show ¬ nI 8 = 1 by decide), if_neg (show ¬ nI 8 = 2 by decide), if_neg (show ¬ nI 8 = 3 by decide), if_neg (show ¬ nI 8 = 4 by decide), if_neg (show ¬ nI 8 = 5 by decide), if_neg (show ¬ nI 8 = 6 by decide), if_neg (show ¬ nI 8 = 7 by decide)]
    rfl
theorem R_about {k : Bool} {S R nt t j : Nat} {σ α : Mem} (eS : S = 148) (hn : nt ≤ 21) (h : RE k S σ α R nt) (hD : okD α nt) (ht : t < nt) (hj : j < 9) : fn_X7_tollTold σ 141 (nI t) (nI j) = some (aAbout α t j) := by
  have hS : isS S := Or.inl eS
  have ht2 : t < 21 := by omega
  have hc : (nI t).toNatClampNeg = t := nI_clamp (by omega)
  have hcj : (nI j).toNatClampNeg = j := nI_clamp (by omega)
  have hd := okD_lt hD ht
  have jn : ∀ v, v = aSta α t → jn_X7_tollTold_34 σ 141 (nI t) (nI j) v = some (aAbout α t j) := by
    intro v hv
    subst hv
    unfold jn_X7_tollTold_34
    simp only [nm_so, rm_4, rm_5, rm_6, rm_7, b1_so, im_143 ht2, im_144 ht2, im_145 ht2, im_146 ht2, gd_tr, hc, RE_13 h ht, RE_14 h ht, RE_15 h ht, RE_16 h ht, rm9 eS, rs_13 hS, is_11 hS ht2, RE_17 h ht, rs_14 hS, is_12 hS ht2, RE_18 h ht, ck_M, R_tellers hn h ht, rs_15 hS, is_13 hS ht2, RE_19 h ht, ib9_0, ib9_1, ib9_2, ib9_3, ib9_4, ib9_5, ib9_6, ib9_7, ib9_8, ib_n hj, cl_0, cl_1, cl_2, cl_3, cl_4, cl_5, cl_6, cl_7, cl_8, hcj]
    rcases (show j = 0 ∨ j = 1 ∨ j = 2 ∨ j = 3 ∨ j = 4 ∨ j = 5 ∨ j = 6 ∨ j = 7 ∨ j = 8 by omega) with rfl | rfl | rfl | rfl | rfl | rfl | rfl | rfl | rfl <;> rfl
  unfold fn_X7_tollTold
  simp only [rm9 eS, b1_so, rs_15 hS, is_13 hS ht2, gd_tr, hc, RE_19 h ht, rs_13 hS, is_11 hS ht2, RE_17 h ht]
  by_cases h1 : α 19 t = -1
  · rw [if_pos h1]
    have h2 := hd.mpr h1
    by_cases h3 : α 17 t ≤ 0
    · rw [if_pos h3]
      exact jn 0 (by unfold aSta; rw [if_pos h2, if_pos h3])
    · rw [if_neg h3]
      exact jn 1 (by unfold aSta; rw [if_pos h2, if_neg h3])
  · rw [if_neg h1]
    exact jn 2 (by unfold aSta; rw [if_neg (fun h9 => h1 (hd.mp h9))])
def aSum (f : Nat → Int32) : Nat → Nat → Int32 → Int32
  | 0, _, y => y
  | d + 1, i, y => aSum f d (i + 1) (y + f i)
def aHeard (α : Mem) (t j : Nat) : Int32 := aSum (fun i => α (t + 100) i) (91 - j) j 0
theorem C_hd {R nt t : Nat} {σ α : Mem} (hn : nt ≤ 21) (h : CE true 1 σ α R nt) (ht : t < 21) {K : Int32 → Int32 → Option Int32} : ∀ d i fuel y, i + d = 91 → d < fuel → lp_X3_yearsCounted_8 σ (oO 1 t) K fuel y (nI i) = K (aSum (fun i => α (t + 100) i) d i y) (nI 91)
  | 0, i, fuel + 1, y, hi, _ => by
    have e : i = 91 := by omega
    subst e
    unfold lp_X3_yearsCounted_8
    rw [rf_O (Or.inl rfl) ht, b1_so, ck_Y (Or.inl rfl) ht, gd_tr, sl_Y1 ht, if_pos (nI_le (Nat.le_refl _) (by omega))]
    rfl
  | d + 1, i, fuel + 1, y, hi, hf => by
    have hi2 : i < 91 := by omega
    have hc : (nI i).toNatClampNeg = i := nI_clamp (by omega)
    unfold lp_X3_yearsCounted_8
    rw [rf_O (Or.inl rfl) ht, b1_so, ck_Y (Or.inl rfl) ht, gd_tr, sl_Y1 ht, if_neg (nI_ge hi2 (by omega)), b1_so, ia_mk (ck_Y (Or.inl rfl) ht) (sl_Y1 ht) hi2 (by omega), gd_tr, hc, CE_y h ht hi2, nm_so, nm_so, nI_1, C_hd hn h ht d (i + 1) fuel _ (by omega) (by omega)]
    rfl
theorem C_heard {R nt t j : Nat} {σ α : Mem} (hn : nt ≤ 21) (h : CE true 1 σ α R nt) (ht : t < 21) (hj : j ≤ 90) : fn_X3_yearsCounted σ (oO 1 t) (nI j) = some (aHeard α t j) := by
  unfold fn_X3_yearsCounted aHeard
  have e : (if 0 < nI j then nI j else 0) = nI j := by
    by_cases h1 : 0 < nI j
    · exact if_pos h1
    · rw [if_neg h1]
      have h2 : j = 0 := Decidable.byContradiction (fun h9 => h1 (nI_lt (a := 0) (by omega) (by omega)))
      rw [h2]
      rfl
  rw [nm_so, e, C_hd hn h ht (91 - j) j 93 0 (by omega) (by omega)]
theorem R_hd {S R nt t : Nat} {σ α : Mem} (h : RE true S σ α R nt) (ht : t < 21) {K : Int32 → Int32 → Option Int32} : ∀ d i fuel y, i + d = 91 → d < fuel → lp_X7_heardOf_5 σ 141 (nI t) K fuel y (nI i) = K (aSum (fun i => α (t + 100) i) d i y) (nI 91)
  | 0, i, fuel + 1, y, hi, _ => by
    have e : i = 91 := by omega
    subst e
    unfold lp_X7_heardOf_5
    rw [if_pos (show (91 : Int32) ≤ nI 91 by decide)]
    rfl
  | d + 1, i, fuel + 1, y, hi, hf => by
    have hi2 : i < 91 := by omega
    have e91 : (91 : Int32) * nI t + nI i = nI (91 * t + i) := by
      rw [show (91 : Int32) = nI 91 from rfl, pk_mul, nI_add]
    have hc : (nI (91 * t + i)).toNatClampNeg = 91 * t + i := nI_clamp (by omega)
    unfold lp_X7_heardOf_5
    rw [if_neg (show ¬ (91 : Int32) ≤ nI i from nI_ge (b := 91) hi2 (by omega)), rm_8, b1_so, e91, im_147 (show 91 * t + i < 1911 by omega), gd_tr, hc, RE_y h ht hi2, nm_so, nm_so, nI_1, R_hd h ht d (i + 1) fuel _ (by omega) (by omega)]
    rfl
theorem R_heard {S R nt t j : Nat} {σ α : Mem} (h : RE true S σ α R nt) (ht : t < 21) (hj : j ≤ 90) : fn_X7_heardOf σ 141 (nI t) (nI j) = some (aHeard α t j) := by
  unfold fn_X7_heardOf aHeard
  rw [R_hd h ht (91 - j) j 93 0 (by omega) (by omega)]
