/-! what is counted, class and reference -/
theorem up_s {f : Nat → Int32} {k : Nat} {x : Int32} : upd f k x k = x := by
  unfold upd
  simp
theorem up_n {f : Nat → Int32} {k j : Nat} {x : Int32} (h : j ≠ k) : upd f k x j = f j := by
  unfold upd
  simp [h]
def aNd (α : Mem) (nt b : Nat) : Int32 := aSum (fun t => if α 13 t = nI b ∧ α 19 t < 0 then 1 else 0) nt 0 0
def aBellT (α : Mem) (nt b : Nat) : Nat → Int32
  | 0 => α 0 b
  | 1 => α 5 b
  | 2 => α 7 b
  | 3 => α 1 b
  | 4 => α 2 b
  | 5 => α 23 b
  | 6 => α 3 b
  | 7 => aNd α nt b
  | _ => α 4 b
theorem C_nd {k : Bool} {T R nt b : Nat} {σ α : Mem} (hT : isT T) (hn : nt ≤ 21) (h : CE k T σ α R nt) (hN : α 25 0 = nI nt) {K : Int32 → Int32 → Option Int32} : ∀ d i fuel y, i + d = nt → d < fuel → lp_X4_tollsNotDone_4 σ T (nI b) K fuel y (nI i) = K (aSum (fun t => if α 13 t = nI b ∧ α 19 t < 0 then 1 else 0) d i y) (nI nt)
  | 0, i, fuel + 1, y, hi, _ => by
    unfold lp_X4_tollsNotDone_4 aSum
    rw [ck_T hT, gd_tr, CE_25 h, hN, if_pos (nI_le (by omega) (by omega)), show i = nt by omega]
  | d + 1, i, fuel + 1, y, hi, hf => by
    have hit : i < nt := by omega
    have hi2 : i < 21 := by omega
    have ih := fun y => C_nd hT hn h hN (b := b) (K := K) d (i + 1) fuel y (by omega) (by omega)
    unfold lp_X4_tollsNotDone_4 aSum
    simp only [ck_T hT, gd_tr, CE_25 h, hN, rf_T2 hT, b1_so, ea_O hT hi2, ck_O hT hi2, CE_13 h hit, lf_isDone (ck_O hT hi2), CE_19 h hit, nm_so, nI_1, ih]
    rw [if_neg (nI_ge (by omega) (by omega))]
    by_cases h1 : α 13 i = nI b
    · rw [if_pos h1]
      by_cases h2 : α 19 i < 0
      · rw [if_pos h2, if_pos rfl, if_pos ⟨h1, h2⟩]
      · rw [if_neg h2, if_neg (show ¬ (1 : Int32) = 0 by decide), if_neg (fun h => h2 h.2), Int32.add_zero]
    · rw [if_neg h1, if_neg (fun h => h1 h.1), Int32.add_zero]
theorem C_bellT {k : Bool} {T R nt b j : Nat} {σ α : Mem} (hT : isT T) (hn : nt ≤ 21) (h : CE k T σ α R nt) (hN : α 25 0 = nI nt) (hb : b < 4) (hj : j < 9) : fn_X4_ofBell σ T (nI b) (nI j) = some (aBellT α nt b j) := by
  have eN : fn_X4_tollsNotDone σ T (nI b) = some (aNd α nt b) := C_nd hT hn h hN (b := b) (K := fun x10 x11 => some x10) nt 0 30 0 (by omega) (by omega)
  unfold fn_X4_ofBell
  simp only [rf_T0 hT, b1_so, ea_B hT hb, ck_B hT hb, gd_tr, rf_B0 hT hb, rf_B1 hT hb, ck_H hT hb, ck_K hT hb, ck_T hT, CE_0 h hb, CE_1 h hb, CE_2 h hb, CE_3 h hb, CE_4 h hb, CE_5 h hb, CE_7 h hb, CE_23 h hb, eN]
  rcases (show j = 0 ∨ j = 1 ∨ j = 2 ∨ j = 3 ∨ j = 4 ∨ j = 5 ∨ j = 6 ∨ j = 7 ∨ j = 8 by omega) with rfl | rfl | rfl | rfl | rfl | rfl | rfl | rfl | rfl
  · rw [if_pos (show nI 0 = 0 by decide)]
    rfl
  · rw [if_neg (show ¬ nI 1 = 0 by decide), if_pos (show nI 1 = 1 by decide)]
    rfl
  · rw [if_neg (show ¬ nI 2 = 0 by decide), if_neg (show ¬ nI 2 = 1 by decide), if_pos (show nI 2 = 2 by decide)]
    rfl
  · rw [if_neg (show ¬ nI 3 = 0 by decide), if_neg (show ¬ nI 3 = 1 by decide), if_neg (show ¬ nI 3 = 2 by decide), if_pos (show nI 3 = 3 by decide)]
    rfl
  · rw [if_neg (show ¬ nI 4 = 0 by decide), if_neg (show ¬ nI 4 = 1 by decide), if_neg (show ¬ nI 4 = 2 by decide), if_neg (show ¬ nI 4 = 3 by decide), if_pos (show nI 4 = 4 by decide)]
    rfl
  · rw [if_neg (show ¬ nI 5 = 0 by decide), if_neg (show ¬ nI 5 = 1 by decide), if_neg (show ¬ nI 5 = 2 by decide), if_neg (show ¬ nI 5 = 3 by decide), if_neg (show ¬ nI 5 = 4 by decide), if_pos (show nI 5 = 5 by decide)]
    rfl
  · rw [if_neg (show ¬ nI 6 = 0 by decide), if_neg (show ¬ nI 6 = 1 by decide), if_neg (show ¬ nI 6 = 2 by decide), if_neg (show ¬ nI 6 = 3 by decide), if_neg (show ¬ nI 6 = 4 by decide), if_neg (show ¬ nI 6 = 5 by decide), if_pos (show nI 6 = 6 by decide)]
    rfl
  · rw [if_neg (show ¬ nI 7 = 0 by decide), if_neg (show ¬ nI 7 = 1 by decide), if_neg (show ¬ nI 7 = 2 by decide), if_neg (show ¬ nI 7 = 3 by decide), if_neg (show ¬ nI 7 = 4 by decide), if_neg (show ¬ nI 7 = 5 by decide), if_neg (show ¬ nI 7 = 6 by decide), if_pos (show nI 7 = 7 by decide)]
    rfl
  · rw [if_neg (show ¬ nI 8 = 0 by decide), if_neg (show ¬ nI 8 = 1 by decide), if_neg (show ¬ nI 8 = 2 by decide), if_neg (show ¬ nI 8 = 3 by decide), if_neg (show ¬ nI 8 = 4 by decide), if_neg (show ¬ nI 8 = 5 by decide), if_neg (show ¬ nI 8 = 6 by decide), if_neg (show ¬ nI 8 = 7 by decide)]
    rfl
theorem R_nd {k : Bool} {S R nt b : Nat} {σ α : Mem} (eS : S = 148) (hn : nt ≤ 21) (h : RE k S σ α R nt) (hN : σ 141 3 = nI nt) (hD : okD α nt) {p : Int32} {K : Int32 → Int32 → Option Int32} : ∀ d i fuel y, i + d = nt → d < fuel → lp_X7_bellTold_5 σ 141 (nI b) p K fuel y (nI i) = K (aSum (fun t => if α 13 t = nI b ∧ α 19 t < 0 then 1 else 0) d i y) (nI nt)
  | 0, i, fuel + 1, y, hi, _ => by
    unfold lp_X7_bellTold_5 aSum
    rw [ck_M, gd_tr, hN, if_pos (nI_le (by omega) (by omega)), show i = nt by omega]
  | d + 1, i, fuel + 1, y, hi, hf => by
    have hS : isS S := Or.inl eS
    have hit : i < nt := by omega
    have hi2 : i < 21 := by omega
    have hc : (nI i).toNatClampNeg = i := nI_clamp (by omega)
    have hd := okD_lt hD hit
    have ih := fun y => R_nd eS hn h hN hD (b := b) (p := p) (K := K) d (i + 1) fuel y (by omega) (by omega)
    unfold lp_X7_bellTold_5 aSum
    simp only [ck_M, gd_tr, hN, rm_4, b1_so, im_143 hi2, hc, RE_13 h hit, rm9 eS, rs_15 hS, is_13 hS hi2, RE_19 h hit, nm_so, nI_1, ih]
    rw [if_neg (nI_ge (by omega) (by omega))]
    by_cases h1 : α 13 i = nI b
    · rw [if_pos h1]
      by_cases h2 : α 19 i = -1
      · rw [if_pos h2, if_pos ⟨h1, hd.mpr h2⟩]
      · rw [if_neg h2, if_neg (fun h => h2 (hd.mp h.2))]
    · rw [if_neg h1, if_neg (fun h => h1 h.1)]
theorem R_bellT {k : Bool} {S R nt b j : Nat} {σ α : Mem} (eS : S = 148) (hn : nt ≤ 21) (h : RE k S σ α R nt) (hN : α 25 0 = nI nt) (hN3 : σ 141 3 = nI nt) (hD : okD α nt) (hI : α 23 b = aFirst α nt (nI b)) (hb : b < 4) (hj : j < 9) : fn_X7_bellTold σ 141 (nI b) (nI j) = some (aBellT α nt b j) := by
  have hS : isS S := Or.inl eS
  have hcb : (nI b).toNatClampNeg = b := nI_clamp (by omega)
  have hcj : (nI j).toNatClampNeg = j := nI_clamp (by omega)
  have l0 : 2 * nI b = nI (2 * b) := by
    rw [show (2 : Int32) = nI 2 from rfl, pk_mul]
  have c0 : (nI (2 * b)).toNatClampNeg = 2 * b := nI_clamp (by omega)
  have c1 : (nI (2 * b + 1)).toNatClampNeg = 2 * b + 1 := nI_clamp (by omega)
  have i0 : 2 * b < 8 := by omega
  have i1 : 2 * b + 1 < 8 := by omega
  unfold fn_X7_bellTold
  rw [show (0 : Int32) = nI 0 from rfl, R_nd eS hn h hN3 hD nt 0 30 (nI 0) (by omega) (by omega)]
  simp only [nm_so, rm9 eS, b1_so, rs_3 hS, is_1 hS hb, gd_tr, hcb, RE_0 h hb, rs_4 hS, l0, nI_1, is_2 hS i0, is_2 hS i1, c0, c1, RE_5 h hb, RE_7 h hb, rs_6 hS, is_4 hS hb, RE_1 h hb, rs_7 hS, is_5 hS hb, RE_2 h hb, ck_S hS, R_first hS hn h hN hD, rs_8 hS, is_6 hS hb, RE_3 h hb, rs_9 hS, is_7 hS hb, RE_4 h hb, show inb (nI 0) 9 = true by decide, ib9_0, ib9_1, ib9_2, ib9_3, ib9_4, ib9_5, ib9_6, ib9_7, ib9_8, ib_n hj, show (nI 0).toNatClampNeg = 0 by decide, cl_0, cl_1, cl_2, cl_3, cl_4, cl_5, cl_6, cl_7, cl_8, hcj]
  rw [← hI]
  rcases (show j = 0 ∨ j = 1 ∨ j = 2 ∨ j = 3 ∨ j = 4 ∨ j = 5 ∨ j = 6 ∨ j = 7 ∨ j = 8 by omega) with rfl | rfl | rfl | rfl | rfl | rfl | rfl | rfl | rfl <;> rfl
def aRopes (α : Mem) (nr : Nat) : Int32 := aSum (fun r => if α 22 r = -1 then 0 else 1) nr 0 0
def aDn (α : Mem) (nt : Nat) : Int32 := aSum (fun t => if α 19 t < 0 then 0 else 1) nt 0 0
def aLs (α : Mem) : Nat → Nat → Int32 → Int32
  | 0, _, y => y
  | d + 1, b, y => aLs α d (b + 1) (y + (if α 5 b ≤ 0 then 0 else 1) + (if α 7 b ≤ 0 then 0 else 1))
def aCount (α : Mem) (nr nt : Nat) : Nat → Int32
  | 0 => α 20 0
  | 1 => α 24 0
  | 2 => aRopes α nr
  | 3 => α 25 0
  | 4 => aDn α nt
  | 5 => aSum (fun b => α 4 b) 4 0 0
  | 6 => aSum (fun t => α 18 t) nt 0 0
  | 7 => α 21 0
  | _ => aLs α 4 0 0
theorem C_ropes {k : Bool} {T R nt nr : Nat} {σ α : Mem} (hT : isT T) (hR : R ≤ 12) (h : CE k T σ α R nt) (hN : α 24 0 = nI nr) (hnr : nr ≤ R) {K : Int32 → Int32 → Option Int32} : ∀ d i fuel y, i + d = nr → d < fuel → lp_X4_ringersAtRopes_4 σ T K fuel y (nI i) = K (aSum (fun r => if α 22 r = -1 then 0 else 1) d i y) (nI nr)
  | 0, i, fuel + 1, y, hi, _ => by
    unfold lp_X4_ringersAtRopes_4 aSum
    rw [ck_T hT, gd_tr, CE_24 h, hN, if_pos (nI_le (by omega) (by omega)), show i = nr by omega]
  | d + 1, i, fuel + 1, y, hi, hf => by
    have hit : i < R := by omega
    have hi2 : i < 12 := by omega
    have ih := fun y => C_ropes hT hR h hN hnr (K := K) d (i + 1) fuel y (by omega) (by omega)
    unfold lp_X4_ringersAtRopes_4 aSum
    simp only [ck_T hT, gd_tr, CE_24 h, hN, rf_T1 hT, b1_so, ea_R hT hi2, ck_R hT hi2, lf_rests (ck_R hT hi2), CE_22 h hit, nm_so, nI_1, ih]
    rw [if_neg (nI_ge (by omega) (by omega))]
    by_cases h1 : α 22 i = -1
    · rw [if_pos h1, if_neg (show ¬ (1 : Int32) = 0 by decide), if_pos h1]
    · rw [if_neg h1, if_pos rfl, if_neg h1]
theorem C_dn {k : Bool} {T R nt : Nat} {σ α : Mem} (hT : isT T) (hn : nt ≤ 21) (h : CE k T σ α R nt) (hN : α 25 0 = nI nt) {K : Int32 → Int32 → Option Int32} : ∀ d i fuel y, i + d = nt → d < fuel → lp_X4_tollsDone_4 σ T K fuel y (nI i) = K (aSum (fun t => if α 19 t < 0 then 0 else 1) d i y) (nI nt)
  | 0, i, fuel + 1, y, hi, _ => by
    unfold lp_X4_tollsDone_4 aSum
    rw [ck_T hT, gd_tr, CE_25 h, hN, if_pos (nI_le (by omega) (by omega)), show i = nt by omega]
  | d + 1, i, fuel + 1, y, hi, hf => by
    have hit : i < nt := by omega
    have hi2 : i < 21 := by omega
    have ih := fun y => C_dn hT hn h hN (K := K) d (i + 1) fuel y (by omega) (by omega)
    unfold lp_X4_tollsDone_4 aSum
    simp only [ck_T hT, gd_tr, CE_25 h, hN, rf_T2 hT, b1_so, ea_O hT hi2, ck_O hT hi2, lf_isDone (ck_O hT hi2), CE_19 h hit, nm_so, nI_1, ih]
    rw [if_neg (nI_ge (by omega) (by omega))]
    by_cases h1 : α 19 i < 0
    · rw [if_pos h1, if_pos rfl]
    · rw [if_neg h1, if_neg (show ¬ (1 : Int32) = 0 by decide)]
theorem C_st {k : Bool} {T R nt : Nat} {σ α : Mem} (hT : isT T) (h : CE k T σ α R nt) {K : Int32 → Int32 → Option Int32} : ∀ d i fuel y, i + d = 4 → d < fuel → lp_X4_strokesInAll_4 σ T K fuel y (nI i) = K (aSum (fun b => α 4 b) d i y) (nI 4)
  | 0, i, fuel + 1, y, hi, _ => by
    have e : i = 4 := by omega
    subst e
    unfold lp_X4_strokesInAll_4 aSum
    rw [if_pos (show (4 : Int32) ≤ nI 4 by decide)]
  | d + 1, i, fuel + 1, y, hi, hf => by
    have hi4 : i < 4 := by omega
    unfold lp_X4_strokesInAll_4 aSum
    rw [if_neg (show ¬ (4 : Int32) ≤ nI i from nI_ge (b := 4) hi4 (by omega)), rf_T0 hT, b1_so, ea_B hT hi4, b1_so, ck_B hT hi4, gd_tr, CE_4 h hi4, nm_so, nm_so, nI_1, C_st hT h d (i + 1) fuel _ (by omega) (by omega)]
theorem C_ld {k : Bool} {T R nt : Nat} {σ α : Mem} (hT : isT T) (hn : nt ≤ 21) (h : CE k T σ α R nt) (hN : α 25 0 = nI nt) {K : Int32 → Int32 → Option Int32} : ∀ d i fuel y, i + d = nt → d < fuel → lp_X4_loudInAll_4 σ T K fuel y (nI i) = K (aSum (fun t => α 18 t) d i y) (nI nt)
  | 0, i, fuel + 1, y, hi, _ => by
    unfold lp_X4_loudInAll_4 aSum
    rw [ck_T hT, gd_tr, CE_25 h, hN, if_pos (nI_le (by omega) (by omega)), show i = nt by omega]
  | d + 1, i, fuel + 1, y, hi, hf => by
    have hit : i < nt := by omega
    have hi2 : i < 21 := by omega
    unfold lp_X4_loudInAll_4 aSum
    rw [ck_T hT, gd_tr, CE_25 h, hN, if_neg (nI_ge (by omega) (by omega)), rf_T2 hT, b1_so, ea_O hT hi2, b1_so, ck_O hT hi2, gd_tr, CE_18 h hit, nm_so, nm_so, nI_1, C_ld hT hn h hN d (i + 1) fuel _ (by omega) (by omega)]
theorem C_l2 {k : Bool} {T R nt b : Nat} {σ α : Mem} (hT : isT T) (h : CE k T σ α R nt) (hb : b < 4) {K : Int32 → Int32 → Option Int32} (fuel : Nat) (y : Int32) : lp_X4_leathersOnBells_11 σ T (nI b) K (fuel + 3) y 0 = K (y + (if α 5 b ≤ 0 then 0 else 1) + (if α 7 b ≤ 0 then 0 else 1)) 2 := by
  have s2 : ∀ y, lp_X4_leathersOnBells_11 σ T (nI b) K (fuel + 1) y 2 = K y 2 := fun y => by
    unfold lp_X4_leathersOnBells_11
    rw [if_pos (show (2 : Int32) ≤ 2 by decide)]
  have s1 : ∀ y, lp_X4_leathersOnBells_11 σ T (nI b) K (fuel + 2) y 1 = K (y + (if α 7 b ≤ 0 then 0 else 1)) 2 := fun y => by
    unfold lp_X4_leathersOnBells_11
    rw [if_neg (show ¬ (2 : Int32) ≤ 1 by decide), rf_T0 hT, b1_so, ea_B hT hb, b1_so, ck_B hT hb, gd_tr, lf_left1 hT hb (show ¬ (1 : Int32) = 0 by decide), b1_so, ck_K hT hb, gd_tr, CE_7 h hb]
    by_cases h1 : α 7 b ≤ 0
    · rw [if_pos h1, if_pos h1, nm_so, nm_so, show (1 : Int32) + 1 = 2 by decide, s2]
    · rw [if_neg h1, if_neg h1, nm_so, nm_so, show (1 : Int32) + 1 = 2 by decide, s2]
  unfold lp_X4_leathersOnBells_11
  rw [if_neg (show ¬ (2 : Int32) ≤ 0 by decide), rf_T0 hT, b1_so, ea_B hT hb, b1_so, ck_B hT hb, gd_tr, lf_left0 hT hb, b1_so, ck_H hT hb, gd_tr, CE_5 h hb]
  by_cases h1 : α 5 b ≤ 0
  · rw [if_pos h1, if_pos h1, nm_so, nm_so, show (0 : Int32) + 1 = 1 by decide, s1]
  · rw [if_neg h1, if_neg h1, nm_so, nm_so, show (0 : Int32) + 1 = 1 by decide, s1]
theorem C_lth {k : Bool} {T R nt : Nat} {σ α : Mem} (hT : isT T) (h : CE k T σ α R nt) {K : Int32 → Int32 → Option Int32} : ∀ d i fuel y, i + d = 4 → d < fuel → lp_X4_leathersOnBells_4 σ T K fuel y (nI i) = K (aLs α d i y) (nI 4)
  | 0, i, fuel + 1, y, hi, _ => by
    have e : i = 4 := by omega
    subst e
    unfold lp_X4_leathersOnBells_4 aLs
    rw [if_pos (show (4 : Int32) ≤ nI 4 by decide)]
  | d + 1, i, fuel + 1, y, hi, hf => by
    have hi4 : i < 4 := by omega
    unfold lp_X4_leathersOnBells_4 aLs
    rw [if_neg (show ¬ (4 : Int32) ≤ nI i from nI_ge (b := 4) hi4 (by omega)), C_l2 hT h hi4 27 y, nm_so, nI_1, C_lth hT h d (i + 1) fuel _ (by omega) (by omega)]
theorem C_count {k : Bool} {T R nt nr j : Nat} {σ α : Mem} (hT : isT T) (hR : R ≤ 12) (hn : nt ≤ 21) (h : CE k T σ α R nt) (hN : α 24 0 = nI nr) (hnr : nr ≤ R) (hN2 : α 25 0 = nI nt) (hj : j < 9) : fn_X4_inAll σ T (nI j) = some (aCount α nr nt j) := by
  have e2 : fn_X4_ringersAtRopes σ T = some (aRopes α nr) := C_ropes hT hR h hN hnr (K := fun x8 x9 => some x8) nr 0 30 0 (by omega) (by omega)
  have e4 : fn_X4_tollsDone σ T = some (aDn α nt) := C_dn hT hn h hN2 (K := fun x8 x9 => some x8) nt 0 30 0 (by omega) (by omega)
  have e5 : fn_X4_strokesInAll σ T = some (aSum (fun b => α 4 b) 4 0 0) := C_st hT h (K := fun x8 x9 => some x8) 4 0 30 0 (by omega) (by omega)
  have e6 : fn_X4_loudInAll σ T = some (aSum (fun t => α 18 t) nt 0 0) := C_ld hT hn h hN2 (K := fun x8 x9 => some x8) nt 0 30 0 (by omega) (by omega)
  have e8 : fn_X4_leathersOnBells σ T = some (aLs α 4 0 0) := C_lth hT h (K := fun x8 x9 => some x8) 4 0 30 0 (by omega) (by omega)
  unfold fn_X4_inAll
  simp only [ck_T hT, gd_tr, CE_20 h, CE_24 h, CE_25 h, CE_21 h, e2, e4, e5, e6, e8, b1_so]
  rcases (show j = 0 ∨ j = 1 ∨ j = 2 ∨ j = 3 ∨ j = 4 ∨ j = 5 ∨ j = 6 ∨ j = 7 ∨ j = 8 by omega) with rfl | rfl | rfl | rfl | rfl | rfl | rfl | rfl | rfl
  · rw [if_pos (show nI 0 = 0 by decide)]
    rfl
  · rw [if_neg (show ¬ nI 1 = 0 by decide), if_pos (show nI 1 = 1 by decide)]
    rfl
  · rw [if_neg (show ¬ nI 2 = 0 by decide), if_neg (show ¬ nI 2 = 1 by decide), if_pos (show nI 2 = 2 by decide)]
    rfl
  · rw [if_neg (show ¬ nI 3 = 0 by decide), if_neg (show ¬ nI 3 = 1 by decide), if_neg (show ¬ nI 3 = 2 by decide), if_pos (show nI 3 = 3 by decide)]
    rfl
  · rw [if_neg (show ¬ nI 4 = 0 by decide), if_neg (show ¬ nI 4 = 1 by decide), if_neg (show ¬ nI 4 = 2 by decide), if_neg (show ¬ nI 4 = 3 by decide), if_pos (show nI 4 = 4 by decide)]
    rfl
  · rw [if_neg (show ¬ nI 5 = 0 by decide), if_neg (show ¬ nI 5 = 1 by decide), if_neg (show ¬ nI 5 = 2 by decide), if_neg (show ¬ nI 5 = 3 by decide), if_neg (show ¬ nI 5 = 4 by decide), if_pos (show nI 5 = 5 by decide)]
    rfl
  · rw [if_neg (show ¬ nI 6 = 0 by decide), if_neg (show ¬ nI 6 = 1 by decide), if_neg (show ¬ nI 6 = 2 by decide), if_neg (show ¬ nI 6 = 3 by decide), if_neg (show ¬ nI 6 = 4 by decide), if_neg (show ¬ nI 6 = 5 by decide), if_pos (show nI 6 = 6 by decide)]
    rfl
  · rw [if_neg (show ¬ nI 7 = 0 by decide), if_neg (show ¬ nI 7 = 1 by decide), if_neg (show ¬ nI 7 = 2 by decide), if_neg (show ¬ nI 7 = 3 by decide), if_neg (show ¬ nI 7 = 4 by decide), if_neg (show ¬ nI 7 = 5 by decide), if_neg (show ¬ nI 7 = 6 by decide), if_pos (show nI 7 = 7 by decide)]
    rfl
  · rw [if_neg (show ¬ nI 8 = 0 by decide), if_neg (show ¬ nI 8 = 1 by decide), if_neg (show ¬ nI 8 = 2 by decide), if_neg (show ¬ nI 8 = 3 by decide), if_neg (show ¬ nI 8 = 4 by decide), if_neg (show ¬ nI 8 = 5 by decide), if_neg (show ¬ nI 8 = 6 by decide), if_neg (show ¬ nI 8 = 7 by decide)]
    rfl
