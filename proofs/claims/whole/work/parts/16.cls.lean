/-! the class does as the abstract -/
theorem lf_isDone {σ : Mem} {L : Nat} (hL : ck L 3 = true) : fn_X3_isDone σ L = some (if σ L 7 < 0 then 0 else 1) := by
  unfold fn_X3_isDone
  simp only [hL, gd_tr]
  split <;> rfl
theorem lf_tellers {σ : Mem} {L : Nat} (hL : ck L 3 = true) : fn_X3_tellers σ L = some (3 * (σ L 2 + 1)) := by
  unfold fn_X3_tellers
  simp only [hL, gd_tr]
theorem lf_due {σ : Mem} {L : Nat} (hL : ck L 3 = true) : fn_X3_strokesDue σ L = some (3 * (σ L 2 + 1) + σ L 3) := by
  unfold fn_X3_strokesDue
  simp only [hL, gd_tr, lf_tellers hL, b1_so]
theorem lf_rests {σ : Mem} {L : Nat} (hL : ck L 2 = true) : fn_X2_rests σ L = some (if σ L 2 = -1 then 1 else 0) := by
  unfold fn_X2_rests
  simp only [hL, gd_tr]
  split <;> rfl
theorem lf_can {σ : Mem} {L : Nat} {w : Int32} (hL : ck L 2 = true) : fn_X2_canPull σ L w = some (if 10 * σ L 0 < σ L 1 + w then 0 else 1) := by
  unfold fn_X2_canPull
  simp only [hL, gd_tr]
  split <;> rfl
theorem lf_wear {σ : Mem} {L : Nat} {w : Int32} (hL : ck L 1 = true) : fn_X1_wear σ L w = some (if σ L 0 = 0 then σ else if σ L 1 + w < 10 * σ L 0 then sI σ L 1 (σ L 1 + w) else sI (sI (sI σ L 1 (σ L 1 + w)) L 0 0) L 1 0) := by
  unfold fn_X1_wear fn_X1_renew
  simp only [hL, gd_tr, nm_so, b1_so, sI_s, sI_10]
  split
  · rfl
  · split <;> rfl
theorem lf_reach {σ : Mem} {L : Nat} {w : Int32} (hL : ck L 1 = true) (hd : ¬ 1 + σ L 0 = 0) : fn_X1_reach σ L w = some (aRch (σ L 0) w) := by
  unfold fn_X1_reach aRch
  simp only [hL, gd_tr, hd, not_false_eq_true, decide_true]
  split <;> rfl
theorem lf_left0 {σ : Mem} {T b : Nat} (hT : isT T) (hb : b < 4) : fn_X0_leather σ (oB T b) 0 = some (oH T b) := by
  unfold fn_X0_leather
  simp only [rf_B0 hT hb, b1_so, if_true]
theorem lf_left1 {σ : Mem} {T b : Nat} {x : Int32} (hT : isT T) (hb : b < 4) (hx : ¬ x = 0) : fn_X0_leather σ (oB T b) x = some (oK T b) := by
  unfold fn_X0_leather
  simp only [rf_B1 hT hb, b1_so, hx, if_false]
theorem C_pull {k : Bool} {T R nt : Nat} {σ α : Mem} (hT : isT T) (hR : R ≤ 12) (hn : nt ≤ 21) (h : CE k T σ α R nt) {r : Nat} (w : Int32) (hr : r < R) : cR k T R nt σ (aPull α r w) (fn_X2_pull σ (oR T r) w) := by
  have hr2 : r < 12 := Nat.lt_of_lt_of_le hr hR
  have h1 := CW_10 (α 10 r + w) hT hR hn hr h
  have h2 := CW_11 (α 11 r + 1) hT hR hn hr h1
  refine ⟨_, ?_, h2, Fc_w (Fc_w Fc_0 (rgR hr2)) (rgR hr2)⟩
  have e1 : (sI σ (oR T r) 1 (α 10 r + w)) (oR T r) 3 = α 11 r := CE_11 h1 hr
  unfold fn_X2_pull
  simp only [ck_R hT hr2, gd_tr, nm_so, CE_10 h hr, e1]
theorem C_turn {k : Bool} {T R nt : Nat} {σ α : Mem} (hT : isT T) (hR : R ≤ 12) (hn : nt ≤ 21) (h : CE k T σ α R nt) {b : Nat} (hb : b < 4) : cR k T R nt σ (aTurn α b) (fn_X0_turn σ (oB T b)) := by
  have h1 := CW_1 (1 - α 1 b) hT hR hn hb h
  have h2 := CW_4 (α 4 b + 1) hT hR hn hb h1
  refine ⟨_, ?_, h2, Fc_w (Fc_w Fc_0 (rgB hb)) (rgB hb)⟩
  have e1 : (sI σ (oB T b) 3 (1 - α 1 b)) (oB T b) 7 = α 4 b := CE_4 h1 hb
  unfold fn_X0_turn
  simp only [ck_B hT hb, gd_tr, nm_so, CE_1 h hb, e1]
theorem C_wearH {k : Bool} {T R nt : Nat} {σ α : Mem} (hT : isT T) (hR : R ≤ 12) (hn : nt ≤ 21) (h : CE k T σ α R nt) {b : Nat} (w : Int32) (hb : b < 4) : cR k T R nt σ (aWear α b 5 6 w) (fn_X1_wear σ (oH T b) w) := by
  rw [lf_wear (ck_H hT hb), CE_5 h hb, CE_6 h hb]
  unfold aWear
  by_cases h1 : α 5 b = 0
  · rw [if_pos h1, if_pos h1]
    exact ⟨_, rfl, h, Fc_0⟩
  · rw [if_neg h1, if_neg h1]
    have h3 := CW_6 (α 6 b + w) hT hR hn hb h
    by_cases h2 : α 6 b + w < 10 * α 5 b
    · rw [if_pos h2, if_pos h2]
      exact ⟨_, rfl, h3, Fc_w Fc_0 (rgH hb)⟩
    · rw [if_neg h2, if_neg h2]
      exact ⟨_, rfl, CW_6 0 hT hR hn hb (CW_5 0 hT hR hn hb h3), Fc_w (Fc_w (Fc_w Fc_0 (rgH hb)) (rgH hb)) (rgH hb)⟩
theorem C_wearK {k : Bool} {T R nt : Nat} {σ α : Mem} (hT : isT T) (hR : R ≤ 12) (hn : nt ≤ 21) (h : CE k T σ α R nt) {b : Nat} (w : Int32) (hb : b < 4) : cR k T R nt σ (aWear α b 7 8 w) (fn_X1_wear σ (oK T b) w) := by
  rw [lf_wear (ck_K hT hb), CE_7 h hb, CE_8 h hb]
  unfold aWear
  by_cases h1 : α 7 b = 0
  · rw [if_pos h1, if_pos h1]
    exact ⟨_, rfl, h, Fc_0⟩
  · rw [if_neg h1, if_neg h1]
    have h3 := CW_8 (α 8 b + w) hT hR hn hb h
    by_cases h2 : α 8 b + w < 10 * α 7 b
    · rw [if_pos h2, if_pos h2]
      exact ⟨_, rfl, h3, Fc_w Fc_0 (rgK hb)⟩
    · rw [if_neg h2, if_neg h2]
      exact ⟨_, rfl, CW_8 0 hT hR hn hb (CW_7 0 hT hR hn hb h3), Fc_w (Fc_w (Fc_w Fc_0 (rgK hb)) (rgK hb)) (rgK hb)⟩
theorem lf_isR {σ : Mem} {T : Nat} {x : Int32} (hT : isT T) : fn_X4_isRinger σ T x = some (if x < 0 then 0 else if σ T 4 ≤ x then 0 else 1) := by
  unfold fn_X4_isRinger
  simp only [ck_T hT, gd_tr]
  split
  · rfl
  · split <;> rfl
theorem lf_isO {σ : Mem} {T : Nat} {x : Int32} (hT : isT T) : fn_X4_isToll σ T x = some (if x < 0 then 0 else if σ T 5 ≤ x then 0 else 1) := by
  unfold fn_X4_isToll
  simp only [ck_T hT, gd_tr]
  split
  · rfl
  · split <;> rfl
theorem isR_m {σ : Mem} {T : Nat} (hT : isT T) : fn_X4_isRinger σ T (-1) = some 0 := by
  rw [lf_isR hT, if_pos (by decide)]
theorem isO_m {σ : Mem} {T : Nat} (hT : isT T) : fn_X4_isToll σ T (-1) = some 0 := by
  rw [lf_isO hT, if_pos (by decide)]
theorem isR_y {σ : Mem} {T nr r : Nat} (hT : isT T) (e : σ T 4 = nI nr) (hr : r < nr) (h : nr ≤ 12) : fn_X4_isRinger σ T (nI r) = some 1 := by
  rw [lf_isR hT, e, if_neg (nI_pos (by omega)), if_neg (nI_ge hr (by omega))]
theorem isO_y {σ : Mem} {T nt t : Nat} (hT : isT T) (e : σ T 5 = nI nt) (ht : t < nt) (h : nt ≤ 21) : fn_X4_isToll σ T (nI t) = some 1 := by
  rw [lf_isO hT, e, if_neg (nI_pos (by omega)), if_neg (nI_ge ht (by omega))]
theorem C_empty {k : Bool} {T R nt nr : Nat} {σ α : Mem} (hT : isT T) (hR : R ≤ 12) (hn : nt ≤ 21) (h : CE k T σ α R nt) (hN2 : α 24 0 = nI nr) (hnr : nr ≤ R) {b : Nat} (hb : b < 4) (ho : okR α nr b) : cR k T R nt σ (aEmpty α b) (fn_X4_emptyRope σ T (oB T b)) := by
  unfold fn_X4_emptyRope aEmpty
  simp only [ck_B hT hb, gd_tr, CE_2 h hb, rf_T1 hT, b1_so, nm_so, ck_T hT, CE_24 h, hN2]
  rcases ho with ho | ⟨r, hr, ho⟩
  · rw [ho, if_pos (by decide), if_pos (by decide)]
    exact ⟨_, rfl, CW_2 (-1) hT hR hn hb h, Fc_w Fc_0 (rgB hb)⟩
  · have hr1 : r < R := Nat.lt_of_lt_of_le hr hnr
    have hr2 : r < 12 := Nat.lt_of_lt_of_le hr1 hR
    have h9 : ¬ nI r < 0 := nI_pos (by omega)
    rw [ho, if_neg h9, if_neg h9, if_neg (nI_ge hr (by omega)), ea_R hT hr2, cN_n (by omega)]
    simp only [b1_so, ck_R hT hr2, gd_tr]
    have h3 := CW_22 (-1) hT hR hn hr1 h
    exact ⟨_, rfl, CW_2 (-1) hT hR hn hb h3, Fc_w (Fc_w Fc_0 (rgR hr2)) (rgB hb)⟩
theorem C_ffirst {k : Bool} {T R nt : Nat} {σ α : Mem} (hT : isT T) (hn : nt ≤ 21) (h : CE k T σ α R nt) (hN : α 25 0 = nI nt) (x : Int32) {K : Int32 → Option Int32} (hK : K (nI nt) = some (-1)) : ∀ d i fuel, i + d = nt → d < fuel → lp_X4_firstNotDone_2 σ T x K fuel (nI i) = some (aFf α x d i)
  | 0, i, fuel + 1, hi, _ => by
    unfold lp_X4_firstNotDone_2 aFf
    rw [ck_T hT, gd_tr, CE_25 h, hN, if_pos (nI_le (by omega) (by omega)), show i = nt by omega, hK]
  | d + 1, i, fuel + 1, hi, hf => by
    have hit : i < nt := by omega
    have hi2 : i < 21 := by omega
    unfold lp_X4_firstNotDone_2 aFf
    simp only [ck_T hT, gd_tr, CE_25 h, hN, rf_T2 hT, b1_so, ea_O hT hi2, ck_O hT hi2, CE_13 h hit, lf_isDone (ck_O hT hi2), CE_19 h hit, nm_so, nI_1]
    rw [if_neg (nI_ge (by omega) (by omega)), C_ffirst hT hn h hN x hK d (i + 1) fuel (by omega) (by omega)]
    by_cases h1 : α 13 i = x
    · rw [if_pos h1]
      by_cases h2 : α 19 i < 0
      · rw [if_pos h2, if_pos rfl, if_pos ⟨h1, h2⟩]
      · rw [if_neg h2, if_neg (by decide), if_neg (fun h => h2 h.2)]
    · rw [if_neg h1, if_neg (fun h => h1 h.1)]
theorem C_first {k : Bool} {T R nt : Nat} {σ α : Mem} (hT : isT T) (hn : nt ≤ 21) (h : CE k T σ α R nt) (hN : α 25 0 = nI nt) (x : Int32) : fn_X4_firstNotDone σ T x = some (aFirst α nt x) := C_ffirst hT hn h hN x rfl nt 0 30 (by omega) (by omega)
theorem C_end {k : Bool} {T R nt nr : Nat} {σ α : Mem} (hT : isT T) (hR : R ≤ 12) (hn : nt ≤ 21) (h : CE k T σ α R nt) (hN : α 25 0 = nI nt) (hN2 : α 24 0 = nI nr) (hnr : nr ≤ R) {t b : Nat} (ht : t < nt) (hb : b < 4) (hB : α 13 t = nI b) (ho : okR α nr b) : cR k T R nt σ (aEnd α nt t b) (fn_X4_endToll σ T (nI t)) := by
  have ht2 : t < 21 := Nat.lt_of_lt_of_le ht hn
  have h1 := CW_19 (α 20 0) hT hR hn ht h
  have f1 : Fc T σ (sI σ (oO T t) 7 (α 20 0)) := Fc_w Fc_0 (rgO ht2)
  have e1 : (sI σ (oO T t) 7 (α 20 0)) (oO T t) 1 = nI b := (CE_13 h1 ht).trans hB
  have e2 : (sI σ (oO T t) 7 (α 20 0)) (oB T b) 5 = α 23 b := CE_23 h1 hb
  have e3 : (sI α 19 t (α 20 0)) 23 b = α 23 b := rfl
  unfold fn_X4_endToll aEnd aEnd1
  simp only [rf_T2 hT, b1_so, ea_O hT ht2, ck_T hT, gd_tr, ck_O hT ht2, CE_20 h, nm_so, rf_T0 hT, e1, ea_B hT hb, ck_B hT hb, e2, e3]
  by_cases h2 : α 23 b = nI t
  · rw [if_pos h2, if_pos h2]
    have h3 := CW_3 0 hT hR hn hb h1
    have f3 : Fc T σ (sI (sI σ (oO T t) 7 (α 20 0)) (oB T b) 6 0) := Fc_w f1 (rgB hb)
    have e4 : (sI (sI σ (oO T t) 7 (α 20 0)) (oB T b) 6 0) (oO T t) 1 = nI b := (CE_13 h3 ht).trans hB
    rw [e4, C_first hT hn h3 hN (nI b)]
    simp only [b1_so]
    have e5 : (sI α 19 t (α 20 0)) 13 t = nI b := hB
    rw [e5]
    have h4 := CW_23 (aFirst (sI (sI α 19 t (α 20 0)) 3 b 0) nt (nI b)) hT hR hn hb h3
    have f4 := Fc_w (x := aFirst (sI (sI α 19 t (α 20 0)) 3 b 0) nt (nI b)) (b := 5) f3 (rgB (T := T) hb)
    rw [CE_23 h4 hb]
    unfold aEnd2
    split
    · obtain ⟨s, e, h5, f5⟩ := C_empty hT hR hn h4 hN2 hnr hb ho
      rw [e]
      exact ⟨_, rfl, h5, Fc_t f4 f5⟩
    · exact ⟨_, rfl, h4, f4⟩
  · rw [if_neg h2, if_neg h2]
    unfold aEnd2
    rw [e3]
    split
    · obtain ⟨s, e, h5, f5⟩ := C_empty hT hR hn h1 hN2 hnr hb ho
      rw [e]
      exact ⟨_, rfl, h5, Fc_t f1 f5⟩
    · exact ⟨_, rfl, h1, f1⟩
theorem C_bring {k : Bool} {T R nt nr : Nat} {σ α : Mem} (hT : isT T) (hR : R ≤ 12) (hn : nt ≤ 21) (h : CE k T σ α R nt) (hN2 : α 24 0 = nI nr) (hnr : nr ≤ R) {b r : Nat} (hb : b < 4) (hr : r < R) (ho : okR α nr b) : cR k T R nt σ (aBring α b r) (fn_X4_bringToRope σ T (nI b) (nI r)) := by
  have hr2 : r < 12 := Nat.lt_of_lt_of_le hr hR
  obtain ⟨s, e, h1, f1⟩ := C_empty hT hR hn h hN2 hnr hb ho
  unfold fn_X4_bringToRope aBring
  simp only [rf_T0 hT, b1_so, ea_B hT hb, ck_T hT, gd_tr, e, ck_B hT hb, nm_so, rf_T1 hT, ea_R hT hr2, ck_R hT hr2]
  exact ⟨_, rfl, CW_22 (nI b) hT hR hn hr (CW_2 (nI r) hT hR hn hb h1), Fc_w (Fc_w f1 (rgB hb)) (rgR hr2)⟩
theorem C_best {k : Bool} {T R nt nr : Nat} {σ α : Mem} (hT : isT T) (hR : R ≤ 12) (hn : nt ≤ 21) (h : CE k T σ α R nt) (hN : α 24 0 = nI nr) (hnr : nr ≤ R) (w : Int32) {K : Int32 → Int32 → Int32 → Option Int32} (hK : ∀ y z, K y z (nI nr) = some y) : ∀ d i fuel y z, i + d = nr → d < fuel → lp_X4_leastTiredAtRest_7 σ T w K fuel y z (nI i) = some (aBs α w d i y z)
  | 0, i, fuel + 1, y, z, hi, _ => by
    unfold lp_X4_leastTiredAtRest_7 aBs
    rw [ck_T hT, gd_tr, CE_24 h, hN, if_pos (nI_le (by omega) (by omega)), show i = nr by omega, hK]
  | d + 1, i, fuel + 1, y, z, hi, hf => by
    have hit : i < R := by omega
    have hi2 : i < 12 := by omega
    unfold lp_X4_leastTiredAtRest_7 aBs
    simp only [ck_T hT, gd_tr, CE_24 h, hN, rf_T1 hT, b1_so, ea_R hT hi2, ck_R hT hi2, lf_rests (ck_R hT hi2), lf_can (ck_R hT hi2), CE_22 h hit, CE_9 h hit, CE_10 h hit, nm_so, nI_1]
    rw [if_neg (nI_ge (by omega) (by omega))]
    have ih := fun y z => C_best hT hR hn h hN hnr w hK d (i + 1) fuel y z (by omega) (by omega)
    simp only [ih]
    by_cases h1 : α 22 i = -1
    · rw [if_pos h1, if_neg (by decide)]
      by_cases h2 : 10 * α 9 i < α 10 i + w
      · rw [if_pos h2, if_pos rfl, if_neg (fun h => h.2.1 h2)]
      · rw [if_neg h2, if_neg (by decide)]
        by_cases h3 : y = -1
        · rw [if_pos h3, if_pos ⟨h1, h2, Or.inl h3⟩]
        · rw [if_neg h3]
          by_cases h4 : z ≤ α 10 i
          · rw [if_pos h4, if_neg (fun h => h.2.2.elim h3 (fun h => h h4))]
          · rw [if_neg h4, if_pos ⟨h1, h2, Or.inr h4⟩]
    · rw [if_neg h1, if_pos rfl, if_neg (fun h => h1 h.1)]
