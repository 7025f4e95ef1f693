/-! the class does as the abstract: relief, sound, stroke -/
def TK (k : Bool) (T : Nat) : Prop := (k = true ∧ T = 1) ∨ (k = false ∧ T = 71)
theorem TK_T {k : Bool} {T : Nat} (h : TK k T) : isT T := h.elim (fun h => Or.inl h.2) (fun h => Or.inr h.2)
theorem aBs_in {α : Mem} {w : Int32} {nr : Nat} : ∀ d i y z, i + d = nr → (y = -1 ∨ ∃ r, r < nr ∧ y = nI r) → aBs α w d i y z = -1 ∨ ∃ r, r < nr ∧ aBs α w d i y z = nI r
  | 0, i, y, z, _, h => h
  | d + 1, i, y, z, hi, h => by
    unfold aBs
    split
    · exact aBs_in d (i + 1) (nI i) (α 10 i) (by omega) (Or.inr ⟨i, by omega, rfl⟩)
    · exact aBs_in d (i + 1) y z (by omega) h
theorem aBring_12 {α : Mem} {b r i : Nat} : aBring α b r 12 i = α 12 i := by
  unfold aBring aEmpty
  split <;> rfl
theorem C_rel {k : Bool} {T R nt nr : Nat} {σ α : Mem} (hT : isT T) (hR : R ≤ 12) (hn : nt ≤ 21) (h : CE k T σ α R nt) (hN : α 24 0 = nI nr) (hnr : nr ≤ R) {b : Nat} (hb : b < 4) (ho : okR α nr b) : cR2 k T R nt σ (aRel α b nr).2 (aRel α b nr).1 (b1 (fn_X4_isRinger σ T (aBs α (α 0 b) nr 0 (-1) 0)) (fun r5 => if r5 = 0 then some (aBs α (α 0 b) nr 0 (-1) 0, σ) else b1 (fn_X4_bringToRope σ T (nI b) (aBs α (α 0 b) nr 0 (-1) 0)) (fun σ4 => b1 (ea (T + 14) 10 (aBs α (α 0 b) nr 0 (-1) 0)) (fun r6 => gd (ck r6 2) (gd (ck r6 2) (some (aBs α (α 0 b) nr 0 (-1) 0, sI σ4 r6 4 (σ4 r6 4 + 1)))))))) := by
  unfold aRel
  rcases aBs_in (α := α) (w := α 0 b) nr 0 (-1) 0 (Nat.zero_add nr) (Or.inl rfl) with h1 | ⟨r, hr, h1⟩
  · rw [h1, if_pos (by decide), isR_m hT, b1_so, if_pos rfl]
    exact ⟨_, rfl, h, Fc_0⟩
  · have hr1 : r < R := Nat.lt_of_lt_of_le hr hnr
    have hr2 : r < 12 := Nat.lt_of_lt_of_le hr1 hR
    have h9 : ¬ nI r < 0 := nI_pos (by omega)
    rw [h1, if_neg h9, isR_y hT ((CE_24 h).trans hN) hr (Nat.le_trans hnr hR), b1_so, if_neg (show ¬ (1 : Int32) = 0 by decide), cN_n (by omega)]
    obtain ⟨s, e, h2, f2⟩ := C_bring hT hR hn h hN hnr hb hr1 ho
    have e2 : s (oR T r) 4 = α 12 r := (CE_12 h2 hr1).trans aBring_12
    simp only [e, b1_so, ea_R hT hr2, ck_R hT hr2, gd_tr, e2]
    exact ⟨_, rfl, CW_12 _ hT hR hn hr1 h2, Fc_w f2 (rgR hr2)⟩
theorem C_bst {k : Bool} {T R nt nr : Nat} {σ α : Mem} (hT : isT T) (hR : R ≤ 12) (hn : nt ≤ 21) (h : CE k T σ α R nt) (hN : α 24 0 = nI nr) (hnr : nr ≤ R) (w : Int32) : fn_X4_leastTiredAtRest σ T w = some (aBs α w nr 0 (-1) 0) := C_best hT hR hn h hN hnr w (fun _ _ => rfl) nr 0 30 (-1) 0 (by omega) (by omega)
theorem C_find {k : Bool} {T R nt nr : Nat} {σ α : Mem} (hT : isT T) (hR : R ≤ 12) (hn : nt ≤ 21) (h : CE k T σ α R nt) (hN : α 24 0 = nI nr) (hnr : nr ≤ R) {b : Nat} (hb : b < 4) (ho : okR α nr b) : cR2 k T R nt σ (aFind α b nr).2 (aFind α b nr).1 (fn_X4_findPuller σ T (nI b)) := by
  have hC := C_rel hT hR hn h hN hnr hb ho
  unfold fn_X4_findPuller aFind
  simp only [rf_T0 hT, b1_so, ea_B hT hb, ck_B hT hb, gd_tr, CE_2 h hb, CE_0 h hb, ck_T hT, C_bst hT hR hn h hN hnr, rf_T1 hT, nm_so]
  rcases ho with ho | ⟨r, hr, ho⟩
  · rw [ho, isR_m hT, b1_so, if_pos rfl, if_pos (by decide)]
    exact hC
  · have hr1 : r < R := Nat.lt_of_lt_of_le hr hnr
    have hr2 : r < 12 := Nat.lt_of_lt_of_le hr1 hR
    have h9 : ¬ nI r < 0 := nI_pos (by omega)
    rw [ho, isR_y hT ((CE_24 h).trans hN) hr (Nat.le_trans hnr hR), b1_so, if_neg (show ¬ (1 : Int32) = 0 by decide), if_neg h9, ea_R hT hr2, cN_n (by omega)]
    simp only [b1_so, ck_R hT hr2, gd_tr, lf_can (ck_R hT hr2), CE_9 h hr1, CE_10 h hr1]
    by_cases h1 : 10 * α 9 r < α 10 r + α 0 b
    · rw [if_pos h1, if_pos h1, if_pos rfl]
      exact hC
    · rw [if_neg h1, if_neg h1, if_neg (by decide)]
      exact ⟨_, rfl, h, Fc_0⟩
theorem C_go {k : Bool} {T R nt nr : Nat} {σ α : Mem} (hT : isT T) (hR : R ≤ 12) (hn : nt ≤ 21) (h : CE k T σ α R nt) (hN : α 24 0 = nI nr) (hN1 : α 25 0 = nI nt) (hnr : nr ≤ R) {b : Nat} (hb : b < 4) (ho : okR α nr b) (hg : α 23 b = -1 ∨ ∃ t, t < nt ∧ α 23 b = nI t) : cR2 k T R nt σ (aGo α b nr).2 (aGo α b nr).1 (fn_X4_goOn σ T (nI b)) := by
  unfold fn_X4_goOn aGo
  simp only [rf_T0 hT, b1_so, ea_B hT hb, ck_B hT hb, gd_tr, CE_23 h hb, CE_3 h hb, ck_T hT, nm_so]
  rcases hg with hg | ⟨t, ht, hg⟩
  · rw [hg, isO_m hT, b1_so, if_pos rfl, if_neg (by decide)]
    exact ⟨_, rfl, h, Fc_0⟩
  · rw [hg, isO_y hT ((CE_25 h).trans hN1) ht hn, b1_so, if_neg (show ¬ (1 : Int32) = 0 by decide), if_pos (nI_pos' (by omega))]
    by_cases h2 : α 3 b ≤ 0
    · rw [if_pos h2, if_pos h2]
      obtain ⟨s, e, h3, f3⟩ := C_find hT hR hn h hN hnr hb ho
      rw [e]
      exact ⟨_, rfl, h3, f3⟩
    · rw [if_neg h2, if_neg h2]
      exact ⟨_, rfl, CW_3 _ hT hR hn hb h, Fc_w Fc_0 (rgB hb)⟩
theorem C_yr {k : Bool} {T R nt : Nat} {σ α : Mem} (hK : TK k T) (hR : R ≤ 12) (hn : nt ≤ 21) (h : CE k T σ α R nt) {t j : Nat} (ht : t < nt) (hj : j < 91) : cR k T R nt σ (aYr k α t (nI j)) (if α 17 t ≤ 3 * (α 14 t + 1) then some σ else if nI j < 0 then some σ else b1 (rf (oO T t) 3 0) (fun r3 => gd (ck r3 8) (if nI (sl r3) ≤ nI j then some σ else b1 (rf (oO T t) 3 0) (fun r4 => gd (ia r4 (nI j)) (gd (ia r4 (nI j)) (some (sI σ r4 (Int32.toNatClampNeg (nI j)) (σ r4 (Int32.toNatClampNeg (nI j)) + 1)))))))) := by
  have hT := TK_T hK
  have ht2 : t < 21 := Nat.lt_of_lt_of_le ht hn
  unfold aYr
  by_cases h1 : α 17 t ≤ 3 * (α 14 t + 1)
  · rw [if_pos h1, if_neg (fun h => h.2 h1)]
    exact ⟨_, rfl, h, Fc_0⟩
  · rw [if_neg h1, if_neg (nI_pos (by omega)), rf_O hT ht2]
    simp only [b1_so, ck_Y hT ht2, gd_tr]
    rcases hK with ⟨rfl, rfl⟩ | ⟨rfl, rfl⟩
    · have e1 : ia (oY 1 t) (nI j) = true := by
        unfold ia
        rw [ck_Y hT ht2, sl_Y1 ht2]
        exact decide_eq_true (nI_in hj (by omega))
      rw [sl_Y1 ht2, if_neg (nI_ge hj (by omega)), e1, if_pos ⟨rfl, h1⟩, nI_clamp (by omega), cN_n (by omega)]
      simp only [gd_tr, CE_y h ht2 hj]
      exact ⟨_, rfl, CE_yw hT hR hn ht2 hj h, Fc_w Fc_0 (rgY ht2)⟩
    · rw [sl_Y2 ht2, if_pos (nI_le (Nat.zero_le _) (by omega)), if_neg (fun h => absurd h.1 (by decide))]
      exact ⟨_, rfl, h, Fc_0⟩
theorem C_sound {k : Bool} {T R nt : Nat} {σ α : Mem} (hK : TK k T) (hR : R ≤ 12) (hn : nt ≤ 21) (h : CE k T σ α R nt) {t j : Nat} (l : Int32) (ht : t < nt) (hj : j < 91) : cR k T R nt σ (aSound k α t l (nI j)) (fn_X3_sound σ (oO T t) l (nI j)) := by
  have hT := TK_T hK
  have ht2 : t < 21 := Nat.lt_of_lt_of_le ht hn
  have h1 := CW_17 (α 17 t + 1) hT hR hn ht h
  have f1 : Fc T σ (sI σ (oO T t) 5 (α 17 t + 1)) := Fc_w Fc_0 (rgO ht2)
  have e1 := CE_17 h1 ht
  have e2 := CE_14 h1 ht
  have e3 : sI σ (oO T t) 5 (α 17 t + 1) (oO T t) 6 = α 18 t := CE_18 h1 ht
  unfold fn_X3_sound aSound
  simp only [ck_O hT ht2, gd_tr, nm_so, lf_tellers (ck_O hT ht2), b1_so, CE_17 h ht, e3]
  by_cases h2 : l = 0
  · rw [if_pos h2, if_pos h2, e1, e2]
    exact cR_t f1 (C_yr hK hR hn h1 ht hj)
  · rw [if_neg h2, if_neg h2]
    have h3 := CW_18 (α 18 t + 1) hT hR hn ht h1
    rw [CE_17 h3 ht, CE_14 h3 ht]
    exact cR_t (Fc_w f1 (rgO ht2)) (C_yr hK hR hn h3 ht hj)
theorem C_pz {k : Bool} {T R nt : Nat} {σ α : Mem} (hT : isT T) (hn : nt ≤ 21) (h : CE k T σ α R nt) {t : Nat} (ht : t < nt) : fn_X3_pauseNow σ (oO T t) = some (aPz α t) := by
  have ht2 : t < 21 := Nat.lt_of_lt_of_le ht hn
  unfold fn_X3_pauseNow aPz
  simp only [ck_O hT ht2, gd_tr, nm_so, CE_14 h ht, CE_16 h ht, CE_17 h ht]
  split
  · rfl
  · split
    · rfl
    · split <;> rfl
theorem C_tl {k : Bool} {T R nt nr : Nat} {σ α : Mem} (hT : isT T) (hR : R ≤ 12) (hn : nt ≤ 21) (h : CE k T σ α R nt) (hN : α 25 0 = nI nt) (hN2 : α 24 0 = nI nr) (hnr : nr ≤ R) {t b : Nat} (ht : t < nt) (hb : b < 4) (hB : α 13 t = nI b) (ho : okR α nr b) : cR k T R nt σ (aTl α b t nt) (if α 17 t < 3 * (α 14 t + 1) + α 15 t then b1 (fn_X3_pauseNow σ (oO T t)) (fun r19 => some (sI σ (oB T b) 6 r19)) else b1 (fn_X4_endToll σ T (nI t)) (fun s => some s)) := by
  unfold aTl aDue
  split
  · rw [C_pz hT hn h ht]
    exact ⟨_, rfl, CW_3 _ hT hR hn hb h, Fc_w Fc_0 (rgB hb)⟩
  · obtain ⟨s, e, h2, f2⟩ := C_end hT hR hn h hN hN2 hnr ht hb hB ho
    rw [e]
    exact ⟨_, rfl, h2, f2⟩
def okW (α : Mem) (b : Nat) : Prop := ∃ w, 1 ≤ w ∧ w ≤ 9 ∧ α 0 b = nI w
def okT (α : Mem) (f b : Nat) : Prop := ∃ q, q ≤ 9 ∧ α f b = nI q
theorem rch_ok : ∀ q ∈ List.range 10, ∀ w ∈ List.range 10, (¬ 1 + nI q = 0) ∧ cN (aRch (nI q) (nI w)) < 91 ∧ aRch (nI q) (nI w) = nI (cN (aRch (nI q) (nI w))) := by decide +kernel
theorem aRch_ex {α : Mem} {f b : Nat} (h1 : okW α b) (h2 : okT α f b) : (¬ 1 + α f b = 0) ∧ ∃ j, j < 91 ∧ aRch (α f b) (α 0 b) = nI j := by
  obtain ⟨w, _, h4, h5⟩ := h1
  obtain ⟨q, h6, h7⟩ := h2
  have h9 := rch_ok q (List.mem_range.mpr (by omega)) w (List.mem_range.mpr (by omega))
  rw [h5, h7]
  exact ⟨h9.1, _, h9.2.1, h9.2.2⟩
theorem aYr_o {k : Bool} {α : Mem} {t f i : Nat} {rc : Int32} (hf : f < 100) : aYr k α t rc f i = α f i := by
  unfold aYr
  split
  · exact sI_n (by omega)
  · rfl
theorem aSound_o {k : Bool} {α : Mem} {t f i : Nat} {l rc : Int32} (hf : f < 17 ∨ (18 < f ∧ f < 100)) : aSound k α t l rc f i = α f i := by
  unfold aSound
  rw [aYr_o (by omega)]
  split
  · exact sI_n (by omega)
  · rw [sI_n (by omega), sI_n (by omega)]
theorem aWear_o {α : Mem} {b ft fw f i : Nat} {w : Int32} (h1 : f ≠ ft) (h2 : f ≠ fw) : aWear α b ft fw w f i = α f i := by
  unfold aWear
  split
  · rfl
  · split
    · exact sI_n (by omega)
    · rw [sI_n (by omega), sI_n (by omega), sI_n (by omega)]
theorem aPull_o {α : Mem} {r f i : Nat} {w : Int32} (h1 : f ≠ 10) (h2 : f ≠ 11) : aPull α r w f i = α f i := by
  unfold aPull
  rw [sI_n (by omega), sI_n (by omega)]
theorem aTurn_o {α : Mem} {b f i : Nat} (h1 : f ≠ 1) (h2 : f ≠ 4) : aTurn α b f i = α f i := by
  unfold aTurn
  rw [sI_n (by omega), sI_n (by omega)]
theorem C_stkH {k : Bool} {T R nt nr : Nat} {σ α : Mem} (hK : TK k T) (hR : R ≤ 12) (hn : nt ≤ 21) (h : CE k T σ α R nt) (hN : α 25 0 = nI nt) (hN2 : α 24 0 = nI nr) (hnr : nr ≤ R) {t b r : Nat} (ht : t < nt) (hb : b < 4) (hr : r < R) (h23 : α 23 b = nI t) (hB : α 13 t = nI b) (ho : okR α nr b) (hw : okW α b) (hq : okT α 5 b) (h1 : α 1 b = 0) : cR k T R nt σ (aStk k α b r t 5 6 nt) (fn_X4_strike σ T (oB T b) (oR T r)) := by
  have hT := TK_T hK
  have ht2 : t < 21 := Nat.lt_of_lt_of_le ht hn
  have hr2 : r < 12 := Nat.lt_of_lt_of_le hr hR
  obtain ⟨hd, j, hj, hrc⟩ := aRch_ex hw hq
  obtain ⟨s4, e4, h4, f4⟩ := C_pull hT hR hn h (α 0 b) hr
  have e5 : s4 (oB T b) 3 = α 1 b := (CE_1 h4 hb).trans (aPull_o (by decide) (by decide))
  have e6 : s4 (oB T b) 2 = α 0 b := (CE_0 h4 hb).trans (aPull_o (by decide) (by decide))
  have e7 : s4 (oH T b) 0 = α 5 b := (CE_5 h4 hb).trans (aPull_o (by decide) (by decide))
  unfold fn_X4_strike aStk
  simp only [ck_B hT hb, gd_tr, nm_so, CE_23 h hb, h23, rf_T2 hT, b1_so, ea_O hT ht2, ck_R hT hr2, CE_0 h hb, e4, e5, ck_O hT ht2, ck_T hT]
  rw [h1, lf_left0 hT hb]
  simp only [b1_so, ck_H hT hb, gd_tr, e7, e6]
  rw [lf_reach (ck_H hT hb) (by rw [e7]; exact hd), e7, hrc]
  simp only [b1_so]
  have fin : ∀ l : Int32, cR k T R nt σ (aTl (aTurn (aWear (aSound k (aPull α r (α 0 b)) t l (nI j)) b 5 6 (α 0 b)) b) b t nt) (b1 (fn_X3_sound s4 (oO T t) l (nI j)) (fun σ15 => b1 (fn_X1_wear σ15 (oH T b) (σ15 (oB T b) 2)) (fun σ16 => b1 (fn_X0_turn σ16 (oB T b)) (fun σ17 => b1 (fn_X3_strokesDue σ17 (oO T t)) (fun r18 => if σ17 (oO T t) 5 < r18 then b1 (fn_X3_pauseNow σ17 (oO T t)) (fun r19 => some (sI σ17 (oB T b) 6 r19)) else b1 (fn_X4_endToll σ17 T (nI t)) (fun s => some s)))))) := by
    intro l
    obtain ⟨s5, e8, h5, f5⟩ := C_sound hK hR hn h4 l ht hj
    have e9 : s5 (oB T b) 2 = α 0 b := ((CE_0 h5 hb).trans (aSound_o (by decide))).trans (aPull_o (by decide) (by decide))
    rw [e8]
    simp only [b1_so, e9]
    obtain ⟨s6, e10, h6, f6⟩ := C_wearH hT hR hn h5 (α 0 b) hb
    rw [e10]
    simp only [b1_so]
    obtain ⟨s7, e11, h7, f7⟩ := C_turn hT hR hn h6 hb
    rw [e11]
    simp only [b1_so, lf_due (ck_O hT ht2)]
    rw [CE_17 h7 ht, CE_14 h7 ht, CE_15 h7 ht]
    have o1 : ∀ f i, f ≠ 10 → f ≠ 11 → f < 17 ∨ (18 < f ∧ f < 100) → f ≠ 5 → f ≠ 6 → f ≠ 1 → f ≠ 4 → aTurn (aWear (aSound k (aPull α r (α 0 b)) t l (nI j)) b 5 6 (α 0 b)) b f i = α f i := fun f i a1 a2 a3 a4 a5 a6 a7 => by rw [aTurn_o a6 a7, aWear_o a4 a5, aSound_o a3, aPull_o a1 a2]
    refine cR_t (Fc_t (Fc_t (Fc_t f4 f5) f6) f7) (C_tl (nr := nr) hT hR hn h7 ?_ ?_ hnr ht hb ?_ ?_)
    · rw [o1 25 0 (by decide) (by decide) (by decide) (by decide) (by decide) (by decide) (by decide)]; exact hN
    · rw [o1 24 0 (by decide) (by decide) (by decide) (by decide) (by decide) (by decide) (by decide)]; exact hN2
    · rw [o1 13 t (by decide) (by decide) (by decide) (by decide) (by decide) (by decide) (by decide)]; exact hB
    · unfold okR
      rw [o1 2 b (by decide) (by decide) (by decide) (by decide) (by decide) (by decide) (by decide)]; exact ho
  by_cases h2 : α 5 b = 0
  · rw [if_pos h2, if_pos h2]
    exact fin 1
  · rw [if_neg h2, if_neg h2]
    exact fin 0
theorem C_stkK {k : Bool} {T R nt nr : Nat} {σ α : Mem} (hK : TK k T) (hR : R ≤ 12) (hn : nt ≤ 21) (h : CE k T σ α R nt) (hN : α 25 0 = nI nt) (hN2 : α 24 0 = nI nr) (hnr : nr ≤ R) {t b r : Nat} (ht : t < nt) (hb : b < 4) (hr : r < R) (h23 : α 23 b = nI t) (hB : α 13 t = nI b) (ho : okR α nr b) (hw : okW α b) (hq : okT α 7 b) (h1 : ¬ α 1 b = 0) : cR k T R nt σ (aStk k α b r t 7 8 nt) (fn_X4_strike σ T (oB T b) (oR T r)) := by
  have hT := TK_T hK
  have ht2 : t < 21 := Nat.lt_of_lt_of_le ht hn
  have hr2 : r < 12 := Nat.lt_of_lt_of_le hr hR
  obtain ⟨hd, j, hj, hrc⟩ := aRch_ex hw hq
  obtain ⟨s4, e4, h4, f4⟩ := C_pull hT hR hn h (α 0 b) hr
  have e5 : s4 (oB T b) 3 = α 1 b := (CE_1 h4 hb).trans (aPull_o (by decide) (by decide))
  have e6 : s4 (oB T b) 2 = α 0 b := (CE_0 h4 hb).trans (aPull_o (by decide) (by decide))
  have e7 : s4 (oK T b) 0 = α 7 b := (CE_7 h4 hb).trans (aPull_o (by decide) (by decide))
  unfold fn_X4_strike aStk
  simp only [ck_B hT hb, gd_tr, nm_so, CE_23 h hb, h23, rf_T2 hT, b1_so, ea_O hT ht2, ck_R hT hr2, CE_0 h hb, e4, e5, ck_O hT ht2, ck_T hT]
  rw [lf_left1 hT hb h1]
  simp only [b1_so, ck_K hT hb, gd_tr, e7, e6]
  rw [lf_reach (ck_K hT hb) (by rw [e7]; exact hd), e7, hrc]
  simp only [b1_so]
  have fin : ∀ l : Int32, cR k T R nt σ (aTl (aTurn (aWear (aSound k (aPull α r (α 0 b)) t l (nI j)) b 7 8 (α 0 b)) b) b t nt) (b1 (fn_X3_sound s4 (oO T t) l (nI j)) (fun σ15 => b1 (fn_X1_wear σ15 (oK T b) (σ15 (oB T b) 2)) (fun σ16 => b1 (fn_X0_turn σ16 (oB T b)) (fun σ17 => b1 (fn_X3_strokesDue σ17 (oO T t)) (fun r18 => if σ17 (oO T t) 5 < r18 then b1 (fn_X3_pauseNow σ17 (oO T t)) (fun r19 => some (sI σ17 (oB T b) 6 r19)) else b1 (fn_X4_endToll σ17 T (nI t)) (fun s => some s)))))) := by
    intro l
    obtain ⟨s5, e8, h5, f5⟩ := C_sound hK hR hn h4 l ht hj
    have e9 : s5 (oB T b) 2 = α 0 b := ((CE_0 h5 hb).trans (aSound_o (by decide))).trans (aPull_o (by decide) (by decide))
    rw [e8]
    simp only [b1_so, e9]
    obtain ⟨s6, e10, h6, f6⟩ := C_wearK hT hR hn h5 (α 0 b) hb
    rw [e10]
    simp only [b1_so]
    obtain ⟨s7, e11, h7, f7⟩ := C_turn hT hR hn h6 hb
    rw [e11]
    simp only [b1_so, lf_due (ck_O hT ht2)]
    rw [CE_17 h7 ht, CE_14 h7 ht, CE_15 h7 ht]
    have o1 : ∀ f i, f ≠ 10 → f ≠ 11 → f < 17 ∨ (18 < f ∧ f < 100) → f ≠ 7 → f ≠ 8 → f ≠ 1 → f ≠ 4 → aTurn (aWear (aSound k (aPull α r (α 0 b)) t l (nI j)) b 7 8 (α 0 b)) b f i = α f i := fun f i a1 a2 a3 a4 a5 a6 a7 => by rw [aTurn_o a6 a7, aWear_o a4 a5, aSound_o a3, aPull_o a1 a2]
    refine cR_t (Fc_t (Fc_t (Fc_t f4 f5) f6) f7) (C_tl (nr := nr) hT hR hn h7 ?_ ?_ hnr ht hb ?_ ?_)
    · rw [o1 25 0 (by decide) (by decide) (by decide) (by decide) (by decide) (by decide) (by decide)]; exact hN
    · rw [o1 24 0 (by decide) (by decide) (by decide) (by decide) (by decide) (by decide) (by decide)]; exact hN2
    · rw [o1 13 t (by decide) (by decide) (by decide) (by decide) (by decide) (by decide) (by decide)]; exact hB
    · unfold okR
      rw [o1 2 b (by decide) (by decide) (by decide) (by decide) (by decide) (by decide) (by decide)]; exact ho
  by_cases h2 : α 7 b = 0
  · rw [if_pos h2, if_pos h2]
    exact fin 1
  · rw [if_neg h2, if_neg h2]
    exact fin 0
theorem C_strike {k : Bool} {T R nt nr : Nat} {σ α : Mem} (hK : TK k T) (hR : R ≤ 12) (hn : nt ≤ 21) (h : CE k T σ α R nt) (hN : α 25 0 = nI nt) (hN2 : α 24 0 = nI nr) (hnr : nr ≤ R) {t b r : Nat} (ht : t < nt) (hb : b < 4) (hr : r < R) (h23 : α 23 b = nI t) (hB : α 13 t = nI b) (ho : okR α nr b) (hw : okW α b) (hq : okT α 5 b) (hq2 : okT α 7 b) : cR k T R nt σ (aStrike k α b r t nt) (fn_X4_strike σ T (oB T b) (oR T r)) := by
  unfold aStrike
  by_cases h1 : α 1 b = 0
  · rw [if_pos h1]
    exact C_stkH hK hR hn h hN hN2 hnr ht hb hr h23 hB ho hw hq h1
  · rw [if_neg h1]
    exact C_stkK hK hR hn h hN hN2 hnr ht hb hr h23 hB ho hw hq2 h1
