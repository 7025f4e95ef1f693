/-! the mean: its sum and its count; none where there are no ringers -/
def lp_X5_mean_16 {β : Type} (σ : Mem) (a0 : Nat) (K : Int32 → Int32 → Option β) : Nat → Int32 → Int32 → Option β
  | 0, _, _ => none
  | fuel + 1, y1, y2 => b1 (rf a0 5 0) (fun r1 => gd (ck r1 4) (if (σ r1 4) ≤ y2 then (K y1 y2) else b1 (rf a0 5 0) (fun r2 => b1 (rf r2 4 1) (fun r3 => b1 (ea r3 10 y2) (fun r4 => gd (ck r4 2) (nm (y1 + (σ r4 1)) (fun x5 => nm (y2 + 1) (fun x6 => (lp_X5_mean_16 σ a0 K fuel x5 x6)))))))))
def fn_X5_mean (σ : Mem) (t : Nat) : Option (Option (Int32 × Int32)) := b1 (rf t 5 0) (fun r1 => gd (ck r1 4) (if (σ r1 4) = (0 : Int32) then (some none) else (lp_X5_mean_16 σ t (fun x7 x8 => b1 (rf t 5 0) (fun r9 => gd (ck r9 4) (some (some (x7, σ r9 4))))) 30 0 0)))
def lp_X7_mean_9 {β : Type} (σ : Mem) (a0 : Nat) (K : Int32 → Int32 → Option β) : Nat → Int32 → Int32 → Option β
  | 0, _, _ => none
  | fuel + 1, y1, y2 => gd (ck a0 7) (if (σ a0 1) ≤ y2 then (K y1 y2) else b1 (rf a0 7 9) (fun r2 => b1 (rf r2 6 10) (fun r3 => gd (ia r3 y2) (nm (y1 + (σ r3 (Int32.toNatClampNeg y2))) (fun x5 => nm (y2 + 1) (fun x6 => (lp_X7_mean_9 σ a0 K fuel x5 x6)))))))
def fn_X7_mean (σ : Mem) (t : Nat) : Option (Option (Int32 × Int32) × Mem) := gd (ck t 7) (nm (sI σ t 0 0) (fun σ1 => (lp_X7_mean_9 σ1 t (fun x7 x8 => gd (ck t 7) (if (σ1 t 1) = (0 : Int32) then (some (none, σ1)) else gd (ck t 7) (some (some (x7, σ1 t 1), σ1)))) 30 0 0)))
theorem C_mean {R nt nr : Nat} {σ α : Mem} (hR : R ≤ 12) (h : CE true 1 σ α R nt) (hW1 : α 24 0 = nI nr) (hnr : nr ≤ R) {β : Type} {K : Int32 → Int32 → Option β} : ∀ d i fuel y, i + d = nr → d < fuel → lp_X5_mean_16 σ 0 K fuel y (nI i) = K (aSum (fun r => α 10 r) d i y) (nI nr)
  | 0, i, fuel + 1, y, hi, _ => by
    have e : i = nr := by omega
    rw [e]
    unfold lp_X5_mean_16
    rw [rf_00, b1_so, ck_T (Or.inl rfl : isT 1), gd_tr, CE_24 h, hW1, if_pos (nI_le (Nat.le_refl _) (by omega))]
    rfl
  | d + 1, i, fuel + 1, y, hi, hf => by
    have hiR : i < R := by omega
    unfold lp_X5_mean_16
    rw [rf_00, b1_so, ck_T (Or.inl rfl : isT 1), gd_tr, CE_24 h, hW1, if_neg (nI_ge (by omega) (by omega)), b1_so, rf_T1 (Or.inl rfl : isT 1), b1_so, ea_R (Or.inl rfl : isT 1) (show i < 12 by omega), b1_so, ck_R (Or.inl rfl : isT 1) (show i < 12 by omega), gd_tr, CE_10 h hiR, nm_so, nm_so, nI_1, C_mean hR h hW1 hnr d (i + 1) fuel _ (by omega) (by omega)]
    rfl
theorem R_mean {S nt nr : Nat} {σ α : Mem} (eS : S = 148) (h : RE true S σ α 12 nt) (hW1 : α 24 0 = nI nr) (hnr : nr ≤ 12) {β : Type} {K : Int32 → Int32 → Option β} : ∀ d i fuel y, i + d = nr → d < fuel → lp_X7_mean_9 σ 141 K fuel y (nI i) = K (aSum (fun r => α 10 r) d i y) (nI nr)
  | 0, i, fuel + 1, y, hi, _ => by
    have e : i = nr := by omega
    rw [e]
    unfold lp_X7_mean_9
    rw [ck_M, gd_tr, RE_24 h, hW1, if_pos (nI_le (Nat.le_refl _) (by omega))]
    rfl
  | d + 1, i, fuel + 1, y, hi, hf => by
    have hS : isS S := Or.inl eS
    have hiR : i < 12 := by omega
    have hc : (nI i).toNatClampNeg = i := nI_clamp (by omega)
    unfold lp_X7_mean_9
    rw [ck_M, gd_tr, RE_24 h, hW1, if_neg (nI_ge (by omega) (by omega)), rm9 eS, b1_so, rs_10 hS, b1_so, is_8 hS hiR, gd_tr, hc, RE_10 h hiR, nm_so, nm_so, nI_1, R_mean eS h hW1 hnr d (i + 1) fuel _ (by omega) (by omega)]
    rfl
theorem P_mean (B : Nat) (σ : Mem) (hI : Inv B σ) : ∃ v, fn_X5_mean σ 0 = some v ∧ fn_X7_mean σ 141 = some (v, sI σ 141 0 0) ∧ Inv B (sI σ 141 0 0) := by
  have hI2 := Inv_t (x := 0) hI
  obtain ⟨α, nr, nt, μ, h1, h2, h3, h4, h5, h6, h7, h8⟩ := hI
  have f0 : RE true 148 (sI σ 141 0 0) α 12 nt := RE_t (Or.inl rfl) (Nat.le_refl 12) (by omega) (Or.inl rfl) h2
  have e1 := RE_24 f0
  by_cases hz : nr = 0
  · subst hz
    refine ⟨none, ?_, ?_, hI2⟩
    · unfold fn_X5_mean
      rw [rf_00, b1_so, ck_T (Or.inl rfl : isT 1), gd_tr, CE_24 h1, h3.1.1, if_pos (show nI 0 = 0 from rfl)]
    · unfold fn_X7_mean
      rw [ck_M, gd_tr, nm_so]
      have m1 := R_mean rfl f0 h3.1.1 h5 (K := fun x7 x8 => gd (ck 141 7) (if ((sI σ 141 0 0) 141 1) = (0 : Int32) then (some ((none : Option (Int32 × Int32)), sI σ 141 0 0)) else gd (ck 141 7) (some (some (x7, (sI σ 141 0 0) 141 1), sI σ 141 0 0)))) 0 0 30 0 (by omega) (by omega)
      rw [ck_M] at m1
      refine m1.trans ?_
      rw [gd_tr, gd_tr, e1, h3.1.1, if_pos (show nI 0 = 0 from rfl)]
  · have hne : ¬ nI nr = 0 := nI_ne0 (by omega) (by omega)
    refine ⟨some (aSum (fun r => α 10 r) nr 0 0, nI nr), ?_, ?_, hI2⟩
    · unfold fn_X5_mean
      rw [rf_00, b1_so, ck_T (Or.inl rfl : isT 1), gd_tr, CE_24 h1, h3.1.1, if_neg hne]
      have m1 := C_mean (Nat.le_refl 12) h1 h3.1.1 h5 (K := fun x7 x8 => b1 (some 1) (fun r9 => gd (ck r9 4) (some (some (x7, σ r9 4))))) nr 0 30 0 (by omega) (by omega)
      refine m1.trans ?_
      rw [b1_so, ck_T (Or.inl rfl : isT 1), gd_tr, CE_24 h1, h3.1.1]
    · unfold fn_X7_mean
      rw [ck_M, gd_tr, nm_so]
      have m1 := R_mean rfl f0 h3.1.1 h5 (K := fun x7 x8 => gd (ck 141 7) (if ((sI σ 141 0 0) 141 1) = (0 : Int32) then (some ((none : Option (Int32 × Int32)), sI σ 141 0 0)) else gd (ck 141 7) (some (some (x7, (sI σ 141 0 0) 141 1), sI σ 141 0 0)))) nr 0 30 0 (by omega) (by omega)
      rw [ck_M] at m1
      refine m1.trans ?_
      rw [gd_tr, gd_tr, e1, h3.1.1, if_neg hne]
