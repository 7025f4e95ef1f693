/-! the reference does as the abstract: a whole stroke -/
def aLW (α : Mem) (b t ft fw : Nat) : Mem := if α ft b = 0 then sI α 18 t (α 18 t + 1) else aWear α b ft fw (α 0 b)
theorem lf_bare {k : Bool} {S R nt : Nat} {σ : Mem} (hS : isS S) {l : Nat} (hl : l < 8) : fn_X6_bare σ S (nI l) 0 = some (sI (sI σ (S + 2) l 0) (S + 3) l 0) := by
  have hc : (nI l).toNatClampNeg = l := nI_clamp (by omega)
  unfold fn_X6_bare
  simp only [rs_4 hS, b1_so, is_2 hS hl, gd_tr, hc, nm_so, rs_5 hS, is_3 hS hl]
theorem aLW_o {α : Mem} {b t ft fw f i : Nat} (h1 : f ≠ ft) (h2 : f ≠ fw) (h3 : f ≠ 18) : aLW α b t ft fw f i = α f i := by
  unfold aLW
  split
  · exact sI_n (by omega)
  · exact aWear_o h1 h2
theorem aYr_c {k : Bool} {α : Mem} {t f i : Nat} {x rc : Int32} (h1 : f ≠ 14) (h2 : f ≠ 17) (h3 : f < 100) : aYr k (sI α f i x) t rc = sI (aYr k α t rc) f i x := by
  unfold aYr
  rw [sI_n (show 17 ≠ f ∨ t ≠ i by omega), sI_n (show 14 ≠ f ∨ t ≠ i by omega), sI_n (show t + 100 ≠ f ∨ cN rc ≠ i by omega)]
  split
  · rw [sI_c (by omega)]
  · rfl

theorem aWear_c {α : Mem} {b ft fw f i : Nat} {x w : Int32} (h1 : f ≠ ft) (h2 : f ≠ fw) : aWear (sI α f i x) b ft fw w = sI (aWear α b ft fw w) f i x := by
  unfold aWear
  rw [sI_n (show ft ≠ f ∨ b ≠ i by omega), sI_n (show fw ≠ f ∨ b ≠ i by omega), sI_c (a := f) (c := fw) h2]
  by_cases h3 : α ft b = 0
  · rw [if_pos h3, if_pos h3]
  · rw [if_neg h3, if_neg h3]
    by_cases h4 : α fw b + w < 10 * α ft b
    · rw [if_pos h4, if_pos h4]
    · rw [if_neg h4, if_neg h4, sI_c (a := f) (c := ft) h1, sI_c (a := f) (c := fw) h2]
theorem R_128_0 {k : Bool} {S R nt : Nat} {σ α : Mem} (hS : isS S) (hR : R ≤ 12) (hn : nt ≤ 21) (h : RE k S σ α R nt) {b t : Nat} (ht : t < nt) (hb : b < 4) (hP : Pst α b t nt) : rR k S R nt σ (aTl (sI (aLW α b t 5 6) 1 b (1 - aLW α b t 5 6 1 b)) b t nt) (jn_X6_stroke_128 σ S (nI b) (nI t) (nI (2 * b))) := by
  have ht2 : t < 21 := Nat.lt_of_lt_of_le ht hn
  have hl : 2 * b < 8 := by omega
  have hc : (nI t).toNatClampNeg = t := nI_clamp (by omega)
  have hcb : (nI b).toNatClampNeg = b := nI_clamp (by omega)
  have hcl : (nI (2 * b)).toNatClampNeg = 2 * b := nI_clamp (by omega)
  have hPL : Pst (aLW α b t 5 6) b t nt := Pst_o hP (fun f i hf => aLW_o (by omega) (by omega) (by omega))
  unfold jn_X6_stroke_128
  simp only [rs_4 hS, b1_so, is_2 hS hl, gd_tr, hcl, RE_5 h hb, rs_14 hS, is_12 hS ht2, hc, RE_18 h ht, nm_so, rs_5 hS, is_3 hS hl, rs_3 hS, is_1 hS hb, hcb, RE_6 h hb, RE_0 h hb, ck_S hS]
  by_cases h1 : α 5 b = 0
  · have e1 : aLW α b t 5 6 = sI α 18 t (α 18 t + 1) := if_pos h1
    rw [e1] at hPL ⊢
    rw [if_pos h1]
    exact rR_t (Fr_w Fr_0 hS (Or.inl (by omega))) (R_194 hS hR hn (RW_18 (α 18 t + 1) hS hR hn ht h) ht hb hPL)
  · have e1 : aLW α b t 5 6 = aWear α b 5 6 (α 0 b) := if_neg h1
    rw [e1] at hPL ⊢
    rw [if_neg h1]
    have h2 := RW_6 (α 6 b + α 0 b) hS hR hn hb h
    have f2 : Fr k S σ (sI σ (S + 3) (2 * b) (α 6 b + α 0 b)) := Fr_w Fr_0 hS (Or.inl (by omega))
    have e2 : sI σ (S + 3) (2 * b) (α 6 b + α 0 b) (S + 2) (2 * b) = α 5 b := RE_5 h2 hb
    rw [sI_s, e2]
    unfold aWear at hPL ⊢
    rw [if_neg h1] at hPL ⊢
    by_cases h3 : α 6 b + α 0 b < 10 * α 5 b
    · rw [if_pos h3] at hPL ⊢
      rw [if_pos h3]
      exact rR_t f2 (R_194 hS hR hn h2 ht hb hPL)
    · rw [if_neg h3] at hPL ⊢
      rw [if_neg h3, lf_bare (k := k) (R := R) (nt := nt) hS hl, b1_so]
      exact rR_t (Fr_w (Fr_w f2 hS (Or.inl (by omega))) hS (Or.inl (by omega))) (R_194 hS hR hn (RW_6 0 hS hR hn hb (RW_5 0 hS hR hn hb h2)) ht hb hPL)
theorem R_128_1 {k : Bool} {S R nt : Nat} {σ α : Mem} (hS : isS S) (hR : R ≤ 12) (hn : nt ≤ 21) (h : RE k S σ α R nt) {b t : Nat} (ht : t < nt) (hb : b < 4) (hP : Pst α b t nt) : rR k S R nt σ (aTl (sI (aLW α b t 7 8) 1 b (1 - aLW α b t 7 8 1 b)) b t nt) (jn_X6_stroke_128 σ S (nI b) (nI t) (nI (2 * b + 1))) := by
  have ht2 : t < 21 := Nat.lt_of_lt_of_le ht hn
  have hl : 2 * b + 1 < 8 := by omega
  have hc : (nI t).toNatClampNeg = t := nI_clamp (by omega)
  have hcb : (nI b).toNatClampNeg = b := nI_clamp (by omega)
  have hcl : (nI (2 * b + 1)).toNatClampNeg = 2 * b + 1 := nI_clamp (by omega)
  have hPL : Pst (aLW α b t 7 8) b t nt := Pst_o hP (fun f i hf => aLW_o (by omega) (by omega) (by omega))
  unfold jn_X6_stroke_128
  simp only [rs_4 hS, b1_so, is_2 hS hl, gd_tr, hcl, RE_7 h hb, rs_14 hS, is_12 hS ht2, hc, RE_18 h ht, nm_so, rs_5 hS, is_3 hS hl, rs_3 hS, is_1 hS hb, hcb, RE_8 h hb, RE_0 h hb, ck_S hS]
  by_cases h1 : α 7 b = 0
  · have e1 : aLW α b t 7 8 = sI α 18 t (α 18 t + 1) := if_pos h1
    rw [e1] at hPL ⊢
    rw [if_pos h1]
    exact rR_t (Fr_w Fr_0 hS (Or.inl (by omega))) (R_194 hS hR hn (RW_18 (α 18 t + 1) hS hR hn ht h) ht hb hPL)
  · have e1 : aLW α b t 7 8 = aWear α b 7 8 (α 0 b) := if_neg h1
    rw [e1] at hPL ⊢
    rw [if_neg h1]
    have h2 := RW_8 (α 8 b + α 0 b) hS hR hn hb h
    have f2 : Fr k S σ (sI σ (S + 3) (2 * b + 1) (α 8 b + α 0 b)) := Fr_w Fr_0 hS (Or.inl (by omega))
    have e2 : sI σ (S + 3) (2 * b + 1) (α 8 b + α 0 b) (S + 2) (2 * b + 1) = α 7 b := RE_7 h2 hb
    rw [sI_s, e2]
    unfold aWear at hPL ⊢
    rw [if_neg h1] at hPL ⊢
    by_cases h3 : α 8 b + α 0 b < 10 * α 7 b
    · rw [if_pos h3] at hPL ⊢
      rw [if_pos h3]
      exact rR_t f2 (R_194 hS hR hn h2 ht hb hPL)
    · rw [if_neg h3] at hPL ⊢
      rw [if_neg h3, lf_bare (k := k) (R := R) (nt := nt) hS hl, b1_so]
      exact rR_t (Fr_w (Fr_w f2 hS (Or.inl (by omega))) hS (Or.inl (by omega))) (R_194 hS hR hn (RW_8 0 hS hR hn hb (RW_7 0 hS hR hn hb h2)) ht hb hPL)
theorem rch_ok2 : ∀ q ∈ List.range 10, ∀ w ∈ List.range 10, 10 * nI w / (1 + nI q) = aRch (nI q) (nI w) := by decide +kernel
def aR4 (α : Mem) (b r t : Nat) : Mem := sI (sI (sI (sI α 10 r (α 10 r + α 0 b)) 11 r (α 11 r + 1)) 4 b (α 4 b + 1)) 17 t (α 17 t + 1)
theorem aR4_o {α : Mem} {b r t f i : Nat} (h : f ≠ 10 ∧ f ≠ 11 ∧ f ≠ 4 ∧ f ≠ 17) : aR4 α b r t f i = α f i := by
  unfold aR4
  rw [sI_n (by omega), sI_n (by omega), sI_n (by omega), sI_n (by omega)]
theorem aR4_p {α : Mem} {b r t f i : Nat} (h : f ≠ 10 ∧ f ≠ 11 ∧ f ≠ 4) : aR4 α b r t f i = sI α 17 t (α 17 t + 1) f i := by
  unfold aR4
  rw [sI_at, sI_at _ 17, sI_n (by omega), sI_n (by omega), sI_n (by omega)]
theorem aR_eq {k : Bool} {α : Mem} {b r t ft fw : Nat} {rc : Int32} (hf : (ft = 5 ∧ fw = 6) ∨ (ft = 7 ∧ fw = 8)) : sI (aLW (aYr k (aR4 α b r t) t rc) b t ft fw) 1 b (1 - aLW (aYr k (aR4 α b r t) t rc) b t ft fw 1 b) = aTurn (aWear (aSound k (aPull α r (α 0 b)) t (if α ft b = 0 then 1 else 0) rc) b ft fw (α 0 b)) b := by
  have e1 : aLW (aYr k (aR4 α b r t) t rc) b t ft fw 1 b = α 1 b := by
    rw [aLW_o (by omega) (by omega) (by omega), aYr_o (by omega), aR4_o (by omega)]
  have e2 : ∀ l : Int32, aWear (aSound k (aPull α r (α 0 b)) t l rc) b ft fw (α 0 b) 1 b = α 1 b := fun l => by
    rw [aWear_o (by omega) (by omega), aSound_o (by omega), aPull_o (by omega) (by omega)]
  have e3 : ∀ l : Int32, aWear (aSound k (aPull α r (α 0 b)) t l rc) b ft fw (α 0 b) 4 b = α 4 b := fun l => by
    rw [aWear_o (by omega) (by omega), aSound_o (by omega), aPull_o (by omega) (by omega)]
  have e4 : aYr k (aR4 α b r t) t rc ft b = α ft b := by
    rw [aYr_o (by omega), aR4_o (by omega)]
  have e5 : aYr k (aR4 α b r t) t rc 0 b = α 0 b := by
    rw [aYr_o (by omega), aR4_o (by omega)]
  have e6 : aYr k (aR4 α b r t) t rc 18 t = α 18 t := by
    rw [aYr_o (by omega), aR4_o (by omega)]
  have e7 : ∀ l : Int32, aSound k (aPull α r (α 0 b)) t l rc ft b = α ft b := fun l => by
    rw [aSound_o (by omega), aPull_o (by omega) (by omega)]
  have e8 : aYr k (aR4 α b r t) t rc = sI (aYr k (sI (aPull α r (α 0 b)) 17 t (α 17 t + 1)) t rc) 4 b (α 4 b + 1) := by
    rw [← aYr_c (by omega) (by omega) (by omega), sI_c (show 17 ≠ 4 by decide)]
    rfl
  have e9 : aPull α r (α 0 b) 17 t = α 17 t := aPull_o (by omega) (by omega)
  have e10 : aPull α r (α 0 b) 18 t = α 18 t := aPull_o (by omega) (by omega)
  rw [e1]
  unfold aTurn
  rw [e2, e3]
  unfold aLW
  rw [e4, e5, e6]
  by_cases h1 : α ft b = 0
  · rw [if_pos h1, if_pos h1]
    have e11 : aWear (aSound k (aPull α r (α 0 b)) t 1 rc) b ft fw (α 0 b) = aSound k (aPull α r (α 0 b)) t 1 rc := if_pos ((e7 1).trans h1)
    rw [e11, e8]
    unfold aSound
    rw [if_neg (show ¬ (1 : Int32) = 0 by decide), e9, e10, aYr_c (show 18 ≠ 14 by decide) (by decide) (by decide), sI_c (a := 4) (c := 18) (by decide), sI_c (a := 4) (c := 1) (by decide)]
  · rw [if_neg h1, if_neg h1, e8, aWear_c (by omega) (by omega), sI_c (a := 4) (c := 1) (by decide)]
    unfold aSound
    rw [if_pos rfl, e9]
theorem R_stk0 {k : Bool} {S R nt : Nat} {σ α : Mem} (hK : SK k S) (hR : R ≤ 12) (hn : nt ≤ 21) (h : RE k S σ α R nt) {b t r : Nat} (ht : t < nt) (hb : b < 4) (hr : r < R) (hr2 : α 2 b = nI r) (hP : Pst (sI α 17 t (α 17 t + 1)) b t nt) (hw : okW α b) (hq : okT α 5 b) (hs : α 1 b = 0) : rR k S R nt σ (aStk k α b r t 5 6 nt) (fn_X6_stroke σ S (nI b) (nI t) (if k = true then 1 else 0)) := by
  have hS := SK_S hK
  have ht2 : t < 21 := Nat.lt_of_lt_of_le ht hn
  have hr3 : r < 12 := Nat.lt_of_lt_of_le hr hR
  have hl : 2 * b < 8 := by omega
  have hc : (nI t).toNatClampNeg = t := nI_clamp (by omega)
  have hcb : (nI b).toNatClampNeg = b := nI_clamp (by omega)
  have hcr : (nI r).toNatClampNeg = r := nI_clamp (by omega)
  have hcl : (nI (2 * b)).toNatClampNeg = 2 * b := nI_clamp (by omega)
  obtain ⟨hd, j, hj, hrc⟩ := aRch_ex hw hq
  have hrc2 : 10 * α 0 b / (1 + α 5 b) = nI j := by
    obtain ⟨w, w1, w2, hw⟩ := hw
    obtain ⟨q, q1, hq⟩ := hq
    have h9 := rch_ok2 q (List.mem_range.mpr (by omega)) w (List.mem_range.mpr (by omega))
    rw [hw, hq] at hrc ⊢
    rw [h9, hrc]
  have hli : 2 * nI b + 0 = nI (2 * b) := by
    rw [show (2 : Int32) = nI 2 from rfl, pk_mul, show (0 : Int32) = nI 0 from rfl, nI_add]; rfl
  have h1 := RW_10 (α 10 r + α 0 b) hS hR hn hr h
  have h2 := RW_11 (α 11 r + 1) hS hR hn hr h1
  have h3 := RW_4 (α 4 b + 1) hS hR hn hb h2
  have h4 := RW_17 (α 17 t + 1) hS hR hn ht h3
  have f4 : Fr k S σ (sI (sI (sI (sI σ (S + 8) r (α 10 r + α 0 b)) (S + 9) r (α 11 r + 1)) (S + 7) b (α 4 b + 1)) (S + 11) t (α 17 t + 1)) := Fr_w (Fr_w (Fr_w (Fr_w Fr_0 hS (Or.inl (by omega))) hS (Or.inl (by omega))) hS (Or.inl (by omega))) hS (Or.inl (by omega))
  have r1 : sI σ (S + 8) r (α 10 r + α 0 b) (S + 5) b = nI r := (RE_2 h1 hb).trans hr2
  have r2 : sI σ (S + 8) r (α 10 r + α 0 b) (S + 9) r = α 11 r := RE_11 h1 hr
  have r3 : sI (sI σ (S + 8) r (α 10 r + α 0 b)) (S + 9) r (α 11 r + 1) (S + 7) b = α 4 b := RE_4 h2 hb
  have r4 : sI (sI (sI σ (S + 8) r (α 10 r + α 0 b)) (S + 9) r (α 11 r + 1)) (S + 7) b (α 4 b + 1) (S + 11) t = α 17 t := RE_17 h3 ht
  have h5 : RE k S (sI (sI (sI (sI σ (S + 8) r (α 10 r + α 0 b)) (S + 9) r (α 11 r + 1)) (S + 7) b (α 4 b + 1)) (S + 11) t (α 17 t + 1)) (aR4 α b r t) R nt := h4
  have hP5 : Pst (aR4 α b r t) b t nt := Pst_o hP (fun f i hf => aR4_p (by omega))
  have h14 : aR4 α b r t 14 t = α 14 t := aR4_o (by omega)
  have h17 : aR4 α b r t 17 t = α 17 t + 1 := by
    rw [aR4_p (by omega), sI_s]
  have fin : ∀ σ5, RE k S σ5 (aYr k (aR4 α b r t) t (nI j)) R nt → Fr k S σ σ5 → rR k S R nt σ (aStk k α b r t 5 6 nt) (jn_X6_stroke_128 σ5 S (nI b) (nI t) (nI (2 * b))) := by
    intro σ5 h6 f6
    have h7 := R_128_0 hS hR hn h6 ht hb (Pst_o hP5 (fun f i hf => aYr_o (by omega)))
    rw [aR_eq (by omega), ← hrc] at h7
    exact rR_t f6 h7
  unfold fn_X6_stroke
  simp only [rs_6 hS, b1_so, is_4 hS hb, gd_tr, hcb, RE_1 h hb, hs, nm_so, hli, rs_3 hS, is_1 hS hb, rs_4 hS, is_2 hS hl, hcl, RE_5 h hb, hd, not_false_eq_true, decide_true, RE_0 h hb, rs_10 hS, rs_7 hS, is_5 hS hb, RE_2 h hb, hr2, is_8 hS hr3, hcr, RE_10 h hr, rs_11 hS, r1, is_9 hS hr3, r2, rs_9 hS, is_7 hS hb, r3, rs_13 hS, is_11 hS ht2, hc, r4, rs_16 hS, ck_M]
  rw [hrc2]
  rcases hK with ⟨rfl, rfl⟩ | ⟨rfl, rfl⟩
  · rw [if_pos rfl, if_neg (show ¬ (1 : Int32) = 0 by decide), R_tellers hn h5 ht, RE_17 h5 ht, h14, h17]
    simp only [b1_so, rm_8]
    by_cases h8 : α 17 t + 1 ≤ 3 * (α 14 t + 1)
    · rw [if_pos h8]
      refine fin _ ?_ f4
      have e9 : aYr true (aR4 α b r t) t (nI j) = aR4 α b r t := by
        unfold aYr
        rw [h17, h14, if_neg (fun h => h.2 h8)]
      rw [e9]
      exact h5
    · rw [if_neg h8]
      have hi : (91 : Int32) * nI t + nI j = nI (91 * t + j) := by
        rw [show (91 : Int32) = nI 91 from rfl, pk_mul, nI_add]
      have hci : (nI (91 * t + j)).toNatClampNeg = 91 * t + j := nI_clamp (by omega)
      rw [hi, im_147 (show 91 * t + j < 1911 by omega), hci, RE_y h5 ht2 hj]
      simp only [gd_tr]
      refine fin _ ?_ (Fr_w f4 hS (Or.inr ⟨rfl, rfl⟩))
      have e9 : aYr true (aR4 α b r t) t (nI j) = sI (aR4 α b r t) (t + 100) j (aR4 α b r t (t + 100) j + 1) := by
        unfold aYr
        rw [h17, h14, if_pos ⟨rfl, h8⟩, cN_n (by omega)]
      rw [e9]
      exact RE_yw hS hR hn ht2 hj h5
  · rw [if_neg (show ¬ false = true by decide), if_pos rfl]
    refine fin _ ?_ f4
    have e9 : aYr false (aR4 α b r t) t (nI j) = aR4 α b r t := if_neg (fun h => absurd h.1 (by decide))
    rw [e9]
    exact h5
theorem R_stk1 {k : Bool} {S R nt : Nat} {σ α : Mem} (hK : SK k S) (hR : R ≤ 12) (hn : nt ≤ 21) (h : RE k S σ α R nt) {b t r : Nat} (ht : t < nt) (hb : b < 4) (hr : r < R) (hr2 : α 2 b = nI r) (hP : Pst (sI α 17 t (α 17 t + 1)) b t nt) (hw : okW α b) (hq : okT α 7 b) (hs : α 1 b = 1) : rR k S R nt σ (aStk k α b r t 7 8 nt) (fn_X6_stroke σ S (nI b) (nI t) (if k = true then 1 else 0)) := by
  have hS := SK_S hK
  have ht2 : t < 21 := Nat.lt_of_lt_of_le ht hn
  have hr3 : r < 12 := Nat.lt_of_lt_of_le hr hR
  have hl : 2 * b + 1 < 8 := by omega
  have hc : (nI t).toNatClampNeg = t := nI_clamp (by omega)
  have hcb : (nI b).toNatClampNeg = b := nI_clamp (by omega)
  have hcr : (nI r).toNatClampNeg = r := nI_clamp (by omega)
  have hcl : (nI (2 * b + 1)).toNatClampNeg = 2 * b + 1 := nI_clamp (by omega)
  obtain ⟨hd, j, hj, hrc⟩ := aRch_ex hw hq
  have hrc2 : 10 * α 0 b / (1 + α 7 b) = nI j := by
    obtain ⟨w, w1, w2, hw⟩ := hw
    obtain ⟨q, q1, hq⟩ := hq
    have h9 := rch_ok2 q (List.mem_range.mpr (by omega)) w (List.mem_range.mpr (by omega))
    rw [hw, hq] at hrc ⊢
    rw [h9, hrc]
  have hli : 2 * nI b + 1 = nI (2 * b + 1) := by
    rw [show (2 : Int32) = nI 2 from rfl, pk_mul, show (1 : Int32) = nI 1 from rfl, nI_add]
  have h1 := RW_10 (α 10 r + α 0 b) hS hR hn hr h
  have h2 := RW_11 (α 11 r + 1) hS hR hn hr h1
  have h3 := RW_4 (α 4 b + 1) hS hR hn hb h2
  have h4 := RW_17 (α 17 t + 1) hS hR hn ht h3
  have f4 : Fr k S σ (sI (sI (sI (sI σ (S + 8) r (α 10 r + α 0 b)) (S + 9) r (α 11 r + 1)) (S + 7) b (α 4 b + 1)) (S + 11) t (α 17 t + 1)) := Fr_w (Fr_w (Fr_w (Fr_w Fr_0 hS (Or.inl (by omega))) hS (Or.inl (by omega))) hS (Or.inl (by omega))) hS (Or.inl (by omega))
  have r1 : sI σ (S + 8) r (α 10 r + α 0 b) (S + 5) b = nI r := (RE_2 h1 hb).trans hr2
  have r2 : sI σ (S + 8) r (α 10 r + α 0 b) (S + 9) r = α 11 r := RE_11 h1 hr
  have r3 : sI (sI σ (S + 8) r (α 10 r + α 0 b)) (S + 9) r (α 11 r + 1) (S + 7) b = α 4 b := RE_4 h2 hb
  have r4 : sI (sI (sI σ (S + 8) r (α 10 r + α 0 b)) (S + 9) r (α 11 r + 1)) (S + 7) b (α 4 b + 1) (S + 11) t = α 17 t := RE_17 h3 ht
  have h5 : RE k S (sI (sI (sI (sI σ (S + 8) r (α 10 r + α 0 b)) (S + 9) r (α 11 r + 1)) (S + 7) b (α 4 b + 1)) (S + 11) t (α 17 t + 1)) (aR4 α b r t) R nt := h4
  have hP5 : Pst (aR4 α b r t) b t nt := Pst_o hP (fun f i hf => aR4_p (by omega))
  have h14 : aR4 α b r t 14 t = α 14 t := aR4_o (by omega)
  have h17 : aR4 α b r t 17 t = α 17 t + 1 := by
    rw [aR4_p (by omega), sI_s]
  have fin : ∀ σ5, RE k S σ5 (aYr k (aR4 α b r t) t (nI j)) R nt → Fr k S σ σ5 → rR k S R nt σ (aStk k α b r t 7 8 nt) (jn_X6_stroke_128 σ5 S (nI b) (nI t) (nI (2 * b + 1))) := by
    intro σ5 h6 f6
    have h7 := R_128_1 hS hR hn h6 ht hb (Pst_o hP5 (fun f i hf => aYr_o (by omega)))
    rw [aR_eq (by omega), ← hrc] at h7
    exact rR_t f6 h7
  unfold fn_X6_stroke
  simp only [rs_6 hS, b1_so, is_4 hS hb, gd_tr, hcb, RE_1 h hb, hs, nm_so, hli, rs_3 hS, is_1 hS hb, rs_4 hS, is_2 hS hl, hcl, RE_7 h hb, hd, not_false_eq_true, decide_true, RE_0 h hb, rs_10 hS, rs_7 hS, is_5 hS hb, RE_2 h hb, hr2, is_8 hS hr3, hcr, RE_10 h hr, rs_11 hS, r1, is_9 hS hr3, r2, rs_9 hS, is_7 hS hb, r3, rs_13 hS, is_11 hS ht2, hc, r4, rs_16 hS, ck_M]
  rw [hrc2]
  rcases hK with ⟨rfl, rfl⟩ | ⟨rfl, rfl⟩
  · rw [if_pos rfl, if_neg (show ¬ (1 : Int32) = 0 by decide), R_tellers hn h5 ht, RE_17 h5 ht, h14, h17]
    simp only [b1_so, rm_8]
    by_cases h8 : α 17 t + 1 ≤ 3 * (α 14 t + 1)
    · rw [if_pos h8]
      refine fin _ ?_ f4
      have e9 : aYr true (aR4 α b r t) t (nI j) = aR4 α b r t := by
        unfold aYr
        rw [h17, h14, if_neg (fun h => h.2 h8)]
      rw [e9]
      exact h5
    · rw [if_neg h8]
      have hi : (91 : Int32) * nI t + nI j = nI (91 * t + j) := by
        rw [show (91 : Int32) = nI 91 from rfl, pk_mul, nI_add]
      have hci : (nI (91 * t + j)).toNatClampNeg = 91 * t + j := nI_clamp (by omega)
      rw [hi, im_147 (show 91 * t + j < 1911 by omega), hci, RE_y h5 ht2 hj]
      simp only [gd_tr]
      refine fin _ ?_ (Fr_w f4 hS (Or.inr ⟨rfl, rfl⟩))
      have e9 : aYr true (aR4 α b r t) t (nI j) = sI (aR4 α b r t) (t + 100) j (aR4 α b r t (t + 100) j + 1) := by
        unfold aYr
        rw [h17, h14, if_pos ⟨rfl, h8⟩, cN_n (by omega)]
      rw [e9]
      exact RE_yw hS hR hn ht2 hj h5
  · rw [if_neg (show ¬ false = true by decide), if_pos rfl]
    refine fin _ ?_ f4
    have e9 : aYr false (aR4 α b r t) t (nI j) = aR4 α b r t := if_neg (fun h => absurd h.1 (by decide))
    rw [e9]
    exact h5
theorem R_stroke {k : Bool} {S R nt : Nat} {σ α : Mem} (hK : SK k S) (hR : R ≤ 12) (hn : nt ≤ 21) (h : RE k S σ α R nt) {b t r : Nat} (ht : t < nt) (hb : b < 4) (hr : r < R) (hr2 : α 2 b = nI r) (hP : Pst (sI α 17 t (α 17 t + 1)) b t nt) (hw : okW α b) (hq : okT α 5 b) (hq2 : okT α 7 b) (hs : α 1 b = 0 ∨ α 1 b = 1) : rR k S R nt σ (aStrike k α b r t nt) (fn_X6_stroke σ S (nI b) (nI t) (if k = true then 1 else 0)) := by
  unfold aStrike
  rcases hs with hs | hs
  · rw [if_pos hs]
    exact R_stk0 hK hR hn h ht hb hr hr2 hP hw hq hs
  · rw [if_neg (by rw [hs]; decide)]
    exact R_stk1 hK hR hn h ht hb hr hr2 hP hw hq2 hs
