/-! the reference does as the abstract: a stroke -/
theorem aFf_o {α β : Mem} (h1 : ∀ i, β 13 i = α 13 i) (h2 : ∀ i, β 19 i = α 19 i) (x : Int32) : ∀ d i, aFf β x d i = aFf α x d i
  | 0, _ => rfl
  | d + 1, i => by
    unfold aFf
    rw [h1, h2, aFf_o h1 h2 x d (i + 1)]
theorem aFirst_o {α β : Mem} (h1 : ∀ i, β 13 i = α 13 i) (h2 : ∀ i, β 19 i = α 19 i) (nt : Nat) (x : Int32) : aFirst β nt x = aFirst α nt x := aFf_o h1 h2 x nt 0
theorem aFf_d {α : Mem} {t : Nat} {m x : Int32} (hm : ¬ m < 0) : ∀ d i, aFf α x d i ≠ nI t → aFf (sI α 19 t m) x d i = aFf α x d i
  | 0, _, _ => rfl
  | d + 1, i, h => by
    unfold aFf at h ⊢
    rw [sI_n (show 13 ≠ 19 ∨ i ≠ t by omega)]
    by_cases h1 : α 13 i = x ∧ α 19 i < 0
    · rw [if_pos h1] at h
      have h2 : i ≠ t := fun e => h (by rw [e])
      rw [sI_n (Or.inr h2), if_pos h1, if_pos h1]
    · rw [if_neg h1] at h
      rw [if_neg h1, if_neg, aFf_d hm d (i + 1) h]
      intro h3
      by_cases h2 : i = t
      · subst h2
        rw [sI_s] at h3
        exact hm h3.2
      · rw [sI_n (Or.inr h2)] at h3
        exact h1 h3
theorem okD_o {α β : Mem} {nt : Nat} (e : ∀ i, β 19 i = α 19 i) (h : okD α nt) : okD β nt := by
  intro t ht
  rw [e]
  exact h t ht
def Pst (α : Mem) (b t nt : Nat) : Prop := α 25 0 = nI nt ∧ α 13 t = nI b ∧ α 23 b = nI t ∧ aFirst α nt (nI b) = nI t ∧ okD α nt ∧ (∃ μ, μ < 2 ^ 31 ∧ α 20 0 = nI μ) ∧ ∃ κ a s, κ ≤ 2 ∧ a ≤ 120 ∧ 1 ≤ s ∧ s ≤ 3 * (κ + 1) + a ∧ α 14 t = nI κ ∧ α 15 t = nI a ∧ α 17 t = nI s
theorem Pst_o {α β : Mem} {b t nt : Nat} (h : Pst α b t nt) (e : ∀ f i, (f = 13 ∨ f = 14 ∨ f = 15 ∨ f = 17 ∨ f = 19 ∨ f = 20 ∨ f = 23 ∨ f = 25) → β f i = α f i) : Pst β b t nt := by
  unfold Pst okD at h ⊢
  rw [e 25 0 (by omega), e 13 t (by omega), e 23 b (by omega), e 20 0 (by omega), e 14 t (by omega), e 15 t (by omega), e 17 t (by omega), aFirst_o (fun i => e 13 i (by omega)) (fun i => e 19 i (by omega))]
  have e2 : ∀ t, β 19 t = α 19 t := fun i => e 19 i (by omega)
  simp only [e2]
  exact h
theorem okD_w {α : Mem} {nt t : Nat} {m : Nat} (hm : m < 2 ^ 31) (h : okD α nt) : okD (sI α 19 t (nI m)) nt := by
  intro u hu
  by_cases e : u = t
  · subst e
    rw [sI_s]
    exact Or.inr ⟨m, hm, rfl⟩
  · rw [sI_n (Or.inr e)]
    exact h u hu
theorem aEmpty_eq {α : Mem} {b f i : Nat} (h1 : f ≠ 22) : aEmpty α b f i = sI α 2 b (-1) f i := by
  unfold aEmpty
  split
  · rfl
  · rw [sI_at, sI_n (Or.inl h1)]
    exact (sI_at _ _ _ _ _ _).symm
theorem R_end1 {k : Bool} {S R nt : Nat} {σ α : Mem} (hS : isS S) (hR : R ≤ 12) (hn : nt ≤ 21) (h1 : RE k S σ α R nt) {b t : Nat} (hb : b < 4) (hN : α 25 0 = nI nt) (hB : α 13 t = nI b) (hD : okD α nt) (h23 : α 23 b = nI t) : rR k S R nt σ (aEnd2 (aEnd1 α nt t b) b) (b1 (fn_X6_first (sI σ (S + 6) b 0) S (nI b)) (fun r14 => if r14 = -1 then some (sI (sI σ (S + 6) b 0) (S + 5) b (-1)) else some (sI σ (S + 6) b 0))) := by
  have h3 := RW_3 0 hS hR hn hb h1
  have f3 : Fr k S σ (sI σ (S + 6) b 0) := Fr_w Fr_0 hS (Or.inl (by omega))
  have hD3 : okD (sI α 3 b 0) nt := okD_o (fun i => sI_n (Or.inl (by decide))) hD
  have hN3 : sI α 3 b 0 25 0 = nI nt := (sI_n (Or.inl (by decide))).trans hN
  unfold aEnd1
  rw [if_pos h23, R_first hS hn h3 hN3 hD3, hB, b1_so]
  unfold aEnd2
  rw [sI_s]
  by_cases h9 : aFirst (sI α 3 b 0) nt (nI b) = -1
  · rw [if_pos h9, if_pos h9]
    refine ⟨_, rfl, ?_, Fr_w f3 hS (Or.inl (by omega))⟩
    refine RE_eq (RW_2 (-1) hS hR hn hb h3) (fun f i h5 h6 => ?_)
    rw [aEmpty_eq h5, sI_at, sI_n (Or.inl h6)]
    exact (sI_at _ _ _ _ _ _).symm
  · rw [if_neg h9, if_neg h9]
    exact ⟨_, rfl, RE_22 (Or.inr rfl) h3, f3⟩
theorem R_end2 {k : Bool} {S R nt : Nat} {σ α : Mem} (hS : isS S) (hR : R ≤ 12) (hn : nt ≤ 21) (h1 : RE k S σ α R nt) {b t : Nat} (hb : b < 4) (hN : α 25 0 = nI nt) (hD : okD α nt) (h23 : ¬ α 23 b = nI t) (hF : aFirst α nt (nI b) = α 23 b) : rR k S R nt σ (aEnd2 (aEnd1 α nt t b) b) (b1 (fn_X6_first σ S (nI b)) (fun r14 => if r14 = -1 then some (sI σ (S + 5) b (-1)) else some σ)) := by
  unfold aEnd1
  rw [if_neg h23, R_first hS hn h1 hN hD, hF, b1_so]
  unfold aEnd2
  by_cases h9 : α 23 b = -1
  · rw [if_pos h9, if_pos h9]
    exact ⟨_, rfl, RE_eq (RW_2 (-1) hS hR hn hb h1) (fun f i h5 h6 => aEmpty_eq h5), Fr_w Fr_0 hS (Or.inl (by omega))⟩
  · rw [if_neg h9, if_neg h9]
    exact ⟨_, rfl, h1, Fr_0⟩
theorem R_end {k : Bool} {S R nt : Nat} {σ α : Mem} (hS : isS S) (hR : R ≤ 12) (hn : nt ≤ 21) (h : RE k S σ α R nt) {b t μ : Nat} (ht : t < nt) (hb : b < 4) (hN : α 25 0 = nI nt) (hB : α 13 t = nI b) (hF : α 23 b = aFirst α nt (nI b)) (hD : okD α nt) (hμ : μ < 2 ^ 31) (hm : α 20 0 = nI μ) : rR k S R nt σ (aEnd α nt t b) (fn_X6_end σ S (nI t)) := by
  have ht2 : t < 21 := Nat.lt_of_lt_of_le ht hn
  have hc : (nI t).toNatClampNeg = t := nI_clamp (by omega)
  have hcb : (nI b).toNatClampNeg = b := nI_clamp (by omega)
  have h1 := RW_19 (nI μ) hS hR hn ht h
  have f1 : Fr k S σ (sI σ (S + 13) t (nI μ)) := Fr_w Fr_0 hS (Or.inl (by omega))
  have hD1 := okD_w (t := t) hμ hD
  have hN1 : sI α 19 t (nI μ) 25 0 = nI nt := (sI_n (Or.inl (by decide))).trans hN
  have hB1 : sI α 19 t (nI μ) 13 t = nI b := (sI_n (Or.inl (by decide))).trans hB
  have e23 : sI α 19 t (nI μ) 23 b = α 23 b := sI_n (Or.inl (by decide))
  have eS : σ S 0 = nI μ := (RE_20 h).trans hm
  have eB : σ 143 t = nI b := (RE_13 h ht).trans hB
  unfold fn_X6_end aEnd
  rw [hm, rs_16 hS, b1_so, rm_4, b1_so, im_143 ht2, gd_tr, hc, eB, nm_so, ck_S hS, gd_tr, R_first hS hn h hN hD, b1_so, ← hF]
  simp only [rs_15 hS, is_13 hS ht2, eS, rs_8 hS, is_6 hS hb, hcb, rs_7 hS, is_5 hS hb, b1_so, gd_tr, nm_so]
  by_cases h2 : α 23 b = nI t
  · rw [if_pos h2]
    exact rR_t f1 (R_end1 hS hR hn h1 hb hN1 hB1 hD1 (e23.trans h2))
  · rw [if_neg h2]
    have e9 : aFirst (sI α 19 t (nI μ)) nt (nI b) = aFirst α nt (nI b) := by
      unfold aFirst at hF ⊢
      rw [aFf_d (nI_pos hμ) nt 0 (fun h9 => h2 (hF.trans h9))]
    exact rR_t f1 (R_end2 hS hR hn h1 hb hN1 hD1 (fun h9 => h2 (e23.symm.trans h9)) (e9.trans (hF.symm.trans e23.symm)))
theorem R_tellers {k : Bool} {S R nt : Nat} {σ α : Mem} (hn : nt ≤ 21) (h : RE k S σ α R nt) {t : Nat} (ht : t < nt) : fn_X7_tellers σ 141 (nI t) = some (3 * (α 14 t + 1)) := by
  have ht2 : t < 21 := Nat.lt_of_lt_of_le ht hn
  have hc : (nI t).toNatClampNeg = t := nI_clamp (by omega)
  unfold fn_X7_tellers
  simp only [rm_5, b1_so, im_144 ht2, gd_tr, hc, RE_14 h ht]
theorem R_all {k : Bool} {S R nt : Nat} {σ α : Mem} (hn : nt ≤ 21) (h : RE k S σ α R nt) {t : Nat} (ht : t < nt) : fn_X7_all σ 141 (nI t) = some (aDue α t) := by
  have ht2 : t < 21 := Nat.lt_of_lt_of_le ht hn
  have hc : (nI t).toNatClampNeg = t := nI_clamp (by omega)
  unfold fn_X7_all aDue
  simp only [ck_M, rm_6, b1_so, im_145 ht2, gd_tr, hc, RE_15 h ht, R_tellers hn h ht]
theorem aEnd_3 {α : Mem} {b t nt : Nat} {x : Int32} (h : α 23 b = nI t) : aEnd (sI α 3 b x) nt t b = aEnd α nt t b := by
  unfold aEnd aEnd1
  have e1 : sI (sI α 3 b x) 19 t (sI α 3 b x 20 0) 23 b = nI t := h
  have e2 : sI α 19 t (α 20 0) 23 b = nI t := h
  have e3 : sI (sI (sI α 3 b x) 19 t (sI α 3 b x 20 0)) 3 b 0 = sI (sI α 19 t (α 20 0)) 3 b 0 := by
    rw [sI_c (show 3 ≠ 19 by decide), sI_ss]
    rfl
  have e4 : sI (sI α 3 b x) 19 t (sI α 3 b x 20 0) 13 t = sI α 19 t (α 20 0) 13 t := rfl
  rw [if_pos e1, if_pos e2, e3, e4]
theorem R_251 {k : Bool} {S R nt : Nat} {σ α : Mem} (hS : isS S) (hR : R ≤ 12) (hn : nt ≤ 21) (h : RE k S σ α R nt) {b t : Nat} (ht : t < nt) (hb : b < 4) (hP : Pst α b t nt) (b0 : Int32) (hz : aPz α t = if b0 = 0 then α 16 t - 1 else α 16 t - 1 + α 16 t) : rR k S R nt σ (aTl α b t nt) (jn_X6_stroke_251 σ S (nI b) (nI t) b0) := by
  have ht2 : t < 21 := Nat.lt_of_lt_of_le ht hn
  have hc : (nI t).toNatClampNeg = t := nI_clamp (by omega)
  have hcb : (nI b).toNatClampNeg = b := nI_clamp (by omega)
  have h1 := RW_3 (aPz α t) hS hR hn hb h
  have f1 : Fr k S σ (sI σ (S + 6) b (aPz α t)) := Fr_w Fr_0 hS (Or.inl (by omega))
  have hP0 := hP
  obtain ⟨hN, hB, h23, hF, hD, ⟨μ, hμ, hm⟩, κ, a, s, hκ, ha, hs1, hs2, e14, e15, e17⟩ := hP
  have tl : rR k S R nt σ (aTl α b t nt) (if α 17 t = aDue α t then b1 (fn_X6_end (sI σ (S + 6) b (aPz α t)) S (nI t)) (fun s => some s) else some (sI σ (S + 6) b (aPz α t))) := by
    unfold aTl
    have ed : aDue α t = nI (3 * (κ + 1) + a) := by
      unfold aDue
      rw [e14, e15, nI_1, show (3 : Int32) = nI 3 from rfl, pk_mul, nI_add]
    rw [ed, e17]
    by_cases h9 : s = 3 * (κ + 1) + a
    · rw [← h9, if_pos rfl, if_neg (nI_nlt (Nat.le_refl _) (by omega)), ← aEnd_3 (x := aPz α t) h23]
      obtain ⟨s2, e, h8, f8⟩ := R_end hS hR hn h1 ht hb (show sI α 3 b (aPz α t) 25 0 = nI nt from hN) (show sI α 3 b (aPz α t) 13 t = nI b from hB) (show sI α 3 b (aPz α t) 23 b = aFirst (sI α 3 b (aPz α t)) nt (nI b) by
        rw [aFirst_o (α := α) (β := sI α 3 b (aPz α t)) (fun _ => rfl) (fun _ => rfl), hF]; exact h23) (show okD (sI α 3 b (aPz α t)) nt from hD) hμ (show sI α 3 b (aPz α t) 20 0 = nI μ from hm)
      rw [e]
      exact ⟨_, rfl, h8, Fr_t f1 f8⟩
    · rw [if_pos (nI_lt (by omega) (by omega)), if_neg]
      · exact ⟨_, rfl, h1, f1⟩
      · intro h8
        have h7 := congrArg Int32.toNatClampNeg h8
        rw [nI_clamp (by omega), nI_clamp (by omega)] at h7
        exact h9 h7
  unfold jn_X6_stroke_251
  simp only [rs_8 hS, b1_so, rs_16 hS, rm_7, im_146 ht2, gd_tr, hc, hcb, RE_16 h ht, is_6 hS hb, nm_so, rs_13 hS, is_11 hS ht2, ck_M]
  by_cases h2 : b0 = 0
  · rw [if_pos h2] at hz ⊢
    rw [Int32.add_zero, ← hz, R_all hn h1 ht]
    simp only [b1_so, RE_17 h1 ht, ck_S hS, gd_tr]
    exact tl
  · rw [if_neg h2] at hz ⊢
    rw [← hz, R_all hn h1 ht]
    simp only [b1_so, RE_17 h1 ht, ck_S hS, gd_tr]
    exact tl
theorem grp_ok : ∀ κ ∈ List.range 3, ∀ s ∈ List.range 130, (¬ nI κ + 1 = 0) ∧ (1 ≤ s → ((¬ 3 * (nI κ + 1) < nI s ∧ nI s - nI s / (nI κ + 1) * (nI κ + 1) = 0) ↔ (nI s = nI κ + 1 ∨ nI s = 2 * (nI κ + 1) ∨ nI s = 3 * (nI κ + 1)))) := by decide +kernel
theorem R_194 {k : Bool} {S R nt : Nat} {σ α : Mem} (hS : isS S) (hR : R ≤ 12) (hn : nt ≤ 21) (h : RE k S σ α R nt) {b t : Nat} (ht : t < nt) (hb : b < 4) (hP : Pst α b t nt) : rR k S R nt σ (aTl (sI α 1 b (1 - α 1 b)) b t nt) (jn_X6_stroke_194 σ S (nI b) (nI t)) := by
  have ht2 : t < 21 := Nat.lt_of_lt_of_le ht hn
  have hc : (nI t).toNatClampNeg = t := nI_clamp (by omega)
  have hcb : (nI b).toNatClampNeg = b := nI_clamp (by omega)
  have h1 := RW_1 (1 - α 1 b) hS hR hn hb h
  have f1 : Fr k S σ (sI σ (S + 4) b (1 - α 1 b)) := Fr_w Fr_0 hS (Or.inl (by omega))
  have hP1 : Pst (sI α 1 b (1 - α 1 b)) b t nt := Pst_o hP (fun f i hf => sI_n (by omega))
  have hP0 := hP
  obtain ⟨hN, hB, h23, hF, hD, ⟨μ, hμ, hm⟩, κ, a, s, hκ, ha, hs1, hs2, e14, e15, e17⟩ := hP
  obtain ⟨g1, g2⟩ := grp_ok κ (List.mem_range.mpr (by omega)) s (List.mem_range.mpr (by omega))
  have e17b : sI σ (S + 4) b (1 - α 1 b) (S + 11) t = nI s := (RE_17 h1 ht).trans e17
  have e14b : sI σ (S + 4) b (1 - α 1 b) 144 t = nI κ := (RE_14 h1 ht).trans e14
  have pz : ∀ b0 : Int32, ((¬ 3 * (nI κ + 1) < nI s ∧ nI s - nI s / (nI κ + 1) * (nI κ + 1) = 0) ↔ ¬ b0 = 0) → aPz (sI α 1 b (1 - α 1 b)) t = if b0 = 0 then sI α 1 b (1 - α 1 b) 16 t - 1 else sI α 1 b (1 - α 1 b) 16 t - 1 + sI α 1 b (1 - α 1 b) 16 t := by
    intro b0 hb0
    show (if α 17 t = α 14 t + 1 then α 16 t - 1 + α 16 t else if α 17 t = 2 * (α 14 t + 1) then α 16 t - 1 + α 16 t else if α 17 t = 3 * (α 14 t + 1) then α 16 t - 1 + α 16 t else α 16 t - 1) = if b0 = 0 then α 16 t - 1 else α 16 t - 1 + α 16 t
    rw [e14, e17]
    have g3 := (g2 hs1).symm.trans hb0
    by_cases q1 : nI s = nI κ + 1
    · rw [if_pos q1, if_neg (g3.mp (Or.inl q1))]
    · by_cases q2 : nI s = 2 * (nI κ + 1)
      · rw [if_neg q1, if_pos q2, if_neg (g3.mp (Or.inr (Or.inl q2)))]
      · by_cases q3 : nI s = 3 * (nI κ + 1)
        · rw [if_neg q1, if_neg q2, if_pos q3, if_neg (g3.mp (Or.inr (Or.inr q3)))]
        · have q4 : b0 = 0 := Decidable.byContradiction (fun q => (g3.mpr q).elim q1 (fun q => q.elim q2 q3))
          rw [if_neg q1, if_neg q2, if_neg q3, if_pos q4]
  unfold jn_X6_stroke_194 jn_X6_stroke_250
  simp only [rs_6 hS, b1_so, is_4 hS hb, gd_tr, hcb, RE_1 h hb, nm_so, rs_13 hS, is_11 hS ht2, rs_16 hS, ck_M, R_tellers hn h1 ht, hc, e17b, rm_5, im_144 ht2, e14b]
  have e14c : sI α 1 b (1 - α 1 b) 14 t = nI κ := e14
  rw [e14c]
  by_cases h2 : 3 * (nI κ + 1) < nI s
  · rw [if_pos h2]
    exact rR_t f1 (R_251 hS hR hn h1 ht hb hP1 0 (pz 0 ⟨fun h => absurd h2 h.1, fun h => absurd rfl h⟩))
  · rw [if_neg h2, decide_eq_true g1, gd_tr]
    by_cases h3 : nI s - nI s / (nI κ + 1) * (nI κ + 1) = 0
    · rw [if_pos h3]
      exact rR_t f1 (R_251 hS hR hn h1 ht hb hP1 1 (pz 1 ⟨fun _ => by decide, fun _ => ⟨h2, h3⟩⟩))
    · rw [if_neg h3]
      exact rR_t f1 (R_251 hS hR hn h1 ht hb hP1 0 (pz 0 ⟨fun h => absurd h.2 h3, fun h => absurd rfl h⟩))
