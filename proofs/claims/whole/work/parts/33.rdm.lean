/-! the methods that only tell -/
theorem P_lasts (B : Nat) (p0 p1 : Int32) : mthR B [(1, 1)] (fun σ => fn_X5_lasts σ 0 p0 p1) (fun σ => fn_X7_lasts σ 141 p0 p1) := by
  intro σ hI
  by_cases r0 : rng p0 0 3
  case neg =>
    refine mthR_no hI 1 1 (by decide) ?_ ?_
    · show fn_X5_lasts σ 0 p0 p1 = _
      unfold fn_X5_lasts
      simp only [bell_no r0, bx_l]
    · show fn_X7_lasts σ 141 p0 p1 = _
      unfold fn_X7_lasts
      simp only [ck_M, gd_tr, nm_so, ib_no r0, if_true, b1_so, lf_no, b2_so]
      rfl
  by_cases r1 : rng p1 0 1
  case neg =>
    refine mthR_no hI 1 1 (by decide) ?_ ?_
    · show fn_X5_lasts σ 0 p0 p1 = _
      unfold fn_X5_lasts
      simp only [bell_ok r0, bx_r, side_n r1, bx_l]
    · show fn_X7_lasts σ 141 p0 p1 = _
      unfold fn_X7_lasts
      simp only [ck_M, gd_tr, nm_so, ib_ok r0, is_no r1, i10, if_false, if_true, b1_so, lf_no, b2_so]
      rfl
  obtain ⟨T, eT⟩ : ∃ T, T = 1 := ⟨_, rfl⟩
  obtain ⟨S, eS⟩ : ∃ S, S = 148 := ⟨_, rfl⟩
  have hT : isT T := Or.inl eT
  have hS : isS S := Or.inl eS
  have hI2 := hI
  obtain ⟨α, nr, nt, μ, h1, h2, h3, h4, h5, h6, h7, h8⟩ := Inv_o eT eS hI
  have f0 := st eT eS h6 (Fc_0 (T := T) (σ := σ)) h2
  have e3 : sI σ 141 0 0 141 3 = nI nt := st3 eT (Fc_0 (T := T) (σ := σ)) h7
  have e1 : sI σ 141 0 0 141 1 = nI nr := (RE_24 f0).trans h3.1.1
  obtain ⟨b, _, hb, rfl⟩ := rng_of (a := 0) (b := 3) rfl rfl (by omega) r0
  obtain ⟨s, _, hs, rfl⟩ := rng_of (a := 0) (b := 1) rfl rfl (by omega) r1
  have hb4 : b < 4 := by omega
  obtain ⟨q1, q2, q3, q4⟩ := h3.2.1 b hb4
  rcases (show s = 0 ∨ s = 1 by omega) with rfl | rfl
  · refine mthR_ok (x := aLeft α b 5 6) hI2 ?_ ?_
    · show fn_X5_lasts σ 0 (nI b) (nI 0) = _
      unfold fn_X5_lasts
      simp only [bell_ok r0, bx_r, side_y r1, rf0 eT, b1_so, rf_T0 hT, ea_B hT hb4, ck_B hT hb4, gd_tr, C_left0 hT h1 hb4 q1]
    · show fn_X7_lasts σ 141 (nI b) (nI 0) = _
      unfold fn_X7_lasts
      simp only [ck_M, gd_tr, nm_so, ib_ok r0, is_ok r1, i10, if_false, b1_so, R_left0 eS f0 hb4 q1 q3]
  · refine mthR_ok (x := aLeft α b 7 8) hI2 ?_ ?_
    · show fn_X5_lasts σ 0 (nI b) (nI 1) = _
      unfold fn_X5_lasts
      simp only [bell_ok r0, bx_r, side_y r1, rf0 eT, b1_so, rf_T0 hT, ea_B hT hb4, ck_B hT hb4, gd_tr, C_left1 hT h1 hb4 q1]
    · show fn_X7_lasts σ 141 (nI b) (nI 1) = _
      unfold fn_X7_lasts
      simp only [ck_M, gd_tr, nm_so, ib_ok r0, is_ok r1, i10, if_false, b1_so, R_left1 eS f0 hb4 q1 q4]
theorem n9_ok {σ : Mem} {p : Int32} (h : rng p 0 8) : fn_X5_needIndex σ p 9 = some (.inr ()) := ni_ok (n := 9) (by omega) h
theorem n9_no {σ : Mem} {p : Int32} (h : ¬ rng p 0 8) : fn_X5_needIndex σ p 9 = some (.inl 1) := ni_no (n := 9) (by omega) h
theorem n5_ok {σ : Mem} {p : Int32} (h : rng p 0 4) : fn_X5_needIndex σ p 5 = some (.inr ()) := ni_ok (n := 5) (by omega) h
theorem n5_no {σ : Mem} {p : Int32} (h : ¬ rng p 0 4) : fn_X5_needIndex σ p 5 = some (.inl 1) := ni_no (n := 5) (by omega) h
theorem P_bell (B : Nat) (hB : B ≤ 1000000) (p0 p1 : Int32) : mthR B [(1, 1)] (fun σ => fn_X5_bell σ 0 p0 p1) (fun σ => fn_X7_bell σ 141 p0 p1) := by
  intro σ hI
  by_cases r0 : rng p0 0 3
  case neg =>
    refine mthR_no hI 1 1 (by decide) ?_ ?_
    · show fn_X5_bell σ 0 p0 p1 = _
      unfold fn_X5_bell
      simp only [bell_no r0, bx_l]
    · show fn_X7_bell σ 141 p0 p1 = _
      unfold fn_X7_bell
      simp only [ck_M, gd_tr, nm_so, ib_no r0, if_true, b1_so, lf_no, b2_so]
      rfl
  by_cases r1 : rng p1 0 8
  case neg =>
    refine mthR_no hI 1 1 (by decide) ?_ ?_
    · show fn_X5_bell σ 0 p0 p1 = _
      unfold fn_X5_bell
      simp only [bell_ok r0, bx_r, n9_no r1, bx_l]
    · show fn_X7_bell σ 141 p0 p1 = _
      unfold fn_X7_bell
      simp only [ck_M, gd_tr, nm_so, ib_ok r0, in_no r1, i10, if_false, if_true, b1_so, lf_no, b2_so]
      rfl
  obtain ⟨T, eT⟩ : ∃ T, T = 1 := ⟨_, rfl⟩
  obtain ⟨S, eS⟩ : ∃ S, S = 148 := ⟨_, rfl⟩
  have hT : isT T := Or.inl eT
  have hS : isS S := Or.inl eS
  have hI2 := hI
  obtain ⟨α, nr, nt, μ, h1, h2, h3, h4, h5, h6, h7, h8⟩ := Inv_o eT eS hI
  have f0 := st eT eS h6 (Fc_0 (T := T) (σ := σ)) h2
  have e3 : sI σ 141 0 0 141 3 = nI nt := st3 eT (Fc_0 (T := T) (σ := σ)) h7
  have e1 : sI σ 141 0 0 141 1 = nI nr := (RE_24 f0).trans h3.1.1
  obtain ⟨b, _, hb, rfl⟩ := rng_of (a := 0) (b := 3) rfl rfl (by omega) r0
  obtain ⟨j, _, hj, rfl⟩ := rng_of (a := 0) (b := 8) rfl rfl (by omega) r1
  have hb4 : b < 4 := by omega
  have hD := WT_D (show μ < 2 ^ 31 by omega) h3.2.2.2.2
  refine mthR_ok (x := aBellT α nt b j) hI2 ?_ ?_
  · show fn_X5_bell σ 0 (nI b) (nI j) = _
    unfold fn_X5_bell
    simp only [bell_ok r0, bx_r, n9_ok r1, rf0 eT, b1_so, ck_T hT, gd_tr, C_bellT hT (show nt ≤ 21 by omega) h1 h3.1.2.1 hb4 (show j < 9 by omega)]
  · show fn_X7_bell σ 141 (nI b) (nI j) = _
    unfold fn_X7_bell
    simp only [ck_M, gd_tr, nm_so, ib_ok r0, in_ok r1, i10, if_false, b1_so, R_bellT eS (show nt ≤ 21 by omega) f0 h3.1.2.1 e3 hD (h3.2.2.2.1 b hb4) hb4 (show j < 9 by omega)]
theorem P_told (B : Nat) (p0 p1 : Int32) : mthR B [(1, 1)] (fun σ => fn_X5_told σ 0 p0 p1) (fun σ => fn_X7_told σ 141 p0 p1) := by
  intro σ hI
  obtain ⟨T, eT⟩ : ∃ T, T = 1 := ⟨_, rfl⟩
  obtain ⟨S, eS⟩ : ∃ S, S = 148 := ⟨_, rfl⟩
  have hT : isT T := Or.inl eT
  have hS : isS S := Or.inl eS
  have hI2 := hI
  obtain ⟨α, nr, nt, μ, h1, h2, h3, h4, h5, h6, h7, h8⟩ := Inv_o eT eS hI
  have f0 := st eT eS h6 (Fc_0 (T := T) (σ := σ)) h2
  have e3 : sI σ 141 0 0 141 3 = nI nt := st3 eT (Fc_0 (T := T) (σ := σ)) h7
  have e1 : sI σ 141 0 0 141 1 = nI nr := (RE_24 f0).trans h3.1.1
  by_cases r0 : rng p0 0 (nI nr - 1)
  case neg =>
    refine mthR_no hI2 1 1 (by decide) ?_ ?_
    · show fn_X5_told σ 0 p0 p1 = _
      unfold fn_X5_told
      simp only [rf0 eT, b1_so, ck_T hT, gd_tr, CE_24 h1, h3.1.1, ni_no (show nr < 2 ^ 30 by omega) r0, bx_l]
    · show fn_X7_told σ 141 p0 p1 = _
      unfold fn_X7_told
      simp only [ck_M, gd_tr, nm_so, ir_no (show nr < 2 ^ 30 by omega) e1 r0, if_true, b1_so, lf_no, b2_so]
      rfl
  by_cases r1 : rng p1 0 4
  case neg =>
    refine mthR_no hI2 1 1 (by decide) ?_ ?_
    · show fn_X5_told σ 0 p0 p1 = _
      unfold fn_X5_told
      simp only [rf0 eT, b1_so, ck_T hT, gd_tr, CE_24 h1, h3.1.1, ni_ok (show nr < 2 ^ 30 by omega) r0, bx_r, n5_no r1, bx_l]
    · show fn_X7_told σ 141 p0 p1 = _
      unfold fn_X7_told
      simp only [ck_M, gd_tr, nm_so, ir_ok (show nr < 2 ^ 30 by omega) e1 r0, in_no r1, i10, if_false, if_true, b1_so, lf_no, b2_so]
      rfl
  obtain ⟨r, hr, rfl⟩ := rng_ix (by omega) r0
  obtain ⟨j, _, hj, rfl⟩ := rng_of (a := 0) (b := 4) rfl rfl (by omega) r1
  have hr2 : r < 12 := by omega
  refine mthR_ok (x := aTold α r j) hI2 ?_ ?_
  · show fn_X5_told σ 0 (nI r) (nI j) = _
    unfold fn_X5_told
    simp only [rf0 eT, b1_so, ck_T hT, gd_tr, CE_24 h1, h3.1.1, ni_ok (show nr < 2 ^ 30 by omega) r0, bx_r, n5_ok r1, rf_T1 hT, ea_R hT hr2, ck_R hT hr2, C_told hT (Nat.le_refl 12) h1 hr2 (show j < 5 by omega)]
  · show fn_X7_told σ 141 (nI r) (nI j) = _
    unfold fn_X7_told
    simp only [ck_M, gd_tr, nm_so, ir_ok (show nr < 2 ^ 30 by omega) e1 r0, in_ok r1, i10, if_false, b1_so, R_told eS (Nat.le_refl 12) f0 hr2 (h3.2.2.1.2 r hr) (show j < 5 by omega)]
theorem P_about (B : Nat) (hB : B ≤ 1000000) (p0 p1 : Int32) : mthR B [(1, 1)] (fun σ => fn_X5_about σ 0 p0 p1) (fun σ => fn_X7_about σ 141 p0 p1) := by
  intro σ hI
  obtain ⟨T, eT⟩ : ∃ T, T = 1 := ⟨_, rfl⟩
  obtain ⟨S, eS⟩ : ∃ S, S = 148 := ⟨_, rfl⟩
  have hT : isT T := Or.inl eT
  have hS : isS S := Or.inl eS
  have hI2 := hI
  obtain ⟨α, nr, nt, μ, h1, h2, h3, h4, h5, h6, h7, h8⟩ := Inv_o eT eS hI
  have f0 := st eT eS h6 (Fc_0 (T := T) (σ := σ)) h2
  have e3 : sI σ 141 0 0 141 3 = nI nt := st3 eT (Fc_0 (T := T) (σ := σ)) h7
  have e1 : sI σ 141 0 0 141 1 = nI nr := (RE_24 f0).trans h3.1.1
  by_cases r0 : rng p0 0 (nI nt - 1)
  case neg =>
    refine mthR_no hI2 1 1 (by decide) ?_ ?_
    · show fn_X5_about σ 0 p0 p1 = _
      unfold fn_X5_about
      simp only [rf0 eT, b1_so, ck_T hT, gd_tr, CE_25 h1, h3.1.2.1, ni_no (show nt < 2 ^ 30 by omega) r0, bx_l]
    · show fn_X7_about σ 141 p0 p1 = _
      unfold fn_X7_about
      simp only [ck_M, gd_tr, nm_so, it_no (show nt < 2 ^ 30 by omega) e3 r0, if_true, b1_so, lf_no, b2_so]
      rfl
  by_cases r1 : rng p1 0 8
  case neg =>
    refine mthR_no hI2 1 1 (by decide) ?_ ?_
    · show fn_X5_about σ 0 p0 p1 = _
      unfold fn_X5_about
      simp only [rf0 eT, b1_so, ck_T hT, gd_tr, CE_25 h1, h3.1.2.1, ni_ok (show nt < 2 ^ 30 by omega) r0, bx_r, n9_no r1, bx_l]
    · show fn_X7_about σ 141 p0 p1 = _
      unfold fn_X7_about
      simp only [ck_M, gd_tr, nm_so, it_ok (show nt < 2 ^ 30 by omega) e3 r0, in_no r1, i10, if_false, if_true, b1_so, lf_no, b2_so]
      rfl
  obtain ⟨t, ht, rfl⟩ := rng_ix (by omega) r0
  obtain ⟨j, _, hj, rfl⟩ := rng_of (a := 0) (b := 8) rfl rfl (by omega) r1
  have ht2 : t < 21 := by omega
  have hD := WT_D (show μ < 2 ^ 31 by omega) h3.2.2.2.2
  refine mthR_ok (x := aAbout α t j) hI2 ?_ ?_
  · show fn_X5_about σ 0 (nI t) (nI j) = _
    unfold fn_X5_about
    simp only [rf0 eT, b1_so, ck_T hT, gd_tr, CE_25 h1, h3.1.2.1, ni_ok (show nt < 2 ^ 30 by omega) r0, bx_r, n9_ok r1, rf_T2 hT, ea_O hT ht2, ck_O hT ht2, C_about hT (show nt ≤ 21 by omega) h1 ht (show j < 9 by omega)]
  · show fn_X7_about σ 141 (nI t) (nI j) = _
    unfold fn_X7_about
    simp only [ck_M, gd_tr, nm_so, it_ok (show nt < 2 ^ 30 by omega) e3 r0, in_ok r1, i10, if_false, b1_so, R_about eS (show nt ≤ 21 by omega) f0 hD ht (show j < 9 by omega)]
theorem C_heardT {T R nt t j : Nat} {σ α : Mem} (eT : T = 1) (hn : nt ≤ 21) (h : CE true T σ α R nt) (ht : t < 21) (hj : j ≤ 90) : fn_X3_yearsCounted σ (oO T t) (nI j) = some (aHeard α t j) := by
  subst eT
  exact C_heard hn h ht hj
theorem P_heard (B : Nat) (p0 p1 : Int32) : mthR B [(1, 1), (2, 2)] (fun σ => fn_X5_heard σ 0 p0 p1) (fun σ => fn_X7_heard σ 141 p0 p1) := by
  intro σ hI
  obtain ⟨T, eT⟩ : ∃ T, T = 1 := ⟨_, rfl⟩
  obtain ⟨S, eS⟩ : ∃ S, S = 148 := ⟨_, rfl⟩
  have hT : isT T := Or.inl eT
  have hS : isS S := Or.inl eS
  have hI2 := hI
  obtain ⟨α, nr, nt, μ, h1, h2, h3, h4, h5, h6, h7, h8⟩ := Inv_o eT eS hI
  have f0 := st eT eS h6 (Fc_0 (T := T) (σ := σ)) h2
  have e3 : sI σ 141 0 0 141 3 = nI nt := st3 eT (Fc_0 (T := T) (σ := σ)) h7
  have e1 : sI σ 141 0 0 141 1 = nI nr := (RE_24 f0).trans h3.1.1
  by_cases r0 : rng p0 0 (nI nt - 1)
  case neg =>
    refine mthR_no hI2 1 1 (by decide) ?_ ?_
    · show fn_X5_heard σ 0 p0 p1 = _
      unfold fn_X5_heard
      simp only [rf0 eT, b1_so, ck_T hT, gd_tr, CE_25 h1, h3.1.2.1, ni_no (show nt < 2 ^ 30 by omega) r0, bx_l]
    · show fn_X7_heard σ 141 p0 p1 = _
      unfold fn_X7_heard
      simp only [ck_M, gd_tr, nm_so, it_no (show nt < 2 ^ 30 by omega) e3 r0, if_true, b1_so, lf_no, b2_so]
      rfl
  by_cases r1 : rng p1 0 90
  case neg =>
    refine mthR_no hI2 2 2 (by decide) ?_ ?_
    · show fn_X5_heard σ 0 p0 p1 = _
      unfold fn_X5_heard
      simp only [rf0 eT, b1_so, ck_T hT, gd_tr, CE_25 h1, h3.1.2.1, ni_ok (show nt < 2 ^ 30 by omega) r0, bx_r, nb_no r1, bx_l]
    · show fn_X7_heard σ 141 p0 p1 = _
      unfold fn_X7_heard
      simp only [ck_M, gd_tr, nm_so, it_ok (show nt < 2 ^ 30 by omega) e3 r0, in_no r1, i10, if_false, if_true, b1_so, lf_no, b2_so]
      rfl
  obtain ⟨t, ht, rfl⟩ := rng_ix (by omega) r0
  obtain ⟨j, _, hj, rfl⟩ := rng_of (a := 0) (b := 90) rfl rfl (by omega) r1
  have ht2 : t < 21 := by omega
  refine mthR_ok (x := aHeard α t j) hI2 ?_ ?_
  · show fn_X5_heard σ 0 (nI t) (nI j) = _
    unfold fn_X5_heard
    simp only [rf0 eT, b1_so, ck_T hT, gd_tr, CE_25 h1, h3.1.2.1, ni_ok (show nt < 2 ^ 30 by omega) r0, bx_r, nb_ok r1, rf_T2 hT, ea_O hT ht2, ck_O hT ht2, C_heardT eT (show nt ≤ 21 by omega) h1 ht2 hj]
  · show fn_X7_heard σ 141 (nI t) (nI j) = _
    unfold fn_X7_heard
    simp only [ck_M, gd_tr, nm_so, it_ok (show nt < 2 ^ 30 by omega) e3 r0, in_ok r1, i10, if_false, b1_so, R_heard f0 ht2 hj]
theorem P_count (B : Nat) (hB : B ≤ 1000000) (p0 : Int32) : mthR B [(1, 1)] (fun σ => fn_X5_count σ 0 p0) (fun σ => fn_X7_count σ 141 p0) := by
  intro σ hI
  by_cases r1 : rng p0 0 8
  case neg =>
    refine mthR_no hI 1 1 (by decide) ?_ ?_
    · show fn_X5_count σ 0 p0 = _
      unfold fn_X5_count
      simp only [n9_no r1, bx_l]
    · show fn_X7_count σ 141 p0 = _
      unfold fn_X7_count
      simp only [ck_M, gd_tr, nm_so, in_no r1, if_true, b1_so, lf_no, b2_so]
      rfl
  obtain ⟨T, eT⟩ : ∃ T, T = 1 := ⟨_, rfl⟩
  obtain ⟨S, eS⟩ : ∃ S, S = 148 := ⟨_, rfl⟩
  have hT : isT T := Or.inl eT
  have hS : isS S := Or.inl eS
  have hI2 := hI
  obtain ⟨α, nr, nt, μ, h1, h2, h3, h4, h5, h6, h7, h8⟩ := Inv_o eT eS hI
  have f0 := st eT eS h6 (Fc_0 (T := T) (σ := σ)) h2
  have e3 : sI σ 141 0 0 141 3 = nI nt := st3 eT (Fc_0 (T := T) (σ := σ)) h7
  have e1 : sI σ 141 0 0 141 1 = nI nr := (RE_24 f0).trans h3.1.1
  obtain ⟨j, _, hj, rfl⟩ := rng_of (a := 0) (b := 8) rfl rfl (by omega) r1
  have hD := WT_D (show μ < 2 ^ 31 by omega) h3.2.2.2.2
  refine mthR_ok (x := aCount α nr nt j) hI2 ?_ ?_
  · show fn_X5_count σ 0 (nI j) = _
    unfold fn_X5_count
    simp only [n9_ok r1, bx_r, rf0 eT, b1_so, ck_T hT, gd_tr, C_count hT (Nat.le_refl 12) (show nt ≤ 21 by omega) h1 h3.1.1 h5 h3.1.2.1 (show j < 9 by omega)]
  · show fn_X7_count σ 141 (nI j) = _
    unfold fn_X7_count
    simp only [ck_M, gd_tr, nm_so, in_ok r1, i10, if_false, b1_so, rm9 eS, ck_S hS, R_count hS (show nt ≤ 21 by omega) f0 h3.1.2.1 hD (ropes_eq h5 h3.2.2.1) (show j < 9 by omega)]
