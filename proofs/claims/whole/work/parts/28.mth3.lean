/-! the methods: ringer, send, stop -/
theorem WH_24 {α : Mem} {nr nt μ : Nat} {x : Int32} (hx : x = nI (nr + 1)) (h : WH α nr nt μ) : WH (sI α 24 0 x) (nr + 1) nt μ := ⟨sI_s.trans hx, (sI_n (Or.inl (by decide))).trans h.2.1, (sI_n (Or.inl (by decide))).trans h.2.2⟩
theorem P_ringer (B : Nat) (p0 : Int32) : mth B B [(2, 1), (3, 2)] (fun σ => fn_X5_ringer σ 0 p0) (fun σ => fn_X7_ringer σ 141 p0) := by
  intro σ hI
  by_cases r1 : rng p0 1 9
  case neg =>
    refine mth_no (Nat.le_refl B) hI 2 1 (by decide) ?_ ?_
    · show fn_X5_ringer σ 0 p0 = _
      unfold fn_X5_ringer
      simp only [nb_no r1, bx_l]
    · show fn_X7_ringer σ 141 p0 = _
      unfold fn_X7_ringer
      simp only [ck_M, gd_tr, nm_so, b1_so, in_no r1, if_true, lf_no, b2_so]
      rfl
  obtain ⟨T, eT⟩ : ∃ T, T = 1 := ⟨_, rfl⟩
  obtain ⟨S, eS⟩ : ∃ S, S = 148 := ⟨_, rfl⟩
  have hT : isT T := Or.inl eT
  have hS : isS S := Or.inl eS
  have hI2 := hI
  obtain ⟨α, nr, nt, μ, h1, h2, h3, h4, h5, h6, h7, h8⟩ := Inv_o eT eS hI
  have hc : (nI nr).toNatClampNeg = nr := nI_clamp (by omega)
  by_cases hr : nr < 12
  · have k1 := CW_9 p0 hT (Nat.le_refl 12) (by omega) hr h1
    have k2 := CW_24 (α 24 0 + 1) hT (Nat.le_refl 12) (by omega) k1
    have f2 : Fc T σ (sI (sI σ (oR T nr) 0 p0) T 4 (α 24 0 + 1)) := Fc_w (Fc_w Fc_0 (rgR hr)) rgT
    have e2 : sI σ (oR T nr) 0 p0 T 4 = α 24 0 := (CE_24 k1).trans (sI_n (Or.inl (by decide)))
    have g0 := st eT eS h6 f2 h2
    have g1 := RW_9 p0 hS (Nat.le_refl 12) (by omega) hr g0
    have e3 := (RE_24 g1).trans (sI_n (Or.inl (by decide)))
    have g2 := RW_24 (α 24 0 + 1) hS (Nat.le_refl 12) (by omega) g1
    have ex : α 24 0 + 1 = nI (nr + 1) := by rw [h3.1.1, nI_1]
    refine mk_ok (x := nI nr) eT eS k2 g2 (fun j hj => (sI_ne (by omega)).trans ((sI_ne (by omega)).trans (sI_ne (by omega)))) (nr := nr + 1) ⟨WH_24 ex (WH_o (fun g hg => sI_n (by omega)) h3.1), fun c hc => WB_o (fun g hg => by rw [sI_n (by omega), sI_n (by omega)]) (h3.2.1 c hc), WR_o (α := α) (fun g i hg => by rw [sI_n (by omega), sI_n (by omega)]) ⟨fun b hb => okR_le (Nat.le_succ nr) (h3.2.2.1.1 b hb), fun r hr9 => h4.2 r (by omega)⟩, WI_o (fun g i hg => by rw [sI_n (by omega), sI_n (by omega)]) h3.2.2.2.1, WT_o (fun g i hg => by rw [sI_n (by omega), sI_n (by omega)]) h3.2.2.2.2⟩ (WR_o (fun g i hg => by rw [sI_n (by omega), sI_n (by omega)]) h4) (by omega) h6 ((sI_n (by omega)).trans ((sI_n (by omega)).trans (st3 eT f2 h7))) h8 ((sI_n (by omega)).trans ((sI_n (by omega)).trans sI_s)) ?_ ?_
    · show fn_X5_ringer σ 0 p0 = _
      unfold fn_X5_ringer fn_X4_addRinger
      simp only [nb_ok r1, bx_r, rf0 eT, b1_so, ck_T hT, gd_tr, CE_24 h1, h3.1.1, rf_T1 hT, ck_AR hT, sl_AR hT, nm_so]
      rw [if_pos (show nI nr < 12 from nI_lt (b := 12) hr (by omega)), if_pos (nI_lt hr (by omega)), ea_R hT hr, b1_so, ck_R hT hr, gd_tr, e2, h3.1.1, b2_so]
    · show fn_X7_ringer _ 141 p0 = _
      unfold fn_X7_ringer
      have hne : ¬ nI nr = 12 := fun h9 => absurd (nI_inj (b := 12) (by omega) (by omega) h9) (by omega)
      have eR := (RE_24 g0).trans h3.1.1
      have eL : α 24 0 + 1 - 1 = nI nr := by rw [h3.1.1, nI_1, nI_pred]
      simp only [ck_M, gd_tr, nm_so, b1_so, in_ok r1, i10, if_false, eR, hne, rm_2, im_142 hr, hc, e3, sI_s, eL]
  · have e12 : nr = 12 := by omega
    refine mth_no (Nat.le_refl B) hI2 3 2 (by decide) ?_ ?_
    · show fn_X5_ringer σ 0 p0 = _
      unfold fn_X5_ringer
      simp only [nb_ok r1, bx_r, rf0 eT, b1_so, ck_T hT, gd_tr, CE_24 h1, h3.1.1, e12]
      rfl
    · show fn_X7_ringer σ 141 p0 = _
      have f0 := st eT eS h6 (Fc_0 (T := T) (σ := σ)) h2
      have e9 : sI σ 141 0 0 141 1 = 12 := (RE_24 f0).trans (h3.1.1.trans (by rw [e12]; rfl))
      unfold fn_X7_ringer
      simp only [ck_M, gd_tr, nm_so, b1_so, in_ok r1, i10, if_false, e9, if_true, lf_no, b2_so]
      rfl
theorem ir_ok {σ : Mem} {p : Int32} {n : Nat} (hn : n < 2 ^ 30) (h1 : σ 141 1 = nI n) (h : rng p 0 (nI n - 1)) : fn_X7_isRinger σ 141 p = some 1 := by
  unfold fn_X7_isRinger
  rw [ck_M, gd_tr, h1, in_ok h, b1_so]
  rfl
theorem ir_no {σ : Mem} {p : Int32} {n : Nat} (hn : n < 2 ^ 30) (h1 : σ 141 1 = nI n) (h : ¬ rng p 0 (nI n - 1)) : fn_X7_isRinger σ 141 p = some 0 := by
  unfold fn_X7_isRinger
  rw [ck_M, gd_tr, h1, in_no h, b1_so]
  rfl
theorem it_ok {σ : Mem} {p : Int32} {n : Nat} (hn : n < 2 ^ 30) (h1 : σ 141 3 = nI n) (h : rng p 0 (nI n - 1)) : fn_X7_isToll σ 141 p = some 1 := by
  unfold fn_X7_isToll
  rw [ck_M, gd_tr, h1, in_ok h, b1_so]
  rfl
theorem it_no {σ : Mem} {p : Int32} {n : Nat} (hn : n < 2 ^ 30) (h1 : σ 141 3 = nI n) (h : ¬ rng p 0 (nI n - 1)) : fn_X7_isToll σ 141 p = some 0 := by
  unfold fn_X7_isToll
  rw [ck_M, gd_tr, h1, in_no h, b1_so]
  rfl
theorem P_send (B : Nat) (p0 p1 : Int32) : mth B B [(1, 1), (3, 2)] (fun σ => fn_X5_send σ 0 p0 p1) (fun σ => fn_X7_send σ 141 p0 p1) := by
  intro σ hI
  by_cases r0 : rng p0 0 3
  case neg =>
    refine mth_no (Nat.le_refl B) hI 1 1 (by decide) ?_ ?_
    · show fn_X5_send σ 0 p0 p1 = _
      unfold fn_X5_send
      simp only [bell_no r0, bx_l]
    · show fn_X7_send σ 141 p0 p1 = _
      unfold fn_X7_send
      simp only [ck_M, gd_tr, nm_so, ib_no r0, b1_so, if_true, lf_no, b2_so]
      rfl
  obtain ⟨T, eT⟩ : ∃ T, T = 1 := ⟨_, rfl⟩
  obtain ⟨S, eS⟩ : ∃ S, S = 148 := ⟨_, rfl⟩
  have hT : isT T := Or.inl eT
  have hS : isS S := Or.inl eS
  have hI2 := hI
  obtain ⟨α, nr, nt, μ, h1, h2, h3, h4, h5, h6, h7, h8⟩ := Inv_o eT eS hI
  obtain ⟨b, _, hb, rfl⟩ := rng_of (a := 0) (b := 3) rfl rfl (by omega) r0
  have hb4 : b < 4 := by omega
  have hcb : (nI b).toNatClampNeg = b := nI_clamp (by omega)
  have f0 := st eT eS h6 (Fc_0 (T := T) (σ := σ)) h2
  have e0 : sI σ 141 0 0 141 1 = nI nr := (RE_24 f0).trans h3.1.1
  by_cases r1 : rng p1 0 (nI nr - 1)
  case neg =>
    refine mth_no (Nat.le_refl B) hI2 1 1 (by decide) ?_ ?_
    · show fn_X5_send σ 0 (nI b) p1 = _
      unfold fn_X5_send
      simp only [bell_ok r0, bx_r, rf0 eT, b1_so, ck_T hT, gd_tr, CE_24 h1, h3.1.1, ni_no (by omega) r1, bx_l]
    · show fn_X7_send σ 141 (nI b) p1 = _
      unfold fn_X7_send
      simp only [ck_M, gd_tr, nm_so, ib_ok r0, b1_so, i10, if_false, ir_no (by omega) e0 r1, if_true, lf_no, b2_so]
      rfl
  obtain ⟨r, hr, rfl⟩ := rng_ix (by omega) r1
  have hr2 : r < 12 := by omega
  by_cases h22 : α 22 r = -1
  case neg =>
    refine mth_no (Nat.le_refl B) hI2 3 2 (by decide) ?_ ?_
    · show fn_X5_send σ 0 (nI b) (nI r) = _
      unfold fn_X5_send
      simp only [bell_ok r0, bx_r, rf0 eT, b1_so, ck_T hT, gd_tr, CE_24 h1, h3.1.1, ni_ok (by omega) r1, rf_T1 hT, ea_R hT hr2, ck_R hT hr2, lf_rests (ck_R hT hr2), CE_22 h1 hr2, h22, if_false, if_true]
    · show fn_X7_send σ 141 (nI b) (nI r) = _
      unfold fn_X7_send
      simp only [ck_M, gd_tr, nm_so, ib_ok r0, b1_so, i10, if_false, ir_ok (by omega) e0 r1, rm9 eS, ck_S hS, R_bellOf hS f0 (h3.2.2.1.2 r hr), h22, lf_no, b2_so]
      rfl
  obtain ⟨s1, e1, k1, f1⟩ := C_bring hT (Nat.le_refl 12) (by omega) h1 h3.1.1 h5 hb4 hr2 (h3.2.2.1.1 b hb4)
  have g0 := st eT eS h6 f1 h2
  have e0b : sI s1 141 0 0 141 1 = nI nr := (RE_24 g0).trans h3.1.1
  have g1 := RW_2 (nI r) hS (Nat.le_refl 12) (by omega) hb4 g0
  have g2 : RE true S (sI (sI s1 141 0 0) (S + 5) b (nI r)) (aBring α b r) 12 nt := RE_eq g1 (fun f i h9 _ => aBring_eq h9)
  refine mk_ok (x := α 2 b) eT eS k1 g2 (fun j hj => (sI_ne (by omega)).trans (sI_ne (by omega))) (WF_bring h5 hb4 hr h22 h3) (WR_bring (Nat.le_refl 12) hb4 hr2 h22 h4) h5 h6 ((sI_n (by omega)).trans (st3 eT f1 h7)) h8 ((sI_n (by omega)).trans sI_s) ?_ ?_
  · show fn_X5_send σ 0 (nI b) (nI r) = _
    unfold fn_X5_send
    simp only [bell_ok r0, bx_r, rf0 eT, b1_so, ck_T hT, gd_tr, CE_24 h1, h3.1.1, ni_ok (by omega) r1, rf_T1 hT, ea_R hT hr2, ck_R hT hr2, lf_rests (ck_R hT hr2), CE_22 h1 hr2, h22, if_true, i10, if_false, rf_T0 hT, ea_B hT hb4, ck_B hT hb4, nm_so, e1, CE_2 h1 hb4]
  · show fn_X7_send _ 141 (nI b) (nI r) = _
    unfold fn_X7_send
    simp only [ck_M, gd_tr, nm_so, ib_ok r0, b1_so, i10, if_false, ir_ok (by omega) e0b r1, rm9 eS, ck_S hS, R_bellOf hS g0 (h3.2.2.1.2 r hr), h22, if_true, rs_7 hS, is_5 hS hb4, hcb, RE_2 g0 hb4]
theorem W12_end {α : Mem} {nt b t : Nat} (hb : b < 4) (h : WR α 12) : WR (aEnd α nt t b) 12 := WR_end (Nat.le_refl 12) hb h
theorem P_stop (B : Nat) (hB : B ≤ 1000000) (p0 : Int32) : mth B B [(1, 1), (3, 2)] (fun σ => fn_X5_stop σ 0 p0) (fun σ => fn_X7_stop σ 141 p0) := by
  intro σ hI
  obtain ⟨T, eT⟩ : ∃ T, T = 1 := ⟨_, rfl⟩
  obtain ⟨S, eS⟩ : ∃ S, S = 148 := ⟨_, rfl⟩
  have hT : isT T := Or.inl eT
  have hS : isS S := Or.inl eS
  have hI2 := hI
  obtain ⟨α, nr, nt, μ, h1, h2, h3, h4, h5, h6, h7, h8⟩ := Inv_o eT eS hI
  have f0 := st eT eS h6 (Fc_0 (T := T) (σ := σ)) h2
  have e0 : sI σ 141 0 0 141 3 = nI nt := st3 eT (Fc_0 (T := T) (σ := σ)) h7
  by_cases r1 : rng p0 0 (nI nt - 1)
  case neg =>
    refine mth_no (Nat.le_refl B) hI2 1 1 (by decide) ?_ ?_
    · show fn_X5_stop σ 0 p0 = _
      unfold fn_X5_stop
      simp only [rf0 eT, b1_so, ck_T hT, gd_tr, CE_25 h1, h3.1.2.1, ni_no (by omega) r1, bx_l]
    · show fn_X7_stop σ 141 p0 = _
      unfold fn_X7_stop
      simp only [ck_M, gd_tr, nm_so, it_no (by omega) e0 r1, b1_so, if_true, lf_no, b2_so]
      rfl
  obtain ⟨t, ht, rfl⟩ := rng_ix (by omega) r1
  have ht2 : t < 21 := by omega
  have hc : (nI t).toNatClampNeg = t := nI_clamp (by omega)
  have hD := okD_lt (WT_D (by omega) h3.2.2.2.2) ht
  by_cases h19 : α 19 t < 0
  case neg =>
    refine mth_no (Nat.le_refl B) hI2 3 2 (by decide) ?_ ?_
    · show fn_X5_stop σ 0 (nI t) = _
      unfold fn_X5_stop
      simp only [rf0 eT, b1_so, ck_T hT, gd_tr, CE_25 h1, h3.1.2.1, ni_ok (by omega) r1, bx_r, rf_T2 hT, ea_O hT ht2, ck_O hT ht2, lf_isDone (ck_O hT ht2), CE_19 h1 ht, h19, if_false, i10]
    · show fn_X7_stop σ 141 (nI t) = _
      have h19b : ¬ α 19 t = -1 := fun h => h19 (hD.mpr h)
      unfold fn_X7_stop
      simp only [ck_M, gd_tr, nm_so, it_ok (by omega) e0 r1, b1_so, i10, if_false, rm9 eS, rs_15 hS, is_13 hS ht2, hc, RE_19 f0 ht, h19b, lf_no, b2_so]
      rfl
  obtain ⟨⟨b, hb4, h13⟩, κ, a, s, q1, q2, q3, q4, q5, q6, q7⟩ := h3.2.2.2.2 t ht
  obtain ⟨s1, e1, k1, f1⟩ := C_end hT (Nat.le_refl 12) (by omega) h1 h3.1.2.1 h3.1.1 h5 ht hb4 h13 (h3.2.2.1.1 b hb4)
  have g0 := st eT eS h6 f1 h2
  have e0b : sI s1 141 0 0 141 3 = nI nt := st3 eT f1 h7
  obtain ⟨s2, e2, g1, f2⟩ := R_end hS (Nat.le_refl 12) (by omega) g0 ht hb4 h3.1.2.1 h13 (h3.2.2.2.1 b hb4) (WT_D (by omega) h3.2.2.2.2) (show μ < 2 ^ 31 by omega) h3.1.2.2
  have f141 : s2 141 = sI s1 141 0 0 141 := f2 141 (Or.inl ⟨by omega, fun _ => by omega⟩)
  have d17 : aEnd α nt t b 17 t = α 17 t := aEnd_o (by decide) (by decide) (by decide) (by decide) (Or.inl (by decide))
  have d14 : aEnd α nt t b 14 t = α 14 t := aEnd_o (by decide) (by decide) (by decide) (by decide) (Or.inl (by decide))
  have d15 : aEnd α nt t b 15 t = α 15 t := aEnd_o (by decide) (by decide) (by decide) (by decide) (Or.inl (by decide))
  have dD : aDue (aEnd α nt t b) t = 3 * (α 14 t + 1) + α 15 t := by
    unfold aDue
    rw [d14, d15]
  refine mk_ok (x := 3 * (α 14 t + 1) + α 15 t - α 17 t) eT eS k1 g1 (fun j hj => (f2 j (Or.inl ⟨by omega, fun _ => by omega⟩)).trans (sI_ne (by omega))) (WF_end h5 hb4 (by omega) h13 h3.1 h3.2.1 h3.2.2.1 h3.2.2.2.1 (fun u hu _ => h3.2.2.2.2 u hu) ⟨κ, a, s, q1, q2, q3, q4, q5, q6⟩) (W12_end hb4 h4) h5 h6 (by rw [f141]; exact e0b) h8 (by rw [f141, sI_s]) ?_ ?_
  · show fn_X5_stop σ 0 (nI t) = _
    unfold fn_X5_stop
    simp only [rf0 eT, b1_so, ck_T hT, gd_tr, CE_25 h1, h3.1.2.1, ni_ok (by omega) r1, bx_r, rf_T2 hT, ea_O hT ht2, ck_O hT ht2, lf_isDone (ck_O hT ht2), CE_19 h1 ht, h19, if_true, e1, lf_due (ck_O hT ht2), CE_14 k1 ht, CE_15 k1 ht, CE_17 k1 ht, d14, d15, d17]
  · show fn_X7_stop _ 141 (nI t) = _
    unfold fn_X7_stop
    simp only [ck_M, gd_tr, nm_so, it_ok (by omega) e0b r1, b1_so, i10, if_false, rm9 eS, rs_15 hS, is_13 hS ht2, hc, RE_19 g0 ht, hD.mp h19, if_true, ck_S hS, e2, R_all (show nt ≤ 21 by omega) g1 ht, rs_13 hS, is_11 hS ht2, RE_17 g1 ht, d17, dD]
