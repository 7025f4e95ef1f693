/-! the methods: fit, ringer, send, stop -/
theorem nI_z {q : Nat} (hq : q ≤ 9) : (nI q = 0 ↔ q = 0) ∧ (nI q ≤ 0 ↔ q = 0) := by
  by_cases h : q = 0
  · subst h
    exact ⟨⟨fun _ => rfl, fun _ => rfl⟩, ⟨fun _ => rfl, fun _ => by decide⟩⟩
  · exact ⟨⟨fun h9 => absurd h9 (nI_ne0 (by omega) (by omega)), fun h9 => absurd h9 h⟩, ⟨fun h9 => absurd h9 (nI_nle (by omega) (by omega)), fun h9 => absurd h9 h⟩⟩
theorem lf_renew {σ : Mem} {L : Nat} {x : Int32} (hL : ck L 1 = true) : fn_X1_renew σ L x = some (sI (sI σ L 0 x) L 1 0) := by
  unfold fn_X1_renew
  simp only [hL, gd_tr, nm_so]
theorem lf_bareq {S : Nat} {σ : Mem} (hS : isS S) {l : Nat} {x : Int32} (hl : l < 8) : fn_X6_bare σ S (nI l) x = some (sI (sI σ (S + 2) l x) (S + 3) l 0) := by
  have hc : (nI l).toNatClampNeg = l := nI_clamp (by omega)
  unfold fn_X6_bare
  simp only [rs_4 hS, b1_so, is_2 hS hl, gd_tr, hc, nm_so, rs_5 hS, is_3 hS hl]
theorem WF_leather {α : Mem} {nr nt μ b ft fw q : Nat} (hf : (ft = 5 ∧ fw = 6) ∨ (ft = 7 ∧ fw = 8)) (hb : b < 4) (hq : q ≤ 9) (h : WF α nr nt μ) : WF (sI (sI α ft b (nI q)) fw b 0) nr nt μ := by
  obtain ⟨hH, hB, hR, hI, hT⟩ := h
  have o1 : ∀ f i, f ≠ ft → f ≠ fw → sI (sI α ft b (nI q)) fw b 0 f i = α f i := fun f i a1 a2 => by
    rw [sI_n (Or.inl a2), sI_n (Or.inl a1)]
  refine ⟨WH_o (fun g hg => o1 g 0 (by omega) (by omega)) hH, fun c hc => ?_, WR_o (fun g i hg => o1 g i (by omega) (by omega)) hR, WI_o (fun g i hg => o1 g i (by omega) (by omega)) hI, WT_o (fun g i hg => o1 g i (by omega) (by omega)) hT⟩
  by_cases e : c = b
  · subst e
    obtain ⟨q1, q2, q3, q4⟩ := hB c hc
    have e1 : sI (sI α ft c (nI q)) fw c 0 ft c = nI q := by
      rw [sI_n (by omega), sI_s]
    refine ⟨?_, ?_, ?_⟩
    · unfold okW
      rw [o1 0 c (by omega) (by omega)]
      exact q1
    · rw [o1 1 c (by omega) (by omega)]
      exact q2
    · rcases hf with ⟨rfl, rfl⟩ | ⟨rfl, rfl⟩
      · refine ⟨⟨q, hq, e1, fun _ => sI_s⟩, ?_⟩
        unfold okL
        rw [o1 7 c (by decide) (by decide), o1 8 c (by decide) (by decide)]
        exact q4
      · refine ⟨?_, ⟨q, hq, e1, fun _ => sI_s⟩⟩
        unfold okL
        rw [o1 5 c (by decide) (by decide), o1 6 c (by decide) (by decide)]
        exact q3
  · exact WB_o (fun g _ => by rw [sI_n (Or.inr e), sI_n (Or.inr e)]) (hB c hc)
theorem fit_l0 {σ : Mem} {T b : Nat} (hT : isT T) (hb : b < 4) : fn_X0_leather σ (oB T b) (nI 0) = some (oH T b) := lf_left0 hT hb
theorem P_fit (B : Nat) (p0 p1 p2 : Int32) : mth B B [(1, 1), (2, 2), (3, 3)] (fun σ => fn_X5_fit σ 0 p0 p1 p2) (fun σ => fn_X7_fit σ 141 p0 p1 p2) := by
  intro σ hI
  by_cases r0 : rng p0 0 3
  case neg =>
    refine mth_no (Nat.le_refl B) hI 1 1 (by decide) ?_ ?_
    · show fn_X5_fit σ 0 p0 p1 p2 = _
      unfold fn_X5_fit
      simp only [bell_no r0, bx_l]
    · show fn_X7_fit σ 141 p0 p1 p2 = _
      unfold fn_X7_fit
      simp only [ck_M, gd_tr, nm_so, ib_no r0, b1_so, if_true, lf_no, b2_so]
      rfl
  by_cases r1 : rng p1 0 1
  case neg =>
    refine mth_no (Nat.le_refl B) hI 1 1 (by decide) ?_ ?_
    · show fn_X5_fit σ 0 p0 p1 p2 = _
      unfold fn_X5_fit
      simp only [bell_ok r0, bx_r, side_n r1, bx_l]
    · show fn_X7_fit σ 141 p0 p1 p2 = _
      unfold fn_X7_fit
      simp only [ck_M, gd_tr, nm_so, ib_ok r0, is_no r1, b1_so, i10, if_false, if_true, lf_no, b2_so]
      rfl
  by_cases r2 : rng p2 0 9
  case neg =>
    refine mth_no (Nat.le_refl B) hI 2 2 (by decide) ?_ ?_
    · show fn_X5_fit σ 0 p0 p1 p2 = _
      unfold fn_X5_fit
      simp only [bell_ok r0, bx_r, side_y r1, nb_no r2, bx_l]
    · show fn_X7_fit σ 141 p0 p1 p2 = _
      unfold fn_X7_fit
      simp only [ck_M, gd_tr, nm_so, ib_ok r0, is_ok r1, in_no r2, b1_so, i10, if_false, if_true, lf_no, b2_so]
      rfl
  obtain ⟨T, eT⟩ : ∃ T, T = 1 := ⟨_, rfl⟩
  obtain ⟨S, eS⟩ : ∃ S, S = 148 := ⟨_, rfl⟩
  have hT : isT T := Or.inl eT
  have hS : isS S := Or.inl eS
  have hI2 := hI
  obtain ⟨α, nr, nt, μ, h1, h2, h3, h4, h5, h6, h7, h8⟩ := Inv_o eT eS hI
  obtain ⟨b, _, hb, rfl⟩ := rng_of (a := 0) (b := 3) rfl rfl (by omega) r0
  obtain ⟨s, _, hs, rfl⟩ := rng_of (a := 0) (b := 1) rfl rfl (by omega) r1
  obtain ⟨q, _, hq, rfl⟩ := rng_of (a := 0) (b := 9) rfl rfl (by omega) r2
  have hb4 : b < 4 := by omega
  have f0 := st eT eS h6 (Fc_0 (T := T) (σ := σ)) h2
  by_cases hq0 : q = 0
  case neg =>
    have z1 : ¬ nI q = 0 := fun h => hq0 ((nI_z hq).1.mp h)
    have z2 : ¬ nI q ≤ 0 := fun h => hq0 ((nI_z hq).2.mp h)
    by_cases hst : α 21 0 = 0
    · refine mth_no (Nat.le_refl B) hI2 3 3 (by decide) ?_ ?_
      · show fn_X5_fit σ 0 (nI b) (nI s) (nI q) = _
        unfold fn_X5_fit
        simp only [bell_ok r0, bx_r, side_y r1, nb_ok r2, z1, if_false, rf0 eT, b1_so, ck_T hT, gd_tr, CE_21 h1, hst, if_true]
      · show fn_X7_fit σ 141 (nI b) (nI s) (nI q) = _
        unfold fn_X7_fit
        simp only [ck_M, gd_tr, nm_so, ib_ok r0, is_ok r1, in_ok r2, b1_so, i10, if_false, z2, rm9 eS, ck_S hS, RE_21 f0, hst, if_true, lf_no, b2_so]
        rfl
    · rcases (show s = 0 ∨ s = 1 by omega) with rfl | rfl
      · have hl : 2 * b < 8 := by omega
        have hcl : (nI (2 * b)).toNatClampNeg = 2 * b := nI_clamp (by omega)
        have hli : 2 * nI b + nI 0 = nI (2 * b) := by
          rw [show (2 : Int32) = nI 2 from rfl, pk_mul, nI_add]
          rfl
        have k1 := CW_5 (nI q) hT (Nat.le_refl 12) (by omega) hb4 h1
        have k2 := CW_6 0 hT (Nat.le_refl 12) (by omega) hb4 k1
        have f2 : Fc T σ (sI (sI σ (oH T b) 0 (nI q)) (oH T b) 1 0) := Fc_w (Fc_w Fc_0 (rgH hb4)) (rgH hb4)
        have e3 : sI (sI σ (oH T b) 0 (nI q)) (oH T b) 1 0 T 6 = α 21 0 := (CE_21 k2).trans ((sI_n (Or.inl (by decide))).trans (sI_n (Or.inl (by decide))))
        have k3 := CW_21 (α 21 0 - 1) hT (Nat.le_refl 12) (by omega) k2
        have f3 : Fc T σ (sI (sI (sI σ (oH T b) 0 (nI q)) (oH T b) 1 0) T 6 (α 21 0 - 1)) := Fc_w f2 rgT
        have g0 := st eT eS h6 f3 h2
        have g1 := RW_5 (nI q) hS (Nat.le_refl 12) (by omega) hb4 g0
        have g2 := RW_6 0 hS (Nat.le_refl 12) (by omega) hb4 g1
        have g3 := RW_21 (α 21 0 - 1) hS (Nat.le_refl 12) (by omega) g2
        refine mk_ok (x := α 5 b) eT eS k3 g3 (fun j hj => (sI_ne (by omega)).trans ((sI_ne (by omega)).trans ((sI_ne (by omega)).trans (sI_ne (by omega))))) (WF_o (fun f i _ _ _ _ _ _ _ _ h21 _ => sI_n (Or.inl h21)) (WF_leather (by omega) hb4 hq h3)) (WR_o (fun g i hg => by rw [sI_n (by omega), sI_n (by omega), sI_n (by omega)]) h4) h5 h6 ((sI_n (by omega)).trans ((sI_n (by omega)).trans ((sI_n (by omega)).trans (st3 eT f3 h7)))) h8 ((sI_n (by omega)).trans ((sI_n (by omega)).trans ((sI_n (by omega)).trans sI_s))) ?_ ?_
        · show fn_X5_fit σ 0 (nI b) (nI 0) (nI q) = _
          unfold fn_X5_fit
          rw [bell_ok r0, bx_r, side_y r1, bx_r, nb_ok r2, bx_r, if_neg z1, rf0 eT, b1_so, ck_T hT, gd_tr, CE_21 h1, if_neg hst, b1_so, rf_T0 hT, b1_so, ea_B hT hb4, b1_so, ck_B hT hb4, gd_tr, fit_l0 hT hb4, b1_so, ck_H hT hb4, gd_tr, nm_so, gd_tr, lf_renew (ck_H hT hb4), b1_so, if_neg z1, b1_so, ck_T hT, gd_tr, gd_tr, nm_so, e3, CE_5 h1 hb4]
        · show fn_X7_fit _ 141 (nI b) (nI 0) (nI q) = _
          unfold fn_X7_fit
          have e21b := (RE_21 g2).trans ((sI_n (Or.inl (by decide))).trans (sI_n (Or.inl (by decide))))
          simp only [ck_M, gd_tr, nm_so, ib_ok r0, is_ok r1, in_ok r2, b1_so, i10, if_false, z2, rm9 eS, rs_4 hS, hli, is_2 hS hl, hcl, RE_5 g0 hb4, ck_S hS, lf_bareq hS hl, RE_21 g0, hst, e21b]
          all_goals rfl
      · have hl : 2 * b + 1 < 8 := by omega
        have hcl : (nI (2 * b + 1)).toNatClampNeg = 2 * b + 1 := nI_clamp (by omega)
        have hli : 2 * nI b + nI 1 = nI (2 * b + 1) := by
          rw [show (2 : Int32) = nI 2 from rfl, pk_mul, nI_add]
        have k1 := CW_7 (nI q) hT (Nat.le_refl 12) (by omega) hb4 h1
        have k2 := CW_8 0 hT (Nat.le_refl 12) (by omega) hb4 k1
        have f2 : Fc T σ (sI (sI σ (oK T b) 0 (nI q)) (oK T b) 1 0) := Fc_w (Fc_w Fc_0 (rgK hb4)) (rgK hb4)
        have e3 : sI (sI σ (oK T b) 0 (nI q)) (oK T b) 1 0 T 6 = α 21 0 := (CE_21 k2).trans ((sI_n (Or.inl (by decide))).trans (sI_n (Or.inl (by decide))))
        have k3 := CW_21 (α 21 0 - 1) hT (Nat.le_refl 12) (by omega) k2
        have f3 : Fc T σ (sI (sI (sI σ (oK T b) 0 (nI q)) (oK T b) 1 0) T 6 (α 21 0 - 1)) := Fc_w f2 rgT
        have g0 := st eT eS h6 f3 h2
        have g1 := RW_7 (nI q) hS (Nat.le_refl 12) (by omega) hb4 g0
        have g2 := RW_8 0 hS (Nat.le_refl 12) (by omega) hb4 g1
        have g3 := RW_21 (α 21 0 - 1) hS (Nat.le_refl 12) (by omega) g2
        refine mk_ok (x := α 7 b) eT eS k3 g3 (fun j hj => (sI_ne (by omega)).trans ((sI_ne (by omega)).trans ((sI_ne (by omega)).trans (sI_ne (by omega))))) (WF_o (fun f i _ _ _ _ _ _ _ _ h21 _ => sI_n (Or.inl h21)) (WF_leather (by omega) hb4 hq h3)) (WR_o (fun g i hg => by rw [sI_n (by omega), sI_n (by omega), sI_n (by omega)]) h4) h5 h6 ((sI_n (by omega)).trans ((sI_n (by omega)).trans ((sI_n (by omega)).trans (st3 eT f3 h7)))) h8 ((sI_n (by omega)).trans ((sI_n (by omega)).trans ((sI_n (by omega)).trans sI_s))) ?_ ?_
        · show fn_X5_fit σ 0 (nI b) (nI 1) (nI q) = _
          unfold fn_X5_fit
          rw [bell_ok r0, bx_r, side_y r1, bx_r, nb_ok r2, bx_r, if_neg z1, rf0 eT, b1_so, ck_T hT, gd_tr, CE_21 h1, if_neg hst, b1_so, rf_T0 hT, b1_so, ea_B hT hb4, b1_so, ck_B hT hb4, gd_tr, lf_left1 hT hb4 (show ¬ nI 1 = 0 by decide), b1_so, ck_K hT hb4, gd_tr, nm_so, gd_tr, lf_renew (ck_K hT hb4), b1_so, if_neg z1, b1_so, ck_T hT, gd_tr, gd_tr, nm_so, e3, CE_7 h1 hb4]
        · show fn_X7_fit _ 141 (nI b) (nI 1) (nI q) = _
          unfold fn_X7_fit
          have e21b := (RE_21 g2).trans ((sI_n (Or.inl (by decide))).trans (sI_n (Or.inl (by decide))))
          simp only [ck_M, gd_tr, nm_so, ib_ok r0, is_ok r1, in_ok r2, b1_so, i10, if_false, z2, rm9 eS, rs_4 hS, hli, is_2 hS hl, hcl, RE_7 g0 hb4, ck_S hS, lf_bareq hS hl, RE_21 g0, hst, e21b]
          all_goals rfl
  · subst hq0
    rcases (show s = 0 ∨ s = 1 by omega) with rfl | rfl
    · have hl : 2 * b < 8 := by omega
      have hcl : (nI (2 * b)).toNatClampNeg = 2 * b := nI_clamp (by omega)
      have hli : 2 * nI b + nI 0 = nI (2 * b) := by
        rw [show (2 : Int32) = nI 2 from rfl, pk_mul, nI_add]
        rfl
      have k1 := CW_5 (nI 0) hT (Nat.le_refl 12) (by omega) hb4 h1
      have k2 := CW_6 0 hT (Nat.le_refl 12) (by omega) hb4 k1
      have f2 : Fc T σ (sI (sI σ (oH T b) 0 (nI 0)) (oH T b) 1 0) := Fc_w (Fc_w Fc_0 (rgH hb4)) (rgH hb4)
      have k3 := k2
      have f3 := f2
      have g0 := st eT eS h6 f3 h2
      have g1 := RW_5 (nI 0) hS (Nat.le_refl 12) (by omega) hb4 g0
      have g2 := RW_6 0 hS (Nat.le_refl 12) (by omega) hb4 g1
      have g3 := RW_21 (α 21 0 - 0) hS (Nat.le_refl 12) (by omega) g2
      have e21 : sI (sI α 5 b (nI 0)) 6 b 0 21 0 = α 21 0 - 0 := by rw [sI_n (Or.inl (by decide)), sI_n (Or.inl (by decide)), Int32.sub_zero]
      rw [sI_id e21] at g3
      refine mk_ok (x := α 5 b) eT eS k3 g3 (fun j hj => (sI_ne (by omega)).trans ((sI_ne (by omega)).trans ((sI_ne (by omega)).trans (sI_ne (by omega))))) (WF_leather (by omega) hb4 (by omega) h3) (WR_o (fun g i hg => by rw [sI_n (by omega), sI_n (by omega)]) h4) h5 h6 ((sI_n (by omega)).trans ((sI_n (by omega)).trans ((sI_n (by omega)).trans (st3 eT f3 h7)))) h8 ((sI_n (by omega)).trans ((sI_n (by omega)).trans ((sI_n (by omega)).trans sI_s))) ?_ ?_
      · show fn_X5_fit σ 0 (nI b) (nI 0) (nI 0) = _
        unfold fn_X5_fit
        rw [bell_ok r0, bx_r, side_y r1, bx_r, nb_ok r2, bx_r, if_pos (show nI 0 = 0 from rfl), rf0 eT, b1_so, rf_T0 hT, b1_so, ea_B hT hb4, b1_so, ck_B hT hb4, gd_tr, fit_l0 hT hb4, b1_so, ck_H hT hb4, gd_tr, nm_so, gd_tr, lf_renew (ck_H hT hb4), b1_so, if_pos (show nI 0 = 0 from rfl), CE_5 h1 hb4]
      · show fn_X7_fit _ 141 (nI b) (nI 0) (nI 0) = _
        unfold fn_X7_fit
        have e21b := (RE_21 g2).trans ((sI_n (Or.inl (by decide))).trans (sI_n (Or.inl (by decide))))
        simp only [ck_M, gd_tr, nm_so, ib_ok r0, is_ok r1, in_ok r2, b1_so, i10, if_false, show nI 0 ≤ 0 from by decide, if_true, rm9 eS, rs_4 hS, hli, is_2 hS hl, hcl, RE_5 g0 hb4, ck_S hS, lf_bareq hS hl, e21b]
        all_goals rfl
    · have hl : 2 * b + 1 < 8 := by omega
      have hcl : (nI (2 * b + 1)).toNatClampNeg = 2 * b + 1 := nI_clamp (by omega)
      have hli : 2 * nI b + nI 1 = nI (2 * b + 1) := by
        rw [show (2 : Int32) = nI 2 from rfl, pk_mul, nI_add]
      have k1 := CW_7 (nI 0) hT (Nat.le_refl 12) (by omega) hb4 h1
      have k2 := CW_8 0 hT (Nat.le_refl 12) (by omega) hb4 k1
      have f2 : Fc T σ (sI (sI σ (oK T b) 0 (nI 0)) (oK T b) 1 0) := Fc_w (Fc_w Fc_0 (rgK hb4)) (rgK hb4)
      have k3 := k2
      have f3 := f2
      have g0 := st eT eS h6 f3 h2
      have g1 := RW_7 (nI 0) hS (Nat.le_refl 12) (by omega) hb4 g0
      have g2 := RW_8 0 hS (Nat.le_refl 12) (by omega) hb4 g1
      have g3 := RW_21 (α 21 0 - 0) hS (Nat.le_refl 12) (by omega) g2
      have e21 : sI (sI α 7 b (nI 0)) 8 b 0 21 0 = α 21 0 - 0 := by rw [sI_n (Or.inl (by decide)), sI_n (Or.inl (by decide)), Int32.sub_zero]
      rw [sI_id e21] at g3
      refine mk_ok (x := α 7 b) eT eS k3 g3 (fun j hj => (sI_ne (by omega)).trans ((sI_ne (by omega)).trans ((sI_ne (by omega)).trans (sI_ne (by omega))))) (WF_leather (by omega) hb4 (by omega) h3) (WR_o (fun g i hg => by rw [sI_n (by omega), sI_n (by omega)]) h4) h5 h6 ((sI_n (by omega)).trans ((sI_n (by omega)).trans ((sI_n (by omega)).trans (st3 eT f3 h7)))) h8 ((sI_n (by omega)).trans ((sI_n (by omega)).trans ((sI_n (by omega)).trans sI_s))) ?_ ?_
      · show fn_X5_fit σ 0 (nI b) (nI 1) (nI 0) = _
        unfold fn_X5_fit
        rw [bell_ok r0, bx_r, side_y r1, bx_r, nb_ok r2, bx_r, if_pos (show nI 0 = 0 from rfl), rf0 eT, b1_so, rf_T0 hT, b1_so, ea_B hT hb4, b1_so, ck_B hT hb4, gd_tr, lf_left1 hT hb4 (show ¬ nI 1 = 0 by decide), b1_so, ck_K hT hb4, gd_tr, nm_so, gd_tr, lf_renew (ck_K hT hb4), b1_so, if_pos (show nI 0 = 0 from rfl), CE_7 h1 hb4]
      · show fn_X7_fit _ 141 (nI b) (nI 1) (nI 0) = _
        unfold fn_X7_fit
        have e21b := (RE_21 g2).trans ((sI_n (Or.inl (by decide))).trans (sI_n (Or.inl (by decide))))
        simp only [ck_M, gd_tr, nm_so, ib_ok r0, is_ok r1, in_ok r2, b1_so, i10, if_false, show nI 0 ≤ 0 from by decide, if_true, rm9 eS, rs_4 hS, hli, is_2 hS hl, hcl, RE_7 g0 hb4, ck_S hS, lf_bareq hS hl, e21b]
        all_goals rfl
