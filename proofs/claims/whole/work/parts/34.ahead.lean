/-! the methods that look ahead -/
theorem RE_71 {σ σ2 α : Mem} {nt : Nat} (hnt : nt ≤ 20) (f : Fc 71 σ σ2) (h : RE true 148 σ α 12 nt) : RE true 148 σ2 α 12 nt := RE_fr (Or.inl rfl) (Nat.le_refl 12) (by omega) (fun j h1 _ => f j (Or.inr (by omega))) h
theorem RE_162 {σ σ2 α : Mem} {nt : Nat} (hnt : nt ≤ 20) (f : Fr false 162 σ σ2) (h : RE true 148 σ α 12 nt) : RE true 148 σ2 α 12 nt := RE_fr (Or.inl rfl) (Nat.le_refl 12) (by omega) (fun j h1 h2 => f j (by
  by_cases h3 : j < 148
  · exact Or.inl ⟨h3, fun h => absurd h (by decide)⟩
  · exact Or.inr ⟨by omega, Or.inl (by omega)⟩)) h
theorem Fr_lo {σ σ2 : Mem} (f : Fr false 162 σ σ2) {j : Nat} (hj : j < 148) : σ2 j = σ j := f j (Or.inl ⟨hj, fun h => absurd h (by decide)⟩)
theorem P_ends (B : Nat) (hB : B ≤ 1000000) (p0 : Int32) : mth B B [(1, 1)] (fun σ => fn_X5_ends σ 0 p0) (fun σ => fn_X7_ends σ 141 p0) := by
  intro σ hI
  have hI2 := hI
  obtain ⟨α, nr, nt, μ, h1, h2, h3, h4, h5, h6, h7, h8⟩ := hI
  have e3 : sI σ 141 0 0 141 3 = nI nt := (sI_n (Or.inr (by decide))).trans h7
  by_cases r1 : rng p0 0 (nI nt - 1)
  case neg =>
    refine mth_no (Nat.le_refl B) hI2 1 1 (by decide) ?_ ?_
    · show fn_X5_ends σ 0 p0 = _
      unfold fn_X5_ends
      simp only [rf_00, b1_so, ck_T (Or.inl rfl : isT 1), gd_tr, CE_25 h1, h3.1.2.1, ni_no (show nt < 2 ^ 30 by omega) r1, bx_l]
    · show fn_X7_ends σ 141 p0 = _
      unfold fn_X7_ends
      simp only [ck_M, gd_tr, nm_so, it_no (show nt < 2 ^ 30 by omega) e3 r1, b1_so, if_true, lf_no, b2_so]
      rfl
  obtain ⟨t, ht, rfl⟩ := rng_ix (by omega) r1
  obtain ⟨s1, a1, c1, f1⟩ := C_become h5 (show nt ≤ 21 by omega) h3.1.1 h3.1.2.1 h1
  obtain ⟨s2, a2, f2⟩ := C_tillA (M := 600) h5 (show nt ≤ 21 by omega) (Nat.le_refl nr) (Nat.le_refl 600) ht (show μ + 600 < 2 ^ 31 by omega) c1 h3
  have f12 := Fc_t f1 f2
  have k1 := CE_c (show nt ≤ 21 by omega) f12 h1
  have g0 : RE true 148 (sI s2 141 0 0) α 12 nt := RE_t (Or.inl rfl) (Nat.le_refl 12) (by omega) (Or.inl rfl) (RE_71 h6 f12 h2)
  have q3 : sI s2 141 0 0 141 3 = nI nt := by
    rw [sI_n (Or.inr (by decide)), f12 141 (Or.inr (by omega))]
    exact h7
  obtain ⟨s3, a3, c3, f3⟩ := R_become h5 (show nt ≤ 21 by omega) g0
  obtain ⟨s4, a4, f4⟩ := R_till h5 (show nt ≤ 21 by omega) (Nat.le_refl nr) ht 600 0 602 s3 α μ (by omega) (by omega) (by omega) c3 h3
  have f34 := Fr_t f3 f4
  have f141 := Fr_lo f34 (show 141 < 148 by omega)
  refine mk_ok (x := oNj 0 (aTil nr nt t 600 α)) rfl rfl k1 (RE_162 h6 f34 g0) (fun j hj => (Fr_lo f34 (by omega)).trans (sI_ne (by omega))) h3 h4 h5 h6 (by rw [f141]; exact q3) h8 (by rw [f141, sI_s]) ?_ ?_
  · show fn_X5_ends σ 0 (nI t) = _
    unfold fn_X5_ends
    simp only [rf_00, rf_01, b1_so, ck_T (Or.inl rfl : isT 1), ck_T (Or.inr rfl : isT 71), gd_tr, CE_25 h1, h3.1.2.1, ni_ok (show nt < 2 ^ 30 by omega) r1, bx_r, a1]
    rw [show (600 : Int32) = nI 600 from rfl, a2, b2_so]
  · show fn_X7_ends s2 141 (nI t) = _
    have a4' : fn_X7_endOf s3 141 (nI t) = some (oNj 0 (aTil nr nt t 600 α), s4) := a4
    unfold fn_X7_ends
    simp only [ck_M, gd_tr, nm_so, it_ok (show nt < 2 ^ 30 by omega) q3 r1, b1_so, i10, if_false, rm_10, rm_9, ck_S (Or.inr rfl : isS 162), a3, a4', b2_so]
theorem P_foresee (B : Nat) (hB : B ≤ 1000000) (p0 p1 : Int32) : mth B B [(2, 1), (1, 2)] (fun σ => fn_X5_foresee σ 0 p0 p1) (fun σ => fn_X7_foresee σ 141 p0 p1) := by
  intro σ hI
  have hI2 := hI
  obtain ⟨α, nr, nt, μ, h1, h2, h3, h4, h5, h6, h7, h8⟩ := hI
  by_cases r1 : rng p0 1 240
  case neg =>
    refine mth_no (Nat.le_refl B) hI2 2 1 (by decide) ?_ ?_
    · show fn_X5_foresee σ 0 p0 p1 = _
      unfold fn_X5_foresee
      simp only [nb_no r1, bx_l]
    · show fn_X7_foresee σ 141 p0 p1 = _
      unfold fn_X7_foresee
      simp only [ck_M, gd_tr, nm_so, in_no r1, b1_so, if_true, lf_no, b2_so]
      rfl
  obtain ⟨n, hn1, hn2, rfl⟩ := rng_of (a := 1) (b := 240) rfl rfl (by omega) r1
  obtain ⟨s1, a1, c1, f1⟩ := C_become h5 (show nt ≤ 21 by omega) h3.1.1 h3.1.2.1 h1
  obtain ⟨s2, a2, c2, f2⟩ := C_mins (Or.inr ⟨rfl, rfl⟩) h5 (show nt ≤ 21 by omega) (Nat.le_refl nr) (show n < 2 ^ 31 by omega) (K := fun x5 x6 σ7 => (some (x5, σ7))) n 0 242 0 s1 α μ (by omega) (by omega) (by omega) c1 h3
  have hW := WF_mins (k := false) h5 (show nt ≤ 21 by omega) n 0 α μ (by omega) h3
  have hD := WT_D (show μ + n < 2 ^ 31 by omega) hW.2.2.2.2
  have hRo := ropes_eq h5 hW.2.2.1
  have f12 := Fc_t f1 f2
  have k1 := CE_c (show nt ≤ 21 by omega) f12 h1
  have g0 : RE true 148 (sI s2 141 0 0) α 12 nt := RE_t (Or.inl rfl) (Nat.le_refl 12) (by omega) (Or.inl rfl) (RE_71 h6 f12 h2)
  have q3 : sI s2 141 0 0 141 3 = nI nt := by
    rw [sI_n (Or.inr (by decide)), f12 141 (Or.inr (by omega))]
    exact h7
  have a2' : fn_X4_passMinutes s1 71 (nI n) = some ((aMins false nr nt n 0 α).1, s2) := a2
  obtain ⟨s3, a3, c3, f3⟩ := R_become h5 (show nt ≤ 21 by omega) g0
  have fin : ∀ j, j < 9 → ∀ s4, RE false 162 s4 (aMins false nr nt n 0 α).2 nr nt → Fr false 162 s3 s4 → fn_X5_foresee σ 0 (nI n) p1 = some (.inr (aCount (aMins false nr nt n 0 α).2 nr nt j), s2) → fn_X7_foresee s2 141 (nI n) p1 = some (aCount (aMins false nr nt n 0 α).2 nr nt j, s4) → res1 B [(2, 1), (1, 2)] (fun σ => fn_X5_foresee σ 0 (nI n) p1) (fun σ => fn_X7_foresee σ 141 (nI n) p1) σ := by
    intro j hj s4 c4 f4 x1 x2
    have f34 := Fr_t f3 f4
    have f141 := Fr_lo f34 (show 141 < 148 by omega)
    exact mk_ok (x := aCount (aMins false nr nt n 0 α).2 nr nt j) rfl rfl k1 (RE_162 h6 f34 g0) (fun j hj => (Fr_lo f34 (by omega)).trans (sI_ne (by omega))) h3 h4 h5 h6 (by rw [f141]; exact q3) h8 (by rw [f141, sI_s]) x1 x2
  have cl : ∀ j, j < 9 → fn_X4_inAll s2 71 (nI j) = some (aCount (aMins false nr nt n 0 α).2 nr nt j) := fun j hj => C_count (Or.inr rfl) h5 (show nt ≤ 21 by omega) c2 hW.1.1 (Nat.le_refl nr) hW.1.2.1 hj
  have rl : ∀ s4, RE false 162 s4 (aMins false nr nt n 0 α).2 nr nt → ∀ j, j < 9 → fn_X6_counted s4 162 (nI j) = some (aCount (aMins false nr nt n 0 α).2 nr nt j) := fun s4 c4 j hj => R_count (Or.inr rfl) (show nt ≤ 21 by omega) c4 hW.1.2.1 hD hRo hj
  by_cases e2 : p1 = 2
  · subst e2
    obtain ⟨s4, a4, c4, f4⟩ := R_fore h5 (show nt ≤ 21 by omega) (Nat.le_refl nr) (show n < 2 ^ 31 by omega) (a := 2) (K := fun x10 σ11 => b1 (fn_X6_counted σ11 162 2) (fun r13 => (some (r13, σ11)))) n 0 242 s3 α μ (by omega) (by omega) (by omega) c3 h3
    have u1 : fn_X4_inAll s2 71 2 = _ := cl 2 (by decide)
    have u2 : fn_X6_counted s4 162 2 = _ := rl s4 c4 2 (by decide)
    rw [nI_0] at a4
    refine fin 2 (by decide) s4 c4 f4 ?_ ?_
    · unfold fn_X5_foresee
      simp only [nb_ok r1, bx_r, if_true, rf_00, rf_01, b1_so, ck_T (Or.inr rfl : isT 71), gd_tr, a1, a2', b2_so, u1]
    · unfold fn_X7_foresee
      simp only [ck_M, gd_tr, nm_so, in_ok r1, b1_so, i10, if_false, if_true, rm_10, rm_9, ck_S (Or.inr rfl : isS 162), a3, a4, u2]
  by_cases e4 : p1 = 4
  · subst e4
    obtain ⟨s4, a4, c4, f4⟩ := R_fore h5 (show nt ≤ 21 by omega) (Nat.le_refl nr) (show n < 2 ^ 31 by omega) (a := 4) (K := fun x10 σ11 => b1 (fn_X6_counted σ11 162 4) (fun r13 => (some (r13, σ11)))) n 0 242 s3 α μ (by omega) (by omega) (by omega) c3 h3
    have u1 : fn_X4_inAll s2 71 4 = _ := cl 4 (by decide)
    have u2 : fn_X6_counted s4 162 4 = _ := rl s4 c4 4 (by decide)
    rw [nI_0] at a4
    refine fin 4 (by decide) s4 c4 f4 ?_ ?_
    · unfold fn_X5_foresee
      simp only [nb_ok r1, bx_r, show (4 : Int32) = 2 ↔ False from by decide, if_false, if_true, rf_00, rf_01, b1_so, ck_T (Or.inr rfl : isT 71), gd_tr, a1, a2', b2_so, u1]
    · unfold fn_X7_foresee
      simp only [ck_M, gd_tr, nm_so, in_ok r1, in_ok (show rng 4 4 6 from ⟨by decide, by decide⟩), b1_so, i10, if_false, show (4 : Int32) = 2 ↔ False from by decide, show (4 : Int32) = 8 ↔ False from by decide, if_false, if_true, rm_10, rm_9, ck_S (Or.inr rfl : isS 162), a3, a4, u2]
  by_cases e5 : p1 = 5
  · subst e5
    obtain ⟨s4, a4, c4, f4⟩ := R_fore h5 (show nt ≤ 21 by omega) (Nat.le_refl nr) (show n < 2 ^ 31 by omega) (a := 5) (K := fun x10 σ11 => b1 (fn_X6_counted σ11 162 5) (fun r13 => (some (r13, σ11)))) n 0 242 s3 α μ (by omega) (by omega) (by omega) c3 h3
    have u1 : fn_X4_inAll s2 71 5 = _ := cl 5 (by decide)
    have u2 : fn_X6_counted s4 162 5 = _ := rl s4 c4 5 (by decide)
    rw [nI_0] at a4
    refine fin 5 (by decide) s4 c4 f4 ?_ ?_
    · unfold fn_X5_foresee
      simp only [nb_ok r1, bx_r, show (5 : Int32) = 2 ↔ False from by decide, show (5 : Int32) = 4 ↔ False from by decide, if_false, if_true, rf_00, rf_01, b1_so, ck_T (Or.inr rfl : isT 71), gd_tr, a1, a2', b2_so, u1]
    · unfold fn_X7_foresee
      simp only [ck_M, gd_tr, nm_so, in_ok r1, in_ok (show rng 5 4 6 from ⟨by decide, by decide⟩), b1_so, i10, if_false, show (5 : Int32) = 2 ↔ False from by decide, show (5 : Int32) = 8 ↔ False from by decide, if_false, if_true, rm_10, rm_9, ck_S (Or.inr rfl : isS 162), a3, a4, u2]
  by_cases e6 : p1 = 6
  · subst e6
    obtain ⟨s4, a4, c4, f4⟩ := R_fore h5 (show nt ≤ 21 by omega) (Nat.le_refl nr) (show n < 2 ^ 31 by omega) (a := 6) (K := fun x10 σ11 => b1 (fn_X6_counted σ11 162 6) (fun r13 => (some (r13, σ11)))) n 0 242 s3 α μ (by omega) (by omega) (by omega) c3 h3
    have u1 : fn_X4_inAll s2 71 6 = _ := cl 6 (by decide)
    have u2 : fn_X6_counted s4 162 6 = _ := rl s4 c4 6 (by decide)
    rw [nI_0] at a4
    refine fin 6 (by decide) s4 c4 f4 ?_ ?_
    · unfold fn_X5_foresee
      simp only [nb_ok r1, bx_r, show (6 : Int32) = 2 ↔ False from by decide, show (6 : Int32) = 4 ↔ False from by decide, show (6 : Int32) = 5 ↔ False from by decide, if_false, if_true, rf_00, rf_01, b1_so, ck_T (Or.inr rfl : isT 71), gd_tr, a1, a2', b2_so, u1]
    · unfold fn_X7_foresee
      simp only [ck_M, gd_tr, nm_so, in_ok r1, in_ok (show rng 6 4 6 from ⟨by decide, by decide⟩), b1_so, i10, if_false, show (6 : Int32) = 2 ↔ False from by decide, show (6 : Int32) = 8 ↔ False from by decide, if_false, if_true, rm_10, rm_9, ck_S (Or.inr rfl : isS 162), a3, a4, u2]
  by_cases e8 : p1 = 8
  · subst e8
    obtain ⟨s4, a4, c4, f4⟩ := R_fore h5 (show nt ≤ 21 by omega) (Nat.le_refl nr) (show n < 2 ^ 31 by omega) (a := 8) (K := fun x10 σ11 => b1 (fn_X6_counted σ11 162 8) (fun r13 => (some (r13, σ11)))) n 0 242 s3 α μ (by omega) (by omega) (by omega) c3 h3
    have u1 : fn_X4_inAll s2 71 8 = _ := cl 8 (by decide)
    have u2 : fn_X6_counted s4 162 8 = _ := rl s4 c4 8 (by decide)
    rw [nI_0] at a4
    refine fin 8 (by decide) s4 c4 f4 ?_ ?_
    · unfold fn_X5_foresee
      simp only [nb_ok r1, bx_r, show (8 : Int32) = 2 ↔ False from by decide, show (8 : Int32) = 4 ↔ False from by decide, show (8 : Int32) = 5 ↔ False from by decide, show (8 : Int32) = 6 ↔ False from by decide, if_false, if_true, rf_00, rf_01, b1_so, ck_T (Or.inr rfl : isT 71), gd_tr, a1, a2', b2_so, u1]
    · unfold fn_X7_foresee
      simp only [ck_M, gd_tr, nm_so, in_ok r1, b1_so, i10, if_false, show (8 : Int32) = 2 ↔ False from by decide, if_false, if_true, rm_10, rm_9, ck_S (Or.inr rfl : isS 162), a3, a4, u2]
  refine mth_no (Nat.le_refl B) hI2 1 2 (by decide) ?_ ?_
  · show fn_X5_foresee σ 0 (nI n) p1 = _
    unfold fn_X5_foresee
    simp only [nb_ok r1, bx_r, e2, e4, e5, e6, e8, if_false]
  · show fn_X7_foresee σ 141 (nI n) p1 = _
    have r2 : ¬ rng p1 4 6 := by
      intro h9
      obtain ⟨j, j1, j2, rfl⟩ := rng_of (a := 4) (b := 6) rfl rfl (by omega) h9
      rcases (show j = 4 ∨ j = 5 ∨ j = 6 by omega) with rfl | rfl | rfl
      · exact e4 rfl
      · exact e5 rfl
      · exact e6 rfl
    unfold fn_X7_foresee
    simp only [ck_M, gd_tr, nm_so, in_ok r1, in_no r2, b1_so, i10, e2, e8, if_false, if_true, lf_no, b2_so]
    rfl
/-! where one would be done soonest -/
def aCh (ms : Nat → Option Nat) : Nat → Nat → Int32 → Nat → Int32
  | 0, _, best, _ => best
  | d + 1, b, best, M => match ms b with
    | none => aCh ms d (b + 1) best M
    | some m => if m ≤ M then aCh ms d (b + 1) (nI b) (m - 1) else aCh ms d (b + 1) best M
def aMs (α : Mem) (nr nt : Nat) (κ a pc : Int32) (b : Nat) : Option Nat := aTil nr (nt + 1) nt 600 (aAdd α nt b κ a pc)
theorem aAdd_19 {α : Mem} {nt b : Nat} {κ a pc : Int32} : aAdd α nt b κ a pc 19 nt = -1 := by
  rw [aAdd_eq (by decide)]
  unfold aAdd0
  rw [sI_n (Or.inl (by decide))]
  exact (aBeg_v (α := α) (t := nt)).2.2.2.2.2.2
theorem aMs_1 {α : Mem} {nr nt b m : Nat} {κ a pc : Int32} (h : aMs α nr nt κ a pc b = some m) : 1 ≤ m := by
  have h2 : aMs α nr nt κ a pc b = (aTil nr (nt + 1) nt 599 (aMin false (aAdd α nt b κ a pc) nr (nt + 1)).2).map (· + 1) := if_pos (show aAdd α nt b κ a pc 19 nt < 0 by rw [aAdd_19]; decide)
  rw [h2] at h
  cases h9 : aTil nr (nt + 1) nt 599 (aMin false (aAdd α nt b κ a pc) nr (nt + 1)).2 with
  | none =>
    rw [h9] at h
    exact absurd h (by simp)
  | some j =>
    rw [h9] at h
    have h8 : j + 1 = m := Option.some.inj h
    omega
theorem C_choose {nr nt μ κ a : Nat} {α : Mem} {pc : Int32} (hμ : μ ≤ 1000000) (h5 : nr ≤ 12) (h6 : nt ≤ 20) (hκ : κ ≤ 2) (ha : a ≤ 120) (h3 : WF α nr nt μ) : ∀ d b fuel best M σ, b + d = 4 → d < fuel → M ≤ 600 → CE true 1 σ α 12 nt → ∃ σ2, lp_X5_choose_17 0 (nI κ) (nI a) pc (fun x13 x14 x15 σ16 => (some (.inr x13, σ16))) fuel best (nI M) (nI b) σ = some (.inr (aCh (aMs α nr nt (nI κ) (nI a) pc) d b best M), σ2) ∧ Fc 71 σ σ2
  | 0, b, fuel + 1, best, M, σ, hb, _, _, _ => by
    have e : b = 4 := by omega
    subst e
    refine ⟨σ, ?_, Fc_0⟩
    unfold lp_X5_choose_17
    rw [if_pos (show (4 : Int32) ≤ nI 4 by decide)]
    rfl
  | d + 1, b, fuel + 1, best, M, σ, hb, hf, hM, h1 => by
    have hb4 : b < 4 := by omega
    obtain ⟨s1, a1, c1, f1⟩ := C_become h5 (show nt ≤ 21 by omega) h3.1.1 h3.1.2.1 h1
    obtain ⟨s2, a2, c2, f2⟩ := C_add (p1 := nI κ) (p2 := nI a) (p3 := pc) (Or.inr rfl) h5 (by omega) c1 h3.1.2.1 hb4
    have hW := WF_add (pc := pc) (show nt + 1 ≤ 21 by omega) hb4 hκ ha h3
    obtain ⟨s3, a3, f3⟩ := C_tillA (M := M) h5 (show nt + 1 ≤ 21 by omega) (Nat.le_refl nr) hM (Nat.lt_succ_self nt) (show μ + M < 2 ^ 31 by omega) c2 hW
    have f13 := Fc_t (Fc_t f1 f2) f3
    have h9 := CE_c (show nt ≤ 21 by omega) f13 h1
    have hcut := aTil_cut (nr := nr) (nt := nt + 1) (t := nt) M (600 - M) (aAdd α nt b (nI κ) (nI a) pc)
    rw [show M + (600 - M) = 600 by omega] at hcut
    have ih := fun best M hM => C_choose hμ h5 h6 hκ ha h3 (pc := pc) d (b + 1) fuel best M s3 (by omega) (by omega) hM h9
    have step : lp_X5_choose_17 0 (nI κ) (nI a) pc (fun x13 x14 x15 σ16 => (some (.inr x13, σ16))) (fuel + 1) best (nI M) (nI b) σ = if oNj 0 (aTil nr (nt + 1) nt M (aAdd α nt b (nI κ) (nI a) pc)) < 0 then lp_X5_choose_17 0 (nI κ) (nI a) pc (fun x13 x14 x15 σ16 => (some (.inr x13, σ16))) fuel best (nI M) (nI (b + 1)) s3 else lp_X5_choose_17 0 (nI κ) (nI a) pc (fun x13 x14 x15 σ16 => (some (.inr x13, σ16))) fuel (nI b) (oNj 0 (aTil nr (nt + 1) nt M (aAdd α nt b (nI κ) (nI a) pc)) - 1) (nI (b + 1)) s3 := by
      conv => lhs; unfold lp_X5_choose_17
      rw [if_neg (show ¬ (4 : Int32) ≤ nI b from nI_ge (b := 4) hb4 (by omega)), rf_01, b1_so, rf_00, b1_so, ck_T (Or.inr rfl), gd_tr, a1, b1_so, b1_so, ck_T (Or.inr rfl), gd_tr, a2, b2_so, b1_so, ck_T (Or.inr rfl), gd_tr, a3, b2_so, nm_so, nm_so, nm_so, nI_1]
    rw [step]
    unfold aCh
    have hms : aMs α nr nt (nI κ) (nI a) pc b = aTil nr (nt + 1) nt 600 (aAdd α nt b (nI κ) (nI a) pc) := rfl
    rw [hcut, ← hms]
    cases hm : aMs α nr nt (nI κ) (nI a) pc b with
    | none =>
      obtain ⟨s4, a4, f4⟩ := ih best M hM
      refine ⟨s4, ?_, Fc_t f13 f4⟩
      exact (if_pos (show (-1 : Int32) < 0 by decide)).trans a4
    | some m =>
      have hm1 := aMs_1 hm
      by_cases h8 : m ≤ M
      · obtain ⟨s4, a4, f4⟩ := ih (nI b) (m - 1) (by omega)
        refine ⟨s4, ?_, Fc_t f13 f4⟩
        have e1 : oNj 0 (match (some m : Option Nat) with
          | none => none
          | some i => if i ≤ M then some i else none) = nI m := by
          show oNj 0 (if m ≤ M then some m else none) = nI m
          rw [if_pos h8]
          show nI (0 + m) = nI m
          rw [Nat.zero_add]
        have e2 : nI m - 1 = nI (m - 1) := by
          rw [show m = (m - 1) + 1 by omega, nI_pred]
          rfl
        rw [e1, if_neg (nI_pos (by omega)), e2]
        exact a4.trans (by rw [show (match (some m : Option Nat) with
          | none => aCh (aMs α nr nt (nI κ) (nI a) pc) d (b + 1) best M
          | some m => if m ≤ M then aCh (aMs α nr nt (nI κ) (nI a) pc) d (b + 1) (nI b) (m - 1) else aCh (aMs α nr nt (nI κ) (nI a) pc) d (b + 1) best M) = aCh (aMs α nr nt (nI κ) (nI a) pc) d (b + 1) (nI b) (m - 1) from if_pos h8])
      · obtain ⟨s4, a4, f4⟩ := ih best M hM
        refine ⟨s4, ?_, Fc_t f13 f4⟩
        have e1 : oNj 0 (match (some m : Option Nat) with
          | none => none
          | some i => if i ≤ M then some i else none) = -1 := by
          show oNj 0 (if m ≤ M then some m else none) = -1
          rw [if_neg h8]
          rfl
        rw [e1, if_pos (show (-1 : Int32) < 0 by decide)]
        exact a4.trans (by rw [show (match (some m : Option Nat) with
          | none => aCh (aMs α nr nt (nI κ) (nI a) pc) d (b + 1) best M
          | some m => if m ≤ M then aCh (aMs α nr nt (nI κ) (nI a) pc) d (b + 1) (nI b) (m - 1) else aCh (aMs α nr nt (nI κ) (nI a) pc) d (b + 1) best M) = aCh (aMs α nr nt (nI κ) (nI a) pc) d (b + 1) best M from if_neg h8])
