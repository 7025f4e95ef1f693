/-! where one would be done soonest: the reference -/
theorem r_kd : ∀ f ∈ List.range 26, (rlo 148 f = 143 → f = 13) ∧ (rlo 148 f = 144 → f = 14) ∧ (rlo 148 f = 145 → f = 15) ∧ (rlo 148 f = 146 → f = 16) := by decide +kernel
theorem RE_k {σ α : Mem} {nt a g : Nat} {x : Int32} (hg : 13 ≤ g ∧ g ≤ 16) (ha : a ≠ 147) (hr : ∀ f, f < 26 → rlo 148 f = a → f = g) (h : RE true 148 σ α 12 nt) : RE true 148 (sI σ a nt x) α 12 nt := by
  intro f i hv f1 f2
  rw [sI_n, h f i hv f1 f2]
  rcases hv with ⟨a1, a2⟩ | ⟨a0, a1, a2, a3⟩
  · by_cases e : rlo 148 f = a
    · have e2 := hr f a1 e
      refine Or.inr ?_
      have hl := lim_fld ⟨a1, a2⟩
      unfold bfld rfld tfld at hl
      have hi : i < nt := by omega
      rcases (show g = 13 ∨ g = 14 ∨ g = 15 ∨ g = 16 by omega) with h9 | h9 | h9 | h9
      · rw [e2, h9]
        exact Nat.ne_of_lt hi
      · rw [e2, h9]
        exact Nat.ne_of_lt hi
      · rw [e2, h9]
        exact Nat.ne_of_lt hi
      · rw [e2, h9]
        exact Nat.ne_of_lt hi
    · exact Or.inl e
  · obtain ⟨t, h3, rfl⟩ := y_ex a1 a2
    rw [rlo_y]
    exact Or.inl (fun h => ha h.symm)
theorem RE_t4 {σ α : Mem} {nt : Nat} {p0 p1 p2 p3 : Int32} (h : RE true 148 σ α 12 nt) : RE true 148 (t4 σ nt p0 p1 p2 p3) α 12 nt :=
  RE_k (g := 16) (by omega) (by decide) (fun f hf => (r_kd f (List.mem_range.mpr hf)).2.2.2) (RE_k (g := 15) (by omega) (by decide) (fun f hf => (r_kd f (List.mem_range.mpr hf)).2.2.1) (RE_k (g := 14) (by omega) (by decide) (fun f hf => (r_kd f (List.mem_range.mpr hf)).2.1) (RE_k (g := 13) (by omega) (by decide) (fun f hf => (r_kd f (List.mem_range.mpr hf)).1) h)))
theorem t4_o {σ : Mem} {nt j : Nat} {p0 p1 p2 p3 : Int32} (hj : j < 143) : t4 σ nt p0 p1 p2 p3 j = σ j := by
  unfold t4
  rw [sI_ne (by omega), sI_ne (by omega), sI_ne (by omega), sI_ne (by omega)]
theorem aCh_n {ms : Nat → Option Nat} {d b M : Nat} {best : Int32} (h : ms b = none) : aCh ms (d + 1) b best M = aCh ms d (b + 1) best M := by
  conv => lhs; unfold aCh
  rw [h]
theorem aCh_y {ms : Nat → Option Nat} {d b M m : Nat} {best : Int32} (h : ms b = some m) (hm : m ≤ M) : aCh ms (d + 1) b best M = aCh ms d (b + 1) (nI b) (m - 1) := by
  conv => lhs; unfold aCh
  rw [h]
  exact if_pos hm
theorem aCh_l {ms : Nat → Option Nat} {d b M m : Nat} {best : Int32} (h : ms b = some m) (hm : ¬ m ≤ M) : aCh ms (d + 1) b best M = aCh ms d (b + 1) best M := by
  conv => lhs; unfold aCh
  rw [h]
  exact if_neg hm
theorem R_choose {nr nt μ κ a : Nat} {α : Mem} {pc : Int32} (hμ : μ ≤ 1000000) (h5 : nr ≤ 12) (h6 : nt ≤ 20) (hκ : κ ≤ 2) (ha : a ≤ 120) (h3 : WF α nr nt μ) : ∀ d b fuel best M σ, b + d = 4 → d < fuel → M ≤ 600 → RE true 148 σ α 12 nt → σ 141 3 = nI nt → ∃ σ2, lp_X7_choose_31 141 (nI κ) (nI a) pc (fun x15 x16 x17 σ18 => (some (x15, σ18))) fuel best (nI (M + 1)) (nI b) σ = some (aCh (aMs α nr nt (nI κ) (nI a) pc) d b best M, σ2) ∧ RE true 148 σ2 α 12 nt ∧ ∀ j, j ≤ 141 → σ2 j = σ j
  | 0, b, fuel + 1, best, M, σ, hb, _, _, h2, _ => by
    have e : b = 4 := by omega
    subst e
    refine ⟨σ, ?_, h2, fun _ _ => rfl⟩
    unfold lp_X7_choose_31
    rw [if_pos (show (4 : Int32) ≤ nI 4 by decide)]
    rfl
  | d + 1, b, fuel + 1, best, M, σ, hb, hf, hM, h2, h7 => by
    have hb4 : b < 4 := by omega
    have hS : isS 162 := Or.inr rfl
    obtain ⟨s1, a1, c1, f1⟩ := R_become h5 (show nt ≤ 21 by omega) h2
    have g1 := RE_162 h6 f1 h2
    have q1 : s1 141 3 = nI nt := by
      rw [Fr_lo f1 (by omega)]
      exact h7
    obtain ⟨s3, a3, c3, f3⟩ := R_come hS h5 (show nt + 1 ≤ 21 by omega) (RE_tell (b := nI b) (p1 := nI κ) (p2 := nI a) (p3 := pc) hS h5 (show nt + 1 ≤ 21 by omega) c1) h3.1.2.1
    have g3 := RE_162 h6 f3 (RE_t4 (p0 := nI b) (p1 := nI κ) (p2 := nI a) (p3 := pc) g1)
    have c4 : RE false 162 s3 (aAdd α nt b (nI κ) (nI a) pc) nr (nt + 1) := RE_eq c3 (fun f i _ h9 => aAdd_eq h9)
    have hW := WF_add (pc := pc) (show nt + 1 ≤ 21 by omega) hb4 hκ ha h3
    obtain ⟨s4, a4, f4⟩ := R_till h5 (show nt + 1 ≤ 21 by omega) (Nat.le_refl nr) (Nat.lt_succ_self nt) 600 0 602 s3 _ μ (by omega) (by omega) (by omega) c4 hW
    have a4' : fn_X7_endOf s3 141 (nI nt) = some (oNj 0 (aMs α nr nt (nI κ) (nI a) pc b), s4) := a4
    have g4 := RE_162 h6 f4 g3
    have lo : ∀ j, j ≤ 141 → s4 j = σ j := fun j hj => by
      rw [Fr_lo f4 (by omega), Fr_lo f3 (by omega), t4_o (by omega), Fr_lo f1 (by omega)]
    have q4 : s4 141 3 = nI nt := by
      rw [lo 141 (Nat.le_refl _)]
      exact h7
    have ih := fun best M hM => R_choose hμ h5 h6 hκ ha h3 (pc := pc) d (b + 1) fuel best M s4 (by omega) (by omega) hM g4 q4
    have step : lp_X7_choose_31 141 (nI κ) (nI a) pc (fun x15 x16 x17 σ18 => (some (x15, σ18))) (fuel + 1) best (nI (M + 1)) (nI b) σ = if oNj 0 (aMs α nr nt (nI κ) (nI a) pc b) = -1 then lp_X7_choose_31 141 (nI κ) (nI a) pc (fun x15 x16 x17 σ18 => (some (x15, σ18))) fuel best (nI (M + 1)) (nI (b + 1)) s4 else if oNj 0 (aMs α nr nt (nI κ) (nI a) pc b) < nI (M + 1) then lp_X7_choose_31 141 (nI κ) (nI a) pc (fun x15 x16 x17 σ18 => (some (x15, σ18))) fuel (nI b) (oNj 0 (aMs α nr nt (nI κ) (nI a) pc b)) (nI (b + 1)) s4 else lp_X7_choose_31 141 (nI κ) (nI a) pc (fun x15 x16 x17 σ18 => (some (x15, σ18))) fuel best (nI (M + 1)) (nI (b + 1)) s4 := by
      conv => lhs; unfold lp_X7_choose_31
      rw [if_neg (show ¬ (4 : Int32) ≤ nI b from nI_ge (b := 4) hb4 (by omega)), rm_10, b1_so, rm_9, b1_so, ck_S hS, gd_tr, a1, b1_so, ck_M, gd_tr, gd_tr, q1, lf_tell (show nt < 21 by omega), b1_so, b1_so, ck_S hS, gd_tr, a3, b2_so, gd_tr, a4', b2_so, nm_so, nm_so, nI_1]
    rw [step]
    cases hm : aMs α nr nt (nI κ) (nI a) pc b with
    | none =>
      obtain ⟨s5, a5, g5, l5⟩ := ih best M hM
      refine ⟨s5, ?_, g5, fun j hj => (l5 j hj).trans (lo j hj)⟩
      rw [if_pos (show oNj 0 none = -1 from rfl), aCh_n hm]
      exact a5
    | some m =>
      have hm1 := aMs_1 hm
      have hm6 := aTil_le 600 _ m hm
      have e1 : oNj 0 (some m) = nI m := by
        show nI (0 + m) = nI m
        rw [Nat.zero_add]
      rw [e1, if_neg (nI_m1 (by omega))]
      by_cases h8 : m ≤ M
      · obtain ⟨s5, a5, g5, l5⟩ := ih (nI b) (m - 1) (by omega)
        refine ⟨s5, ?_, g5, fun j hj => (l5 j hj).trans (lo j hj)⟩
        rw [show m - 1 + 1 = m by omega] at a5
        rw [if_pos (nI_lt (by omega) (by omega)), aCh_y hm h8]
        exact a5
      · obtain ⟨s5, a5, g5, l5⟩ := ih best M hM
        refine ⟨s5, ?_, g5, fun j hj => (l5 j hj).trans (lo j hj)⟩
        rw [if_neg (nI_nlt (by omega) (by omega)), aCh_l hm h8]
        exact a5
theorem P_choose (B : Nat) (hB : B ≤ 1000000) (p0 p1 p2 : Int32) : mth B B [(2, 1)] (fun σ => fn_X5_choose σ 0 p0 p1 p2) (fun σ => fn_X7_choose σ 141 p0 p1 p2) := by
  intro σ hI
  by_cases r1 : kindP p0 p1 p2
  case neg =>
    refine mth_no (Nat.le_refl B) hI 2 1 (by decide) ?_ ?_
    · show fn_X5_choose σ 0 p0 p1 p2 = _
      unfold fn_X5_choose
      simp only [nk_no r1, bx_l]
    · show fn_X7_choose σ 141 p0 p1 p2 = _
      unfold fn_X7_choose
      simp only [ck_M, gd_tr, nm_so, ik_no r1, b1_so, if_true, lf_no, b2_so]
      rfl
  obtain ⟨α, nr, nt, μ, h1, h2, h3, h4, h5, h6, h7, h8⟩ := hI
  obtain ⟨κ, _, hκ, rfl⟩ := rng_of (a := 0) (b := 2) rfl rfl (by omega) r1.1
  obtain ⟨a, _, ha, rfl⟩ := rng_of (a := 0) (b := 120) rfl rfl (by omega) r1.2.1
  obtain ⟨s1, a1, f1⟩ := C_choose (show μ ≤ 1000000 by omega) h5 h6 hκ ha h3 (pc := p2) 4 0 30 (-1) 600 σ (by omega) (by omega) (Nat.le_refl 600) h1
  have k1 := CE_c (show nt ≤ 21 by omega) f1 h1
  have g0 : RE true 148 (sI s1 141 0 0) α 12 nt := RE_t (Or.inl rfl) (Nat.le_refl 12) (by omega) (Or.inl rfl) (RE_71 h6 f1 h2)
  have q3 : sI s1 141 0 0 141 3 = nI nt := by
    rw [sI_n (Or.inr (by decide)), f1 141 (Or.inr (by omega))]
    exact h7
  obtain ⟨s2, a2, g2, lo⟩ := R_choose (show μ ≤ 1000000 by omega) h5 h6 hκ ha h3 (pc := p2) 4 0 30 (-1) 600 (sI s1 141 0 0) (by omega) (by omega) (Nat.le_refl 600) g0 q3
  have l141 := lo 141 (Nat.le_refl _)
  refine mk_ok (x := aCh (aMs α nr nt (nI κ) (nI a) p2) 4 0 (-1) 600) rfl rfl k1 g2 (fun j hj => (lo j (by omega)).trans (sI_ne (by omega))) h3 h4 h5 h6 (by rw [l141]; exact q3) h8 (by rw [l141, sI_s]) ?_ ?_
  · show fn_X5_choose σ 0 (nI κ) (nI a) p2 = _
    unfold fn_X5_choose
    rw [nk_ok r1, bx_r]
    exact a1
  · show fn_X7_choose s1 141 (nI κ) (nI a) p2 = _
    unfold fn_X7_choose
    simp only [ck_M, gd_tr, nm_so, ik_ok r1, b1_so, i10, if_false]
    exact a2
