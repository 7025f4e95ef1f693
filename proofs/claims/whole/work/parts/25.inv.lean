/-! all ringers' bells, also of those to come -/
theorem W12_rel {α : Mem} {nr b : Nat} (hnr : nr ≤ 12) (hb : b < 4) (h : WR α 12) : WR (aRel α b nr).2 12 := by
  unfold aRel
  rcases aBs_rest (α := α) (w := α 0 b) nr 0 (-1) 0 (Nat.zero_add nr) (Or.inl rfl) with h1 | ⟨r, hr, h1, h22⟩
  · rw [h1, if_pos (show (-1 : Int32) < 0 by decide)]
    exact h
  · rw [h1, if_neg (nI_pos (by omega)), cN_n (by omega)]
    exact WR_o (fun f i hf => sI_n (by omega)) (WR_bring (Nat.le_refl 12) hb (Nat.lt_of_lt_of_le hr hnr) h22 h)
theorem W12_find {α : Mem} {nr b : Nat} (hnr : nr ≤ 12) (hb : b < 4) (h : WR α 12) : WR (aFind α b nr).2 12 := by
  unfold aFind
  split
  · exact W12_rel hnr hb h
  · split
    · exact W12_rel hnr hb h
    · exact h
theorem W12_go {α : Mem} {nr b : Nat} (hnr : nr ≤ 12) (hb : b < 4) (h : WR α 12) : WR (aGo α b nr).2 12 := by
  unfold aGo
  split
  · split
    · exact W12_find hnr hb h
    · exact WR_o (fun f i hf => sI_n (by omega)) h
  · exact h
theorem W12_stk {k : Bool} {α : Mem} {b r t ft fw nt : Nat} (hf : (ft = 5 ∧ fw = 6) ∨ (ft = 7 ∧ fw = 8)) (hb : b < 4) (h : WR α 12) : WR (aStk k α b r t ft fw nt) 12 := by
  unfold aStk
  generalize (if α ft b = 0 then (1 : Int32) else 0) = l
  generalize aRch (α ft b) (α 0 b) = rc
  have h1 : WR (aTurn (aWear (aSound k (aPull α r (α 0 b)) t l rc) b ft fw (α 0 b)) b) 12 := WR_o (fun f i hf9 => by
    rw [aTurn_o (by omega) (by omega), aWear_o (by omega) (by omega), aSound_o (by omega), aPull_o (by omega) (by omega)]) h
  unfold aTl
  split
  · exact WR_o (fun f i hf => sI_n (by omega)) h1
  · exact WR_end (Nat.le_refl 12) hb h1
theorem W12_bl {k : Bool} {α : Mem} {b nr nt : Nat} {y : Int32} (hnr : nr ≤ 12) (hb : b < 4) (h : WR α 12) : WR (aBl k α b nr nt y).2 12 := by
  unfold aBl
  split
  · exact W12_go hnr hb h
  · show WR (aStrike k (aGo α b nr).2 b (cN (aGo α b nr).1) (cN ((aGo α b nr).2 23 b)) nt) 12
    unfold aStrike
    split
    · exact W12_stk (Or.inl ⟨rfl, rfl⟩) hb (W12_go hnr hb h)
    · exact W12_stk (Or.inr ⟨rfl, rfl⟩) hb (W12_go hnr hb h)
theorem W12_bls {k : Bool} {nr nt : Nat} (hnr : nr ≤ 12) : ∀ d b y α, b + d = 4 → WR α 12 → WR (aBls k nr nt d b y α).2 12
  | 0, _, _, _, _, h => h
  | d + 1, b, y, α, hb, h => W12_bls hnr d (b + 1) _ _ (by omega) (W12_bl hnr (by omega) h)
theorem W12_rests : ∀ d r α, WR α 12 → WR (aRests d r α) 12
  | 0, _, _, h => h
  | d + 1, r, α, h => W12_rests d (r + 1) _ (WR_o (fun f i hf => aRest_o (by omega)) h)
theorem W12_min {k : Bool} {α : Mem} {nr nt : Nat} (hnr : nr ≤ 12) (h : WR α 12) : WR (aMin k α nr nt).2 12 := by
  unfold aMin aTick
  exact WR_o (fun f i hf => sI_n (by omega)) (W12_rests nr 0 _ (W12_bls hnr 4 0 0 α (by omega) h))
theorem W12_mins {k : Bool} {nr nt : Nat} (hnr : nr ≤ 12) : ∀ d y α, WR α 12 → WR (aMins k nr nt d y α).2 12
  | 0, _, _, h => h
  | d + 1, y, α, h => W12_mins hnr d _ _ (W12_min hnr h)
/-! till a toll is done, class and reference -/
def oNj (j : Nat) (o : Option Nat) : Int32 := match o with
  | none => -1
  | some i => nI (j + i)
theorem oNj_s {j : Nat} (o : Option Nat) : oNj j (o.map (· + 1)) = oNj (j + 1) o := by
  cases o with
  | none => rfl
  | some i =>
    show nI (j + (i + 1)) = nI (j + 1 + i)
    rw [show j + (i + 1) = j + 1 + i by omega]
def Kc (L : Nat) : Int32 → Mem → Option (Int32 × Mem) := fun x7 σ8 => gd (ck L 3) (b1 (fn_X3_isDone σ8 L) (fun r9 => (if r9 = (0 : Int32) then (some ((-1), σ8)) else (some (x7, σ8)))))
theorem C_till {R nt nr M t : Nat} (hR : R ≤ 12) (hn : nt ≤ 21) (hnr : nr ≤ R) (hM : M < 2 ^ 31) (ht : t < nt) : ∀ d j fuel σ α μ, j + d = M → d < fuel → μ + d < 2 ^ 31 → CE false 71 σ α R nt → WF α nr nt μ → ∃ σ2, lp_X4_passTillDone_20 71 (nI M) (oO 71 t) (Kc (oO 71 t)) fuel (nI j) σ = some (oNj j (aTil nr nt t d α), σ2) ∧ Fc 71 σ σ2
  | 0, j, fuel + 1, σ, α, μ, hj, _, _, h, hW => by
    have ht2 : t < 21 := Nat.lt_of_lt_of_le ht hn
    refine ⟨σ, ?_, Fc_0⟩
    unfold lp_X4_passTillDone_20 aTil Kc
    rw [ck_O (Or.inr rfl) ht2, gd_tr, gd_tr, lf_isDone (ck_O (Or.inr rfl) ht2), CE_19 h ht, b1_so, b1_so]
    by_cases h1 : α 19 t < 0
    · rw [if_pos h1, if_pos rfl, if_pos (nI_le (by omega) (by omega)), if_pos rfl, if_pos h1]
      rfl
    · rw [if_neg h1, if_neg (show ¬ (1 : Int32) = 0 by decide), if_neg (show ¬ (1 : Int32) = 0 by decide), if_neg h1]
      rfl
  | d + 1, j, fuel + 1, σ, α, μ, hj, hf, hμ, h, hW => by
    have ht2 : t < 21 := Nat.lt_of_lt_of_le ht hn
    unfold lp_X4_passTillDone_20 aTil
    rw [ck_O (Or.inr rfl) ht2, gd_tr, lf_isDone (ck_O (Or.inr rfl) ht2), CE_19 h ht, b1_so]
    by_cases h1 : α 19 t < 0
    · obtain ⟨s1, e1, h2, f1⟩ := C_min (Or.inr ⟨rfl, rfl⟩) hR hn hnr (by omega) h hW
      obtain ⟨s2, e2, f2⟩ := C_till hR hn hnr hM ht d (j + 1) fuel s1 _ (μ + 1) (by omega) (by omega) (by omega) h2 (WF_min (Nat.le_trans hnr hR) hn (by omega) hW)
      refine ⟨s2, ?_, Fc_t f1 f2⟩
      rw [if_pos h1, if_pos rfl, if_neg (nI_ge (by omega) hM), ck_T (Or.inr rfl), gd_tr, e1, b2_so, nm_so, nI_1, e2, if_pos h1, oNj_s]
    · refine ⟨σ, ?_, Fc_0⟩
      rw [if_neg h1, if_neg (show ¬ (1 : Int32) = 0 by decide), if_neg h1]
      unfold Kc
      rw [ck_O (Or.inr rfl) ht2, gd_tr, lf_isDone (ck_O (Or.inr rfl) ht2), CE_19 h ht, b1_so, if_neg h1, if_neg (show ¬ (1 : Int32) = 0 by decide)]
      rfl
theorem C_tillA {R nt nr M t μ : Nat} {σ α : Mem} (hR : R ≤ 12) (hn : nt ≤ 21) (hnr : nr ≤ R) (hM : M ≤ 600) (ht : t < nt) (hμ : μ + M < 2 ^ 31) (h : CE false 71 σ α R nt) (hW : WF α nr nt μ) : ∃ σ2, fn_X4_passTillDone σ 71 (nI t) (nI M) = some (oNj 0 (aTil nr nt t M α), σ2) ∧ Fc 71 σ σ2 := by
  have ht2 : t < 21 := Nat.lt_of_lt_of_le ht hn
  obtain ⟨s2, e2, f2⟩ := C_till (M := M) hR hn hnr (by omega) ht M 0 602 σ α μ (by omega) (by omega) hμ h hW
  refine ⟨s2, ?_, f2⟩
  unfold fn_X4_passTillDone
  rw [ck_T (Or.inr rfl), gd_tr, isO_y (Or.inr rfl) ((CE_25 h).trans hW.1.2.1) ht hn, b1_so, if_neg (show ¬ (1 : Int32) = 0 by decide), rf_T2 (Or.inr rfl), b1_so, ea_O (Or.inr rfl) ht2, b1_so]
  exact e2
theorem R_till {R nt nr t : Nat} (hR : R ≤ 12) (hn : nt ≤ 21) (hnr : nr ≤ R) (ht : t < nt) : ∀ d j fuel σ α μ, j + d = 600 → d + 1 < fuel → μ + d + 1 < 2 ^ 31 → RE false 162 σ α R nt → WF α nr nt μ → ∃ σ2, lp_X7_endOf_2 141 (nI t) (fun x7 σ8 => (some ((-1), σ8))) fuel (nI j) σ = some (oNj j (aTil nr nt t d α), σ2) ∧ Fr false 162 σ σ2
  | d, j, fuel + 1, σ, α, μ, hj, hf, hμ, h, hW => by
    have ht2 : t < 21 := Nat.lt_of_lt_of_le ht hn
    have hc : (nI t).toNatClampNeg = t := nI_clamp (by omega)
    have hD := okD_lt (WT_D (by omega) hW.2.2.2.2) ht
    have hS : isS 162 := Or.inr rfl
    have ec : σ (162 + 13) t = α 19 t := RE_19 h ht
    unfold lp_X7_endOf_2
    rw [if_neg (show ¬ (600 : Int32) < nI j from nI_nlt (a := 600) (b := j) (by omega) (by omega)), rm_10, b1_so, rs_15 hS, b1_so, is_13 hS ht2, gd_tr, hc, ec]
    by_cases h1 : α 19 t < 0
    · obtain ⟨s1, e1, h2, f1⟩ := R_min (Or.inr ⟨rfl, rfl⟩) hR hn hnr (by omega) h hW
      rw [if_neg (show ¬ false = true by decide)] at e1
      rw [if_pos (hD.mp h1), b1_so, ck_S hS, gd_tr, e1, b2_so, nm_so, nI_1]
      cases d with
      | zero =>
        refine ⟨s1, ?_, f1⟩
        cases fuel with
        | zero => omega
        | succ fuel =>
          unfold lp_X7_endOf_2 aTil
          rw [if_pos (show (600 : Int32) < nI (j + 1) from nI_lt (a := 600) (by omega) (by omega)), if_pos h1]
          rfl
      | succ d =>
        obtain ⟨s2, e2, f2⟩ := R_till hR hn hnr ht d (j + 1) fuel s1 _ (μ + 1) (by omega) (by omega) (by omega) h2 (WF_min (Nat.le_trans hnr hR) hn (by omega) hW)
        refine ⟨s2, ?_, Fr_t f1 f2⟩
        unfold aTil
        rw [e2, if_pos h1, oNj_s]
    · refine ⟨σ, ?_, Fr_0⟩
      rw [if_neg (fun h9 => h1 (hD.mpr h9))]
      cases d with
      | zero =>
        unfold aTil
        rw [if_neg h1]
        rfl
      | succ d =>
        unfold aTil
        rw [if_neg h1]
        rfl
/-! the invariant -/
def Inv (B : Nat) (σ : Mem) : Prop := ∃ α nr nt μ, CE true 1 σ α 12 nt ∧ RE true 148 σ α 12 nt ∧ WF α nr nt μ ∧ WR α 12 ∧ nr ≤ 12 ∧ nt ≤ 20 ∧ σ 141 3 = nI nt ∧ μ ≤ B
theorem r_th : ∀ S ∈ [148, 162], ∀ q ∈ locs8, ¬ (rlo S q.1 = 141 ∧ (rsl q.1 q.2 = 0 ∨ rsl q.1 q.2 = 3)) := by decide +kernel
theorem RE_t {k : Bool} {S : Nat} {σ α : Mem} {nr nt c : Nat} {x : Int32} (hS : isS S) (hr : nr ≤ 12) (ht : nt ≤ 21) (hc : c = 0 ∨ c = 3) (h : RE k S σ α nr nt) : RE k S (sI σ 141 c x) α nr nt := by
  intro f i hv f1 f2
  rw [sI_n, h f i hv f1 f2]
  rcases hv with ⟨a1, a2⟩ | ⟨a0, a1, a2, a3⟩
  · have h9 := r_th S (isS_in hS) _ (locs8_in ⟨a1, Nat.lt_of_lt_of_le a2 (lim_le hr ht)⟩ f1 f2)
    by_cases e : rlo S f = 141
    · refine Or.inr (fun e2 => h9 ⟨e, ?_⟩)
      rcases hc with hc | hc
      · exact Or.inl (e2.trans hc)
      · exact Or.inr (e2.trans hc)
    · exact Or.inl e
  · obtain ⟨t, h3, rfl⟩ := y_ex a1 a2
    rw [rlo_y]
    exact Or.inl (by decide)
theorem CE_t {k : Bool} {T : Nat} {σ α : Mem} {nr nt a c : Nat} {x : Int32} (hT : isT T) (hr : nr ≤ 12) (ht : nt ≤ 21) (ha : 141 ≤ a) (h : CE k T σ α nr nt) : CE k T (sI σ a c x) α nr nt := CE_fr hT hr ht (fun j hj => sI_ne (by rcases hT with rfl | rfl <;> omega)) h
theorem Inv_t {B : Nat} {σ : Mem} {x : Int32} (h : Inv B σ) : Inv B (sI σ 141 0 x) := by
  obtain ⟨α, nr, nt, μ, h1, h2, h3, h4, h5, h6, h7, h8⟩ := h
  exact ⟨α, nr, nt, μ, CE_t (Or.inl rfl) (Nat.le_refl 12) (by omega) (Nat.le_refl 141) h1, RE_t (Or.inl rfl) (Nat.le_refl 12) (by omega) (Or.inl rfl) h2, h3, h4, h5, h6, (sI_n (Or.inr (by decide))).trans h7, h8⟩
/-! ranges -/
def rng (p lo hi : Int32) : Prop := ¬ p < lo ∧ p ≤ hi
theorem nb_eq (σ : Mem) (p lo hi : Int32) : fn_X5_needBetween σ p lo hi = if p < lo then some (.inl 2) else if p ≤ hi then some (.inr ()) else some (.inl 2) := rfl
theorem nb_ok {σ : Mem} {p lo hi : Int32} (h : rng p lo hi) : fn_X5_needBetween σ p lo hi = some (.inr ()) := by
  unfold fn_X5_needBetween
  rw [if_neg h.1, if_pos h.2]
theorem nb_no {σ : Mem} {p lo hi : Int32} (h : ¬ rng p lo hi) : fn_X5_needBetween σ p lo hi = some (.inl 2) := by
  unfold fn_X5_needBetween
  by_cases h1 : p < lo
  · rw [if_pos h1]
  · rw [if_neg h1, if_neg (fun h2 => h ⟨h1, h2⟩)]
theorem in_ok {σ : Mem} {p lo hi : Int32} (h : rng p lo hi) : fn_X7_isIn σ p lo hi = some 1 := by
  unfold fn_X7_isIn
  rw [if_neg h.1, if_neg (Int32.not_lt.mpr h.2)]
theorem in_no {σ : Mem} {p lo hi : Int32} (h : ¬ rng p lo hi) : fn_X7_isIn σ p lo hi = some 0 := by
  unfold fn_X7_isIn
  by_cases h1 : p < lo
  · rw [if_pos h1]
  · rw [if_neg h1, if_pos (Int32.not_le.mp (fun h2 => h ⟨h1, h2⟩))]
theorem rng_of {p lo hi : Int32} {a b : Nat} (hlo : lo = nI a) (hhi : hi = nI b) (hb : a < 2 ^ 30 ∧ b < 2 ^ 30) (h : rng p lo hi) : ∃ j, a ≤ j ∧ j ≤ b ∧ p = nI j := by
  subst hlo hhi
  obtain ⟨h1, h2⟩ := h
  by_cases hab : a ≤ b
  · rcases pk_ix p (n := b + 1) (by omega) with h3 | h3 | ⟨j, h3, rfl⟩
    · exact absurd (Int32.lt_of_lt_of_le h3 (nI_pos' (show a < 2 ^ 31 by omega))) h1
    · exact absurd (Int32.le_trans h3 h2) (nI_ge (by omega) (by omega))
    · refine ⟨j, ?_, by omega, rfl⟩
      exact Decidable.byContradiction (fun h4 => h1 (nI_lt (by omega) (by omega)))
  · exact absurd (Int32.lt_of_le_of_lt h2 (nI_lt (by omega) (by omega))) h1
theorem rng_n {p : Int32} {n : Nat} (hn : n < 2 ^ 30) : rng p 0 (nI n - 1) ↔ (¬ p < 0 ∧ p < nI n) := by
  cases n with
  | zero =>
    exact ⟨fun h => absurd (Int32.lt_of_le_of_lt h.2 (show nI 0 - 1 < 0 by decide)) h.1, fun h => absurd h.2 h.1⟩
  | succ n =>
    rw [nI_pred]
    refine ⟨fun h => ?_, fun h => ?_⟩
    · exact ⟨h.1, Int32.lt_of_le_of_lt h.2 (nI_lt (by omega) (by omega))⟩
    · rcases pk_ix p (n := n + 1) (by omega) with h3 | h3 | ⟨j, h3, rfl⟩
      · exact absurd h3 h.1
      · exact absurd h.2 (Int32.not_lt.mpr h3)
      · exact ⟨h.1, nI_le (by omega) (by omega)⟩
theorem ni_ok {σ : Mem} {p : Int32} {n : Nat} (hn : n < 2 ^ 30) (h : rng p 0 (nI n - 1)) : fn_X5_needIndex σ p (nI n) = some (.inr ()) := by
  have h9 := (rng_n hn).mp h
  unfold fn_X5_needIndex
  rw [if_neg h9.1, if_pos h9.2]
theorem ni_no {σ : Mem} {p : Int32} {n : Nat} (hn : n < 2 ^ 30) (h : ¬ rng p 0 (nI n - 1)) : fn_X5_needIndex σ p (nI n) = some (.inl 1) := by
  have h9 := fun h8 => h ((rng_n hn).mpr h8)
  unfold fn_X5_needIndex
  by_cases h1 : p < 0
  · rw [if_pos h1]
  · rw [if_neg h1, if_neg (fun h2 => h9 ⟨h1, h2⟩)]
theorem rng_ix {p : Int32} {n : Nat} (hn : n < 2 ^ 30) (h : rng p 0 (nI n - 1)) : ∃ j, j < n ∧ p = nI j := by
  cases n with
  | zero => exact absurd ((rng_n (n := 0) (by omega)).mp h) (fun h9 => h9.1 h9.2)
  | succ n =>
    rw [nI_pred] at h
    obtain ⟨j, _, h2, h3⟩ := rng_of (a := 0) rfl rfl (by omega) h
    exact ⟨j, by omega, h3⟩
