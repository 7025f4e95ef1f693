/-! a minute of the reference -/
theorem R_bells {k : Bool} {S R nt nr μ : Nat} (hK : SK k S) (hR : R ≤ 12) (hn : nt ≤ 21) (hnr : nr ≤ R) (hμ : μ < 2 ^ 31) {K : Int32 → Int32 → Mem → Option (Int32 × Mem)} : ∀ d b fuel y σ α, b + d = 4 → d < fuel → RE k S σ α R nt → WF α nr nt μ → ∃ σ2, lp_X6_pass_4 S (if k = true then 1 else 0) K fuel y (nI b) σ = K (aBls k nr nt d b y α).1 (nI 4) σ2 ∧ RE k S σ2 (aBls k nr nt d b y α).2 R nt ∧ Fr k S σ σ2
  | 0, b, fuel + 1, y, σ, α, hb, _, h, _ => by
    have e : b = 4 := by omega
    subst e
    refine ⟨σ, ?_, h, Fr_0⟩
    unfold lp_X6_pass_4 aBls
    rw [if_pos (show (4 : Int32) ≤ nI 4 by decide)]
  | d + 1, b, fuel + 1, y, σ, α, hb, hf, h, hW => by
    have hS := SK_S hK
    have hb4 : b < 4 := by omega
    have hnr2 : nr ≤ 12 := Nat.le_trans hnr hR
    have hD := WT_D hμ hW.2.2.2.2
    have hcb : (nI b).toNatClampNeg = b := nI_clamp (by omega)
    have hI := hW.2.2.2.1 b hb4
    have hW2 := WF_bl (k := k) (y := y) hnr2 hn hμ hb4 hW
    unfold lp_X6_pass_4 aBls
    rw [if_neg (show ¬ (4 : Int32) ≤ nI b from nI_ge (b := 4) hb4 (by omega)), ck_S hS, gd_tr, R_first hS hn h hW.1.2.1 hD, b1_so, ← hI]
    rcases aFirst_in (α := α) (x := nI b) (nt := nt) with h7 | ⟨t, ht, h7, _⟩
    · have h23 : α 23 b = -1 := hI.trans h7
      have eg : aGo α b nr = (-1, α) := if_neg (by rw [h23]; decide)
      have eb : aBl k α b nr nt y = (y, α) := by
        unfold aBl
        rw [eg, if_pos (show (-1 : Int32) < 0 by decide)]
      rw [if_pos h23, nm_so, nI_1, eb]
      exact R_bells hK hR hn hnr hμ d (b + 1) fuel y σ α (by omega) (by omega) h hW
    · have h23 : α 23 b = nI t := hI.trans h7
      have h0 : 0 ≤ α 23 b := by rw [h23]; exact nI_pos' (by omega)
      rw [if_neg (by rw [h23]; exact nI_m1 (by omega)), rs_8 hS, b1_so, is_6 hS hb4, gd_tr, hcb, RE_3 h hb4]
      by_cases h3 : α 3 b ≤ 0
      · have eg : aGo α b nr = aFind α b nr := (if_pos h0).trans (if_pos h3)
        obtain ⟨s1, e1, h1, f1⟩ := R_manned hS hR hn h hW.1.1 hnr hW.2.2.1.2 hb4 (okR_le hnr (hW.2.2.1.1 b hb4))
        rw [if_pos h3, gd_tr, e1, b2_so]
        unfold aBl at hW2 ⊢
        rw [eg] at hW2 ⊢
        rcases aFind_ok hnr2 hb4 hW with ⟨g1, g2⟩ | ⟨r, hr, g1, g2, g3, g5⟩
        · rw [g1, if_pos (show (-1 : Int32) < 0 by decide)] at hW2 ⊢
          rw [if_pos (show (-1 : Int32) < 0 by decide), if_pos rfl, nm_so, nI_1]
          obtain ⟨s2, e2, h2, f2⟩ := R_bells hK hR hn hnr hμ (K := K) d (b + 1) fuel y s1 _ (by omega) (by omega) h1 hW2
          exact ⟨s2, e2, h2, Fr_t f1 f2⟩
        · have hr1 : r < R := Nat.lt_of_lt_of_le hr hnr
          have h8 : ¬ nI r < 0 := nI_pos (by omega)
          have g23 : (aFind α b nr).2 23 b = nI t := (g3 23 b (by decide) (by decide) (by decide)).trans h23
          rw [g1, if_neg h8, g23, cN_n (show r < 2 ^ 31 by omega), cN_n (show t < 2 ^ 31 by omega)] at hW2 ⊢
          obtain ⟨_, _, hP⟩ := WF_Pst hμ g5 hn hb4 ht g23
          obtain ⟨s2, e2, h2, f2⟩ := R_stroke hK hR hn h1 ht hb4 hr1 g2 hP (g5.2.1 b hb4).1 (okL_T (g5.2.1 b hb4).2.2.1) (okL_T (g5.2.1 b hb4).2.2.2) (g5.2.1 b hb4).2.1
          rw [if_neg h8, if_neg (show ¬ (1 : Int32) = 0 by decide), gd_tr, h23, e2, b1_so, nm_so, nm_so, nI_1]
          obtain ⟨s3, e3, h3, f3⟩ := R_bells hK hR hn hnr hμ (K := K) d (b + 1) fuel (y + 1) s2 _ (by omega) (by omega) h2 hW2
          exact ⟨s3, e3, h3, Fr_t (Fr_t f1 f2) f3⟩
      · have eg : aGo α b nr = (-1, sI α 3 b (α 3 b - 1)) := (if_pos h0).trans (if_neg h3)
        have eb : aBl k α b nr nt y = (y, sI α 3 b (α 3 b - 1)) := by
          unfold aBl
          rw [eg, if_pos (show (-1 : Int32) < 0 by decide)]
        rw [eb] at hW2 ⊢
        rw [if_neg h3, b1_so, is_6 hS hb4, gd_tr, gd_tr, RE_3 h hb4, nm_so, nm_so, nI_1]
        obtain ⟨s2, e2, h2, f2⟩ := R_bells hK hR hn hnr hμ (K := K) d (b + 1) fuel y _ _ (by omega) (by omega) (RW_3 (α 3 b - 1) hS hR hn hb4 h) hW2
        exact ⟨s2, e2, h2, Fr_t (Fr_w Fr_0 hS (Or.inl (by omega))) f2⟩
theorem R_rests {k : Bool} {S R nt nr μ : Nat} (hS : isS S) (hR : R ≤ 12) (hn : nt ≤ 21) (hnr : nr ≤ R) {a : Int32} {K : Int32 → Mem → Option (Int32 × Mem)} : ∀ d i fuel σ α, i + d = nr → d < fuel → RE k S σ α R nt → WF α nr nt μ → ∃ σ2, lp_X6_pass_74 S a K fuel (nI i) σ = K (nI nr) σ2 ∧ RE k S σ2 (aRests d i α) R nt ∧ Fr k S σ σ2
  | 0, i, fuel + 1, σ, α, hi, _, h, hW => by
    refine ⟨σ, ?_, h, Fr_0⟩
    unfold lp_X6_pass_74
    rw [rs_16 hS, b1_so, ck_M, gd_tr, RE_24 h, hW.1.1, if_pos (nI_le (by omega) (by omega)), show i = nr by omega]
  | d + 1, i, fuel + 1, σ, α, hi, hf, h, hW => by
    have hiR : i < R := by omega
    have hi2 : i < 12 := by omega
    have hc : (nI i).toNatClampNeg = i := nI_clamp (by omega)
    have hW2 := WF_o (fun f i _ _ _ h10 _ _ _ _ _ _ => aRest_o h10) hW (β := aRest α i)
    unfold lp_X6_pass_74 aRests
    rw [rs_16 hS, b1_so, ck_M, gd_tr, RE_24 h, hW.1.1, if_neg (nI_ge (by omega) (by omega)), ck_S hS, gd_tr, R_bellOf hS h (hW.2.2.1.2 i (by omega)), b1_so]
    by_cases h1 : α 22 i = -1
    · have er : aRest α i = sI α 10 i (if 0 < α 10 i - 2 then α 10 i - 2 else 0) := if_pos h1
      rw [er] at hW2 ⊢
      rw [if_pos h1, rs_10 hS, b1_so, b1_so, is_8 hS hi2, gd_tr, gd_tr, hc, RE_10 h hiR, nm_so, nm_so, nI_1]
      obtain ⟨s2, e2, h2, f2⟩ := R_rests hS hR hn hnr (a := a) (K := K) d (i + 1) fuel _ _ (by omega) (by omega) (RW_10 (if 0 < α 10 i - 2 then α 10 i - 2 else 0) hS hR hn hiR h) hW2
      exact ⟨s2, e2, h2, Fr_t (Fr_w Fr_0 hS (Or.inl (by omega))) f2⟩
    · have er : aRest α i = α := if_neg h1
      rw [er] at hW2 ⊢
      rw [if_neg h1, nm_so, nI_1]
      exact R_rests hS hR hn hnr (a := a) (K := K) d (i + 1) fuel _ _ (by omega) (by omega) h hW2
theorem R_min {k : Bool} {S R nt nr μ : Nat} {σ α : Mem} (hK : SK k S) (hR : R ≤ 12) (hn : nt ≤ 21) (hnr : nr ≤ R) (hμ : μ < 2 ^ 31) (h : RE k S σ α R nt) (hW : WF α nr nt μ) : rR2 k S R nt σ (aMin k α nr nt).2 (aMin k α nr nt).1 (fn_X6_pass σ S (if k = true then 1 else 0)) := by
  have hS := SK_S hK
  have hnr2 : nr ≤ 12 := Nat.le_trans hnr hR
  unfold fn_X6_pass
  have c1 := R_bells hK hR hn hnr hμ (K := fun x13 x14 σ15 => (lp_X6_pass_74 S x13 (fun x23 σ24 => gd (ck S 6) (gd (ck S 6) (nm (sI σ24 S 0 ((σ24 S 0) + 1)) (fun σ25 => (some (x13, σ25)))))) 30 0 σ15)) 4 0 30 0 σ α (by omega) (by omega) h hW
  obtain ⟨s1, e1, h1, f1⟩ := c1
  have hW1 := WF_bls (k := k) hnr2 hn hμ 4 0 0 α (by omega) hW
  have c2 := R_rests (μ := μ) hS hR hn hnr (a := (aBls k nr nt 4 0 0 α).1) (K := fun x23 σ24 => gd (ck S 6) (gd (ck S 6) (nm (sI σ24 S 0 ((σ24 S 0) + 1)) (fun σ25 => (some ((aBls k nr nt 4 0 0 α).1, σ25)))))) nr 0 30 s1 _ (by omega) (by omega) h1 hW1
  obtain ⟨s2, e2, h2, f2⟩ := c2
  rw [nI_0] at e1 e2
  have h3 := RW_20 (aRests nr 0 (aBls k nr nt 4 0 0 α).2 20 0 + 1) hS hR hn h2
  have e3 : s2 S 0 = aRests nr 0 (aBls k nr nt 4 0 0 α).2 20 0 := RE_20 h2
  unfold aMin aTick
  generalize aRests nr 0 (aBls k nr nt 4 0 0 α).2 = β at h3 e3 ⊢
  generalize (aBls k nr nt 4 0 0 α).1 = v at e1 e2 ⊢
  refine ⟨sI s2 S 0 (β 20 0 + 1), ?_, h3, Fr_w (Fr_t f1 f2) hS (Or.inl (by omega))⟩
  rw [e1, e2]
  simp only [ck_S hS, gd_tr, nm_so, e3]
/-! many minutes -/
theorem WF_mins {k : Bool} {nr nt : Nat} (hnr : nr ≤ 12) (hn : nt ≤ 21) : ∀ d y α μ, μ + d < 2 ^ 31 → WF α nr nt μ → WF (aMins k nr nt d y α).2 nr nt (μ + d)
  | 0, _, _, _, _, h => h
  | d + 1, y, α, μ, hμ, h => by
    have h9 := WF_mins (k := k) hnr hn d (y + (aMin k α nr nt).1) (aMin k α nr nt).2 (μ + 1) (by omega) (WF_min hnr hn (by omega) h)
    rw [show μ + 1 + d = μ + (d + 1) by omega] at h9
    exact h9
theorem aMins_y {k : Bool} {nr nt : Nat} : ∀ d y z α, (aMins k nr nt d y α).2 = (aMins k nr nt d z α).2
  | 0, _, _, _ => rfl
  | d + 1, y, z, α => aMins_y d _ _ _
theorem C_mins {k : Bool} {T R nt nr n : Nat} (hK : TK k T) (hR : R ≤ 12) (hn : nt ≤ 21) (hnr : nr ≤ R) (hN : n < 2 ^ 31) {K : Int32 → Int32 → Mem → Option (Int32 × Mem)} : ∀ d j fuel y σ α μ, j + d = n → d < fuel → μ + d < 2 ^ 31 → CE k T σ α R nt → WF α nr nt μ → ∃ σ2, lp_X4_passMinutes_4 T (nI n) K fuel y (nI j) σ = K (aMins k nr nt d y α).1 (nI n) σ2 ∧ CE k T σ2 (aMins k nr nt d y α).2 R nt ∧ Fc T σ σ2
  | 0, j, fuel + 1, y, σ, α, μ, hj, _, _, h, _ => by
    refine ⟨σ, ?_, h, Fc_0⟩
    unfold lp_X4_passMinutes_4 aMins
    rw [if_pos (nI_le (by omega) (by omega)), show j = n by omega]
  | d + 1, j, fuel + 1, y, σ, α, μ, hj, hf, hμ, h, hW => by
    have hT := TK_T hK
    obtain ⟨s1, e1, h1, f1⟩ := C_min hK hR hn hnr (by omega) h hW
    unfold lp_X4_passMinutes_4
    rw [if_neg (nI_ge (by omega) hN), ck_T hT, gd_tr, e1, b2_so, nm_so, nm_so, nI_1]
    obtain ⟨s2, e2, h2, f2⟩ := C_mins hK hR hn hnr hN (K := K) d (j + 1) fuel (y + (aMin k α nr nt).1) s1 _ (μ + 1) (by omega) (by omega) (by omega) h1 (WF_min (Nat.le_trans hnr hR) hn (by omega) hW)
    exact ⟨s2, e2, h2, Fc_t f1 f2⟩
theorem R_mins {R nt nr n : Nat} (hR : R ≤ 12) (hn : nt ≤ 21) (hnr : nr ≤ R) (hN : n < 2 ^ 31) {K : Int32 → Int32 → Mem → Option (Int32 × Mem)} : ∀ d j fuel y σ α μ, j + d = n → d < fuel → μ + d < 2 ^ 31 → RE true 148 σ α R nt → WF α nr nt μ → ∃ σ2, lp_X7_pass_26 141 (nI n) K fuel y (nI j) σ = K (aMins true nr nt d y α).1 (nI n) σ2 ∧ RE true 148 σ2 (aMins true nr nt d y α).2 R nt ∧ Fr true 148 σ σ2
  | 0, j, fuel + 1, y, σ, α, μ, hj, _, _, h, _ => by
    refine ⟨σ, ?_, h, Fr_0⟩
    unfold lp_X7_pass_26 aMins
    rw [if_pos (nI_le (by omega) (by omega)), show j = n by omega]
  | d + 1, j, fuel + 1, y, σ, α, μ, hj, hf, hμ, h, hW => by
    obtain ⟨s1, e1, h1, f1⟩ := R_min (Or.inl ⟨rfl, rfl⟩) hR hn hnr (by omega) h hW
    rw [if_pos rfl] at e1
    unfold lp_X7_pass_26
    rw [if_neg (nI_ge (by omega) hN), rm_9, b1_so, ck_S (Or.inl rfl), gd_tr, e1, b2_so, nm_so, nm_so, nI_1]
    obtain ⟨s2, e2, h2, f2⟩ := R_mins hR hn hnr hN (K := K) d (j + 1) fuel (y + (aMin true α nr nt).1) s1 _ (μ + 1) (by omega) (by omega) (by omega) h1 (WF_min (Nat.le_trans hnr hR) hn (by omega) hW)
    exact ⟨s2, e2, h2, Fr_t f1 f2⟩
theorem R_fore {R nt nr n : Nat} (hR : R ≤ 12) (hn : nt ≤ 21) (hnr : nr ≤ R) (hN : n < 2 ^ 31) {a : Int32} {K : Int32 → Mem → Option (Int32 × Mem)} : ∀ d j fuel σ α μ, j + d = n → d < fuel → μ + d < 2 ^ 31 → RE false 162 σ α R nt → WF α nr nt μ → ∃ σ2, lp_X7_foresee_62 141 (nI n) a K fuel (nI j) σ = K (nI n) σ2 ∧ RE false 162 σ2 (aMins false nr nt d 0 α).2 R nt ∧ Fr false 162 σ σ2
  | 0, j, fuel + 1, σ, α, μ, hj, _, _, h, _ => by
    refine ⟨σ, ?_, h, Fr_0⟩
    unfold lp_X7_foresee_62
    rw [if_pos (nI_le (by omega) (by omega)), show j = n by omega]
  | d + 1, j, fuel + 1, σ, α, μ, hj, hf, hμ, h, hW => by
    obtain ⟨s1, e1, h1, f1⟩ := R_min (Or.inr ⟨rfl, rfl⟩) hR hn hnr (by omega) h hW
    rw [if_neg (show ¬ false = true by decide)] at e1
    unfold lp_X7_foresee_62
    rw [if_neg (nI_ge (by omega) hN), rm_10, b1_so, ck_S (Or.inr rfl), gd_tr, e1, b2_so, nm_so, nI_1]
    obtain ⟨s2, e2, h2, f2⟩ := R_fore hR hn hnr hN (a := a) (K := K) d (j + 1) fuel s1 _ (μ + 1) (by omega) (by omega) (by omega) h1 (WF_min (Nat.le_trans hnr hR) hn (by omega) hW)
    refine ⟨s2, e2, ?_, Fr_t f1 f2⟩
    have e9 : (aMins false nr nt (d + 1) 0 α).2 = (aMins false nr nt d 0 (aMin false α nr nt).2).2 := aMins_y d _ 0 _
    rw [e9]
    exact h2
/-! till a toll is done -/
def aTil (nr nt t : Nat) : Nat → Mem → Option Nat
  | 0, α => if α 19 t < 0 then none else some 0
  | d + 1, α => if α 19 t < 0 then (aTil nr nt t d (aMin false α nr nt).2).map (· + 1) else some 0
def oN (o : Option Nat) : Int32 := match o with
  | none => -1
  | some i => nI i
theorem aTil_le {nr nt t : Nat} : ∀ d α i, aTil nr nt t d α = some i → i ≤ d
  | 0, α, i, h => by
    unfold aTil at h
    split at h
    · exact absurd h (by simp)
    · exact Nat.le_of_eq (Option.some.inj h).symm
  | d + 1, α, i, h => by
    unfold aTil at h
    split at h
    · cases h9 : aTil nr nt t d (aMin false α nr nt).2 with
      | none => rw [h9] at h; exact absurd h (by simp)
      | some j =>
        rw [h9] at h
        have h8 := aTil_le d _ j h9
        have h7 : j + 1 = i := Option.some.inj h
        omega
    · have := Option.some.inj h
      omega
theorem aTil_cut {nr nt t : Nat} : ∀ d e α, aTil nr nt t d α = (match aTil nr nt t (d + e) α with
    | none => none
    | some i => if i ≤ d then some i else none)
  | 0, 0, α => by
    show aTil nr nt t 0 α = (match aTil nr nt t 0 α with
      | none => none
      | some i => if i ≤ 0 then some i else none)
    unfold aTil
    split <;> rfl
  | 0, e + 1, α => by
    have h0 : 0 + (e + 1) = e + 1 := Nat.zero_add _
    rw [h0]
    unfold aTil
    by_cases h : α 19 t < 0
    · rw [if_pos h, if_pos h]
      cases aTil nr nt t e (aMin false α nr nt).2 with
      | none => rfl
      | some j => exact (if_neg (show ¬ j + 1 ≤ 0 by omega)).symm
    · rw [if_neg h, if_neg h]
      rfl
  | d + 1, e, α => by
    have h0 : d + 1 + e = (d + e) + 1 := by omega
    rw [h0]
    unfold aTil
    by_cases h : α 19 t < 0
    · rw [if_pos h, if_pos h, aTil_cut d e]
      cases aTil nr nt t (d + e) (aMin false α nr nt).2 with
      | none => rfl
      | some j =>
        show Option.map (· + 1) (if j ≤ d then some j else none) = if j + 1 ≤ d + 1 then some (j + 1) else none
        by_cases h2 : j ≤ d
        · rw [if_pos h2, if_pos (show j + 1 ≤ d + 1 by omega)]
          rfl
        · rw [if_neg h2, if_neg (show ¬ j + 1 ≤ d + 1 by omega)]
          rfl
    · rw [if_neg h, if_neg h]
      exact (if_pos (Nat.zero_le _)).symm
