/-! a bell's part of a minute keeps what holds -/
theorem aTurn_i {α : Mem} {b f i : Nat} (h : i ≠ b) : aTurn α b f i = α f i := by
  unfold aTurn
  rw [sI_n (Or.inr h), sI_n (Or.inr h)]
theorem aWear_i {α : Mem} {b ft fw f i : Nat} {w : Int32} (h : i ≠ b) : aWear α b ft fw w f i = α f i := by
  unfold aWear
  split
  · rfl
  · split
    · exact sI_n (Or.inr h)
    · rw [sI_n (Or.inr h), sI_n (Or.inr h), sI_n (Or.inr h)]
theorem wear_okL {α : Mem} {b ft fw : Nat} {w : Int32} (hf : ft ≠ fw) (h : okL α b ft fw) : okL (aWear α b ft fw w) b ft fw := by
  obtain ⟨q, h1, h2, h3⟩ := h
  unfold aWear
  by_cases h4 : α ft b = 0
  · rw [if_pos h4]
    exact ⟨q, h1, h2, h3⟩
  · rw [if_neg h4]
    have hq : q ≠ 0 := by
      rintro rfl
      exact h4 h2
    by_cases h5 : α fw b + w < 10 * α ft b
    · rw [if_pos h5]
      exact ⟨q, h1, (sI_n (Or.inl hf)).trans h2, fun h => absurd h hq⟩
    · rw [if_neg h5]
      exact ⟨0, by omega, by rw [sI_n (Or.inl hf), sI_s]; rfl, fun _ => sI_s⟩
theorem side_ok {x : Int32} (h : x = 0 ∨ x = 1) : 1 - x = 0 ∨ 1 - x = 1 := by
  rcases h with rfl | rfl
  · exact Or.inr (by decide)
  · exact Or.inl (by decide)
theorem aBs_rest {α : Mem} {w : Int32} {nr : Nat} : ∀ d i y z, i + d = nr → (y = -1 ∨ ∃ r, r < nr ∧ y = nI r ∧ α 22 r = -1) → aBs α w d i y z = -1 ∨ ∃ r, r < nr ∧ aBs α w d i y z = nI r ∧ α 22 r = -1
  | 0, i, y, z, _, h => h
  | d + 1, i, y, z, hi, h => by
    unfold aBs
    by_cases h1 : α 22 i = -1 ∧ ¬ 10 * α 9 i < α 10 i + w ∧ (y = -1 ∨ ¬ z ≤ α 10 i)
    · rw [if_pos h1]
      exact aBs_rest d (i + 1) (nI i) (α 10 i) (by omega) (Or.inr ⟨i, by omega, rfl, h1.1⟩)
    · rw [if_neg h1]
      exact aBs_rest d (i + 1) y z (by omega) h
theorem aBring_o {α : Mem} {b r f i : Nat} (h1 : f ≠ 2) (h2 : f ≠ 22) : aBring α b r f i = α f i := by
  unfold aBring
  rw [sI_n (Or.inl h2), sI_n (Or.inl h1), aEmpty_o h1 h2]
theorem WF_bring {α : Mem} {nr nt μ b r : Nat} (hnr : nr ≤ 12) (hb : b < 4) (hr : r < nr) (h22 : α 22 r = -1) (h : WF α nr nt μ) : WF (aBring α b r) nr nt μ :=
  ⟨WH_o (fun f hf => aBring_o (by omega) (by omega)) h.1, fun c hc => WB_o (fun f hf => aBring_o (by omega) (by omega)) (h.2.1 c hc), WR_bring hnr hb hr h22 h.2.2.1, WI_o (fun f i hf => aBring_o (by omega) (by omega)) h.2.2.2.1, WT_o (fun f i hf => aBring_o (by omega) (by omega)) h.2.2.2.2⟩
theorem aRel_ok {α : Mem} {nr nt μ b : Nat} (hnr : nr ≤ 12) (hb : b < 4) (h : WF α nr nt μ) : ((aRel α b nr).1 = -1 ∧ (aRel α b nr).2 = α) ∨ ∃ r, r < nr ∧ (aRel α b nr).1 = nI r ∧ (aRel α b nr).2 2 b = nI r ∧ (∀ f i, f ≠ 2 → f ≠ 22 → f ≠ 12 → (aRel α b nr).2 f i = α f i) ∧ WF (aRel α b nr).2 nr nt μ := by
  unfold aRel
  rcases aBs_rest (α := α) (w := α 0 b) nr 0 (-1) 0 (Nat.zero_add nr) (Or.inl rfl) with h1 | ⟨r, hr, h1, h22⟩
  · rw [h1, if_pos (show (-1 : Int32) < 0 by decide)]
    exact Or.inl ⟨rfl, rfl⟩
  · have h8 : ¬ nI r < 0 := nI_pos (by omega)
    rw [h1, if_neg h8, cN_n (by omega)]
    refine Or.inr ⟨r, hr, rfl, ?_, fun f i h3 h4 h5 => ?_, ?_⟩
    · show sI (aBring α b r) 12 r (α 12 r + 1) 2 b = nI r
      rw [sI_n (Or.inl (by decide))]
      unfold aBring
      rw [sI_n (Or.inl (by decide)), sI_s]
    · show sI (aBring α b r) 12 r (α 12 r + 1) f i = α f i
      rw [sI_n (Or.inl h5), aBring_o h3 h4]
    · exact WF_o (fun f i _ _ _ _ _ h12 _ _ _ _ => sI_n (Or.inl h12)) (WF_bring hnr hb hr h22 h)
theorem aFind_ok {α : Mem} {nr nt μ b : Nat} (hnr : nr ≤ 12) (hb : b < 4) (h : WF α nr nt μ) : ((aFind α b nr).1 = -1 ∧ (aFind α b nr).2 = α) ∨ ∃ r, r < nr ∧ (aFind α b nr).1 = nI r ∧ (aFind α b nr).2 2 b = nI r ∧ (∀ f i, f ≠ 2 → f ≠ 22 → f ≠ 12 → (aFind α b nr).2 f i = α f i) ∧ WF (aFind α b nr).2 nr nt μ := by
  unfold aFind
  rcases h.2.2.1.1 b hb with h1 | ⟨r, hr, h1⟩
  · rw [if_pos (by rw [h1]; decide)]
    exact aRel_ok hnr hb h
  · have h8 : ¬ nI r < 0 := nI_pos (by omega)
    rw [h1, if_neg h8]
    split
    · exact aRel_ok hnr hb h
    · exact Or.inr ⟨r, hr, rfl, h1, fun _ _ _ _ _ => rfl, h⟩
theorem aGo_ok {α : Mem} {nr nt μ b : Nat} (hnr : nr ≤ 12) (hnt : nt ≤ 21) (hb : b < 4) (h : WF α nr nt μ) : ((aGo α b nr).1 = -1 ∧ WF (aGo α b nr).2 nr nt μ) ∨ ∃ r t, r < nr ∧ t < nt ∧ (aGo α b nr).1 = nI r ∧ (aGo α b nr).2 2 b = nI r ∧ (aGo α b nr).2 23 b = nI t ∧ α 23 b = nI t ∧ WF (aGo α b nr).2 nr nt μ := by
  unfold aGo
  by_cases h1 : 0 ≤ α 23 b
  · rw [if_pos h1]
    by_cases h2 : α 3 b ≤ 0
    · rw [if_pos h2]
      rcases aFind_ok hnr hb h with ⟨h3, h4⟩ | ⟨r, hr, h3, h4, h5, h6⟩
      · rw [h4]
        exact Or.inl ⟨h3, h⟩
      · rcases aFirst_in (α := α) (x := nI b) (nt := nt) with h7 | ⟨t, ht, h7, _⟩
        · rw [h.2.2.2.1 b hb, h7] at h1
          exact absurd h1 (by decide)
        · have h8 : α 23 b = nI t := (h.2.2.2.1 b hb).trans h7
          exact Or.inr ⟨r, t, hr, ht, h3, h4, (h5 23 b (by decide) (by decide) (by decide)).trans h8, h8, h6⟩
    · rw [if_neg h2]
      exact Or.inl ⟨rfl, WF_o (fun f i h3 _ _ _ _ _ _ _ _ _ => sI_n (Or.inl h3)) h⟩
  · rw [if_neg h1]
    exact Or.inl ⟨rfl, h⟩
theorem WF_stk {k : Bool} {α : Mem} {nr nt μ b t r ft fw : Nat} (hf : (ft = 5 ∧ fw = 6) ∨ (ft = 7 ∧ fw = 8)) (hnr : nr ≤ 12) (hnt : nt ≤ 21) (hμ : μ < 2 ^ 31) (hb : b < 4) (ht : t < nt) (h23 : α 23 b = nI t) (h : WF α nr nt μ) : WF (aStk k α b r t ft fw nt) nr nt μ := by
  obtain ⟨h13, h19, hP⟩ := WF_Pst hμ h hnt hb ht h23
  obtain ⟨_, _, _, _, _, _, κ, a, s, q1, q2, q3, q4, q5, q6, q7⟩ := hP
  rw [sI_n (Or.inl (by decide))] at q5 q6
  rw [sI_s] at q7
  obtain ⟨hH, hB, hR, hI, hT⟩ := h
  unfold aStk
  have o0 : ∀ (l rc : Int32) f i, f ≠ 10 → f ≠ 11 → f ≠ 17 → f ≠ 18 → f < 100 → aSound k (aPull α r (α 0 b)) t l rc f i = α f i := fun l rc f i a1 a2 a3 a4 a5 => by
    rw [aSound_o (by omega), aPull_o a1 a2]
  have o17 : ∀ (l rc : Int32) i, aSound k (aPull α r (α 0 b)) t l rc 17 i = sI α 17 t (α 17 t + 1) 17 i := fun l rc i => by
    unfold aSound
    rw [aYr_o (by decide), aPull_o (by decide) (by decide)]
    split
    · rw [sI_at, sI_at _ 17 t _ 17 i, aPull_o (by decide) (by decide)]
    · rw [sI_n (Or.inl (by decide)), sI_at, sI_at _ 17 t _ 17 i, aPull_o (by decide) (by decide)]
  generalize (if α ft b = 0 then (1 : Int32) else 0) = l
  generalize aRch (α ft b) (α 0 b) = rc
  have o1 : ∀ f i, f ≠ 10 → f ≠ 11 → f ≠ 17 → f ≠ 18 → f ≠ ft → f ≠ fw → f ≠ 1 → f ≠ 4 → f < 100 → aTurn (aWear (aSound k (aPull α r (α 0 b)) t l rc) b ft fw (α 0 b)) b f i = α f i := fun f i a1 a2 a3 a4 a5 a6 a7 a8 a9 => by
    rw [aTurn_o a7 a8, aWear_o a5 a6, o0 l rc f i a1 a2 a3 a4 a9]
  have o2 : ∀ i, aTurn (aWear (aSound k (aPull α r (α 0 b)) t l rc) b ft fw (α 0 b)) b 17 i = sI α 17 t (α 17 t + 1) 17 i := fun i => by
    rw [aTurn_o (by decide) (by decide), aWear_o (by omega) (by omega), o17]
  have hBA : ∀ c, c < 4 → WB (aTurn (aWear (aSound k (aPull α r (α 0 b)) t l rc) b ft fw (α 0 b)) b) c := by
    intro c hc
    by_cases e : c = b
    · subst e
      obtain ⟨b1, b2, b3, b4⟩ := hB c hc
      refine ⟨?_, ?_, ?_⟩
      · unfold okW
        rw [o1 0 c (by decide) (by decide) (by decide) (by decide) (by omega) (by omega) (by decide) (by decide) (by decide)]
        exact b1
      · have e1 : aTurn (aWear (aSound k (aPull α r (α 0 c)) t l rc) c ft fw (α 0 c)) c 1 c = 1 - α 1 c := by
          unfold aTurn
          rw [sI_n (Or.inl (by decide)), sI_s, aWear_o (by omega) (by omega), o0 l rc 1 c (by decide) (by decide) (by decide) (by decide) (by decide)]
        rw [e1]
        exact side_ok b2
      · have wl : ∀ f g : Nat, (f = 5 ∧ g = 6) ∨ (f = 7 ∧ g = 8) → okL α c f g → okL (aTurn (aWear (aSound k (aPull α r (α 0 c)) t l rc) c ft fw (α 0 c)) c) c f g := by
          intro f g hfg h9
          have h8 : okL (aSound k (aPull α r (α 0 c)) t l rc) c f g := by
            unfold okL
            rw [o0 l rc f c (by omega) (by omega) (by omega) (by omega) (by omega), o0 l rc g c (by omega) (by omega) (by omega) (by omega) (by omega)]
            exact h9
          have h7 : okL (aWear (aSound k (aPull α r (α 0 c)) t l rc) c ft fw (α 0 c)) c f g := by
            by_cases e9 : f = ft
            · have e8 : g = fw := by omega
              subst e9 e8
              exact wear_okL (by omega) h8
            · unfold okL
              rw [aWear_o e9 (by omega), aWear_o (by omega) (by omega)]
              exact h8
          unfold okL
          rw [aTurn_o (by omega) (by omega), aTurn_o (by omega) (by omega)]
          exact h7
        exact ⟨wl 5 6 (by omega) b3, wl 7 8 (by omega) b4⟩
    · refine WB_o (fun f hf9 => ?_) (hB c hc)
      rw [aTurn_i e, aWear_i e, o0 l rc f c (by omega) (by omega) (by omega) (by omega) (by omega)]
  generalize aTurn (aWear (aSound k (aPull α r (α 0 b)) t l rc) b ft fw (α 0 b)) b = A at *
  have hHA : WH A nr nt μ := WH_o (fun f hf9 => o1 f 0 (by omega) (by omega) (by omega) (by omega) (by omega) (by omega) (by omega) (by omega) (by omega)) hH
  have hRA : WR A nr := WR_o (fun f i hf9 => o1 f i (by omega) (by omega) (by omega) (by omega) (by omega) (by omega) (by omega) (by omega) (by omega)) hR
  have hIA : WI A nt := WI_o (fun f i hf9 => o1 f i (by omega) (by omega) (by omega) (by omega) (by omega) (by omega) (by omega) (by omega) (by omega)) hI
  have hTA : ∀ u, u < nt → u ≠ t → okTo A u μ := fun u hu e => okTo_o (fun f hf9 => by
    by_cases e9 : f = 17
    · subst e9
      rw [o2, sI_n (Or.inr e)]
    · exact o1 f u (by omega) (by omega) (by omega) (by omega) (by omega) (by omega) (by omega) (by omega) (by omega)) (hT u hu)
  have e13 : A 13 t = nI b := (o1 13 t (by decide) (by decide) (by decide) (by decide) (by omega) (by omega) (by decide) (by decide) (by decide)).trans h13
  have e14 : A 14 t = nI κ := (o1 14 t (by decide) (by decide) (by decide) (by decide) (by omega) (by omega) (by decide) (by decide) (by decide)).trans q5
  have e15 : A 15 t = nI a := (o1 15 t (by decide) (by decide) (by decide) (by decide) (by omega) (by omega) (by decide) (by decide) (by decide)).trans q6
  have e19 : A 19 t = -1 := (o1 19 t (by decide) (by decide) (by decide) (by decide) (by omega) (by omega) (by decide) (by decide) (by decide)).trans h19
  have e17 : A 17 t = nI s := (o2 t).trans (sI_s.trans q7)
  have ed : aDue A t = nI (3 * (κ + 1) + a) := by
    unfold aDue
    rw [e14, e15, nI_1, show (3 : Int32) = nI 3 from rfl, pk_mul, nI_add]
  unfold aTl
  rw [ed, e17]
  by_cases h9 : s < 3 * (κ + 1) + a
  · rw [if_pos (nI_lt h9 (by omega))]
    refine WF_o (α := A) (fun f i h3 _ _ _ _ _ _ _ _ _ => sI_n (Or.inl h3)) ⟨hHA, hBA, hRA, hIA, fun u hu => ?_⟩
    by_cases e : u = t
    · subst e
      exact ⟨⟨b, hb, e13⟩, κ, a, s, q1, q2, q4, e14, e15, e17, Or.inl ⟨e19, h9⟩⟩
    · exact hTA u hu e
  · rw [if_neg (nI_nlt (by omega) (by omega))]
    exact WF_end hnr hb hμ e13 hHA hBA hRA hIA hTA ⟨κ, a, s, q1, q2, q4, e14, e15, e17⟩
theorem WF_strike {k : Bool} {α : Mem} {nr nt μ b t r : Nat} (hnr : nr ≤ 12) (hnt : nt ≤ 21) (hμ : μ < 2 ^ 31) (hb : b < 4) (ht : t < nt) (h23 : α 23 b = nI t) (h : WF α nr nt μ) : WF (aStrike k α b r t nt) nr nt μ := by
  unfold aStrike
  split
  · exact WF_stk (Or.inl ⟨rfl, rfl⟩) hnr hnt hμ hb ht h23 h
  · exact WF_stk (Or.inr ⟨rfl, rfl⟩) hnr hnt hμ hb ht h23 h
theorem WF_bl {k : Bool} {α : Mem} {nr nt μ b : Nat} {y : Int32} (hnr : nr ≤ 12) (hnt : nt ≤ 21) (hμ : μ < 2 ^ 31) (hb : b < 4) (h : WF α nr nt μ) : WF (aBl k α b nr nt y).2 nr nt μ := by
  unfold aBl
  rcases aGo_ok hnr hnt hb h with ⟨h1, h2⟩ | ⟨r, t, hr, ht, h1, h2, h3, _, h5⟩
  · rw [h1, if_pos (show (-1 : Int32) < 0 by decide)]
    exact h2
  · rw [h1, if_neg (nI_pos (by omega)), h3, cN_n (by omega), cN_n (by omega)]
    exact WF_strike hnr hnt hμ hb ht h3 h5
theorem WF_bls {k : Bool} {nr nt μ : Nat} (hnr : nr ≤ 12) (hnt : nt ≤ 21) (hμ : μ < 2 ^ 31) : ∀ d b y α, b + d = 4 → WF α nr nt μ → WF (aBls k nr nt d b y α).2 nr nt μ
  | 0, _, _, _, _, h => h
  | d + 1, b, y, α, hb, h => WF_bls hnr hnt hμ d (b + 1) _ _ (by omega) (WF_bl hnr hnt hμ (by omega) h)
theorem aRest_o {α : Mem} {r f i : Nat} (h : f ≠ 10) : aRest α r f i = α f i := by
  unfold aRest
  split
  · exact sI_n (Or.inl h)
  · rfl
theorem WF_rests {nr nt μ : Nat} : ∀ d r α, WF α nr nt μ → WF (aRests d r α) nr nt μ
  | 0, _, _, h => h
  | d + 1, r, α, h => WF_rests d (r + 1) _ (WF_o (fun f i _ _ _ h10 _ _ _ _ _ _ => aRest_o h10) h)
theorem WF_tick {α : Mem} {nr nt μ : Nat} (h : WF α nr nt μ) : WF (aTick α nr) nr nt (μ + 1) := by
  unfold aTick
  obtain ⟨hH, hB, hR, hI, hT⟩ := WF_rests nr 0 α h
  have e : ∀ f i, f ≠ 20 → sI (aRests nr 0 α) 20 0 (aRests nr 0 α 20 0 + 1) f i = aRests nr 0 α f i := fun f i hf => sI_n (Or.inl hf)
  refine ⟨⟨(e 24 0 (by decide)).trans hH.1, (e 25 0 (by decide)).trans hH.2.1, ?_⟩, fun b hb => WB_o (fun f hf => e f b (by omega)) (hB b hb), WR_o (fun f i hf => e f i (by omega)) hR, WI_o (fun f i hf => e f i (by omega)) hI, fun t ht => okTo_le (Nat.le_succ μ) (okTo_o (fun f hf => e f t (by omega)) (hT t ht))⟩
  rw [sI_s, hH.2.2, nI_1]
theorem WF_min {k : Bool} {α : Mem} {nr nt μ : Nat} (hnr : nr ≤ 12) (hnt : nt ≤ 21) (hμ : μ < 2 ^ 31) (h : WF α nr nt μ) : WF (aMin k α nr nt).2 nr nt (μ + 1) := WF_tick (WF_bls hnr hnt hμ 4 0 0 α (by omega) h)
theorem okR_le {α : Mem} {a b c : Nat} (h : a ≤ b) (h2 : okR α a c) : okR α b c := h2.elim Or.inl (fun h3 => by
  obtain ⟨r, h4, h5⟩ := h3
  exact Or.inr ⟨r, Nat.lt_of_lt_of_le h4 h, h5⟩)
/-! a minute, class and reference -/
theorem C_bells {k : Bool} {T R nt nr μ : Nat} (hK : TK k T) (hR : R ≤ 12) (hn : nt ≤ 21) (hnr : nr ≤ R) (hμ : μ < 2 ^ 31) {K : Int32 → Int32 → Mem → Option (Int32 × Mem)} : ∀ d b fuel y σ α, b + d = 4 → d < fuel → CE k T σ α R nt → WF α nr nt μ → ∃ σ2, lp_X4_passMinute_4 T K fuel y (nI b) σ = K (aBls k nr nt d b y α).1 (nI 4) σ2 ∧ CE k T σ2 (aBls k nr nt d b y α).2 R nt ∧ Fc T σ σ2
  | 0, b, fuel + 1, y, σ, α, hb, _, h, _ => by
    have e : b = 4 := by omega
    subst e
    refine ⟨σ, ?_, h, Fc_0⟩
    unfold lp_X4_passMinute_4 aBls
    rw [if_pos (show (4 : Int32) ≤ nI 4 by decide)]
  | d + 1, b, fuel + 1, y, σ, α, hb, hf, h, hW => by
    have hT := TK_T hK
    have hb4 : b < 4 := by omega
    have hnr2 : nr ≤ 12 := Nat.le_trans hnr hR
    have hg : α 23 b = -1 ∨ ∃ t, t < nt ∧ α 23 b = nI t := by
      rw [hW.2.2.2.1 b hb4]
      exact (aFirst_in (α := α) (x := nI b) (nt := nt)).imp id (fun h9 => h9.imp (fun t h8 => ⟨h8.1, h8.2.1⟩))
    obtain ⟨s1, e1, h1, f1⟩ := C_go hT hR hn h hW.1.1 hW.1.2.1 hnr hb4 (hW.2.2.1.1 b hb4) hg
    unfold lp_X4_passMinute_4 aBls
    rw [if_neg (show ¬ (4 : Int32) ≤ nI b from nI_ge (b := 4) hb4 (by omega)), ck_T hT, gd_tr, e1, b2_so]
    have hW2 := WF_bl (k := k) (y := y) hnr2 hn hμ hb4 hW
    unfold aBl at hW2 ⊢
    rcases aGo_ok hnr2 hn hb4 hW with ⟨g1, g2⟩ | ⟨r, t, hr, ht, g1, g2, g3, g4, g5⟩
    · rw [g1, if_pos (show (-1 : Int32) < 0 by decide)] at hW2 ⊢
      rw [gd_tr, isR_m hT, b1_so, if_pos rfl, nm_so, nI_1]
      obtain ⟨s2, e2, h2, f2⟩ := C_bells hK hR hn hnr hμ d (b + 1) fuel y s1 _ (by omega) (by omega) h1 hW2
      exact ⟨s2, e2, h2, Fc_t f1 f2⟩
    · have hr1 : r < R := Nat.lt_of_lt_of_le hr hnr
      have hr2 : r < 12 := Nat.lt_of_lt_of_le hr1 hR
      have h8 : ¬ nI r < 0 := nI_pos (by omega)
      rw [g1, if_neg h8, g3, cN_n (show r < 2 ^ 31 by omega), cN_n (show t < 2 ^ 31 by omega)] at hW2 ⊢
      obtain ⟨q13, _, _⟩ := WF_Pst hμ g5 hn hb4 ht g3
      obtain ⟨s2, e2, h2, f2⟩ := C_strike hK hR hn h1 g5.1.2.1 g5.1.1 hnr ht hb4 hr1 g3 q13 (g5.2.2.1.1 b hb4) (g5.2.1 b hb4).1 (okL_T (g5.2.1 b hb4).2.2.1) (okL_T (g5.2.1 b hb4).2.2.2)
      rw [gd_tr, isR_y hT ((CE_24 h1).trans g5.1.1) hr hnr2, b1_so, if_neg (show ¬ (1 : Int32) = 0 by decide), rf_T0 hT, b1_so, ea_B hT hb4, b1_so, rf_T1 hT, b1_so, ea_R hT hr2, b1_so, gd_tr, e2, b1_so, nm_so, nm_so, nI_1]
      obtain ⟨s3, e3, h3, f3⟩ := C_bells hK hR hn hnr hμ d (b + 1) fuel (y + 1) s2 _ (by omega) (by omega) h2 hW2
      exact ⟨s3, e3, h3, Fc_t (Fc_t f1 f2) f3⟩
theorem C_rest {k : Bool} {T R nt : Nat} {σ α : Mem} (hT : isT T) (hR : R ≤ 12) (hn : nt ≤ 21) (h : CE k T σ α R nt) {r : Nat} (hr : r < R) : cR k T R nt σ (aRest α r) (fn_X2_restIfFree σ (oR T r)) := by
  have hr2 : r < 12 := Nat.lt_of_lt_of_le hr hR
  unfold fn_X2_restIfFree aRest
  simp only [ck_R hT hr2, gd_tr, lf_rests (ck_R hT hr2), b1_so, nm_so, CE_22 h hr, CE_10 h hr]
  by_cases h1 : α 22 r = -1
  · rw [if_pos h1, if_pos h1, if_neg (show ¬ (1 : Int32) = 0 by decide)]
    exact ⟨_, rfl, CW_10 _ hT hR hn hr h, Fc_w Fc_0 (rgR hr2)⟩
  · rw [if_neg h1, if_neg h1, if_pos rfl]
    exact ⟨_, rfl, h, Fc_0⟩
theorem C_rests {k : Bool} {T R nt nr μ : Nat} (hT : isT T) (hR : R ≤ 12) (hn : nt ≤ 21) (hnr : nr ≤ R) {a : Int32} {K : Int32 → Mem → Option (Int32 × Mem)} : ∀ d i fuel σ α, i + d = nr → d < fuel → CE k T σ α R nt → WF α nr nt μ → ∃ σ2, lp_X4_passMinute_50 T a K fuel (nI i) σ = K (nI nr) σ2 ∧ CE k T σ2 (aRests d i α) R nt ∧ Fc T σ σ2
  | 0, i, fuel + 1, σ, α, hi, _, h, hW => by
    refine ⟨σ, ?_, h, Fc_0⟩
    unfold lp_X4_passMinute_50
    rw [ck_T hT, gd_tr, CE_24 h, hW.1.1, if_pos (nI_le (by omega) (by omega)), show i = nr by omega]
  | d + 1, i, fuel + 1, σ, α, hi, hf, h, hW => by
    have hiR : i < R := by omega
    have hi2 : i < 12 := by omega
    obtain ⟨s1, e1, h1, f1⟩ := C_rest hT hR hn h hiR
    unfold lp_X4_passMinute_50 aRests
    rw [ck_T hT, gd_tr, CE_24 h, hW.1.1, if_neg (nI_ge (by omega) (by omega)), rf_T1 hT, b1_so, ea_R hT hi2, b1_so, ck_R hT hi2, gd_tr, e1, b1_so, nm_so, nI_1]
    obtain ⟨s2, e2, h2, f2⟩ := C_rests hT hR hn hnr (a := a) (K := K) d (i + 1) fuel s1 _ (by omega) (by omega) h1 (WF_o (fun f i _ _ _ h10 _ _ _ _ _ _ => aRest_o h10) hW)
    exact ⟨s2, e2, h2, Fc_t f1 f2⟩
theorem C_min {k : Bool} {T R nt nr μ : Nat} {σ α : Mem} (hK : TK k T) (hR : R ≤ 12) (hn : nt ≤ 21) (hnr : nr ≤ R) (hμ : μ < 2 ^ 31) (h : CE k T σ α R nt) (hW : WF α nr nt μ) : cR2 k T R nt σ (aMin k α nr nt).2 (aMin k α nr nt).1 (fn_X4_passMinute σ T) := by
  have hT := TK_T hK
  have hnr2 : nr ≤ 12 := Nat.le_trans hnr hR
  unfold fn_X4_passMinute
  have c1 := C_bells hK hR hn hnr hμ (K := fun x11 x12 σ13 => (lp_X4_passMinute_50 T x11 (fun x18 σ19 => gd (ck T 4) (gd (ck T 4) (nm (sI σ19 T 3 ((σ19 T 3) + 1)) (fun σ20 => (some (x11, σ20)))))) 30 0 σ13)) 4 0 30 0 σ α (by omega) (by omega) h hW
  obtain ⟨s1, e1, h1, f1⟩ := c1
  have hW1 := WF_bls (k := k) hnr2 hn hμ 4 0 0 α (by omega) hW
  have c2 := C_rests (μ := μ) hT hR hn hnr (a := (aBls k nr nt 4 0 0 α).1) (K := fun x18 σ19 => gd (ck T 4) (gd (ck T 4) (nm (sI σ19 T 3 ((σ19 T 3) + 1)) (fun σ20 => (some ((aBls k nr nt 4 0 0 α).1, σ20)))))) nr 0 30 s1 _ (by omega) (by omega) h1 hW1
  obtain ⟨s2, e2, h2, f2⟩ := c2
  rw [nI_0] at e1 e2
  have h3 := CW_20 (aRests nr 0 (aBls k nr nt 4 0 0 α).2 20 0 + 1) hT hR hn h2
  have e3 : s2 T 3 = aRests nr 0 (aBls k nr nt 4 0 0 α).2 20 0 := CE_20 h2
  unfold aMin aTick
  generalize aRests nr 0 (aBls k nr nt 4 0 0 α).2 = β at h3 e3 ⊢
  generalize (aBls k nr nt 4 0 0 α).1 = v at e1 e2 ⊢
  refine ⟨sI s2 T 3 (β 20 0 + 1), ?_, h3, Fc_w (Fc_t f1 f2) rgT⟩
  rw [e1, e2]
  simp only [ck_T hT, gd_tr, nm_so, e3]

