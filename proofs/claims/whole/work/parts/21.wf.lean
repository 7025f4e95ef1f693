/-! what holds in every state -/
def okL (α : Mem) (b ft fw : Nat) : Prop := ∃ q, q ≤ 9 ∧ α ft b = nI q ∧ (q = 0 → α fw b = 0)
def okTo (α : Mem) (t μ : Nat) : Prop := (∃ b, b < 4 ∧ α 13 t = nI b) ∧ ∃ κ a s, κ ≤ 2 ∧ a ≤ 120 ∧ s ≤ 3 * (κ + 1) + a ∧ α 14 t = nI κ ∧ α 15 t = nI a ∧ α 17 t = nI s ∧ ((α 19 t = -1 ∧ s < 3 * (κ + 1) + a) ∨ ∃ m, m ≤ μ ∧ α 19 t = nI m)
def WB (α : Mem) (b : Nat) : Prop := okW α b ∧ (α 1 b = 0 ∨ α 1 b = 1) ∧ okL α b 5 6 ∧ okL α b 7 8
def WR (α : Mem) (nr : Nat) : Prop := (∀ b, b < 4 → okR α nr b) ∧ ∀ r, r < nr → okBR α r
def WI (α : Mem) (nt : Nat) : Prop := ∀ b, b < 4 → α 23 b = aFirst α nt (nI b)
def WT (α : Mem) (nt μ : Nat) : Prop := ∀ t, t < nt → okTo α t μ
def WH (α : Mem) (nr nt μ : Nat) : Prop := α 24 0 = nI nr ∧ α 25 0 = nI nt ∧ α 20 0 = nI μ
def WF (α : Mem) (nr nt μ : Nat) : Prop := WH α nr nt μ ∧ (∀ b, b < 4 → WB α b) ∧ WR α nr ∧ WI α nt ∧ WT α nt μ
theorem okL_T {α : Mem} {b ft fw : Nat} (h : okL α b ft fw) : okT α ft b := by
  obtain ⟨q, h1, h2, _⟩ := h
  exact ⟨q, h1, h2⟩
theorem WB_o {α β : Mem} {b : Nat} (e : ∀ f, f = 0 ∨ f = 1 ∨ (5 ≤ f ∧ f ≤ 8) → β f b = α f b) (h : WB α b) : WB β b := by
  unfold WB okW okL at h ⊢
  rw [e 0 (by omega), e 1 (by omega), e 5 (by omega), e 6 (by omega), e 7 (by omega), e 8 (by omega)]
  exact h
theorem WR_o {α β : Mem} {nr : Nat} (e : ∀ f i, f = 2 ∨ f = 22 → β f i = α f i) (h : WR α nr) : WR β nr := by
  unfold WR okR okBR at h ⊢
  have e1 : ∀ i, β 2 i = α 2 i := fun i => e 2 i (by omega)
  have e2 : ∀ i, β 22 i = α 22 i := fun i => e 22 i (by omega)
  simp only [e1, e2]
  exact h
theorem WI_o {α β : Mem} {nt : Nat} (e : ∀ f i, f = 13 ∨ f = 19 ∨ f = 23 → β f i = α f i) (h : WI α nt) : WI β nt := by
  intro b hb
  rw [e 23 b (by omega), aFirst_o (fun i => e 13 i (by omega)) (fun i => e 19 i (by omega))]
  exact h b hb
theorem okTo_o {α β : Mem} {t μ : Nat} (e : ∀ f, f = 13 ∨ f = 14 ∨ f = 15 ∨ f = 17 ∨ f = 19 → β f t = α f t) (h : okTo α t μ) : okTo β t μ := by
  unfold okTo at h ⊢
  rw [e 13 (by omega), e 14 (by omega), e 15 (by omega), e 17 (by omega), e 19 (by omega)]
  exact h
theorem okTo_le {α : Mem} {t μ ν : Nat} (hl : μ ≤ ν) (h : okTo α t μ) : okTo α t ν := by
  obtain ⟨h1, κ, a, s, h2, h3, h4, h5, h6, h7, h8⟩ := h
  refine ⟨h1, κ, a, s, h2, h3, h4, h5, h6, h7, h8.elim Or.inl (fun h => Or.inr ?_)⟩
  obtain ⟨m, h9, h10⟩ := h
  exact ⟨m, Nat.le_trans h9 hl, h10⟩
theorem WT_o {α β : Mem} {nt μ : Nat} (e : ∀ f i, f = 13 ∨ f = 14 ∨ f = 15 ∨ f = 17 ∨ f = 19 → β f i = α f i) (h : WT α nt μ) : WT β nt μ := fun t ht => okTo_o (fun f hf => e f t hf) (h t ht)
theorem WH_o {α β : Mem} {nr nt μ : Nat} (e : ∀ f, f = 20 ∨ f = 24 ∨ f = 25 → β f 0 = α f 0) (h : WH α nr nt μ) : WH β nr nt μ := by
  unfold WH at h ⊢
  rw [e 24 (by omega), e 25 (by omega), e 20 (by omega)]
  exact h
theorem WF_o {α β : Mem} {nr nt μ : Nat} (e : ∀ f i, f ≠ 3 → f ≠ 4 → f ≠ 9 → f ≠ 10 → f ≠ 11 → f ≠ 12 → f ≠ 16 → f ≠ 18 → f ≠ 21 → f < 100 → β f i = α f i) (h : WF α nr nt μ) : WF β nr nt μ :=
  ⟨WH_o (fun f hf => e f 0 (by omega) (by omega) (by omega) (by omega) (by omega) (by omega) (by omega) (by omega) (by omega) (by omega)) h.1,
   fun b hb => WB_o (fun f hf => e f b (by omega) (by omega) (by omega) (by omega) (by omega) (by omega) (by omega) (by omega) (by omega) (by omega)) (h.2.1 b hb),
   WR_o (fun f i hf => e f i (by omega) (by omega) (by omega) (by omega) (by omega) (by omega) (by omega) (by omega) (by omega) (by omega)) h.2.2.1,
   WI_o (fun f i hf => e f i (by omega) (by omega) (by omega) (by omega) (by omega) (by omega) (by omega) (by omega) (by omega) (by omega)) h.2.2.2.1,
   WT_o (fun f i hf => e f i (by omega) (by omega) (by omega) (by omega) (by omega) (by omega) (by omega) (by omega) (by omega) (by omega)) h.2.2.2.2⟩
theorem nI_inj {a b : Nat} (ha : a < 2 ^ 31) (hb : b < 2 ^ 31) (h : nI a = nI b) : a = b := by
  have h9 := congrArg Int32.toNatClampNeg h
  rw [nI_clamp ha, nI_clamp hb] at h9
  exact h9
theorem m1_nI {n : Nat} (h : n < 2 ^ 31) : ¬ (-1 : Int32) = nI n := fun h9 => nI_m1 h h9.symm
theorem WR_empty {α : Mem} {nr b : Nat} (hnr : nr ≤ 12) (hb : b < 4) (h : WR α nr) : WR (aEmpty α b) nr ∧ aEmpty α b 2 b = -1 ∧ ∀ r, r < nr → α 22 r = -1 → aEmpty α b 22 r = -1 := by
  obtain ⟨h1, h2⟩ := h
  unfold aEmpty
  rcases h1 b hb with h3 | ⟨q, hq, h3⟩
  · rw [if_pos (by rw [h3]; decide), sI_id h3]
    exact ⟨⟨h1, h2⟩, h3, fun _ _ h => h⟩
  · rw [if_neg (by rw [h3]; exact nI_pos (by omega)), h3, cN_n (by omega)]
    have h4 : α 22 q = nI b := ((h2 q hq).1 b hb).mp h3
    have e2 : ∀ i, i ≠ b → sI (sI α 22 q (-1)) 2 b (-1) 2 i = α 2 i := fun i hi => by
      rw [sI_n (Or.inr hi), sI_n (Or.inl (by decide))]
    have e22 : ∀ i, i ≠ q → sI (sI α 22 q (-1)) 2 b (-1) 22 i = α 22 i := fun i hi => by
      rw [sI_n (Or.inl (by decide)), sI_n (Or.inr hi)]
    have e22q : sI (sI α 22 q (-1)) 2 b (-1) 22 q = -1 := by
      rw [sI_n (Or.inl (by decide)), sI_s]
    refine ⟨⟨fun c hc => ?_, fun r hr => ⟨fun c hc => ?_, ?_⟩⟩, sI_s, fun r hr h5 => ?_⟩
    · unfold okR
      by_cases e : c = b
      · subst e
        exact Or.inl sI_s
      · rw [e2 c e]
        exact h1 c hc
    · by_cases er : r = q
      · subst er
        rw [e22q]
        by_cases e : c = b
        · subst e
          rw [sI_s]
          exact ⟨fun h => absurd h (m1_nI (by omega)), fun h => absurd h (m1_nI (by omega))⟩
        · rw [e2 c e]
          refine ⟨fun h5 => ?_, fun h => absurd h (m1_nI (by omega))⟩
          have h6 := ((h2 r hr).1 c hc).mp h5
          rw [h4] at h6
          exact absurd (nI_inj (by omega) (by omega) h6).symm e
      · rw [e22 r er]
        by_cases e : c = b
        · subst e
          rw [sI_s]
          refine ⟨fun h => absurd h (m1_nI (by omega)), fun h5 => ?_⟩
          have h6 := ((h2 r hr).1 c hc).mpr h5
          rw [h3] at h6
          exact absurd (nI_inj (by omega) (by omega) h6).symm er
        · rw [e2 c e]
          exact (h2 r hr).1 c hc
    · by_cases er : r = q
      · subst er
        exact Or.inl e22q
      · rw [e22 r er]
        exact (h2 r hr).2
    · by_cases er : r = q
      · subst er
        exact e22q
      · rw [e22 r er]
        exact h5
theorem WR_bring {α : Mem} {nr b r : Nat} (hnr : nr ≤ 12) (hb : b < 4) (hr : r < nr) (h22 : α 22 r = -1) (h : WR α nr) : WR (aBring α b r) nr := by
  obtain ⟨⟨h1, h2⟩, h3, h4⟩ := WR_empty hnr hb h
  have h5 := h4 r hr h22
  unfold aBring
  have e2 : ∀ i, i ≠ b → sI (sI (aEmpty α b) 2 b (nI r)) 22 r (nI b) 2 i = aEmpty α b 2 i := fun i hi => by
    rw [sI_n (Or.inl (by decide)), sI_n (Or.inr hi)]
  have e2b : sI (sI (aEmpty α b) 2 b (nI r)) 22 r (nI b) 2 b = nI r := by
    rw [sI_n (Or.inl (by decide)), sI_s]
  have e22 : ∀ i, i ≠ r → sI (sI (aEmpty α b) 2 b (nI r)) 22 r (nI b) 22 i = aEmpty α b 22 i := fun i hi => by
    rw [sI_n (Or.inr hi), sI_n (Or.inl (by decide))]
  refine ⟨fun c hc => ?_, fun q hq => ⟨fun c hc => ?_, ?_⟩⟩
  · unfold okR
    by_cases e : c = b
    · subst e
      exact Or.inr ⟨r, hr, e2b⟩
    · rw [e2 c e]
      exact h1 c hc
  · by_cases eq : q = r
    · subst eq
      rw [sI_s]
      by_cases e : c = b
      · subst e
        rw [e2b]
        exact ⟨fun _ => rfl, fun _ => rfl⟩
      · rw [e2 c e]
        refine ⟨fun h6 => ?_, fun h6 => absurd (nI_inj (by omega) (by omega) h6).symm e⟩
        have h7 := ((h2 q hq).1 c hc).mp h6
        rw [h5] at h7
        exact absurd h7 (m1_nI (by omega))
    · rw [e22 q eq]
      by_cases e : c = b
      · subst e
        rw [e2b]
        refine ⟨fun h6 => absurd (nI_inj (by omega) (by omega) h6).symm eq, fun h6 => ?_⟩
        have h7 := ((h2 q hq).1 c hc).mpr h6
        rw [h3] at h7
        exact absurd h7 (m1_nI (by omega))
      · rw [e2 c e]
        exact (h2 q hq).1 c hc
  · by_cases eq : q = r
    · subst eq
      exact Or.inr ⟨b, hb, sI_s⟩
    · rw [e22 q eq]
      exact (h2 q hq).2
theorem aFf_in {α : Mem} {x : Int32} : ∀ d i, aFf α x d i = -1 ∨ ∃ t, i ≤ t ∧ t < i + d ∧ aFf α x d i = nI t ∧ α 13 t = x ∧ α 19 t < 0
  | 0, _ => Or.inl rfl
  | d + 1, i => by
    unfold aFf
    by_cases h1 : α 13 i = x ∧ α 19 i < 0
    · rw [if_pos h1]
      exact Or.inr ⟨i, by omega, by omega, rfl, h1.1, h1.2⟩
    · rw [if_neg h1]
      rcases aFf_in (α := α) (x := x) d (i + 1) with h2 | ⟨t, h3, h4, h5⟩
      · exact Or.inl h2
      · exact Or.inr ⟨t, by omega, by omega, h5⟩
theorem aFirst_in {α : Mem} {x : Int32} {nt : Nat} : aFirst α nt x = -1 ∨ ∃ t, t < nt ∧ aFirst α nt x = nI t ∧ α 13 t = x ∧ α 19 t < 0 := by
  rcases aFf_in (α := α) (x := x) nt 0 with h | ⟨t, _, h3, h4⟩
  · exact Or.inl h
  · exact Or.inr ⟨t, by omega, h4⟩
theorem aFf_b {α : Mem} {t : Nat} {m x : Int32} (h : ¬ α 13 t = x) : ∀ d i, aFf (sI α 19 t m) x d i = aFf α x d i
  | 0, _ => rfl
  | d + 1, i => by
    unfold aFf
    rw [sI_n (show 13 ≠ 19 ∨ i ≠ t by omega), aFf_b h d (i + 1)]
    by_cases e : i = t
    · subst e
      rw [if_neg (fun h9 => h h9.1), if_neg (fun h9 => h h9.1)]
    · rw [sI_n (Or.inr e)]
theorem WT_D {α : Mem} {nt μ : Nat} (hμ : μ < 2 ^ 31) (h : WT α nt μ) : okD α nt := by
  intro t ht
  obtain ⟨_, κ, a, s, _, _, _, _, _, _, h8⟩ := h t ht
  rcases h8 with h8 | ⟨m, h8, h9⟩
  · exact Or.inl h8.1
  · exact Or.inr ⟨m, by omega, h9⟩
theorem WF_Pst {α : Mem} {nr nt μ b t : Nat} (hμ : μ < 2 ^ 31) (h : WF α nr nt μ) (hnt : nt ≤ 21) (hb : b < 4) (ht : t < nt) (h23 : α 23 b = nI t) : α 13 t = nI b ∧ α 19 t = -1 ∧ Pst (sI α 17 t (α 17 t + 1)) b t nt := by
  obtain ⟨⟨_, h25, h20⟩, _, _, hI, hT⟩ := h
  have hF := (hI b hb).symm.trans h23
  have hD := WT_D hμ hT
  have h13 : α 13 t = nI b ∧ α 19 t < 0 := by
    rcases aFirst_in (α := α) (x := nI b) (nt := nt) with h1 | ⟨u, hu, h1, h2⟩
    · rw [hF] at h1
      exact absurd h1 (nI_m1 (by omega))
    · rw [hF] at h1
      have h3 := nI_inj (by omega) (by omega) h1
      subst h3
      exact h2
  have h19 := (okD_lt hD ht).mp h13.2
  obtain ⟨_, κ, a, s, h2, h3, h4, h5, h6, h7, h8⟩ := hT t ht
  have hs : s < 3 * (κ + 1) + a := by
    rcases h8 with h8 | ⟨m, h8, h9⟩
    · exact h8.2
    · rw [h19] at h9
      exact absurd h9 (m1_nI (by omega))
  refine ⟨h13.1, h19, ?_, ?_, ?_, ?_, ?_, ⟨μ, hμ, ?_⟩, κ, a, s + 1, h2, h3, by omega, by omega, ?_, ?_, ?_⟩
  · rw [sI_n (Or.inl (by decide))]; exact h25
  · rw [sI_n (Or.inl (by decide))]; exact h13.1
  · rw [sI_n (Or.inl (by decide))]; exact h23
  · rw [aFirst_o (α := α) (β := sI α 17 t (α 17 t + 1)) (fun i => sI_n (Or.inl (by decide))) (fun i => sI_n (Or.inl (by decide)))]; exact hF
  · exact okD_o (fun i => sI_n (Or.inl (by decide))) hD
  · rw [sI_n (Or.inl (by decide))]; exact h20
  · rw [sI_n (Or.inl (by decide))]; exact h5
  · rw [sI_n (Or.inl (by decide))]; exact h6
  · rw [sI_s, h7, nI_1]
/-! a toll's end keeps what holds -/
theorem aEmpty_o {α : Mem} {b f i : Nat} (h1 : f ≠ 2) (h2 : f ≠ 22) : aEmpty α b f i = α f i := by
  unfold aEmpty
  split
  · exact sI_n (Or.inl h1)
  · rw [sI_n (Or.inl h1), sI_n (Or.inl h2)]
theorem aEnd2_o {α : Mem} {b f i : Nat} (h1 : f ≠ 2) (h2 : f ≠ 22) : aEnd2 α b f i = α f i := by
  unfold aEnd2
  split
  · exact aEmpty_o h1 h2
  · rfl
theorem aEnd1_o {α : Mem} {b t nt f i : Nat} (h1 : f ≠ 3) (h2 : f ≠ 23) : aEnd1 α nt t b f i = α f i := by
  unfold aEnd1
  split
  · rw [sI_n (Or.inl h2), sI_n (Or.inl h1)]
  · rfl
theorem aEnd_o {α : Mem} {b t nt f i : Nat} (h1 : f ≠ 2) (h2 : f ≠ 22) (h3 : f ≠ 3) (h4 : f ≠ 23) (h5 : f ≠ 19 ∨ i ≠ t) : aEnd α nt t b f i = α f i := by
  unfold aEnd
  rw [aEnd2_o h1 h2, aEnd1_o h3 h4, sI_n h5]
theorem aEnd_19 {α : Mem} {b t nt : Nat} : aEnd α nt t b 19 t = α 20 0 := by
  unfold aEnd
  rw [aEnd2_o (by decide) (by decide), aEnd1_o (by decide) (by decide), sI_s]
theorem aEnd_19e {α : Mem} {b t nt : Nat} : ∀ i, aEnd α nt t b 19 i = sI α 19 t (α 20 0) 19 i := fun i => by
  unfold aEnd
  rw [aEnd2_o (by decide) (by decide), aEnd1_o (by decide) (by decide)]
theorem WR_end {α : Mem} {nr nt b t : Nat} (hnr : nr ≤ 12) (hb : b < 4) (h : WR α nr) : WR (aEnd α nt t b) nr := by
  have h1 : WR (aEnd1 (sI α 19 t (α 20 0)) nt t b) nr := WR_o (fun f i hf => by rw [aEnd1_o (by omega) (by omega), sI_n (by omega)]) h
  unfold aEnd aEnd2
  split
  · exact (WR_empty hnr hb h1).1
  · exact h1
theorem WI_end {α : Mem} {nt b t μ : Nat} (hb : b < 4) (h13 : α 13 t = nI b) (hμ : μ < 2 ^ 31) (h20 : α 20 0 = nI μ) (h : WI α nt) : WI (aEnd α nt t b) nt := by
  intro c hc
  rw [aFirst_o (α := sI α 19 t (α 20 0)) (β := aEnd α nt t b) (fun i => by rw [aEnd_o (by decide) (by decide) (by decide) (by decide) (Or.inl (by decide)), sI_n (Or.inl (by decide))]) aEnd_19e]
  have e1 : aEnd α nt t b 23 c = aEnd1 (sI α 19 t (α 20 0)) nt t b 23 c := aEnd2_o (by decide) (by decide)
  rw [e1]
  unfold aEnd1
  have e23 : ∀ i, sI α 19 t (α 20 0) 23 i = α 23 i := fun i => sI_n (Or.inl (by decide))
  by_cases h1 : sI α 19 t (α 20 0) 23 b = nI t
  · rw [if_pos h1, sI_n (σ := α) (a := 19) (c := 13) (Or.inl (by decide)), h13]
    by_cases e : c = b
    · subst e
      rw [sI_s, aFirst_o (α := sI α 19 t (α 20 0)) (β := sI (sI α 19 t (α 20 0)) 3 c 0) (fun i => sI_n (Or.inl (by decide))) (fun i => sI_n (Or.inl (by decide)))]
    · rw [sI_n (Or.inr e), sI_n (Or.inl (by decide)), e23, h c hc]
      unfold aFirst
      rw [aFf_b (fun h9 => e (nI_inj (by omega) (by omega) (h9.symm.trans h13)))]
  · rw [if_neg h1, e23, h c hc]
    unfold aFirst
    by_cases e : c = b
    · subst e
      rw [e23, h c hc] at h1
      rw [aFf_d (by rw [h20]; exact nI_pos hμ) nt 0 h1]
    · rw [aFf_b (fun h9 => e (nI_inj (by omega) (by omega) (h9.symm.trans h13)))]
theorem WF_end {α : Mem} {nr nt b t μ : Nat} (hnr : nr ≤ 12) (hb : b < 4) (hμ : μ < 2 ^ 31) (h13 : α 13 t = nI b) (hH : WH α nr nt μ) (hB : ∀ b, b < 4 → WB α b) (hR : WR α nr) (hI : WI α nt) (hT : ∀ u, u < nt → u ≠ t → okTo α u μ) (hT2 : ∃ κ a s, κ ≤ 2 ∧ a ≤ 120 ∧ s ≤ 3 * (κ + 1) + a ∧ α 14 t = nI κ ∧ α 15 t = nI a ∧ α 17 t = nI s) : WF (aEnd α nt t b) nr nt μ := by
  refine ⟨WH_o (fun f hf => aEnd_o (by omega) (by omega) (by omega) (by omega) (by omega)) hH, fun c hc => WB_o (fun f hf => aEnd_o (by omega) (by omega) (by omega) (by omega) (by omega)) (hB c hc), WR_end hnr hb hR, WI_end hb h13 hμ hH.2.2 hI, fun u hu => ?_⟩
  by_cases e : u = t
  · subst e
    obtain ⟨κ, a, s, h2, h3, h4, h5, h6, h7⟩ := hT2
    refine ⟨⟨b, hb, (aEnd_o (by decide) (by decide) (by decide) (by decide) (Or.inl (by decide))).trans h13⟩, κ, a, s, h2, h3, h4, (aEnd_o (by decide) (by decide) (by decide) (by decide) (Or.inl (by decide))).trans h5, (aEnd_o (by decide) (by decide) (by decide) (by decide) (Or.inl (by decide))).trans h6, (aEnd_o (by decide) (by decide) (by decide) (by decide) (Or.inl (by decide))).trans h7, Or.inr ⟨μ, Nat.le_refl _, aEnd_19.trans hH.2.2⟩⟩
  · exact okTo_o (fun f hf => aEnd_o (by omega) (by omega) (by omega) (by omega) (Or.inr e)) (hT u hu e)
