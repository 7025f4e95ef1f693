/-! the methods: class and reference answer alike -/
def okRes (tab : List (Nat × Nat)) (rr : Nat ⊕ Int32) (bb : Int32) (σ2 : Mem) : Prop := match rr with
  | .inl k => ∃ c, (k, c) ∈ tab ∧ σ2 141 0 = nI c
  | .inr x => σ2 141 0 = 0 ∧ bb = x
def res1 (B2 : Nat) (tab : List (Nat × Nat)) (fc : Mem → Option ((Nat ⊕ Int32) × Mem)) (fr : Mem → Option (Int32 × Mem)) (σ : Mem) : Prop := ∃ rr σ1 bb σ2, fc σ = some (rr, σ1) ∧ fr σ1 = some (bb, σ2) ∧ Inv B2 σ2 ∧ okRes tab rr bb σ2
def res2 (B : Nat) (tab : List (Nat × Nat)) (fc : Mem → Option (Nat ⊕ Int32)) (fr : Mem → Option (Int32 × Mem)) (σ : Mem) : Prop := ∃ rr bb σ2, fc σ = some rr ∧ fr σ = some (bb, σ2) ∧ Inv B σ2 ∧ okRes tab rr bb σ2
def mth (B B2 : Nat) (tab : List (Nat × Nat)) (fc : Mem → Option ((Nat ⊕ Int32) × Mem)) (fr : Mem → Option (Int32 × Mem)) : Prop := ∀ σ, Inv B σ → res1 B2 tab fc fr σ
def mthR (B : Nat) (tab : List (Nat × Nat)) (fc : Mem → Option (Nat ⊕ Int32)) (fr : Mem → Option (Int32 × Mem)) : Prop := ∀ σ, Inv B σ → res2 B tab fc fr σ
theorem Inv_le {B B2 : Nat} {σ : Mem} (hb : B ≤ B2) (h : Inv B σ) : Inv B2 σ := by
  obtain ⟨α, nr, nt, μ, h1, h2, h3, h4, h5, h6, h7, h8⟩ := h
  exact ⟨α, nr, nt, μ, h1, h2, h3, h4, h5, h6, h7, Nat.le_trans h8 hb⟩
theorem lf_no {σ : Mem} {x : Int32} : fn_X7_no σ 141 x = some (0, sI σ 141 0 x) := by
  unfold fn_X7_no
  rw [ck_M, gd_tr, nm_so]
theorem mth_no {B B2 : Nat} {tab : List (Nat × Nat)} {fc : Mem → Option ((Nat ⊕ Int32) × Mem)} {fr : Mem → Option (Int32 × Mem)} {σ : Mem} (hB : B ≤ B2) (hI : Inv B σ) (k c : Nat) (hk : (k, c) ∈ tab) (h1 : fc σ = some (.inl k, σ)) (h2 : fr σ = some (0, sI (sI σ 141 0 0) 141 0 (nI c))) : res1 B2 tab fc fr σ := ⟨_, _, _, _, h1, h2, Inv_le hB (Inv_t (Inv_t hI)), c, hk, sI_s⟩
theorem mthR_no {B : Nat} {tab : List (Nat × Nat)} {fc : Mem → Option (Nat ⊕ Int32)} {fr : Mem → Option (Int32 × Mem)} {σ : Mem} (hI : Inv B σ) (k c : Nat) (hk : (k, c) ∈ tab) (h1 : fc σ = some (.inl k)) (h2 : fr σ = some (0, sI (sI σ 141 0 0) 141 0 (nI c))) : res2 B tab fc fr σ := ⟨_, _, _, h1, h2, Inv_t (Inv_t hI), c, hk, sI_s⟩
theorem mthR_ok {B : Nat} {tab : List (Nat × Nat)} {fc : Mem → Option (Nat ⊕ Int32)} {fr : Mem → Option (Int32 × Mem)} {σ : Mem} {x : Int32} (hI : Inv B σ) (h1 : fc σ = some (.inr x)) (h2 : fr σ = some (x, sI σ 141 0 0)) : res2 B tab fc fr σ := ⟨_, _, _, h1, h2, Inv_t hI, sI_s, rfl⟩
theorem Inv_o {B T S : Nat} {σ : Mem} (eT : T = 1) (eS : S = 148) (h : Inv B σ) : ∃ α nr nt μ, CE true T σ α 12 nt ∧ RE true S σ α 12 nt ∧ WF α nr nt μ ∧ WR α 12 ∧ nr ≤ 12 ∧ nt ≤ 20 ∧ σ 141 3 = nI nt ∧ μ ≤ B := by
  subst eT eS
  exact h
theorem asm {B T S nr nt μ : Nat} {σ1 σ2 α : Mem} (eT : T = 1) (eS : S = 148) (hc : CE true T σ1 α 12 nt) (hr : RE true S σ2 α 12 nt) (hf : ∀ j, j < 141 → σ2 j = σ1 j) (hW : WF α nr nt μ) (h12 : WR α 12) (hnr : nr ≤ 12) (hnt : nt ≤ 20) (h3 : σ2 141 3 = nI nt) (hB : μ ≤ B) : Inv B σ2 := by
  subst eT eS
  exact ⟨α, nr, nt, μ, CE_fr (Or.inl rfl) (Nat.le_refl 12) (by omega) (fun j hj => hf j (by omega)) hc, hr, hW, h12, hnr, hnt, h3, hB⟩
theorem mk_ok {B2 T S nr nt μ : Nat} {tab : List (Nat × Nat)} {fc : Mem → Option ((Nat ⊕ Int32) × Mem)} {fr : Mem → Option (Int32 × Mem)} {σ σ1 σ2 α : Mem} {x : Int32} (eT : T = 1) (eS : S = 148) (hc : CE true T σ1 α 12 nt) (hr : RE true S σ2 α 12 nt) (hf : ∀ j, j < 141 → σ2 j = σ1 j) (hW : WF α nr nt μ) (h12 : WR α 12) (hnr : nr ≤ 12) (hnt : nt ≤ 20) (h3 : σ2 141 3 = nI nt) (hB : μ ≤ B2) (h0 : σ2 141 0 = 0) (e1 : fc σ = some (.inr x, σ1)) (e2 : fr σ1 = some (x, σ2)) : res1 B2 tab fc fr σ := ⟨_, _, _, _, e1, e2, asm eT eS hc hr hf hW h12 hnr hnt h3 hB, h0, rfl⟩
theorem st {T S nt : Nat} {σ σ1 α : Mem} (eT : T = 1) (eS : S = 148) (hnt : nt ≤ 20) (f : Fc T σ σ1) (h : RE true S σ α 12 nt) : RE true S (sI σ1 141 0 0) α 12 nt := by
  subst eT eS
  exact RE_t (Or.inl rfl) (Nat.le_refl 12) (by omega) (Or.inl rfl) (RE_fr (Or.inl rfl) (Nat.le_refl 12) (by omega) (fun j h1 _ => f j (Or.inr (by omega))) h)
theorem st3 {T nt : Nat} {σ σ1 : Mem} (eT : T = 1) (f : Fc T σ σ1) (h : σ 141 3 = nI nt) : sI σ1 141 0 0 141 3 = nI nt := by
  subst eT
  rw [sI_n (Or.inr (by decide)), f 141 (Or.inr (by omega))]
  exact h
theorem rf0 {T : Nat} (e : T = 1) : rf 0 5 0 = some T := by
  subst e
  exact rf_00
theorem rf1 {T : Nat} (e : T = 71) : rf 0 5 1 = some T := by
  subst e
  exact rf_01
theorem rm9 {S : Nat} (e : S = 148) : rf 141 7 9 = some S := by
  subst e
  exact rm_9
theorem rm10 {S : Nat} (e : S = 162) : rf 141 7 10 = some S := by
  subst e
  exact rm_10
theorem bell_ok {σ : Mem} {p : Int32} (h : rng p 0 3) : fn_X5_needBell σ p = some (.inr ()) := by
  unfold fn_X5_needBell
  rw [show (4 : Int32) = nI 4 from rfl, ni_ok (by omega) h, bx_r]
theorem bell_no {σ : Mem} {p : Int32} (h : ¬ rng p 0 3) : fn_X5_needBell σ p = some (.inl 1) := by
  unfold fn_X5_needBell
  rw [show (4 : Int32) = nI 4 from rfl, ni_no (by omega) h, bx_l]
theorem ib_ok {σ : Mem} {p : Int32} (h : rng p 0 3) : fn_X7_isBell σ p = some 1 := by
  unfold fn_X7_isBell
  rw [in_ok h, b1_so]
  rfl
theorem ib_no {σ : Mem} {p : Int32} (h : ¬ rng p 0 3) : fn_X7_isBell σ p = some 0 := by
  unfold fn_X7_isBell
  rw [in_no h, b1_so]
  rfl
theorem side_y {σ : Mem} {p : Int32} (h : rng p 0 1) : fn_X5_needIndex σ p 2 = some (.inr ()) := ni_ok (n := 2) (by omega) h
theorem side_n {σ : Mem} {p : Int32} (h : ¬ rng p 0 1) : fn_X5_needIndex σ p 2 = some (.inl 1) := ni_no (n := 2) (by omega) h
theorem is_ok {σ : Mem} {p : Int32} (h : rng p 0 1) : fn_X7_isSide σ p = some 1 := by
  unfold fn_X7_isSide
  rw [in_ok h, b1_so]
  rfl
theorem is_no {σ : Mem} {p : Int32} (h : ¬ rng p 0 1) : fn_X7_isSide σ p = some 0 := by
  unfold fn_X7_isSide
  rw [in_no h, b1_so]
  rfl
theorem i10 : (1 : Int32) = 0 ↔ False := by decide
theorem i00 : (0 : Int32) = 0 ↔ True := by decide
theorem WB_s {α : Mem} {f b : Nat} {x : Int32} (h : ∀ c, c < 4 → WB α c) (hb : WB (sI α f b x) b) : ∀ c, c < 4 → WB (sI α f b x) c := by
  intro c hc
  by_cases e : c = b
  · subst e
    exact hb
  · exact WB_o (fun g _ => sI_n (Or.inr e)) (h c hc)
theorem WF_f {α : Mem} {nr nt μ f i : Nat} {x : Int32} (hf : f < 2 ∨ (5 ≤ f ∧ f ≤ 8)) (hb : ∀ c, c < 4 → WB (sI α f i x) c) (h : WF α nr nt μ) : WF (sI α f i x) nr nt μ := ⟨WH_o (fun g hg => sI_n (by omega)) h.1, hb, WR_o (fun g i hg => sI_n (by omega)) h.2.2.1, WI_o (fun g i hg => sI_n (by omega)) h.2.2.2.1, WT_o (fun g i hg => sI_n (by omega)) h.2.2.2.2⟩
theorem P_weigh (B : Nat) (p0 p1 : Int32) : mth B B [(1, 1), (2, 2)] (fun σ => fn_X5_weigh σ 0 p0 p1) (fun σ => fn_X7_weigh σ 141 p0 p1) := by
  intro σ hI
  by_cases r0 : rng p0 0 3
  · by_cases r1 : rng p1 1 9
    · obtain ⟨T, eT⟩ : ∃ T, T = 1 := ⟨_, rfl⟩
      obtain ⟨S, eS⟩ : ∃ S, S = 148 := ⟨_, rfl⟩
      have hT : isT T := Or.inl eT
      have hS : isS S := Or.inl eS
      obtain ⟨α, nr, nt, μ, h1, h2, h3, h4, h5, h6, h7, h8⟩ := Inv_o eT eS hI
      obtain ⟨b, _, hb, rfl⟩ := rng_of (a := 0) (b := 3) rfl rfl (by omega) r0
      obtain ⟨v, hv1, hv2, rfl⟩ := rng_of (a := 1) (b := 9) rfl rfl (by omega) r1
      have hb4 : b < 4 := by omega
      have hc : (nI b).toNatClampNeg = b := nI_clamp (by omega)
      have c1 := CW_0 (nI v) hT (Nat.le_refl 12) (by omega) hb4 h1
      have f1 : Fc T σ (sI σ (oB T b) 2 (nI v)) := Fc_w Fc_0 (rgB hb4)
      have h9 := st eT eS h6 f1 h2
      have g1 := RW_0 (nI v) hS (Nat.le_refl 12) (by omega) hb4 h9
      refine mk_ok (x := α 0 b) eT eS c1 g1 (fun j hj => (sI_ne (by omega)).trans (sI_ne (by omega))) (WF_f (by omega) (WB_s h3.2.1 ?_) h3) (WR_o (fun g i hg => sI_n (by omega)) h4) h5 h6 ((sI_n (by omega)).trans (st3 eT f1 h7)) h8 ((sI_n (by omega)).trans sI_s) ?_ ?_
      · obtain ⟨_, q2, q3, q4⟩ := h3.2.1 b hb4
        refine ⟨⟨v, hv1, hv2, sI_s⟩, ?_, ?_, ?_⟩
        · rw [sI_n (Or.inl (by decide))]
          exact q2
        · unfold okL
          rw [sI_n (Or.inl (by decide)), sI_n (Or.inl (by decide))]
          exact q3
        · unfold okL
          rw [sI_n (Or.inl (by decide)), sI_n (Or.inl (by decide))]
          exact q4
      · show fn_X5_weigh σ 0 (nI b) (nI v) = _
        unfold fn_X5_weigh
        simp only [bell_ok r0, bx_r, nb_ok r1, rf0 eT, b1_so, rf_T0 hT, ea_B hT hb4, ck_B hT hb4, gd_tr, nm_so, CE_0 h1 hb4]
      · show fn_X7_weigh _ 141 (nI b) (nI v) = _
        unfold fn_X7_weigh
        simp only [ck_M, gd_tr, nm_so, ib_ok r0, b1_so, i10, if_false, in_ok r1, rm9 eS, rs_3 hS, is_1 hS hb4, hc, RE_0 h9 hb4]
    · refine mth_no (Nat.le_refl B) hI 2 2 (by decide) ?_ ?_
      · show fn_X5_weigh σ 0 p0 p1 = _
        unfold fn_X5_weigh
        simp only [bell_ok r0, bx_r, nb_no r1, bx_l]
      · show fn_X7_weigh σ 141 p0 p1 = _
        unfold fn_X7_weigh
        simp only [ck_M, gd_tr, nm_so, ib_ok r0, b1_so, i10, if_false, in_no r1, if_true, lf_no, b2_so]
        rfl
  · refine mth_no (Nat.le_refl B) hI 1 1 (by decide) ?_ ?_
    · show fn_X5_weigh σ 0 p0 p1 = _
      unfold fn_X5_weigh
      simp only [bell_no r0, bx_l]
    · show fn_X7_weigh σ 141 p0 p1 = _
      unfold fn_X7_weigh
      simp only [ck_M, gd_tr, nm_so, ib_no r0, b1_so, if_true, lf_no, b2_so]
      rfl
theorem min_eq {x : Int32} : (if x < 99 then x else 99) = if x < (99 : Int32) then x else 99 := rfl
theorem P_store (B : Nat) (p0 : Int32) : mth B B [(2, 1)] (fun σ => fn_X5_store σ 0 p0) (fun σ => fn_X7_store σ 141 p0) := by
  intro σ hI
  by_cases r1 : rng p0 1 50
  · obtain ⟨T, eT⟩ : ∃ T, T = 1 := ⟨_, rfl⟩
    obtain ⟨S, eS⟩ : ∃ S, S = 148 := ⟨_, rfl⟩
    have hT : isT T := Or.inl eT
    have hS : isS S := Or.inl eS
    obtain ⟨α, nr, nt, μ, h1, h2, h3, h4, h5, h6, h7, h8⟩ := Inv_o eT eS hI
    have c1 := CW_21 (if α 21 0 + p0 < 99 then α 21 0 + p0 else 99) hT (Nat.le_refl 12) (by omega) h1
    have f1 : Fc T σ (sI σ T 6 (if α 21 0 + p0 < 99 then α 21 0 + p0 else 99)) := Fc_w Fc_0 rgT
    have h9 := st eT eS h6 f1 h2
    have g1 := RW_21 (if α 21 0 + p0 < 99 then α 21 0 + p0 else 99) hS (Nat.le_refl 12) (by omega) h9
    refine mk_ok (x := (if α 21 0 + p0 < 99 then α 21 0 + p0 else 99)) eT eS c1 g1 (fun j hj => (sI_ne (by omega)).trans (sI_ne (by omega))) (WF_o (fun f i _ _ _ _ _ _ _ _ h21 _ => sI_n (Or.inl h21)) h3) (WR_o (fun g i hg => sI_n (by omega)) h4) h5 h6 ((sI_n (by omega)).trans (st3 eT f1 h7)) h8 ((sI_n (by omega)).trans sI_s) ?_ ?_
    · show fn_X5_store σ 0 p0 = _
      unfold fn_X5_store
      simp only [nb_ok r1, bx_r, rf0 eT, b1_so, ck_T hT, gd_tr, nm_so, CE_21 h1, sI_s]
    · show fn_X7_store _ 141 p0 = _
      unfold fn_X7_store
      simp only [ck_M, gd_tr, nm_so, b1_so, i10, if_false, in_ok r1, rm9 eS, ck_S hS, RE_21 h9, sI_s]
  · refine mth_no (Nat.le_refl B) hI 2 1 (by decide) ?_ ?_
    · show fn_X5_store σ 0 p0 = _
      unfold fn_X5_store
      simp only [nb_no r1, bx_l]
    · show fn_X7_store σ 141 p0 = _
      unfold fn_X7_store
      simp only [ck_M, gd_tr, nm_so, b1_so, in_no r1, if_true, lf_no, b2_so]
      rfl
theorem P_pass (B : Nat) (hB : B ≤ 1000000) (p0 : Int32) : mth B (B + 240) [(2, 1)] (fun σ => fn_X5_pass σ 0 p0) (fun σ => fn_X7_pass σ 141 p0) := by
  intro σ hI
  by_cases r1 : rng p0 1 240
  · obtain ⟨n, hn1, hn2, rfl⟩ := rng_of (a := 1) (b := 240) rfl rfl (by omega) r1
    obtain ⟨α, nr, nt, μ, h1, h2, h3, h4, h5, h6, h7, h8⟩ := hI
    obtain ⟨s1, e1, c1, f1⟩ := C_mins (Or.inl ⟨rfl, rfl⟩) (Nat.le_refl 12) (by omega) h5 (n := n) (by omega) (K := fun x5 x6 σ7 => (some (x5, σ7))) n 0 242 0 σ α μ (by omega) (by omega) (by omega) h1 h3
    have h9 := st rfl rfl h6 f1 h2
    obtain ⟨s2, e2, g1, f2⟩ := R_mins (Nat.le_refl 12) (by omega) h5 (n := n) (by omega) (K := fun x8 x9 σ10 => (some (x8, σ10))) n 0 242 0 (sI s1 141 0 0) α μ (by omega) (by omega) (by omega) h9 h3
    rw [nI_0] at e1 e2
    have f141 : s2 141 = sI s1 141 0 0 141 := f2 141 (Or.inl ⟨by omega, fun _ => by omega⟩)
    refine mk_ok (x := (aMins true nr nt n 0 α).1) rfl rfl c1 g1 (fun j hj => (f2 j (Or.inl ⟨by omega, fun _ => by omega⟩)).trans (sI_ne (by omega))) (WF_mins h5 (by omega) n 0 α μ (by omega) h3) (W12_mins h5 n 0 α h4) h5 h6 (by rw [f141]; exact st3 rfl f1 h7) (by omega) (by rw [f141, sI_s]) ?_ ?_
    · show fn_X5_pass σ 0 (nI n) = _
      unfold fn_X5_pass fn_X4_passMinutes
      simp only [nb_ok r1, bx_r, rf_00, b1_so, ck_T (Or.inl rfl : isT 1), gd_tr, e1, b2_so]
    · show fn_X7_pass s1 141 (nI n) = _
      unfold fn_X7_pass
      simp only [ck_M, gd_tr, nm_so, in_ok r1, b1_so, i10, if_false, e2]
  · refine mth_no (by omega) hI 2 1 (by decide) ?_ ?_
    · show fn_X5_pass σ 0 p0 = _
      unfold fn_X5_pass
      simp only [nb_no r1, bx_l]
    · show fn_X7_pass σ 141 p0 = _
      unfold fn_X7_pass
      simp only [ck_M, gd_tr, nm_so, b1_so, in_no r1, if_true, lf_no, b2_so]
      rfl
