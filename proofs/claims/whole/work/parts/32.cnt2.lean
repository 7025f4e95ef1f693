/-! the reference's counts -/
theorem R_c61 {k : Bool} {S R nt : Nat} {σ α : Mem} {p : Int32} (hS : isS S) (h : RE k S σ α R nt) : ∀ d i fuel f, i + d = 4 → d < fuel → ∃ f2, (∀ K, lp_X6_counted_61 σ S p K fuel (nI i) f = K (nI 4) f2) ∧ f2 2 = aSum (fun b => if α 2 b = -1 then 0 else 1) d i (f 2) ∧ f2 5 = aSum (fun b => α 4 b) d i (f 5) ∧ ∀ j, j ≠ 2 → j ≠ 5 → f2 j = f j
  | 0, i, fuel + 1, f, hi, _ => by
    have e : i = 4 := by omega
    subst e
    refine ⟨f, fun K => ?_, rfl, rfl, fun _ _ _ => rfl⟩
    unfold lp_X6_counted_61
    rw [if_pos (show (4 : Int32) ≤ nI 4 by decide)]
  | d + 1, i, fuel + 1, f, hi, hf => by
    have hi4 : i < 4 := by omega
    have hc : (nI i).toNatClampNeg = i := nI_clamp (by omega)
    have key : ∀ x : Int32, (x = if α 2 i = -1 then 0 else 1) → ∃ f2, (∀ K, lp_X6_counted_61 σ S p K fuel (nI (i + 1)) (upd (upd f 2 (f 2 + x)) 5 (upd f 2 (f 2 + x) 5 + α 4 i)) = K (nI 4) f2) ∧ f2 2 = aSum (fun b => if α 2 b = -1 then 0 else 1) d (i + 1) (f 2 + if α 2 i = -1 then 0 else 1) ∧ f2 5 = aSum (fun b => α 4 b) d (i + 1) (f 5 + α 4 i) ∧ ∀ j, j ≠ 2 → j ≠ 5 → f2 j = f j := by
      intro x hx
      obtain ⟨f2, e1, e2, e3, e4⟩ := R_c61 hS h (p := p) d (i + 1) fuel (upd (upd f 2 (f 2 + x)) 5 (upd f 2 (f 2 + x) 5 + α 4 i)) (by omega) (by omega)
      refine ⟨f2, e1, ?_, ?_, fun j h1 h2 => ?_⟩
      · rw [e2, up_n (by decide), up_s, hx]
      · rw [e3, up_s, up_n (by decide)]
      · rw [e4 j h1 h2, up_n h2, up_n h1]
    by_cases h1 : α 2 i = -1
    · obtain ⟨f2, e1, e2⟩ := key 0 (if_pos h1).symm
      refine ⟨f2, fun K => ?_, e2⟩
      unfold lp_X6_counted_61
      rw [if_neg (show ¬ (4 : Int32) ≤ nI i from nI_ge (b := 4) hi4 (by omega)), ib9_2, gd_tr, rs_7 hS, b1_so, is_5 hS hi4, gd_tr, hc, RE_2 h hi4, if_pos h1, gd_tr, cl_2, cl_5, nm_so, ib9_5, gd_tr, rs_9 hS, b1_so, is_7 hS hi4, gd_tr, gd_tr, RE_4 h hi4, nm_so, nm_so, nI_1]
      exact e1 K
    · obtain ⟨f2, e1, e2⟩ := key 1 (if_neg h1).symm
      refine ⟨f2, fun K => ?_, e2⟩
      unfold lp_X6_counted_61
      rw [if_neg (show ¬ (4 : Int32) ≤ nI i from nI_ge (b := 4) hi4 (by omega)), ib9_2, gd_tr, rs_7 hS, b1_so, is_5 hS hi4, gd_tr, hc, RE_2 h hi4, if_neg h1, gd_tr, cl_2, cl_5, nm_so, ib9_5, gd_tr, rs_9 hS, b1_so, is_7 hS hi4, gd_tr, gd_tr, RE_4 h hi4, nm_so, nm_so, nI_1]
      exact e1 K
theorem R_c107 {k : Bool} {S R nt : Nat} {σ α : Mem} {p : Int32} (hS : isS S) (hn : nt ≤ 21) (h : RE k S σ α R nt) (hN : α 25 0 = nI nt) (hD : okD α nt) : ∀ d i fuel f, i + d = nt → d < fuel → ∃ f2, (∀ K, lp_X6_counted_107 σ S p K fuel (nI i) f = K (nI nt) f2) ∧ f2 4 = aSum (fun t => if α 19 t < 0 then 0 else 1) d i (f 4) ∧ f2 6 = aSum (fun t => α 18 t) d i (f 6) ∧ ∀ j, j ≠ 4 → j ≠ 6 → f2 j = f j
  | 0, i, fuel + 1, f, hi, _ => by
    refine ⟨f, fun K => ?_, rfl, rfl, fun _ _ _ => rfl⟩
    unfold lp_X6_counted_107
    rw [ck_S hS, gd_tr, RE_25 h, hN, if_pos (nI_le (by omega) (by omega)), show i = nt by omega]
  | d + 1, i, fuel + 1, f, hi, hf => by
    have hit : i < nt := by omega
    have hi2 : i < 21 := by omega
    have hd := okD_lt hD hit
    have hc : (nI i).toNatClampNeg = i := nI_clamp (by omega)
    have key : ∀ x : Int32, (x = if α 19 i < 0 then 0 else 1) → ∃ f2, (∀ K, lp_X6_counted_107 σ S p K fuel (nI (i + 1)) (upd (upd f 4 (f 4 + x)) 6 (upd f 4 (f 4 + x) 6 + α 18 i)) = K (nI nt) f2) ∧ f2 4 = aSum (fun t => if α 19 t < 0 then 0 else 1) d (i + 1) (f 4 + if α 19 i < 0 then 0 else 1) ∧ f2 6 = aSum (fun t => α 18 t) d (i + 1) (f 6 + α 18 i) ∧ ∀ j, j ≠ 4 → j ≠ 6 → f2 j = f j := by
      intro x hx
      obtain ⟨f2, e1, e2, e3, e4⟩ := R_c107 hS hn h hN hD (p := p) d (i + 1) fuel (upd (upd f 4 (f 4 + x)) 6 (upd f 4 (f 4 + x) 6 + α 18 i)) (by omega) (by omega)
      refine ⟨f2, e1, ?_, ?_, fun j h1 h2 => ?_⟩
      · rw [e2, up_n (by decide), up_s, hx]
      · rw [e3, up_s, up_n (by decide)]
      · rw [e4 j h1 h2, up_n h2, up_n h1]
    by_cases h1 : α 19 i = -1
    · obtain ⟨f2, e1, e2⟩ := key 0 (if_pos (hd.mpr h1)).symm
      refine ⟨f2, fun K => ?_, e2⟩
      unfold lp_X6_counted_107
      rw [ck_S hS, gd_tr, RE_25 h, hN, if_neg (nI_ge (by omega) (by omega)), ib9_4, gd_tr, rs_15 hS, b1_so, is_13 hS hi2, gd_tr, hc, RE_19 h hit, if_pos h1, gd_tr, cl_4, cl_6, nm_so, ib9_6, gd_tr, rs_14 hS, b1_so, is_12 hS hi2, gd_tr, gd_tr, RE_18 h hit, nm_so, nm_so, nI_1]
      exact e1 K
    · obtain ⟨f2, e1, e2⟩ := key 1 (if_neg (fun h9 => h1 (hd.mp h9))).symm
      refine ⟨f2, fun K => ?_, e2⟩
      unfold lp_X6_counted_107
      rw [ck_S hS, gd_tr, RE_25 h, hN, if_neg (nI_ge (by omega) (by omega)), ib9_4, gd_tr, rs_15 hS, b1_so, is_13 hS hi2, gd_tr, hc, RE_19 h hit, if_neg h1, gd_tr, cl_4, cl_6, nm_so, ib9_6, gd_tr, rs_14 hS, b1_so, is_12 hS hi2, gd_tr, gd_tr, RE_18 h hit, nm_so, nm_so, nI_1]
      exact e1 K
theorem R_c1 {S : Nat} {σ : Mem} {p : Int32} (hS : isS S) {l : Nat} (hl : l < 8) (fuel : Nat) (f : Nat → Int32) (K : Int32 → (Nat → Int32) → Option Int32) : lp_X6_counted_167 σ p (S + 2) (nI 8) K (fuel + 1) (nI l) f = lp_X6_counted_167 σ p (S + 2) (nI 8) K fuel (nI (l + 1)) (upd f 8 (f 8 + if σ (S + 2) l ≤ 0 then 0 else 1)) := by
  have hc : (nI l).toNatClampNeg = l := nI_clamp (by omega)
  conv => lhs; unfold lp_X6_counted_167
  rw [if_neg (nI_ge hl (by omega)), is_2 hS hl, gd_tr, hc, nm_so, ib9_8, gd_tr]
  by_cases h1 : σ (S + 2) l ≤ 0
  · rw [if_pos h1, if_pos h1, gd_tr, cl_8, nm_so, nm_so, nI_1]
  · rw [if_neg h1, if_neg h1, gd_tr, cl_8, nm_so, nm_so, nI_1]
theorem R_c167 {k : Bool} {S R nt : Nat} {σ α : Mem} {p : Int32} (hS : isS S) (h : RE k S σ α R nt) : ∀ d b fuel f, b + d = 4 → 2 * d < fuel → ∃ f2, (∀ K, lp_X6_counted_167 σ p (S + 2) (nI 8) K fuel (nI (2 * b)) f = K (nI 8) f2) ∧ f2 8 = aLs α d b (f 8) ∧ ∀ j, j ≠ 8 → f2 j = f j
  | 0, b, fuel + 1, f, hb, _ => by
    have e : 2 * b = 8 := by omega
    refine ⟨f, fun K => ?_, rfl, fun _ _ => rfl⟩
    rw [e]
    unfold lp_X6_counted_167
    rw [if_pos (nI_le (Nat.le_refl _) (by omega))]
  | d + 1, b, fuel + 2, f, hb, hf => by
    have hb4 : b < 4 := by omega
    obtain ⟨f2, e1, e2, e3⟩ := R_c167 hS h (p := p) d (b + 1) fuel (upd (upd f 8 (f 8 + if α 5 b ≤ 0 then 0 else 1)) 8 (upd f 8 (f 8 + if α 5 b ≤ 0 then 0 else 1) 8 + if α 7 b ≤ 0 then 0 else 1)) (by omega) (by omega)
    refine ⟨f2, fun K => ?_, ?_, fun j hj => ?_⟩
    · rw [R_c1 hS (show 2 * b < 8 by omega) (fuel + 1), R_c1 hS (show 2 * b + 1 < 8 by omega) fuel, RE_5 h hb4, RE_7 h hb4]
      exact e1 K
    · rw [e2, up_s, up_s]
      rfl
    · rw [e3 j hj, up_n hj, up_n hj]
theorem sl_S2 {S : Nat} (hS : isS S) : sl (S + 2) = 8 := fS (P := fun S => sl (S + 2) = 8) (by decide) (by decide) hS
theorem ck_S2 {S : Nat} (hS : isS S) : ck (S + 2) 8 = true := fS (P := fun S => ck (S + 2) 8 = true) (by decide) (by decide) hS
theorem R_count {k : Bool} {S R nt nr j : Nat} {σ α : Mem} (hS : isS S) (hn : nt ≤ 21) (h : RE k S σ α R nt) (hN2 : α 25 0 = nI nt) (hD : okD α nt) (hRo : aSum (fun b => if α 2 b = -1 then 0 else 1) 4 0 0 = aRopes α nr) (hj : j < 9) : fn_X6_counted σ S (nI j) = some (aCount α nr nt j) := by
  have hcj : (nI j).toNatClampNeg = j := nI_clamp (by omega)
  obtain ⟨f1, a1, a2, a3, a4⟩ := R_c61 hS h (p := nI j) 4 0 30 (upd (upd (upd (upd (upd (upd (upd (upd (upd (fun _ => (0 : Int32)) 0 (α 20 0)) 1 (α 24 0)) 2 0) 3 (α 25 0)) 4 0) 5 0) 6 0) 7 (α 21 0)) 8 0) (by omega) (by omega)
  obtain ⟨f2, b1_, b2_, b3_, b4_⟩ := R_c107 hS hn h hN2 hD (p := nI j) nt 0 30 f1 (by omega) (by omega)
  obtain ⟨f3, c1, c2, c3⟩ := R_c167 hS h (p := nI j) 4 0 30 f2 (by omega) (by omega)
  rw [nI_0] at a1 b1_
  rw [show nI (2 * 0) = 0 from rfl] at c1
  unfold fn_X6_counted
  rw [nm_so, ck_S hS, gd_tr, ib9_0, gd_tr, nm_so, rs_16 hS, b1_so, ck_M, gd_tr, ib9_1, gd_tr, nm_so, ib9_2, gd_tr, nm_so, gd_tr, ib9_3, gd_tr, nm_so, ib9_4, gd_tr, nm_so, ib9_5, gd_tr, nm_so, ib9_6, gd_tr, nm_so, gd_tr, ib9_7, gd_tr, nm_so, ib9_8, gd_tr, nm_so, cl_0, cl_1, cl_2, cl_3, cl_4, cl_5, cl_6, cl_7, cl_8, RE_20 h, RE_24 h, RE_25 h, RE_21 h, a1, b1_, rs_4 hS, b1_so, ck_S2 hS, gd_tr, nm_so, sl_S2 hS, c1, ib_n hj (by decide), gd_tr, hcj]
  rcases (show j = 0 ∨ j = 1 ∨ j = 2 ∨ j = 3 ∨ j = 4 ∨ j = 5 ∨ j = 6 ∨ j = 7 ∨ j = 8 by omega) with rfl | rfl | rfl | rfl | rfl | rfl | rfl | rfl | rfl
  · rw [c3 0 (by decide), b4_ 0 (by decide) (by decide), a4 0 (by decide) (by decide)]
    rfl
  · rw [c3 1 (by decide), b4_ 1 (by decide) (by decide), a4 1 (by decide) (by decide)]
    rfl
  · rw [c3 2 (by decide), b4_ 2 (by decide) (by decide), a2]
    exact congrArg some hRo
  · rw [c3 3 (by decide), b4_ 3 (by decide) (by decide), a4 3 (by decide) (by decide)]
    rfl
  · rw [c3 4 (by decide), b2_, a4 4 (by decide) (by decide)]
    rfl
  · rw [c3 5 (by decide), b4_ 5 (by decide) (by decide), a3]
    rfl
  · rw [c3 6 (by decide), b3_, a4 6 (by decide) (by decide)]
    rfl
  · rw [c3 7 (by decide), b4_ 7 (by decide) (by decide), a4 7 (by decide) (by decide)]
    rfl
  · rw [c2, b4_ 8 (by decide) (by decide), a4 8 (by decide) (by decide)]
    rfl
/-! as many ringers at ropes as ropes with ringers -/
def nS (f : Nat → Nat) : Nat → Nat → Nat
  | 0, _ => 0
  | d + 1, i => f i + nS f d (i + 1)
theorem aSum_n {f : Nat → Int32} {g : Nat → Nat} : ∀ d i y, (∀ j, i ≤ j → j < i + d → f j = nI (g j)) → aSum f d i y = y + nI (nS g d i)
  | 0, i, y, _ => by
    show y = y + nI 0
    rw [nI_0, Int32.add_zero]
  | d + 1, i, y, h => by
    show aSum f d (i + 1) (y + f i) = y + nI (g i + nS g d (i + 1))
    rw [aSum_n (g := g) d (i + 1) (y + f i) (fun j h1 h2 => h j (by omega) (by omega)), h i (by omega) (by omega), ← nI_add, Int32.add_assoc]
theorem nS_add {f g : Nat → Nat} : ∀ d i, nS (fun j => f j + g j) d i = nS f d i + nS g d i
  | 0, _ => rfl
  | d + 1, i => by
    show f i + g i + nS (fun j => f j + g j) d (i + 1) = f i + nS f d (i + 1) + (g i + nS g d (i + 1))
    rw [nS_add d (i + 1)]
    omega
theorem nS_c {f g : Nat → Nat} : ∀ d i, (∀ j, i ≤ j → j < i + d → f j = g j) → nS f d i = nS g d i
  | 0, _, _ => rfl
  | d + 1, i, h => by
    show f i + nS f d (i + 1) = g i + nS g d (i + 1)
    rw [h i (by omega) (by omega), nS_c d (i + 1) (fun j h1 h2 => h j (by omega) (by omega))]
theorem nS_0 {f : Nat → Nat} : ∀ d i, (∀ j, i ≤ j → j < i + d → f j = 0) → nS f d i = 0
  | 0, _, _ => rfl
  | d + 1, i, h => by
    show f i + nS f d (i + 1) = 0
    rw [h i (by omega) (by omega), nS_0 d (i + 1) (fun j h1 h2 => h j (by omega) (by omega))]
theorem nS_1 {f : Nat → Nat} {q : Nat} (hq : f q = 1) (h0 : ∀ j, j ≠ q → f j = 0) : ∀ d i, i ≤ q → q < i + d → nS f d i = 1
  | 0, i, h1, h2 => by omega
  | d + 1, i, h1, h2 => by
    show f i + nS f d (i + 1) = 1
    by_cases e : i = q
    · subst e
      rw [hq, nS_0 d (i + 1) (fun j h3 h4 => h0 j (by omega))]
    · rw [h0 i e, nS_1 hq h0 d (i + 1) (by omega) (by omega)]
theorem ropes_eq {α : Mem} {nr : Nat} (hnr : nr ≤ 12) (h : WR α nr) : aSum (fun b => if α 2 b = -1 then 0 else 1) 4 0 0 = aRopes α nr := by
  have hb : ∀ b, b < 4 → (if α 2 b = -1 then 0 else 1) = nS (fun r => if α 2 b = nI r then 1 else 0) nr 0 := by
    intro b hb
    rcases h.1 b hb with h1 | ⟨q, hq, h1⟩
    · rw [if_pos h1, nS_0 nr 0 (fun j _ hj => if_neg (by rw [h1]; exact m1_nI (by omega)))]
    · rw [if_neg (by rw [h1]; exact nI_m1 (by omega))]
      rw [nS_c (g := fun r => if r = q then 1 else 0) nr 0 (fun j _ hj => by
        show (if α 2 b = nI j then 1 else 0) = if j = q then 1 else 0
        by_cases e : j = q
        · rw [if_pos e, e, if_pos h1]
        · rw [if_neg e, if_neg (fun h9 => e (nI_inj (by omega) (by omega) (h9.symm.trans h1)))])]
      exact (nS_1 (f := fun r => if r = q then 1 else 0) (q := q) (if_pos rfl) (fun j hj => if_neg hj) nr 0 (by omega) (by omega)).symm
  have hr : ∀ r, r < nr → (if α 22 r = -1 then 0 else 1) = ((if α 2 0 = nI r then 1 else 0) + (if α 2 1 = nI r then 1 else 0)) + ((if α 2 2 = nI r then 1 else 0) + (if α 2 3 = nI r then 1 else 0)) := by
    intro r hr
    obtain ⟨h1, h2⟩ := h.2 r hr
    simp only [h1 0 (by decide), h1 1 (by decide), h1 2 (by decide), h1 3 (by decide)]
    rcases h2 with h2 | ⟨b, hb4, h2⟩
    · rw [h2, if_pos rfl, if_neg (m1_nI (by decide)), if_neg (m1_nI (by decide)), if_neg (m1_nI (by decide)), if_neg (m1_nI (by decide))]
    · rw [h2, if_neg (nI_m1 (by omega))]
      rcases (show b = 0 ∨ b = 1 ∨ b = 2 ∨ b = 3 by omega) with rfl | rfl | rfl | rfl <;> decide
  unfold aRopes
  rw [aSum_n (g := fun b => if α 2 b = -1 then 0 else 1) 4 0 0 (fun j _ _ => by
      show (if α 2 j = -1 then (0 : Int32) else 1) = nI (if α 2 j = -1 then 0 else 1)
      split <;> rfl), aSum_n (g := fun r => if α 22 r = -1 then 0 else 1) nr 0 0 (fun j _ _ => by
      show (if α 22 j = -1 then (0 : Int32) else 1) = nI (if α 22 j = -1 then 0 else 1)
      split <;> rfl)]
  congr 2
  rw [nS_c (g := fun r => ((if α 2 0 = nI r then 1 else 0) + (if α 2 1 = nI r then 1 else 0)) + ((if α 2 2 = nI r then 1 else 0) + (if α 2 3 = nI r then 1 else 0))) nr 0 (fun j _ hj => hr j (by omega)), nS_add, nS_add, nS_add, ← hb 0 (by decide), ← hb 1 (by decide), ← hb 2 (by decide), ← hb 3 (by decide)]
  show (if α 2 0 = -1 then 0 else 1) + ((if α 2 1 = -1 then 0 else 1) + ((if α 2 2 = -1 then 0 else 1) + ((if α 2 3 = -1 then 0 else 1) + 0))) = _
  omega
