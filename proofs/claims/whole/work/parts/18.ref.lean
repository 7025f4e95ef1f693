/-! the reference: its objects -/
def SK (k : Bool) (S : Nat) : Prop := (k = true ∧ S = 148) ∨ (k = false ∧ S = 162)
theorem SK_S {k : Bool} {S : Nat} (h : SK k S) : isS S := h.elim (fun h => Or.inl h.2) (fun h => Or.inr h.2)
theorem fS {P : Nat → Prop} (h1 : P 148) (h2 : P 162) {S : Nat} (hS : isS S) : P S := by
  rcases hS with rfl | rfl
  · exact h1
  · exact h2
theorem ck_S {S : Nat} (hS : isS S) : ck S 6 = true := fS (P := fun S => ck S 6 = true) (by decide) (by decide) hS
theorem ck_M : ck 141 7 = true := by decide
theorem rs_3 {S : Nat} (hS : isS S) : rf S 6 3 = some (S + 1) := fS (P := fun S => rf S 6 3 = some (S + 1)) (by decide) (by decide) hS
theorem rs_4 {S : Nat} (hS : isS S) : rf S 6 4 = some (S + 2) := fS (P := fun S => rf S 6 4 = some (S + 2)) (by decide) (by decide) hS
theorem rs_5 {S : Nat} (hS : isS S) : rf S 6 5 = some (S + 3) := fS (P := fun S => rf S 6 5 = some (S + 3)) (by decide) (by decide) hS
theorem rs_6 {S : Nat} (hS : isS S) : rf S 6 6 = some (S + 4) := fS (P := fun S => rf S 6 6 = some (S + 4)) (by decide) (by decide) hS
theorem rs_7 {S : Nat} (hS : isS S) : rf S 6 7 = some (S + 5) := fS (P := fun S => rf S 6 7 = some (S + 5)) (by decide) (by decide) hS
theorem rs_8 {S : Nat} (hS : isS S) : rf S 6 8 = some (S + 6) := fS (P := fun S => rf S 6 8 = some (S + 6)) (by decide) (by decide) hS
theorem rs_9 {S : Nat} (hS : isS S) : rf S 6 9 = some (S + 7) := fS (P := fun S => rf S 6 9 = some (S + 7)) (by decide) (by decide) hS
theorem rs_10 {S : Nat} (hS : isS S) : rf S 6 10 = some (S + 8) := fS (P := fun S => rf S 6 10 = some (S + 8)) (by decide) (by decide) hS
theorem rs_11 {S : Nat} (hS : isS S) : rf S 6 11 = some (S + 9) := fS (P := fun S => rf S 6 11 = some (S + 9)) (by decide) (by decide) hS
theorem rs_12 {S : Nat} (hS : isS S) : rf S 6 12 = some (S + 10) := fS (P := fun S => rf S 6 12 = some (S + 10)) (by decide) (by decide) hS
theorem rs_13 {S : Nat} (hS : isS S) : rf S 6 13 = some (S + 11) := fS (P := fun S => rf S 6 13 = some (S + 11)) (by decide) (by decide) hS
theorem rs_14 {S : Nat} (hS : isS S) : rf S 6 14 = some (S + 12) := fS (P := fun S => rf S 6 14 = some (S + 12)) (by decide) (by decide) hS
theorem rs_15 {S : Nat} (hS : isS S) : rf S 6 15 = some (S + 13) := fS (P := fun S => rf S 6 15 = some (S + 13)) (by decide) (by decide) hS
theorem rs_16 {S : Nat} (hS : isS S) : rf S 6 16 = some 141 := fS (P := fun S => rf S 6 16 = some 141) (by decide) (by decide) hS
theorem rm_2 : rf 141 7 2 = some 142 := by decide
theorem rm_4 : rf 141 7 4 = some 143 := by decide
theorem rm_5 : rf 141 7 5 = some 144 := by decide
theorem rm_6 : rf 141 7 6 = some 145 := by decide
theorem rm_7 : rf 141 7 7 = some 146 := by decide
theorem rm_8 : rf 141 7 8 = some 147 := by decide
theorem rm_9 : rf 141 7 9 = some 148 := by decide
theorem rm_10 : rf 141 7 10 = some 162 := by decide
theorem ia_mk {j n i : Nat} (h : ck j 8 = true) (hs : sl j = n) (hi : i < n) (hn : n < 2 ^ 31) : ia j (nI i) = true := by
  unfold ia
  rw [h, hs]
  exact decide_eq_true (nI_in hi hn)
theorem is_1 {S i : Nat} (hS : isS S) (hi : i < 4) : ia (S + 1) (nI i) = true := ia_mk (fS (P := fun S => ck (S + 1) 8 = true) (by decide) (by decide) hS) (fS (P := fun S => sl (S + 1) = 4) (by decide) (by decide) hS) hi (by omega)
theorem is_2 {S i : Nat} (hS : isS S) (hi : i < 8) : ia (S + 2) (nI i) = true := ia_mk (fS (P := fun S => ck (S + 2) 8 = true) (by decide) (by decide) hS) (fS (P := fun S => sl (S + 2) = 8) (by decide) (by decide) hS) hi (by omega)
theorem is_3 {S i : Nat} (hS : isS S) (hi : i < 8) : ia (S + 3) (nI i) = true := ia_mk (fS (P := fun S => ck (S + 3) 8 = true) (by decide) (by decide) hS) (fS (P := fun S => sl (S + 3) = 8) (by decide) (by decide) hS) hi (by omega)
theorem is_4 {S i : Nat} (hS : isS S) (hi : i < 4) : ia (S + 4) (nI i) = true := ia_mk (fS (P := fun S => ck (S + 4) 8 = true) (by decide) (by decide) hS) (fS (P := fun S => sl (S + 4) = 4) (by decide) (by decide) hS) hi (by omega)
theorem is_5 {S i : Nat} (hS : isS S) (hi : i < 4) : ia (S + 5) (nI i) = true := ia_mk (fS (P := fun S => ck (S + 5) 8 = true) (by decide) (by decide) hS) (fS (P := fun S => sl (S + 5) = 4) (by decide) (by decide) hS) hi (by omega)
theorem is_6 {S i : Nat} (hS : isS S) (hi : i < 4) : ia (S + 6) (nI i) = true := ia_mk (fS (P := fun S => ck (S + 6) 8 = true) (by decide) (by decide) hS) (fS (P := fun S => sl (S + 6) = 4) (by decide) (by decide) hS) hi (by omega)
theorem is_7 {S i : Nat} (hS : isS S) (hi : i < 4) : ia (S + 7) (nI i) = true := ia_mk (fS (P := fun S => ck (S + 7) 8 = true) (by decide) (by decide) hS) (fS (P := fun S => sl (S + 7) = 4) (by decide) (by decide) hS) hi (by omega)
theorem is_8 {S i : Nat} (hS : isS S) (hi : i < 12) : ia (S + 8) (nI i) = true := ia_mk (fS (P := fun S => ck (S + 8) 8 = true) (by decide) (by decide) hS) (fS (P := fun S => sl (S + 8) = 12) (by decide) (by decide) hS) hi (by omega)
theorem is_9 {S i : Nat} (hS : isS S) (hi : i < 12) : ia (S + 9) (nI i) = true := ia_mk (fS (P := fun S => ck (S + 9) 8 = true) (by decide) (by decide) hS) (fS (P := fun S => sl (S + 9) = 12) (by decide) (by decide) hS) hi (by omega)
theorem is_10 {S i : Nat} (hS : isS S) (hi : i < 12) : ia (S + 10) (nI i) = true := ia_mk (fS (P := fun S => ck (S + 10) 8 = true) (by decide) (by decide) hS) (fS (P := fun S => sl (S + 10) = 12) (by decide) (by decide) hS) hi (by omega)
theorem is_11 {S i : Nat} (hS : isS S) (hi : i < 21) : ia (S + 11) (nI i) = true := ia_mk (fS (P := fun S => ck (S + 11) 8 = true) (by decide) (by decide) hS) (fS (P := fun S => sl (S + 11) = 21) (by decide) (by decide) hS) hi (by omega)
theorem is_12 {S i : Nat} (hS : isS S) (hi : i < 21) : ia (S + 12) (nI i) = true := ia_mk (fS (P := fun S => ck (S + 12) 8 = true) (by decide) (by decide) hS) (fS (P := fun S => sl (S + 12) = 21) (by decide) (by decide) hS) hi (by omega)
theorem is_13 {S i : Nat} (hS : isS S) (hi : i < 21) : ia (S + 13) (nI i) = true := ia_mk (fS (P := fun S => ck (S + 13) 8 = true) (by decide) (by decide) hS) (fS (P := fun S => sl (S + 13) = 21) (by decide) (by decide) hS) hi (by omega)
theorem im_142 {i : Nat} (hi : i < 12) : ia 142 (nI i) = true := ia_mk (by decide) (by decide) hi (by omega)
theorem im_143 {i : Nat} (hi : i < 21) : ia 143 (nI i) = true := ia_mk (by decide) (by decide) hi (by omega)
theorem im_144 {i : Nat} (hi : i < 21) : ia 144 (nI i) = true := ia_mk (by decide) (by decide) hi (by omega)
theorem im_145 {i : Nat} (hi : i < 21) : ia 145 (nI i) = true := ia_mk (by decide) (by decide) hi (by omega)
theorem im_146 {i : Nat} (hi : i < 21) : ia 146 (nI i) = true := ia_mk (by decide) (by decide) hi (by omega)
theorem im_147 {i : Nat} (hi : i < 1911) : ia 147 (nI i) = true := ia_mk (by decide) (by decide) hi (by omega)
def rR (k : Bool) (S R nt : Nat) (σ α2 : Mem) (x : Option Mem) : Prop := ∃ σ2, x = some σ2 ∧ RE k S σ2 α2 R nt ∧ Fr k S σ σ2
def rR2 {β : Type} (k : Bool) (S R nt : Nat) (σ α2 : Mem) (v : β) (x : Option (β × Mem)) : Prop := ∃ σ2, x = some (v, σ2) ∧ RE k S σ2 α2 R nt ∧ Fr k S σ σ2
theorem rR_t {k : Bool} {S R nt : Nat} {σ σ1 α2 : Mem} {x : Option Mem} (f : Fr k S σ σ1) (h : rR k S R nt σ1 α2 x) : rR k S R nt σ α2 x := by
  obtain ⟨s, e, h2, f2⟩ := h
  exact ⟨s, e, h2, Fr_t f f2⟩
theorem rR2_t {β : Type} {k : Bool} {S R nt : Nat} {σ σ1 α2 : Mem} {v : β} {x : Option (β × Mem)} (f : Fr k S σ σ1) (h : rR2 k S R nt σ1 α2 v x) : rR2 k S R nt σ α2 v x := by
  obtain ⟨s, e, h2, f2⟩ := h
  exact ⟨s, e, h2, Fr_t f f2⟩
theorem RE_eq {k : Bool} {S R nt : Nat} {ρ α β : Mem} (h : RE k S ρ α R nt) (e : ∀ f i, f ≠ 22 → f ≠ 23 → β f i = α f i) : RE k S ρ β R nt := fun f i hv h1 h2 => (h f i hv h1 h2).trans (e f i h1 h2).symm
def okD (α : Mem) (nt : Nat) : Prop := ∀ t, t < nt → α 19 t = -1 ∨ ∃ m, m < 2 ^ 31 ∧ α 19 t = nI m
theorem okD_lt {α : Mem} {nt t : Nat} (h : okD α nt) (ht : t < nt) : α 19 t < 0 ↔ α 19 t = -1 := by
  rcases h t ht with h | ⟨m, hm, h⟩
  · rw [h]
    exact ⟨fun _ => rfl, fun _ => by decide⟩
  · rw [h]
    refine ⟨fun h9 => absurd h9 (nI_pos hm), fun h9 => ?_⟩
    have h8 := nI_pos hm
    rw [h9] at h8
    exact absurd (by decide) h8
theorem R_ffirst {k : Bool} {S R nt : Nat} {σ α : Mem} (hS : isS S) (hn : nt ≤ 21) (h : RE k S σ α R nt) (hN : α 25 0 = nI nt) (hD : okD α nt) (x : Int32) {K : Int32 → Option Int32} (hK : K (nI nt) = some (-1)) : ∀ d i fuel, i + d = nt → d < fuel → lp_X6_first_2 σ S x K fuel (nI i) = some (aFf α x d i)
  | 0, i, fuel + 1, hi, _ => by
    unfold lp_X6_first_2 aFf
    rw [ck_S hS, gd_tr, RE_25 h, hN, if_pos (nI_le (by omega) (by omega)), show i = nt by omega, hK]
  | d + 1, i, fuel + 1, hi, hf => by
    have hit : i < nt := by omega
    have hi2 : i < 21 := by omega
    have hc : (nI i).toNatClampNeg = i := nI_clamp (by omega)
    unfold lp_X6_first_2 aFf
    simp only [ck_S hS, gd_tr, RE_25 h, hN, rs_16 hS, rm_4, rs_15 hS, b1_so, im_143 hi2, is_13 hS hi2, hc, RE_13 h hit, RE_19 h hit, nm_so, nI_1]
    rw [if_neg (nI_ge (by omega) (by omega)), R_ffirst hS hn h hN hD x hK d (i + 1) fuel (by omega) (by omega)]
    have h9 := okD_lt hD hit
    by_cases h1 : α 13 i = x
    · rw [if_pos h1]
      by_cases h2 : α 19 i = -1
      · rw [if_pos h2, if_pos ⟨h1, h9.mpr h2⟩]
      · rw [if_neg h2, if_neg (fun h => h2 (h9.mp h.2))]
    · rw [if_neg h1, if_neg (fun h => h1 h.1)]
theorem R_first {k : Bool} {S R nt : Nat} {σ α : Mem} (hS : isS S) (hn : nt ≤ 21) (h : RE k S σ α R nt) (hN : α 25 0 = nI nt) (hD : okD α nt) (x : Int32) : fn_X6_first σ S x = some (aFirst α nt x) := R_ffirst hS hn h hN hD x rfl nt 0 30 (by omega) (by omega)
def okBR (α : Mem) (r : Nat) : Prop := (∀ b, b < 4 → (α 2 b = nI r ↔ α 22 r = nI b)) ∧ (α 22 r = -1 ∨ ∃ b, b < 4 ∧ α 22 r = nI b)
theorem R_bo {k : Bool} {S R nt : Nat} {σ α : Mem} (hS : isS S) (h : RE k S σ α R nt) {r : Nat} (hr : okBR α r) {K : Int32 → Option Int32} (hK : K (nI 4) = some (-1)) : ∀ d i fuel, i + d = 4 → d < fuel → (∀ b, b < i → ¬ α 22 r = nI b) → lp_X6_bellOf_2 σ S (nI r) K fuel (nI i) = some (α 22 r)
  | 0, i, fuel + 1, hi, _, hb => by
    have hi4 : i = 4 := by omega
    subst hi4
    unfold lp_X6_bellOf_2
    rw [if_pos (show (4 : Int32) ≤ nI 4 by decide), hK]
    rcases hr.2 with h9 | ⟨b, h8, h9⟩
    · rw [h9]
    · exact absurd h9 (hb b h8)
  | d + 1, i, fuel + 1, hi, hf, hb => by
    have hi2 : i < 4 := by omega
    have hc : (nI i).toNatClampNeg = i := nI_clamp (by omega)
    unfold lp_X6_bellOf_2
    simp only [rs_7 hS, b1_so, is_5 hS hi2, gd_tr, hc, RE_2 h hi2, nm_so, nI_1]
    rw [if_neg (show ¬ (4 : Int32) ≤ nI i from nI_ge (b := 4) hi2 (by omega))]
    by_cases h1 : α 2 i = nI r
    · rw [if_pos h1, (hr.1 i hi2).mp h1]
    · rw [if_neg h1]
      refine R_bo hS h hr hK d (i + 1) fuel (by omega) (by omega) (fun b h2 => ?_)
      by_cases h3 : b = i
      · subst h3
        exact fun h4 => h1 ((hr.1 b hi2).mpr h4)
      · exact hb b (by omega)
theorem R_bellOf {k : Bool} {S R nt : Nat} {σ α : Mem} (hS : isS S) (h : RE k S σ α R nt) {r : Nat} (hr : okBR α r) : fn_X6_bellOf σ S (nI r) = some (α 22 r) := R_bo hS h hr rfl 4 0 30 (by omega) (by omega) (fun b h => absurd h (Nat.not_lt_zero b))
theorem R_can {k : Bool} {S R nt : Nat} {σ α : Mem} (hS : isS S) (hR : R ≤ 12) (h : RE k S σ α R nt) {r b : Nat} (hr : r < R) (hb : b < 4) : fn_X6_canPull σ S (nI r) (nI b) = some (if 10 * α 9 r < α 10 r + α 0 b then 0 else 1) := by
  have hr2 : r < 12 := Nat.lt_of_lt_of_le hr hR
  have hc : (nI r).toNatClampNeg = r := nI_clamp (by omega)
  have hc2 : (nI b).toNatClampNeg = b := nI_clamp (by omega)
  unfold fn_X6_canPull
  simp only [rs_10 hS, b1_so, is_8 hS hr2, gd_tr, rs_3 hS, is_1 hS hb, rs_16 hS, rm_2, im_142 hr2, hc, hc2, RE_9 h hr, RE_10 h hr, RE_0 h hb]
  split <;> rfl
theorem R_man {k : Bool} {S R nt nr : Nat} {σ α : Mem} (hS : isS S) (hR : R ≤ 12) (h : RE k S σ α R nt) (hN : α 24 0 = nI nr) (hnr : nr ≤ R) (hBR : ∀ r, r < nr → okBR α r) {b : Nat} (hb : b < 4) {K : Int32 → Int32 → Option (Int32 × Mem)} : ∀ d i fuel y z, i + d = nr → d < fuel → (y = -1 ∨ ∃ q, q < nr ∧ y = nI q ∧ z = α 10 q) → lp_X6_isManned_30 σ S (nI b) K fuel y (nI i) = K (aBs α (α 0 b) d i y z) (nI nr)
  | 0, i, fuel + 1, y, z, hi, _, _ => by
    unfold lp_X6_isManned_30 aBs
    rw [rs_16 hS, b1_so, ck_M, gd_tr, RE_24 h, hN, if_pos (nI_le (by omega) (by omega)), show i = nr by omega]
  | d + 1, i, fuel + 1, y, z, hi, hf, hy => by
    have hit : i < R := by omega
    have hi2 : i < 12 := by omega
    have hc : (nI i).toNatClampNeg = i := nI_clamp (by omega)
    unfold lp_X6_isManned_30 aBs
    simp only [rs_16 hS, b1_so, ck_M, gd_tr, RE_24 h, hN, ck_S hS, R_bellOf hS h (hBR i (by omega)), R_can hS hR h hit hb, nm_so, nI_1, rs_10 hS, is_8 hS hi2, hc, RE_10 h hit]
    rw [if_neg (nI_ge (by omega) (by omega))]
    have ih := fun y z hy => R_man hS hR h hN hnr hBR hb (K := K) d (i + 1) fuel y z (by omega) (by omega) hy
    by_cases h1 : α 22 i = -1
    · rw [if_pos h1]
      by_cases h2 : 10 * α 9 i < α 10 i + α 0 b
      · rw [if_pos h2, if_pos rfl, if_neg (fun h => h.2.1 h2)]
        exact ih y z hy
      · rw [if_neg h2, if_neg (by decide)]
        by_cases h3 : y = -1
        · rw [if_pos h3, if_pos ⟨h1, h2, Or.inl h3⟩]
          exact ih _ _ (Or.inr ⟨i, by omega, rfl, rfl⟩)
        · rw [if_neg h3]
          rcases hy with hy | ⟨q, hq, hy, hz⟩
          · exact absurd hy h3
          · have hq1 : q < R := by omega
            have hq2 : q < 12 := by omega
            have hcq : (nI q).toNatClampNeg = q := nI_clamp (by omega)
            subst hy hz
            simp only [is_8 hS hq2, gd_tr, hcq, RE_10 h hq1]
            by_cases h4 : α 10 q ≤ α 10 i
            · rw [if_pos h4, if_neg (fun h => h.2.2.elim h3 (fun h => h h4))]
              exact ih _ _ (Or.inr ⟨q, hq, rfl, rfl⟩)
            · rw [if_neg h4, if_pos ⟨h1, h2, Or.inr h4⟩]
              exact ih _ _ (Or.inr ⟨i, by omega, rfl, rfl⟩)
    · rw [if_neg h1, if_neg (fun h => h1 h.1)]
      exact ih y z hy
theorem aBring_eq {α : Mem} {b r f i : Nat} (h1 : f ≠ 22) : aBring α b r f i = sI α 2 b (nI r) f i := by
  unfold aBring aEmpty
  rw [sI_n (by omega)]
  split
  · rw [sI_ss]
  · rw [sI_ss, sI_at, sI_n (Or.inl h1)]
    exact (sI_at _ _ _ _ _ _).symm
theorem aBs_ge {α : Mem} {b nr : Nat} (hnr : nr ≤ 12) : aBs α (α 0 b) nr 0 (-1) 0 = -1 ∨ ∃ r, r < nr ∧ aBs α (α 0 b) nr 0 (-1) 0 = nI r := aBs_in nr 0 (-1) 0 (Nat.zero_add nr) (Or.inl rfl)
theorem nI_m1 {n : Nat} (h : n < 2 ^ 31) : ¬ nI n = -1 := by
  intro h9
  have h8 := nI_pos h
  rw [h9] at h8
  exact absurd (by decide) h8
theorem R_rel {k : Bool} {S R nt nr : Nat} {σ α : Mem} (hS : isS S) (hR : R ≤ 12) (hn : nt ≤ 21) (h : RE k S σ α R nt) (hN : α 24 0 = nI nr) (hnr : nr ≤ R) (hBR : ∀ r, r < nr → okBR α r) {b : Nat} (hb : b < 4) {K : Int32 → Int32 → Option (Int32 × Mem)} (hK : ∀ x y, K x y = if x = -1 then some (0, σ) else b1 (rf S 6 7) (fun r14 => gd (ia r14 (nI b)) (nm (sI σ r14 (Int32.toNatClampNeg (nI b)) x) (fun σ15 => b1 (rf S 6 12) (fun r16 => gd (ia r16 x) (gd (ia r16 x) (nm (sI σ15 r16 (Int32.toNatClampNeg x) ((σ15 r16 (Int32.toNatClampNeg x)) + 1)) (fun σ17 => (some (1, σ17)))))))))) : rR2 k S R nt σ (aRel α b nr).2 (if (aRel α b nr).1 < 0 then 0 else 1) (lp_X6_isManned_30 σ S (nI b) K 30 (-1) 0) := by
  have h9 := R_man hS hR h hN hnr hBR hb (K := K) nr 0 30 (-1) 0 (by omega) (by omega) (Or.inl rfl)
  rw [nI_0] at h9
  rw [h9, hK]
  unfold aRel
  rcases aBs_ge (α := α) (b := b) (nr := nr) (by omega) with h1 | ⟨r, hr, h1⟩
  · rw [h1, if_pos rfl, if_pos (show (-1 : Int32) < 0 by decide)]
    dsimp only
    rw [if_pos (show (-1 : Int32) < 0 by decide)]
    exact ⟨_, rfl, h, Fr_0⟩
  · have hr1 : r < R := Nat.lt_of_lt_of_le hr hnr
    have hr2 : r < 12 := Nat.lt_of_lt_of_le hr1 hR
    have h8 : ¬ nI r < 0 := nI_pos (by omega)
    have hc : (nI b).toNatClampNeg = b := nI_clamp (by omega)
    have hcr : (nI r).toNatClampNeg = r := nI_clamp (by omega)
    rw [h1, if_neg (nI_m1 (by omega)), if_neg h8, cN_n (by omega)]
    dsimp only
    rw [if_neg h8]
    have h2 := RW_2 (nI r) hS hR hn hb h
    have e2 : sI σ (S + 5) b (nI r) (S + 10) r = α 12 r := RE_12 h2 hr1
    simp only [rs_7 hS, b1_so, is_5 hS hb, gd_tr, nm_so, rs_12 hS, is_10 hS hr2, hc, hcr, e2]
    refine ⟨_, rfl, ?_, Fr_w (Fr_w Fr_0 hS (Or.inl (by omega))) hS (Or.inl (by omega))⟩
    refine RE_eq (RW_12 (α 12 r + 1) hS hR hn hr1 h2) (fun f i h5 h6 => ?_)
    rw [sI_at, sI_at, aBring_eq h5]
theorem R_manned {k : Bool} {S R nt nr : Nat} {σ α : Mem} (hS : isS S) (hR : R ≤ 12) (hn : nt ≤ 21) (h : RE k S σ α R nt) (hN : α 24 0 = nI nr) (hnr : nr ≤ R) (hBR : ∀ r, r < nr → okBR α r) {b : Nat} (hb : b < 4) (ho : okR α R b) : rR2 k S R nt σ (aFind α b nr).2 (if (aFind α b nr).1 < 0 then 0 else 1) (fn_X6_isManned σ S (nI b)) := by
  have hc : (nI b).toNatClampNeg = b := nI_clamp (by omega)
  unfold fn_X6_isManned aFind
  simp only [rs_7 hS, b1_so, is_5 hS hb, gd_tr, hc, RE_2 h hb, ck_S hS]
  rcases ho with ho | ⟨r, hr, ho⟩
  · rw [ho, if_pos rfl, if_pos (by decide)]
    exact R_rel hS hR hn h hN hnr hBR hb (fun _ _ => by simp only [rs_7 hS, b1_so, hc, is_5 hS hb, gd_tr])
  · have h8 : ¬ nI r < 0 := nI_pos (by omega)
    rw [ho, if_neg (nI_m1 (by omega)), if_neg h8, cN_n (by omega), R_can hS hR h hr hb]
    simp only [b1_so]
    by_cases h1 : 10 * α 9 r < α 10 r + α 0 b
    · rw [if_pos h1, if_pos h1, if_pos rfl]
      exact R_rel hS hR hn h hN hnr hBR hb (fun _ _ => by simp only [rs_7 hS, b1_so, hc, is_5 hS hb, gd_tr])
    · rw [if_neg h1, if_neg h1]
      dsimp only
      rw [if_neg h8, if_neg (show ¬ (1 : Int32) = 0 by decide)]
      exact ⟨_, rfl, h, Fr_0⟩
