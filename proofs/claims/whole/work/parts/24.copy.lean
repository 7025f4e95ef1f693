/-! the copy to look ahead in: the class -/
theorem r_rg : ∀ S ∈ [148, 162], ∀ q ∈ locs8, 141 ≤ rlo S q.1 ∧ rlo S q.1 < S + 14 := by decide +kernel
theorem RE_fr {k : Bool} {S : Nat} {σ σ2 α : Mem} {nr nt : Nat} (hS : isS S) (hr : nr ≤ 12) (ht : nt ≤ 21) (hf : ∀ j, 141 ≤ j → j < S + 14 → σ2 j = σ j) (h : RE k S σ α nr nt) : RE k S σ2 α nr nt := by
  intro f i hv f1 f2
  rw [hf, h f i hv f1 f2]
  · rcases hv with ⟨a1, a2⟩ | ⟨a0, a1, a2, a3⟩
    · exact (r_rg S (isS_in hS) _ (locs8_in ⟨a1, Nat.lt_of_lt_of_le a2 (lim_le hr ht)⟩ f1 f2)).1
    · obtain ⟨t, h3, rfl⟩ := y_ex a1 a2
      rw [rlo_y]
      decide
  · rcases hv with ⟨a1, a2⟩ | ⟨a0, a1, a2, a3⟩
    · exact (r_rg S (isS_in hS) _ (locs8_in ⟨a1, Nat.lt_of_lt_of_le a2 (lim_le hr ht)⟩ f1 f2)).2
    · obtain ⟨t, h3, rfl⟩ := y_ex a1 a2
      rw [rlo_y]
      rcases hS with rfl | rfl <;> omega
def CP (P : Nat → Nat → Prop) (σ α : Mem) (nr nt : Nat) : Prop := ∀ f i, vld false f i nr nt → P f i → σ (clo 71 f i) (csl f i) = α f i
theorem CP_w {P : Nat → Nat → Prop} {σ α : Mem} {nr nt f i a b : Nat} (hr : nr ≤ 12) (ht : nt ≤ 21) (hv : vld false f i nr nt) (ea : a = clo 71 f i) (eb : b = csl f i) (h : CP P σ α nr nt) : CP (fun g j => P g j ∨ (g = f ∧ j = i)) (sI σ a b (α f i)) α nr nt := by
  subst ea eb
  intro g j hg hp
  rw [sI_at]
  by_cases e : clo 71 g j = clo 71 f i ∧ csl g j = csl f i
  · obtain ⟨rfl, rfl⟩ := c_ij (Or.inr rfl) hr ht hg hv e.1 e.2
    rw [if_pos e]
  · rw [if_neg e]
    rcases hp with hp | ⟨rfl, rfl⟩
    · exact h g j hg hp
    · exact absurd ⟨rfl, rfl⟩ e
theorem CP_i {P Q : Nat → Nat → Prop} {σ α : Mem} {nr nt : Nat} (h : CP P σ α nr nt) (e : ∀ f i, vld false f i nr nt → Q f i → P f i) : CP Q σ α nr nt := fun f i hv hq => h f i hv (e f i hv hq)
theorem CE_x {k : Bool} {σ α : Mem} {nr nt a b : Nat} {x : Int32} (hr : nr ≤ 12) (ht : nt ≤ 21) (h : CE k 1 σ α nr nt) (ha : 71 ≤ a) : CE k 1 (sI σ a b x) α nr nt := CE_fr (Or.inl rfl) hr ht (fun j hj => sI_ne (by omega)) h
theorem g71 {a : Nat} (h : 71 ≤ a ∧ a < 71 + 70) : 71 ≤ a := h.1
theorem cp_B {P : Nat → Nat → Prop} {σ α : Mem} {nr nt i : Nat} (hr : nr ≤ 12) (ht : nt ≤ 21) (hi : i < 4) (h0 : CE true 1 σ α 12 nt) (c0 : CP P σ α nr nt) : ∃ σ2, fn_X0_becomeLike σ (oB 71 i) (oB 1 i) = some σ2 ∧ Fc 71 σ σ2 ∧ CP (fun g j => P g j ∨ (j = i ∧ (g = 5 ∨ g = 6 ∨ g = 7 ∨ g = 8 ∨ g = 0 ∨ g = 1 ∨ g = 2 ∨ g = 23 ∨ g = 3 ∨ g = 4))) σ2 α nr nt := by
  have e0 : σ (oH 1 i) 0 = α 5 i := CE_5 h0 hi
  have h1 : CE true 1 (sI σ (oH 71 i) 0 (α 5 i)) α 12 nt := CE_x (Nat.le_refl 12) ht h0 (g71 (rgH hi))
  have c1 := CP_w (a := oH 71 i) (b := 0) hr ht (vl_5 (k := false) (nr := nr) (nt := nt) hi) rfl rfl c0
  have f1 : Fc 71 σ (sI σ (oH 71 i) 0 (α 5 i)) := Fc_w Fc_0 (rgH hi)
  have e1 : (sI σ (oH 71 i) 0 (α 5 i)) (oH 1 i) 1 = α 6 i := CE_6 h1 hi
  have h2 : CE true 1 (sI (sI σ (oH 71 i) 0 (α 5 i)) (oH 71 i) 1 (α 6 i)) α 12 nt := CE_x (Nat.le_refl 12) ht h1 (g71 (rgH hi))
  have c2 := CP_w (a := oH 71 i) (b := 1) hr ht (vl_6 (k := false) (nr := nr) (nt := nt) hi) rfl rfl c1
  have f2 : Fc 71 σ (sI (sI σ (oH 71 i) 0 (α 5 i)) (oH 71 i) 1 (α 6 i)) := Fc_w f1 (rgH hi)
  have e2 : (sI (sI σ (oH 71 i) 0 (α 5 i)) (oH 71 i) 1 (α 6 i)) (oK 1 i) 0 = α 7 i := CE_7 h2 hi
  have h3 : CE true 1 (sI (sI (sI σ (oH 71 i) 0 (α 5 i)) (oH 71 i) 1 (α 6 i)) (oK 71 i) 0 (α 7 i)) α 12 nt := CE_x (Nat.le_refl 12) ht h2 (g71 (rgK hi))
  have c3 := CP_w (a := oK 71 i) (b := 0) hr ht (vl_7 (k := false) (nr := nr) (nt := nt) hi) rfl rfl c2
  have f3 : Fc 71 σ (sI (sI (sI σ (oH 71 i) 0 (α 5 i)) (oH 71 i) 1 (α 6 i)) (oK 71 i) 0 (α 7 i)) := Fc_w f2 (rgK hi)
  have e3 : (sI (sI (sI σ (oH 71 i) 0 (α 5 i)) (oH 71 i) 1 (α 6 i)) (oK 71 i) 0 (α 7 i)) (oK 1 i) 1 = α 8 i := CE_8 h3 hi
  have h4 : CE true 1 (sI (sI (sI (sI σ (oH 71 i) 0 (α 5 i)) (oH 71 i) 1 (α 6 i)) (oK 71 i) 0 (α 7 i)) (oK 71 i) 1 (α 8 i)) α 12 nt := CE_x (Nat.le_refl 12) ht h3 (g71 (rgK hi))
  have c4 := CP_w (a := oK 71 i) (b := 1) hr ht (vl_8 (k := false) (nr := nr) (nt := nt) hi) rfl rfl c3
  have f4 : Fc 71 σ (sI (sI (sI (sI σ (oH 71 i) 0 (α 5 i)) (oH 71 i) 1 (α 6 i)) (oK 71 i) 0 (α 7 i)) (oK 71 i) 1 (α 8 i)) := Fc_w f3 (rgK hi)
  have e4 : (sI (sI (sI (sI σ (oH 71 i) 0 (α 5 i)) (oH 71 i) 1 (α 6 i)) (oK 71 i) 0 (α 7 i)) (oK 71 i) 1 (α 8 i)) (oB 1 i) 2 = α 0 i := CE_0 h4 hi
  have h5 : CE true 1 (sI (sI (sI (sI (sI σ (oH 71 i) 0 (α 5 i)) (oH 71 i) 1 (α 6 i)) (oK 71 i) 0 (α 7 i)) (oK 71 i) 1 (α 8 i)) (oB 71 i) 2 (α 0 i)) α 12 nt := CE_x (Nat.le_refl 12) ht h4 (g71 (rgB hi))
  have c5 := CP_w (a := oB 71 i) (b := 2) hr ht (vl_0 (k := false) (nr := nr) (nt := nt) hi) rfl rfl c4
  have f5 : Fc 71 σ (sI (sI (sI (sI (sI σ (oH 71 i) 0 (α 5 i)) (oH 71 i) 1 (α 6 i)) (oK 71 i) 0 (α 7 i)) (oK 71 i) 1 (α 8 i)) (oB 71 i) 2 (α 0 i)) := Fc_w f4 (rgB hi)
  have e5 : (sI (sI (sI (sI (sI σ (oH 71 i) 0 (α 5 i)) (oH 71 i) 1 (α 6 i)) (oK 71 i) 0 (α 7 i)) (oK 71 i) 1 (α 8 i)) (oB 71 i) 2 (α 0 i)) (oB 1 i) 3 = α 1 i := CE_1 h5 hi
  have h6 : CE true 1 (sI (sI (sI (sI (sI (sI σ (oH 71 i) 0 (α 5 i)) (oH 71 i) 1 (α 6 i)) (oK 71 i) 0 (α 7 i)) (oK 71 i) 1 (α 8 i)) (oB 71 i) 2 (α 0 i)) (oB 71 i) 3 (α 1 i)) α 12 nt := CE_x (Nat.le_refl 12) ht h5 (g71 (rgB hi))
  have c6 := CP_w (a := oB 71 i) (b := 3) hr ht (vl_1 (k := false) (nr := nr) (nt := nt) hi) rfl rfl c5
  have f6 : Fc 71 σ (sI (sI (sI (sI (sI (sI σ (oH 71 i) 0 (α 5 i)) (oH 71 i) 1 (α 6 i)) (oK 71 i) 0 (α 7 i)) (oK 71 i) 1 (α 8 i)) (oB 71 i) 2 (α 0 i)) (oB 71 i) 3 (α 1 i)) := Fc_w f5 (rgB hi)
  have e6 : (sI (sI (sI (sI (sI (sI σ (oH 71 i) 0 (α 5 i)) (oH 71 i) 1 (α 6 i)) (oK 71 i) 0 (α 7 i)) (oK 71 i) 1 (α 8 i)) (oB 71 i) 2 (α 0 i)) (oB 71 i) 3 (α 1 i)) (oB 1 i) 4 = α 2 i := CE_2 h6 hi
  have h7 : CE true 1 (sI (sI (sI (sI (sI (sI (sI σ (oH 71 i) 0 (α 5 i)) (oH 71 i) 1 (α 6 i)) (oK 71 i) 0 (α 7 i)) (oK 71 i) 1 (α 8 i)) (oB 71 i) 2 (α 0 i)) (oB 71 i) 3 (α 1 i)) (oB 71 i) 4 (α 2 i)) α 12 nt := CE_x (Nat.le_refl 12) ht h6 (g71 (rgB hi))
  have c7 := CP_w (a := oB 71 i) (b := 4) hr ht (vl_2 (k := false) (nr := nr) (nt := nt) hi) rfl rfl c6
  have f7 : Fc 71 σ (sI (sI (sI (sI (sI (sI (sI σ (oH 71 i) 0 (α 5 i)) (oH 71 i) 1 (α 6 i)) (oK 71 i) 0 (α 7 i)) (oK 71 i) 1 (α 8 i)) (oB 71 i) 2 (α 0 i)) (oB 71 i) 3 (α 1 i)) (oB 71 i) 4 (α 2 i)) := Fc_w f6 (rgB hi)
  have e7 : (sI (sI (sI (sI (sI (sI (sI σ (oH 71 i) 0 (α 5 i)) (oH 71 i) 1 (α 6 i)) (oK 71 i) 0 (α 7 i)) (oK 71 i) 1 (α 8 i)) (oB 71 i) 2 (α 0 i)) (oB 71 i) 3 (α 1 i)) (oB 71 i) 4 (α 2 i)) (oB 1 i) 5 = α 23 i := CE_23 h7 hi
  have h8 : CE true 1 (sI (sI (sI (sI (sI (sI (sI (sI σ (oH 71 i) 0 (α 5 i)) (oH 71 i) 1 (α 6 i)) (oK 71 i) 0 (α 7 i)) (oK 71 i) 1 (α 8 i)) (oB 71 i) 2 (α 0 i)) (oB 71 i) 3 (α 1 i)) (oB 71 i) 4 (α 2 i)) (oB 71 i) 5 (α 23 i)) α 12 nt := CE_x (Nat.le_refl 12) ht h7 (g71 (rgB hi))
  have c8 := CP_w (a := oB 71 i) (b := 5) hr ht (vl_23 (k := false) (nr := nr) (nt := nt) hi) rfl rfl c7
  have f8 : Fc 71 σ (sI (sI (sI (sI (sI (sI (sI (sI σ (oH 71 i) 0 (α 5 i)) (oH 71 i) 1 (α 6 i)) (oK 71 i) 0 (α 7 i)) (oK 71 i) 1 (α 8 i)) (oB 71 i) 2 (α 0 i)) (oB 71 i) 3 (α 1 i)) (oB 71 i) 4 (α 2 i)) (oB 71 i) 5 (α 23 i)) := Fc_w f7 (rgB hi)
  have e8 : (sI (sI (sI (sI (sI (sI (sI (sI σ (oH 71 i) 0 (α 5 i)) (oH 71 i) 1 (α 6 i)) (oK 71 i) 0 (α 7 i)) (oK 71 i) 1 (α 8 i)) (oB 71 i) 2 (α 0 i)) (oB 71 i) 3 (α 1 i)) (oB 71 i) 4 (α 2 i)) (oB 71 i) 5 (α 23 i)) (oB 1 i) 6 = α 3 i := CE_3 h8 hi
  have h9 : CE true 1 (sI (sI (sI (sI (sI (sI (sI (sI (sI σ (oH 71 i) 0 (α 5 i)) (oH 71 i) 1 (α 6 i)) (oK 71 i) 0 (α 7 i)) (oK 71 i) 1 (α 8 i)) (oB 71 i) 2 (α 0 i)) (oB 71 i) 3 (α 1 i)) (oB 71 i) 4 (α 2 i)) (oB 71 i) 5 (α 23 i)) (oB 71 i) 6 (α 3 i)) α 12 nt := CE_x (Nat.le_refl 12) ht h8 (g71 (rgB hi))
  have c9 := CP_w (a := oB 71 i) (b := 6) hr ht (vl_3 (k := false) (nr := nr) (nt := nt) hi) rfl rfl c8
  have f9 : Fc 71 σ (sI (sI (sI (sI (sI (sI (sI (sI (sI σ (oH 71 i) 0 (α 5 i)) (oH 71 i) 1 (α 6 i)) (oK 71 i) 0 (α 7 i)) (oK 71 i) 1 (α 8 i)) (oB 71 i) 2 (α 0 i)) (oB 71 i) 3 (α 1 i)) (oB 71 i) 4 (α 2 i)) (oB 71 i) 5 (α 23 i)) (oB 71 i) 6 (α 3 i)) := Fc_w f8 (rgB hi)
  have e9 : (sI (sI (sI (sI (sI (sI (sI (sI (sI σ (oH 71 i) 0 (α 5 i)) (oH 71 i) 1 (α 6 i)) (oK 71 i) 0 (α 7 i)) (oK 71 i) 1 (α 8 i)) (oB 71 i) 2 (α 0 i)) (oB 71 i) 3 (α 1 i)) (oB 71 i) 4 (α 2 i)) (oB 71 i) 5 (α 23 i)) (oB 71 i) 6 (α 3 i)) (oB 1 i) 7 = α 4 i := CE_4 h9 hi
  have h10 : CE true 1 (sI (sI (sI (sI (sI (sI (sI (sI (sI (sI σ (oH 71 i) 0 (α 5 i)) (oH 71 i) 1 (α 6 i)) (oK 71 i) 0 (α 7 i)) (oK 71 i) 1 (α 8 i)) (oB 71 i) 2 (α 0 i)) (oB 71 i) 3 (α 1 i)) (oB 71 i) 4 (α 2 i)) (oB 71 i) 5 (α 23 i)) (oB 71 i) 6 (α 3 i)) (oB 71 i) 7 (α 4 i)) α 12 nt := CE_x (Nat.le_refl 12) ht h9 (g71 (rgB hi))
  have c10 := CP_w (a := oB 71 i) (b := 7) hr ht (vl_4 (k := false) (nr := nr) (nt := nt) hi) rfl rfl c9
  have f10 : Fc 71 σ (sI (sI (sI (sI (sI (sI (sI (sI (sI (sI σ (oH 71 i) 0 (α 5 i)) (oH 71 i) 1 (α 6 i)) (oK 71 i) 0 (α 7 i)) (oK 71 i) 1 (α 8 i)) (oB 71 i) 2 (α 0 i)) (oB 71 i) 3 (α 1 i)) (oB 71 i) 4 (α 2 i)) (oB 71 i) 5 (α 23 i)) (oB 71 i) 6 (α 3 i)) (oB 71 i) 7 (α 4 i)) := Fc_w f9 (rgB hi)
  refine ⟨_, ?_, f10, CP_i c10 (fun f j hv hq => by
    rcases hq with hp | ⟨rfl, hq⟩
    · simp only [hp, true_or]
    · rcases hq with rfl | rfl | rfl | rfl | rfl | rfl | rfl | rfl | rfl | rfl <;> simp)⟩
  unfold fn_X0_becomeLike fn_X1_becomeLike
  simp only [rf_B0 (Or.inr rfl : isT 71) hi, rf_B0 (Or.inl rfl : isT 1) hi, rf_B1 (Or.inr rfl : isT 71) hi, rf_B1 (Or.inl rfl : isT 1) hi, ck_H (Or.inr rfl : isT 71) hi, ck_H (Or.inl rfl : isT 1) hi, ck_K (Or.inr rfl : isT 71) hi, ck_K (Or.inl rfl : isT 1) hi, ck_B (Or.inr rfl : isT 71) hi, ck_B (Or.inl rfl : isT 1) hi, gd_tr, b1_so, nm_so, e0, e1, e2, e3, e4, e5, e6, e7, e8, e9]
theorem cp_R {P : Nat → Nat → Prop} {σ α : Mem} {nr nt i : Nat} (hr : nr ≤ 12) (ht : nt ≤ 21) (hi : i < nr) (h0 : CE true 1 σ α 12 nt) (c0 : CP P σ α nr nt) : ∃ σ2, fn_X2_becomeLike σ (oR 71 i) (oR 1 i) = some σ2 ∧ Fc 71 σ σ2 ∧ CP (fun g j => P g j ∨ (j = i ∧ (g = 9 ∨ g = 10 ∨ g = 22 ∨ g = 11 ∨ g = 12))) σ2 α nr nt := by
  have h12 : i < 12 := Nat.lt_of_lt_of_le hi hr
  have e0 : σ (oR 1 i) 0 = α 9 i := CE_9 h0 h12
  have h1 : CE true 1 (sI σ (oR 71 i) 0 (α 9 i)) α 12 nt := CE_x (Nat.le_refl 12) ht h0 (g71 (rgR h12))
  have c1 := CP_w (a := oR 71 i) (b := 0) hr ht (vl_9 (k := false) (nr := nr) (nt := nt) hi) rfl rfl c0
  have f1 : Fc 71 σ (sI σ (oR 71 i) 0 (α 9 i)) := Fc_w Fc_0 (rgR h12)
  have e1 : (sI σ (oR 71 i) 0 (α 9 i)) (oR 1 i) 1 = α 10 i := CE_10 h1 h12
  have h2 : CE true 1 (sI (sI σ (oR 71 i) 0 (α 9 i)) (oR 71 i) 1 (α 10 i)) α 12 nt := CE_x (Nat.le_refl 12) ht h1 (g71 (rgR h12))
  have c2 := CP_w (a := oR 71 i) (b := 1) hr ht (vl_10 (k := false) (nr := nr) (nt := nt) hi) rfl rfl c1
  have f2 : Fc 71 σ (sI (sI σ (oR 71 i) 0 (α 9 i)) (oR 71 i) 1 (α 10 i)) := Fc_w f1 (rgR h12)
  have e2 : (sI (sI σ (oR 71 i) 0 (α 9 i)) (oR 71 i) 1 (α 10 i)) (oR 1 i) 2 = α 22 i := CE_22 h2 h12
  have h3 : CE true 1 (sI (sI (sI σ (oR 71 i) 0 (α 9 i)) (oR 71 i) 1 (α 10 i)) (oR 71 i) 2 (α 22 i)) α 12 nt := CE_x (Nat.le_refl 12) ht h2 (g71 (rgR h12))
  have c3 := CP_w (a := oR 71 i) (b := 2) hr ht (vl_22 (k := false) (nr := nr) (nt := nt) hi) rfl rfl c2
  have f3 : Fc 71 σ (sI (sI (sI σ (oR 71 i) 0 (α 9 i)) (oR 71 i) 1 (α 10 i)) (oR 71 i) 2 (α 22 i)) := Fc_w f2 (rgR h12)
  have e3 : (sI (sI (sI σ (oR 71 i) 0 (α 9 i)) (oR 71 i) 1 (α 10 i)) (oR 71 i) 2 (α 22 i)) (oR 1 i) 3 = α 11 i := CE_11 h3 h12
  have h4 : CE true 1 (sI (sI (sI (sI σ (oR 71 i) 0 (α 9 i)) (oR 71 i) 1 (α 10 i)) (oR 71 i) 2 (α 22 i)) (oR 71 i) 3 (α 11 i)) α 12 nt := CE_x (Nat.le_refl 12) ht h3 (g71 (rgR h12))
  have c4 := CP_w (a := oR 71 i) (b := 3) hr ht (vl_11 (k := false) (nr := nr) (nt := nt) hi) rfl rfl c3
  have f4 : Fc 71 σ (sI (sI (sI (sI σ (oR 71 i) 0 (α 9 i)) (oR 71 i) 1 (α 10 i)) (oR 71 i) 2 (α 22 i)) (oR 71 i) 3 (α 11 i)) := Fc_w f3 (rgR h12)
  have e4 : (sI (sI (sI (sI σ (oR 71 i) 0 (α 9 i)) (oR 71 i) 1 (α 10 i)) (oR 71 i) 2 (α 22 i)) (oR 71 i) 3 (α 11 i)) (oR 1 i) 4 = α 12 i := CE_12 h4 h12
  have h5 : CE true 1 (sI (sI (sI (sI (sI σ (oR 71 i) 0 (α 9 i)) (oR 71 i) 1 (α 10 i)) (oR 71 i) 2 (α 22 i)) (oR 71 i) 3 (α 11 i)) (oR 71 i) 4 (α 12 i)) α 12 nt := CE_x (Nat.le_refl 12) ht h4 (g71 (rgR h12))
  have c5 := CP_w (a := oR 71 i) (b := 4) hr ht (vl_12 (k := false) (nr := nr) (nt := nt) hi) rfl rfl c4
  have f5 : Fc 71 σ (sI (sI (sI (sI (sI σ (oR 71 i) 0 (α 9 i)) (oR 71 i) 1 (α 10 i)) (oR 71 i) 2 (α 22 i)) (oR 71 i) 3 (α 11 i)) (oR 71 i) 4 (α 12 i)) := Fc_w f4 (rgR h12)
  refine ⟨_, ?_, f5, CP_i c5 (fun f j hv hq => by
    rcases hq with hp | ⟨rfl, hq⟩
    · simp only [hp, true_or]
    · rcases hq with rfl | rfl | rfl | rfl | rfl <;> simp)⟩
  unfold fn_X2_becomeLike
  simp only [ck_R (Or.inr rfl : isT 71) h12, ck_R (Or.inl rfl : isT 1) h12, gd_tr, b1_so, nm_so, e0, e1, e2, e3, e4]
theorem cp_O {P : Nat → Nat → Prop} {σ α : Mem} {nr nt i : Nat} (hr : nr ≤ 12) (ht : nt ≤ 21) (hi : i < nt) (h0 : CE true 1 σ α 12 nt) (c0 : CP P σ α nr nt) : ∃ σ2, fn_X3_becomeLike σ (oO 71 i) (oO 1 i) = some σ2 ∧ Fc 71 σ σ2 ∧ CP (fun g j => P g j ∨ (j = i ∧ (g = 13 ∨ g = 14 ∨ g = 15 ∨ g = 16 ∨ g = 17 ∨ g = 18 ∨ g = 19))) σ2 α nr nt := by
  have h21 : i < 21 := Nat.lt_of_lt_of_le hi ht
  have e0 : σ (oO 1 i) 1 = α 13 i := CE_13 h0 hi
  have h1 : CE true 1 (sI σ (oO 71 i) 1 (α 13 i)) α 12 nt := CE_x (Nat.le_refl 12) ht h0 (g71 (rgO h21))
  have c1 := CP_w (a := oO 71 i) (b := 1) hr ht (vl_13 (k := false) (nr := nr) (nt := nt) hi) rfl rfl c0
  have f1 : Fc 71 σ (sI σ (oO 71 i) 1 (α 13 i)) := Fc_w Fc_0 (rgO h21)
  have e1 : (sI σ (oO 71 i) 1 (α 13 i)) (oO 1 i) 2 = α 14 i := CE_14 h1 hi
  have h2 : CE true 1 (sI (sI σ (oO 71 i) 1 (α 13 i)) (oO 71 i) 2 (α 14 i)) α 12 nt := CE_x (Nat.le_refl 12) ht h1 (g71 (rgO h21))
  have c2 := CP_w (a := oO 71 i) (b := 2) hr ht (vl_14 (k := false) (nr := nr) (nt := nt) hi) rfl rfl c1
  have f2 : Fc 71 σ (sI (sI σ (oO 71 i) 1 (α 13 i)) (oO 71 i) 2 (α 14 i)) := Fc_w f1 (rgO h21)
  have e2 : (sI (sI σ (oO 71 i) 1 (α 13 i)) (oO 71 i) 2 (α 14 i)) (oO 1 i) 3 = α 15 i := CE_15 h2 hi
  have h3 : CE true 1 (sI (sI (sI σ (oO 71 i) 1 (α 13 i)) (oO 71 i) 2 (α 14 i)) (oO 71 i) 3 (α 15 i)) α 12 nt := CE_x (Nat.le_refl 12) ht h2 (g71 (rgO h21))
  have c3 := CP_w (a := oO 71 i) (b := 3) hr ht (vl_15 (k := false) (nr := nr) (nt := nt) hi) rfl rfl c2
  have f3 : Fc 71 σ (sI (sI (sI σ (oO 71 i) 1 (α 13 i)) (oO 71 i) 2 (α 14 i)) (oO 71 i) 3 (α 15 i)) := Fc_w f2 (rgO h21)
  have e3 : (sI (sI (sI σ (oO 71 i) 1 (α 13 i)) (oO 71 i) 2 (α 14 i)) (oO 71 i) 3 (α 15 i)) (oO 1 i) 4 = α 16 i := CE_16 h3 hi
  have h4 : CE true 1 (sI (sI (sI (sI σ (oO 71 i) 1 (α 13 i)) (oO 71 i) 2 (α 14 i)) (oO 71 i) 3 (α 15 i)) (oO 71 i) 4 (α 16 i)) α 12 nt := CE_x (Nat.le_refl 12) ht h3 (g71 (rgO h21))
  have c4 := CP_w (a := oO 71 i) (b := 4) hr ht (vl_16 (k := false) (nr := nr) (nt := nt) hi) rfl rfl c3
  have f4 : Fc 71 σ (sI (sI (sI (sI σ (oO 71 i) 1 (α 13 i)) (oO 71 i) 2 (α 14 i)) (oO 71 i) 3 (α 15 i)) (oO 71 i) 4 (α 16 i)) := Fc_w f3 (rgO h21)
  have e4 : (sI (sI (sI (sI σ (oO 71 i) 1 (α 13 i)) (oO 71 i) 2 (α 14 i)) (oO 71 i) 3 (α 15 i)) (oO 71 i) 4 (α 16 i)) (oO 1 i) 5 = α 17 i := CE_17 h4 hi
  have h5 : CE true 1 (sI (sI (sI (sI (sI σ (oO 71 i) 1 (α 13 i)) (oO 71 i) 2 (α 14 i)) (oO 71 i) 3 (α 15 i)) (oO 71 i) 4 (α 16 i)) (oO 71 i) 5 (α 17 i)) α 12 nt := CE_x (Nat.le_refl 12) ht h4 (g71 (rgO h21))
  have c5 := CP_w (a := oO 71 i) (b := 5) hr ht (vl_17 (k := false) (nr := nr) (nt := nt) hi) rfl rfl c4
  have f5 : Fc 71 σ (sI (sI (sI (sI (sI σ (oO 71 i) 1 (α 13 i)) (oO 71 i) 2 (α 14 i)) (oO 71 i) 3 (α 15 i)) (oO 71 i) 4 (α 16 i)) (oO 71 i) 5 (α 17 i)) := Fc_w f4 (rgO h21)
  have e5 : (sI (sI (sI (sI (sI σ (oO 71 i) 1 (α 13 i)) (oO 71 i) 2 (α 14 i)) (oO 71 i) 3 (α 15 i)) (oO 71 i) 4 (α 16 i)) (oO 71 i) 5 (α 17 i)) (oO 1 i) 6 = α 18 i := CE_18 h5 hi
  have h6 : CE true 1 (sI (sI (sI (sI (sI (sI σ (oO 71 i) 1 (α 13 i)) (oO 71 i) 2 (α 14 i)) (oO 71 i) 3 (α 15 i)) (oO 71 i) 4 (α 16 i)) (oO 71 i) 5 (α 17 i)) (oO 71 i) 6 (α 18 i)) α 12 nt := CE_x (Nat.le_refl 12) ht h5 (g71 (rgO h21))
  have c6 := CP_w (a := oO 71 i) (b := 6) hr ht (vl_18 (k := false) (nr := nr) (nt := nt) hi) rfl rfl c5
  have f6 : Fc 71 σ (sI (sI (sI (sI (sI (sI σ (oO 71 i) 1 (α 13 i)) (oO 71 i) 2 (α 14 i)) (oO 71 i) 3 (α 15 i)) (oO 71 i) 4 (α 16 i)) (oO 71 i) 5 (α 17 i)) (oO 71 i) 6 (α 18 i)) := Fc_w f5 (rgO h21)
  have e6 : (sI (sI (sI (sI (sI (sI σ (oO 71 i) 1 (α 13 i)) (oO 71 i) 2 (α 14 i)) (oO 71 i) 3 (α 15 i)) (oO 71 i) 4 (α 16 i)) (oO 71 i) 5 (α 17 i)) (oO 71 i) 6 (α 18 i)) (oO 1 i) 7 = α 19 i := CE_19 h6 hi
  have h7 : CE true 1 (sI (sI (sI (sI (sI (sI (sI σ (oO 71 i) 1 (α 13 i)) (oO 71 i) 2 (α 14 i)) (oO 71 i) 3 (α 15 i)) (oO 71 i) 4 (α 16 i)) (oO 71 i) 5 (α 17 i)) (oO 71 i) 6 (α 18 i)) (oO 71 i) 7 (α 19 i)) α 12 nt := CE_x (Nat.le_refl 12) ht h6 (g71 (rgO h21))
  have c7 := CP_w (a := oO 71 i) (b := 7) hr ht (vl_19 (k := false) (nr := nr) (nt := nt) hi) rfl rfl c6
  have f7 : Fc 71 σ (sI (sI (sI (sI (sI (sI (sI σ (oO 71 i) 1 (α 13 i)) (oO 71 i) 2 (α 14 i)) (oO 71 i) 3 (α 15 i)) (oO 71 i) 4 (α 16 i)) (oO 71 i) 5 (α 17 i)) (oO 71 i) 6 (α 18 i)) (oO 71 i) 7 (α 19 i)) := Fc_w f6 (rgO h21)
  refine ⟨_, ?_, f7, CP_i c7 (fun f j hv hq => by
    rcases hq with hp | ⟨rfl, hq⟩
    · simp only [hp, true_or]
    · rcases hq with rfl | rfl | rfl | rfl | rfl | rfl | rfl <;> simp)⟩
  unfold fn_X3_becomeLike
  simp only [ck_O (Or.inr rfl : isT 71) h21, ck_O (Or.inl rfl : isT 1) h21, gd_tr, b1_so, nm_so, e0, e1, e2, e3, e4, e5, e6]
def bfld (g : Nat) : Prop := g < 9 ∨ g = 23
def rfld (g : Nat) : Prop := (9 ≤ g ∧ g < 13) ∨ g = 22
def tfld (g : Nat) : Prop := 13 ≤ g ∧ g < 20
theorem CE_c {σ σ2 α : Mem} {nt : Nat} (ht : nt ≤ 21) (f : Fc 71 σ σ2) (h : CE true 1 σ α 12 nt) : CE true 1 σ2 α 12 nt := CE_fr (Or.inl rfl) (Nat.le_refl 12) ht (fun j hj => f j (Or.inl (by omega))) h
theorem cl_B {nr nt : Nat} (hr : nr ≤ 12) (ht : nt ≤ 21) {α : Mem} {K : Int32 → Mem → Option Mem} : ∀ d i fuel σ, i + d = 4 → d < fuel → CE true 1 σ α 12 nt → CP (fun g j => bfld g ∧ j < i) σ α nr nt → ∃ σ2, lp_X4_becomeLike_2 71 1 K fuel (nI i) σ = K (nI 4) σ2 ∧ Fc 71 σ σ2 ∧ CP (fun g j => bfld g ∧ j < 4) σ2 α nr nt
  | 0, i, fuel + 1, σ, hi, _, h, c => by
    have e : i = 4 := by omega
    subst e
    refine ⟨σ, ?_, Fc_0, c⟩
    unfold lp_X4_becomeLike_2
    rw [if_pos (show (4 : Int32) ≤ nI 4 by decide)]
  | d + 1, i, fuel + 1, σ, hi, hf, h, c => by
    have hi4 : i < 4 := by omega
    obtain ⟨s1, e1, f1, c1⟩ := cp_B hr ht hi4 h c
    unfold lp_X4_becomeLike_2
    rw [if_neg (show ¬ (4 : Int32) ≤ nI i from nI_ge (b := 4) hi4 (by omega)), rf_T0 (Or.inr rfl), b1_so, ea_B (Or.inr rfl) hi4, b1_so, rf_T0 (Or.inl rfl), b1_so, ea_B (Or.inl rfl) hi4, b1_so, ck_B (Or.inr rfl) hi4, gd_tr, e1, b1_so, nm_so, nI_1]
    obtain ⟨s2, e2, f2, c2⟩ := cl_B hr ht (α := α) (K := K) d (i + 1) fuel s1 (by omega) (by omega) (CE_c ht f1 h) (CP_i c1 (fun f j hv hq => by unfold bfld at hq ⊢; omega))
    exact ⟨s2, e2, Fc_t f1 f2, c2⟩
theorem cl_R {nr nt : Nat} (hr : nr ≤ 12) (ht : nt ≤ 21) {α : Mem} (hN : α 24 0 = nI nr) {K : Int32 → Mem → Option Mem} : ∀ d i fuel σ, i + d = nr → d < fuel → CE true 1 σ α 12 nt → CP (fun g j => bfld g ∨ (rfld g ∧ j < i)) σ α nr nt → ∃ σ2, lp_X4_becomeLike_30 71 1 K fuel (nI i) σ = K (nI nr) σ2 ∧ Fc 71 σ σ2 ∧ CP (fun g j => bfld g ∨ (rfld g ∧ j < nr)) σ2 α nr nt
  | 0, i, fuel + 1, σ, hi, _, h, c => by
    have e : i = nr := by omega
    subst e
    refine ⟨σ, ?_, Fc_0, c⟩
    unfold lp_X4_becomeLike_30
    rw [ck_T (Or.inl rfl), gd_tr, CE_24 h, hN, if_pos (nI_le (Nat.le_refl _) (by omega))]
  | d + 1, i, fuel + 1, σ, hi, hf, h, c => by
    have hir : i < nr := by omega
    have h12 : i < 12 := by omega
    obtain ⟨s1, e1, f1, c1⟩ := cp_R hr ht hir h c
    unfold lp_X4_becomeLike_30
    rw [ck_T (Or.inl rfl), gd_tr, CE_24 h, hN, if_neg (nI_ge hir (by omega)), rf_T1 (Or.inr rfl), b1_so, ea_R (Or.inr rfl) h12, b1_so, rf_T1 (Or.inl rfl), b1_so, ea_R (Or.inl rfl) h12, b1_so, ck_R (Or.inr rfl) h12, gd_tr, e1, b1_so, nm_so, nI_1]
    obtain ⟨s2, e2, f2, c2⟩ := cl_R hr ht hN (K := K) d (i + 1) fuel s1 (by omega) (by omega) (CE_c ht f1 h) (CP_i c1 (fun f j hv hq => by unfold bfld rfld at hq ⊢; omega))
    exact ⟨s2, e2, Fc_t f1 f2, c2⟩
theorem cl_O {nr nt : Nat} (hr : nr ≤ 12) (ht : nt ≤ 21) {α : Mem} (hN : α 25 0 = nI nt) {K : Int32 → Mem → Option Mem} : ∀ d i fuel σ, i + d = nt → d < fuel → CE true 1 σ α 12 nt → CP (fun g j => bfld g ∨ rfld g ∨ (tfld g ∧ j < i)) σ α nr nt → ∃ σ2, lp_X4_becomeLike_61 71 1 K fuel (nI i) σ = K (nI nt) σ2 ∧ Fc 71 σ σ2 ∧ CP (fun g j => bfld g ∨ rfld g ∨ (tfld g ∧ j < nt)) σ2 α nr nt
  | 0, i, fuel + 1, σ, hi, _, h, c => by
    have e : i = nt := by omega
    subst e
    refine ⟨σ, ?_, Fc_0, c⟩
    unfold lp_X4_becomeLike_61
    rw [ck_T (Or.inl rfl), gd_tr, CE_25 h, hN, if_pos (nI_le (Nat.le_refl _) (by omega))]
  | d + 1, i, fuel + 1, σ, hi, hf, h, c => by
    have hir : i < nt := by omega
    have h21 : i < 21 := by omega
    obtain ⟨s1, e1, f1, c1⟩ := cp_O hr ht hir h c
    unfold lp_X4_becomeLike_61
    rw [ck_T (Or.inl rfl), gd_tr, CE_25 h, hN, if_neg (nI_ge hir (by omega)), rf_T2 (Or.inr rfl), b1_so, ea_O (Or.inr rfl) h21, b1_so, rf_T2 (Or.inl rfl), b1_so, ea_O (Or.inl rfl) h21, b1_so, ck_O (Or.inr rfl) h21, gd_tr, e1, b1_so, nm_so, nI_1]
    obtain ⟨s2, e2, f2, c2⟩ := cl_O hr ht hN (K := K) d (i + 1) fuel s1 (by omega) (by omega) (CE_c ht f1 h) (CP_i c1 (fun f j hv hq => by unfold bfld rfld tfld at hq ⊢; omega))
    exact ⟨s2, e2, Fc_t f1 f2, c2⟩
theorem lim_fld {f i nr nt : Nat} (h : f < 26 ∧ i < lim f nr nt) : (bfld f ∧ i < 4) ∨ (rfld f ∧ i < nr) ∨ (tfld f ∧ i < nt) ∨ (f = 20 ∧ i = 0) ∨ (f = 21 ∧ i = 0) ∨ (f = 24 ∧ i = 0) ∨ (f = 25 ∧ i = 0) := by
  obtain ⟨h1, h2⟩ := h
  unfold lim at h2
  unfold bfld rfld tfld
  by_cases e1 : f < 9
  · rw [if_pos e1] at h2; omega
  · rw [if_neg e1] at h2
    by_cases e2 : f < 13
    · rw [if_pos e2] at h2; omega
    · rw [if_neg e2] at h2
      by_cases e3 : f < 20
      · rw [if_pos e3] at h2; omega
      · rw [if_neg e3] at h2
        by_cases e4 : f = 22
        · rw [if_pos e4] at h2; omega
        · rw [if_neg e4] at h2
          by_cases e5 : f = 23
          · rw [if_pos e5] at h2; omega
          · rw [if_neg e5] at h2; omega
theorem C_become {nr nt : Nat} {σ α : Mem} (hr : nr ≤ 12) (ht : nt ≤ 21) (hN : α 24 0 = nI nr) (hN2 : α 25 0 = nI nt) (h : CE true 1 σ α 12 nt) : cR false 71 nr nt σ α (fn_X4_becomeLike σ 71 1) := by
  unfold fn_X4_becomeLike
  generalize hK3 : (fun (x23 : Int32) (σ24 : Mem) => gd (ck 1 4) (gd (ck 71 4) (nm (sI σ24 71 3 (σ24 1 3)) (fun σ25 => gd (ck 1 4) (gd (ck 71 4) (nm (sI σ25 71 4 (σ25 1 4)) (fun σ26 => gd (ck 1 4) (gd (ck 71 4) (nm (sI σ26 71 5 (σ26 1 5)) (fun σ27 => gd (ck 1 4) (gd (ck 71 4) (nm (sI σ27 71 6 (σ27 1 6)) (fun σ28 => (some σ28)))))))))))))) = K3
  generalize hK2 : (fun (x15 : Int32) (σ16 : Mem) => lp_X4_becomeLike_61 71 1 K3 30 0 σ16) = K2
  generalize hK1 : (fun (x7 : Int32) (σ8 : Mem) => lp_X4_becomeLike_30 71 1 K2 30 0 σ8) = K1
  obtain ⟨s1, e1, f1, c1⟩ := cl_B hr ht (α := α) (K := K1) 4 0 30 σ (by omega) (by omega) h (fun f i hv hq => absurd hq.2 (Nat.not_lt_zero _))
  have h1 := CE_c ht f1 h
  obtain ⟨s2, e2, f2, c2⟩ := cl_R hr ht hN (K := K2) nr 0 30 s1 (by omega) (by omega) h1 (CP_i c1 (fun f i hv hq => by
    rcases hq with hq | hq
    · rcases hv with hv | hv
      · have := lim_fld hv
        unfold bfld rfld tfld at *
        omega
      · exact absurd hv.1 (by decide)
    · exact absurd hq.2 (Nat.not_lt_zero _)))
  have h2 := CE_c ht f2 h1
  obtain ⟨s3, e3, f3, c3⟩ := cl_O hr ht hN2 (K := K3) nt 0 30 s2 (by omega) (by omega) h2 (CP_i c2 (fun f i hv hq => by
    rcases hv with hv | hv
    · have := lim_fld hv
      unfold bfld rfld tfld at *
      omega
    · exact absurd hv.1 (by decide)))
  have h3 := CE_c ht f3 h2
  have q0 : s3 1 3 = α 20 0 := CE_20 h3
  have h4 : CE true 1 (sI s3 71 3 (α 20 0)) α 12 nt := CE_x (Nat.le_refl 12) ht h3 (Nat.le_refl 71)
  have q1 : sI s3 71 3 (α 20 0) 1 4 = α 24 0 := CE_24 h4
  have h5 : CE true 1 (sI (sI s3 71 3 (α 20 0)) 71 4 (α 24 0)) α 12 nt := CE_x (Nat.le_refl 12) ht h4 (Nat.le_refl 71)
  have q2 : sI (sI s3 71 3 (α 20 0)) 71 4 (α 24 0) 1 5 = α 25 0 := CE_25 h5
  have h6 : CE true 1 (sI (sI (sI s3 71 3 (α 20 0)) 71 4 (α 24 0)) 71 5 (α 25 0)) α 12 nt := CE_x (Nat.le_refl 12) ht h5 (Nat.le_refl 71)
  have q3 : sI (sI (sI s3 71 3 (α 20 0)) 71 4 (α 24 0)) 71 5 (α 25 0) 1 6 = α 21 0 := CE_21 h6
  have c4 := CP_w (a := 71) (b := 3) hr ht (vl_20 (k := false) (nr := nr) (nt := nt)) rfl rfl c3
  have c5 := CP_w (a := 71) (b := 4) hr ht (vl_24 (k := false) (nr := nr) (nt := nt)) rfl rfl c4
  have c6 := CP_w (a := 71) (b := 5) hr ht (vl_25 (k := false) (nr := nr) (nt := nt)) rfl rfl c5
  have c7 := CP_w (a := 71) (b := 6) hr ht (vl_21 (k := false) (nr := nr) (nt := nt)) rfl rfl c6
  rw [nI_0] at e1 e2 e3
  refine ⟨_, ?_, fun f i hv => c7 f i hv ?_, Fc_w (Fc_w (Fc_w (Fc_w (Fc_t (Fc_t f1 f2) f3) rgT) rgT) rgT) rgT⟩
  · rw [e1, ← hK1]
    show lp_X4_becomeLike_30 71 1 K2 30 0 s1 = _
    rw [e2, ← hK2]
    show lp_X4_becomeLike_61 71 1 K3 30 0 s2 = _
    rw [e3, ← hK3]
    simp only [ck_T (Or.inl rfl : isT 1), ck_T (Or.inr rfl : isT 71), gd_tr, nm_so, q0, q1, q2, q3]
  · rcases hv with hv | hv
    · have := lim_fld hv
      unfold bfld rfld tfld at *
      omega
    · exact absurd hv.1 (by decide)
/-! the copy to look ahead in: the reference -/
theorem lim_le2 {f nr nt : Nat} (hr : nr ≤ 12) : lim f nr nt ≤ lim f 12 nt := by
  unfold lim
  by_cases h1 : f < 9
  · simp only [if_pos h1, Nat.le_refl]
  · by_cases h2 : f < 13
    · simp only [if_neg h1, if_pos h2, hr]
    · by_cases h3 : f < 20
      · simp only [if_neg h1, if_neg h2, if_pos h3, Nat.le_refl]
      · by_cases h4 : f = 22
        · simp only [if_neg h1, if_neg h2, if_neg h3, if_pos h4, hr]
        · simp only [if_neg h1, if_neg h2, if_neg h3, if_neg h4, Nat.le_refl]
def RP (P : Nat → Prop) (σ α : Mem) (nr nt : Nat) : Prop := ∀ f i, vld false f i nr nt → f ≠ 22 → f ≠ 23 → P f → σ (rlo 162 f) (rsl f i) = α f i
theorem r_row : ∀ q ∈ locs8, ∀ k ∈ List.range 14, 1 ≤ k → rlo 162 q.1 = 162 + k → rlo 148 q.1 = 148 + k ∧ rsl q.1 q.2 < sl (148 + k) := by decide +kernel
theorem cpM_o {σ : Mem} {a b j : Nat} (h : j ≠ b) : cpM σ a b j = σ j := if_neg h
theorem RP_c {P : Nat → Prop} {σ α : Mem} {nr nt : Nat} (k : Nat) (h1 : 1 ≤ k) (h2 : k < 14) (hr : nr ≤ 12) (ht : nt ≤ 21) (h : RE true 148 σ α 12 nt) (c : RP P σ α nr nt) : RE true 148 (cpM σ (148 + k) (162 + k)) α 12 nt ∧ RP (fun f => P f ∨ rlo 162 f = 162 + k) (cpM σ (148 + k) (162 + k)) α nr nt := by
  refine ⟨RE_fr (Or.inl rfl) (Nat.le_refl 12) ht (fun j _ hj => cpM_o (by omega)) h, fun f i hv f1 f2 hp => ?_⟩
  by_cases e : rlo 162 f = 162 + k
  · rcases hv with hv | hv
    · obtain ⟨q1, q2⟩ := r_row _ (locs8_in ⟨hv.1, Nat.lt_of_lt_of_le hv.2 (lim_le hr ht)⟩ f1 f2) k (List.mem_range.mpr h2) h1 e
      rw [e]
      unfold cpM
      rw [if_pos rfl, sb_cpy0 q2]
      have h9 := h f i (Or.inl ⟨hv.1, Nat.lt_of_lt_of_le hv.2 (lim_le2 hr)⟩) f1 f2
      rw [q1] at h9
      exact h9
    · exact absurd hv.1 (by decide)
  · rw [cpM_o e]
    exact c f i hv f1 f2 (hp.resolve_right e)
theorem r_all : ∀ f ∈ List.range 26, f ≠ 22 → f ≠ 23 → ((((((((((((((f = 9 ∨ f = 13 ∨ f = 14 ∨ f = 15 ∨ f = 16 ∨ f = 24 ∨ f = 20 ∨ f = 21 ∨ f = 25) ∨ rlo 162 f = 162 + 1) ∨ rlo 162 f = 162 + 2) ∨ rlo 162 f = 162 + 3) ∨ rlo 162 f = 162 + 4) ∨ rlo 162 f = 162 + 5) ∨ rlo 162 f = 162 + 6) ∨ rlo 162 f = 162 + 7) ∨ rlo 162 f = 162 + 8) ∨ rlo 162 f = 162 + 9) ∨ rlo 162 f = 162 + 10) ∨ rlo 162 f = 162 + 11) ∨ rlo 162 f = 162 + 12) ∨ rlo 162 f = 162 + 13) := by decide +kernel
theorem Fr_cp {σ σ2 : Mem} {k : Nat} (h1 : 1 ≤ k) (h2 : k < 14) (h : Fr false 162 σ σ2) : Fr false 162 σ (cpM σ2 (148 + k) (162 + k)) := fun j hj => (cpM_o (by omega)).trans (h j hj)
theorem R_become {nr nt : Nat} {σ α : Mem} (hr : nr ≤ 12) (ht : nt ≤ 21) (h : RE true 148 σ α 12 nt) : rR false 162 nr nt σ α (fn_X6_become σ 162 148) := by
  have q0 : σ 148 0 = α 20 0 := RE_20 h
  have r1 : RE true 148 (sI σ 162 0 (α 20 0)) α 12 nt := RE_fr (Or.inl rfl) (Nat.le_refl 12) ht (fun j _ hj => sI_ne (by omega)) h
  have q1 : sI σ 162 0 (α 20 0) 148 1 = α 21 0 := RE_21 r1
  have r2 : RE true 148 (sI (sI σ 162 0 (α 20 0)) 162 1 (α 21 0)) α 12 nt := RE_fr (Or.inl rfl) (Nat.le_refl 12) ht (fun j _ hj => sI_ne (by omega)) r1
  have q2 : sI (sI σ 162 0 (α 20 0)) 162 1 (α 21 0) 148 2 = α 25 0 := RE_25 r2
  have r3 : RE true 148 (sI (sI (sI σ 162 0 (α 20 0)) 162 1 (α 21 0)) 162 2 (α 25 0)) α 12 nt := RE_fr (Or.inl rfl) (Nat.le_refl 12) ht (fun j _ hj => sI_ne (by omega)) r2
  have c3 : RP (fun f => f = 9 ∨ f = 13 ∨ f = 14 ∨ f = 15 ∨ f = 16 ∨ f = 24 ∨ f = 20 ∨ f = 21 ∨ f = 25) (sI (sI (sI σ 162 0 (α 20 0)) 162 1 (α 21 0)) 162 2 (α 25 0)) α nr nt := by
    intro f i hv f1 f2 hp
    rcases hv with hv | hv
    · have hl := Nat.lt_of_lt_of_le hv.2 (lim_le2 (nt := nt) hr)
      have h9 := r3 f i (Or.inl ⟨hv.1, hl⟩) f1 f2
      have h8 := lim_fld hv
      unfold bfld rfld tfld at h8
      rcases hp with rfl | rfl | rfl | rfl | rfl | rfl | rfl | rfl | rfl
      · exact h9
      · exact h9
      · exact h9
      · exact h9
      · exact h9
      · exact h9
      · have e : i = 0 := by omega
        subst e
        show (sI (sI (sI σ 162 0 (α 20 0)) 162 1 (α 21 0)) 162 2 (α 25 0)) 162 0 = α 20 0
        rw [sI_n (by omega), sI_n (by omega), sI_s]
      · have e : i = 0 := by omega
        subst e
        show (sI (sI (sI σ 162 0 (α 20 0)) 162 1 (α 21 0)) 162 2 (α 25 0)) 162 1 = α 21 0
        rw [sI_n (by omega), sI_s]
      · have e : i = 0 := by omega
        subst e
        show (sI (sI (sI σ 162 0 (α 20 0)) 162 1 (α 21 0)) 162 2 (α 25 0)) 162 2 = α 25 0
        rw [sI_s]
    · exact absurd hv.1 (by decide)
  have f3 : Fr false 162 σ (sI (sI (sI σ 162 0 (α 20 0)) 162 1 (α 21 0)) 162 2 (α 25 0)) := Fr_w (Fr_w (Fr_w Fr_0 (Or.inr rfl) (Or.inl (by omega))) (Or.inr rfl) (Or.inl (by omega))) (Or.inr rfl) (Or.inl (by omega))
  generalize hm : sI (sI (sI σ 162 0 (α 20 0)) 162 1 (α 21 0)) 162 2 (α 25 0) = m3 at r3 c3 f3
  obtain ⟨r4, c4⟩ := RP_c 1 (by decide) (by decide) hr ht r3 c3
  have f4 := Fr_cp (k := 1) (by decide) (by decide) f3
  obtain ⟨r5, c5⟩ := RP_c 2 (by decide) (by decide) hr ht r4 c4
  have f5 := Fr_cp (k := 2) (by decide) (by decide) f4
  obtain ⟨r6, c6⟩ := RP_c 3 (by decide) (by decide) hr ht r5 c5
  have f6 := Fr_cp (k := 3) (by decide) (by decide) f5
  obtain ⟨r7, c7⟩ := RP_c 4 (by decide) (by decide) hr ht r6 c6
  have f7 := Fr_cp (k := 4) (by decide) (by decide) f6
  obtain ⟨r8, c8⟩ := RP_c 5 (by decide) (by decide) hr ht r7 c7
  have f8 := Fr_cp (k := 5) (by decide) (by decide) f7
  obtain ⟨r9, c9⟩ := RP_c 6 (by decide) (by decide) hr ht r8 c8
  have f9 := Fr_cp (k := 6) (by decide) (by decide) f8
  obtain ⟨r10, c10⟩ := RP_c 7 (by decide) (by decide) hr ht r9 c9
  have f10 := Fr_cp (k := 7) (by decide) (by decide) f9
  obtain ⟨r11, c11⟩ := RP_c 8 (by decide) (by decide) hr ht r10 c10
  have f11 := Fr_cp (k := 8) (by decide) (by decide) f10
  obtain ⟨r12, c12⟩ := RP_c 9 (by decide) (by decide) hr ht r11 c11
  have f12 := Fr_cp (k := 9) (by decide) (by decide) f11
  obtain ⟨r13, c13⟩ := RP_c 10 (by decide) (by decide) hr ht r12 c12
  have f13 := Fr_cp (k := 10) (by decide) (by decide) f12
  obtain ⟨r14, c14⟩ := RP_c 11 (by decide) (by decide) hr ht r13 c13
  have f14 := Fr_cp (k := 11) (by decide) (by decide) f13
  obtain ⟨r15, c15⟩ := RP_c 12 (by decide) (by decide) hr ht r14 c14
  have f15 := Fr_cp (k := 12) (by decide) (by decide) f14
  obtain ⟨r16, c16⟩ := RP_c 13 (by decide) (by decide) hr ht r15 c15
  have f16 := Fr_cp (k := 13) (by decide) (by decide) f15
  refine ⟨_, ?_, fun f i hv f1 f2 => c16 f i hv f1 f2 ?_, f16⟩
  · unfold fn_X6_become
    rw [ck_S (Or.inl rfl), gd_tr, ck_S (Or.inr rfl), gd_tr, nm_so, q0, gd_tr, gd_tr, nm_so, q1, gd_tr, gd_tr, nm_so, q2, hm]
    simp only [show rf 148 6 3 = some 149 from by decide, show rf 162 6 3 = some 163 from by decide, show rf 148 6 4 = some 150 from by decide, show rf 162 6 4 = some 164 from by decide, show rf 148 6 5 = some 151 from by decide, show rf 162 6 5 = some 165 from by decide, show rf 148 6 6 = some 152 from by decide, show rf 162 6 6 = some 166 from by decide, show rf 148 6 7 = some 153 from by decide, show rf 162 6 7 = some 167 from by decide, show rf 148 6 8 = some 154 from by decide, show rf 162 6 8 = some 168 from by decide, show rf 148 6 9 = some 155 from by decide, show rf 162 6 9 = some 169 from by decide, show rf 148 6 10 = some 156 from by decide, show rf 162 6 10 = some 170 from by decide, show rf 148 6 11 = some 157 from by decide, show rf 162 6 11 = some 171 from by decide, show rf 148 6 12 = some 158 from by decide, show rf 162 6 12 = some 172 from by decide, show rf 148 6 13 = some 159 from by decide, show rf 162 6 13 = some 173 from by decide, show rf 148 6 14 = some 160 from by decide, show rf 162 6 14 = some 174 from by decide, show rf 148 6 15 = some 161 from by decide, show rf 162 6 15 = some 175 from by decide, b1_so, gd_tr]
    simp only [fn_X6_copy, show ck 149 8 = true from by decide, show cpk 149 163 = true from by decide, show ck 150 8 = true from by decide, show cpk 150 164 = true from by decide, show ck 151 8 = true from by decide, show cpk 151 165 = true from by decide, show ck 152 8 = true from by decide, show cpk 152 166 = true from by decide, show ck 153 8 = true from by decide, show cpk 153 167 = true from by decide, show ck 154 8 = true from by decide, show cpk 154 168 = true from by decide, show ck 155 8 = true from by decide, show cpk 155 169 = true from by decide, show ck 156 8 = true from by decide, show cpk 156 170 = true from by decide, show ck 157 8 = true from by decide, show cpk 157 171 = true from by decide, show ck 158 8 = true from by decide, show cpk 158 172 = true from by decide, show ck 159 8 = true from by decide, show cpk 159 173 = true from by decide, show ck 160 8 = true from by decide, show cpk 160 174 = true from by decide, show ck 161 8 = true from by decide, show cpk 161 175 = true from by decide, gd_tr, nm_so, b1_so]
  · rcases hv with hv | hv
    · exact r_all f (List.mem_range.mpr hv.1) f1 f2
    · exact absurd hv.1 (by decide)
