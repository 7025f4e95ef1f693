/-! the state in the abstract: α f i, field f of bell, ringer or toll i: 0 weight 1 side 2 rope 3 pause 4 strokes, 5 6 and 7 8 thick and worn of the two sides, 9 strength 10 tired 11 strokes 12 reliefs, 13 bell 14 kind 15 age 16 pace 17 strokes 18 loud 19 done, 20 minute 21 store; 100 + t: the reaches of toll t -/
def clo (T f i : Nat) : Nat := match f with
  | 0 => oB T i
  | 1 => oB T i
  | 2 => oB T i
  | 3 => oB T i
  | 4 => oB T i
  | 5 => oH T i
  | 6 => oH T i
  | 7 => oK T i
  | 8 => oK T i
  | 9 => oR T i
  | 10 => oR T i
  | 11 => oR T i
  | 12 => oR T i
  | 13 => oO T i
  | 14 => oO T i
  | 15 => oO T i
  | 16 => oO T i
  | 17 => oO T i
  | 18 => oO T i
  | 19 => oO T i
  | 20 => T
  | 21 => T
  | f => oY T (f - 100)
def csl (f i : Nat) : Nat := match f with
  | 0 => 2
  | 1 => 3
  | 2 => 4
  | 3 => 6
  | 4 => 7
  | 5 => 0
  | 6 => 1
  | 7 => 0
  | 8 => 1
  | 9 => 0
  | 10 => 1
  | 11 => 3
  | 12 => 4
  | 13 => 1
  | 14 => 2
  | 15 => 3
  | 16 => 4
  | 17 => 5
  | 18 => 6
  | 19 => 7
  | 20 => 3
  | 21 => 6
  | _ => i
def rlo (S f : Nat) : Nat := match f with
  | 0 => S + 1
  | 1 => S + 4
  | 2 => S + 5
  | 3 => S + 6
  | 4 => S + 7
  | 5 => S + 2
  | 6 => S + 3
  | 7 => S + 2
  | 8 => S + 3
  | 9 => 142
  | 10 => S + 8
  | 11 => S + 9
  | 12 => S + 10
  | 13 => 143
  | 14 => 144
  | 15 => 145
  | 16 => 146
  | 17 => S + 11
  | 18 => S + 12
  | 19 => S + 13
  | 20 => S
  | 21 => S
  | _ => 147
def rsl (f i : Nat) : Nat := match f with
  | 0 => i
  | 1 => i
  | 2 => i
  | 3 => i
  | 4 => i
  | 5 => 2 * i
  | 6 => 2 * i
  | 7 => 2 * i + 1
  | 8 => 2 * i + 1
  | 9 => i
  | 10 => i
  | 11 => i
  | 12 => i
  | 13 => i
  | 14 => i
  | 15 => i
  | 16 => i
  | 17 => i
  | 18 => i
  | 19 => i
  | 20 => 0
  | 21 => 1
  | f => 91 * (f - 100) + i
def vld (f i nr nt : Nat) : Prop := f < 22 ∧ i < (if f < 9 then 4 else if f < 13 then nr else if f < 20 then nt else 1)
def CE (T : Nat) (σ α : Mem) (nr nt : Nat) : Prop := ∀ f i, vld f i nr nt → σ (clo T f i) (csl f i) = α f i
def RE (S : Nat) (ρ α : Mem) (nr nt : Nat) : Prop := ∀ f i, vld f i nr nt → ρ (rlo S f) (rsl f i) = α f i
theorem CE_0 {T : Nat} {σ α : Mem} {nr nt : Nat} (h : CE T σ α nr nt) {i : Nat} (hi : i < 4) : σ (oB T i) 2 = α 0 i := h 0 i ⟨by decide, hi⟩
theorem RE_0 {S : Nat} {ρ α : Mem} {nr nt : Nat} (h : RE S ρ α nr nt) {i : Nat} (hi : i < 4) : ρ (S + 1) (i) = α 0 i := h 0 i ⟨by decide, hi⟩
theorem CE_1 {T : Nat} {σ α : Mem} {nr nt : Nat} (h : CE T σ α nr nt) {i : Nat} (hi : i < 4) : σ (oB T i) 3 = α 1 i := h 1 i ⟨by decide, hi⟩
theorem RE_1 {S : Nat} {ρ α : Mem} {nr nt : Nat} (h : RE S ρ α nr nt) {i : Nat} (hi : i < 4) : ρ (S + 4) (i) = α 1 i := h 1 i ⟨by decide, hi⟩
theorem CE_2 {T : Nat} {σ α : Mem} {nr nt : Nat} (h : CE T σ α nr nt) {i : Nat} (hi : i < 4) : σ (oB T i) 4 = α 2 i := h 2 i ⟨by decide, hi⟩
theorem RE_2 {S : Nat} {ρ α : Mem} {nr nt : Nat} (h : RE S ρ α nr nt) {i : Nat} (hi : i < 4) : ρ (S + 5) (i) = α 2 i := h 2 i ⟨by decide, hi⟩
theorem CE_3 {T : Nat} {σ α : Mem} {nr nt : Nat} (h : CE T σ α nr nt) {i : Nat} (hi : i < 4) : σ (oB T i) 6 = α 3 i := h 3 i ⟨by decide, hi⟩
theorem RE_3 {S : Nat} {ρ α : Mem} {nr nt : Nat} (h : RE S ρ α nr nt) {i : Nat} (hi : i < 4) : ρ (S + 6) (i) = α 3 i := h 3 i ⟨by decide, hi⟩
theorem CE_4 {T : Nat} {σ α : Mem} {nr nt : Nat} (h : CE T σ α nr nt) {i : Nat} (hi : i < 4) : σ (oB T i) 7 = α 4 i := h 4 i ⟨by decide, hi⟩
theorem RE_4 {S : Nat} {ρ α : Mem} {nr nt : Nat} (h : RE S ρ α nr nt) {i : Nat} (hi : i < 4) : ρ (S + 7) (i) = α 4 i := h 4 i ⟨by decide, hi⟩
theorem CE_5 {T : Nat} {σ α : Mem} {nr nt : Nat} (h : CE T σ α nr nt) {i : Nat} (hi : i < 4) : σ (oH T i) 0 = α 5 i := h 5 i ⟨by decide, hi⟩
theorem RE_5 {S : Nat} {ρ α : Mem} {nr nt : Nat} (h : RE S ρ α nr nt) {i : Nat} (hi : i < 4) : ρ (S + 2) (2 * i) = α 5 i := h 5 i ⟨by decide, hi⟩
theorem CE_6 {T : Nat} {σ α : Mem} {nr nt : Nat} (h : CE T σ α nr nt) {i : Nat} (hi : i < 4) : σ (oH T i) 1 = α 6 i := h 6 i ⟨by decide, hi⟩
theorem RE_6 {S : Nat} {ρ α : Mem} {nr nt : Nat} (h : RE S ρ α nr nt) {i : Nat} (hi : i < 4) : ρ (S + 3) (2 * i) = α 6 i := h 6 i ⟨by decide, hi⟩
theorem CE_7 {T : Nat} {σ α : Mem} {nr nt : Nat} (h : CE T σ α nr nt) {i : Nat} (hi : i < 4) : σ (oK T i) 0 = α 7 i := h 7 i ⟨by decide, hi⟩
theorem RE_7 {S : Nat} {ρ α : Mem} {nr nt : Nat} (h : RE S ρ α nr nt) {i : Nat} (hi : i < 4) : ρ (S + 2) (2 * i + 1) = α 7 i := h 7 i ⟨by decide, hi⟩
theorem CE_8 {T : Nat} {σ α : Mem} {nr nt : Nat} (h : CE T σ α nr nt) {i : Nat} (hi : i < 4) : σ (oK T i) 1 = α 8 i := h 8 i ⟨by decide, hi⟩
theorem RE_8 {S : Nat} {ρ α : Mem} {nr nt : Nat} (h : RE S ρ α nr nt) {i : Nat} (hi : i < 4) : ρ (S + 3) (2 * i + 1) = α 8 i := h 8 i ⟨by decide, hi⟩
theorem CE_9 {T : Nat} {σ α : Mem} {nr nt : Nat} (h : CE T σ α nr nt) {i : Nat} (hi : i < nr) : σ (oR T i) 0 = α 9 i := h 9 i ⟨by decide, hi⟩
theorem RE_9 {S : Nat} {ρ α : Mem} {nr nt : Nat} (h : RE S ρ α nr nt) {i : Nat} (hi : i < nr) : ρ (142) (i) = α 9 i := h 9 i ⟨by decide, hi⟩
theorem CE_10 {T : Nat} {σ α : Mem} {nr nt : Nat} (h : CE T σ α nr nt) {i : Nat} (hi : i < nr) : σ (oR T i) 1 = α 10 i := h 10 i ⟨by decide, hi⟩
theorem RE_10 {S : Nat} {ρ α : Mem} {nr nt : Nat} (h : RE S ρ α nr nt) {i : Nat} (hi : i < nr) : ρ (S + 8) (i) = α 10 i := h 10 i ⟨by decide, hi⟩
theorem CE_11 {T : Nat} {σ α : Mem} {nr nt : Nat} (h : CE T σ α nr nt) {i : Nat} (hi : i < nr) : σ (oR T i) 3 = α 11 i := h 11 i ⟨by decide, hi⟩
theorem RE_11 {S : Nat} {ρ α : Mem} {nr nt : Nat} (h : RE S ρ α nr nt) {i : Nat} (hi : i < nr) : ρ (S + 9) (i) = α 11 i := h 11 i ⟨by decide, hi⟩
theorem CE_12 {T : Nat} {σ α : Mem} {nr nt : Nat} (h : CE T σ α nr nt) {i : Nat} (hi : i < nr) : σ (oR T i) 4 = α 12 i := h 12 i ⟨by decide, hi⟩
theorem RE_12 {S : Nat} {ρ α : Mem} {nr nt : Nat} (h : RE S ρ α nr nt) {i : Nat} (hi : i < nr) : ρ (S + 10) (i) = α 12 i := h 12 i ⟨by decide, hi⟩
theorem CE_13 {T : Nat} {σ α : Mem} {nr nt : Nat} (h : CE T σ α nr nt) {i : Nat} (hi : i < nt) : σ (oO T i) 1 = α 13 i := h 13 i ⟨by decide, hi⟩
theorem RE_13 {S : Nat} {ρ α : Mem} {nr nt : Nat} (h : RE S ρ α nr nt) {i : Nat} (hi : i < nt) : ρ (143) (i) = α 13 i := h 13 i ⟨by decide, hi⟩
theorem CE_14 {T : Nat} {σ α : Mem} {nr nt : Nat} (h : CE T σ α nr nt) {i : Nat} (hi : i < nt) : σ (oO T i) 2 = α 14 i := h 14 i ⟨by decide, hi⟩
theorem RE_14 {S : Nat} {ρ α : Mem} {nr nt : Nat} (h : RE S ρ α nr nt) {i : Nat} (hi : i < nt) : ρ (144) (i) = α 14 i := h 14 i ⟨by decide, hi⟩
theorem CE_15 {T : Nat} {σ α : Mem} {nr nt : Nat} (h : CE T σ α nr nt) {i : Nat} (hi : i < nt) : σ (oO T i) 3 = α 15 i := h 15 i ⟨by decide, hi⟩
theorem RE_15 {S : Nat} {ρ α : Mem} {nr nt : Nat} (h : RE S ρ α nr nt) {i : Nat} (hi : i < nt) : ρ (145) (i) = α 15 i := h 15 i ⟨by decide, hi⟩
theorem CE_16 {T : Nat} {σ α : Mem} {nr nt : Nat} (h : CE T σ α nr nt) {i : Nat} (hi : i < nt) : σ (oO T i) 4 = α 16 i := h 16 i ⟨by decide, hi⟩
theorem RE_16 {S : Nat} {ρ α : Mem} {nr nt : Nat} (h : RE S ρ α nr nt) {i : Nat} (hi : i < nt) : ρ (146) (i) = α 16 i := h 16 i ⟨by decide, hi⟩
theorem CE_17 {T : Nat} {σ α : Mem} {nr nt : Nat} (h : CE T σ α nr nt) {i : Nat} (hi : i < nt) : σ (oO T i) 5 = α 17 i := h 17 i ⟨by decide, hi⟩
theorem RE_17 {S : Nat} {ρ α : Mem} {nr nt : Nat} (h : RE S ρ α nr nt) {i : Nat} (hi : i < nt) : ρ (S + 11) (i) = α 17 i := h 17 i ⟨by decide, hi⟩
theorem CE_18 {T : Nat} {σ α : Mem} {nr nt : Nat} (h : CE T σ α nr nt) {i : Nat} (hi : i < nt) : σ (oO T i) 6 = α 18 i := h 18 i ⟨by decide, hi⟩
theorem RE_18 {S : Nat} {ρ α : Mem} {nr nt : Nat} (h : RE S ρ α nr nt) {i : Nat} (hi : i < nt) : ρ (S + 12) (i) = α 18 i := h 18 i ⟨by decide, hi⟩
theorem CE_19 {T : Nat} {σ α : Mem} {nr nt : Nat} (h : CE T σ α nr nt) {i : Nat} (hi : i < nt) : σ (oO T i) 7 = α 19 i := h 19 i ⟨by decide, hi⟩
theorem RE_19 {S : Nat} {ρ α : Mem} {nr nt : Nat} (h : RE S ρ α nr nt) {i : Nat} (hi : i < nt) : ρ (S + 13) (i) = α 19 i := h 19 i ⟨by decide, hi⟩
theorem CE_20 {T : Nat} {σ α : Mem} {nr nt : Nat} (h : CE T σ α nr nt) : σ (T) 3 = α 20 0 := h 20 0 ⟨by decide, by decide⟩
theorem RE_20 {S : Nat} {ρ α : Mem} {nr nt : Nat} (h : RE S ρ α nr nt) : ρ (S) (0) = α 20 0 := h 20 0 ⟨by decide, by decide⟩
theorem CE_21 {T : Nat} {σ α : Mem} {nr nt : Nat} (h : CE T σ α nr nt) : σ (T) 6 = α 21 0 := h 21 0 ⟨by decide, by decide⟩
theorem RE_21 {S : Nat} {ρ α : Mem} {nr nt : Nat} (h : RE S ρ α nr nt) : ρ (S) (1) = α 21 0 := h 21 0 ⟨by decide, by decide⟩
theorem vld_max {f i nr nt : Nat} (h : vld f i nr nt) (hr : nr ≤ 12) (ht : nt ≤ 21) : f < 22 ∧ i < (if f < 9 then 4 else if f < 13 then 12 else if f < 20 then 21 else 1) := by
  obtain ⟨h1, h2⟩ := h
  refine ⟨h1, ?_⟩
  repeat' split at h2
  all_goals simp_all
  all_goals omega
def locs9 : List (Nat × Nat) := (List.range 22).flatMap (fun f => (List.range (if f < 9 then 4 else if f < 13 then 12 else if f < 20 then 21 else 1)).map (fun i => (f, i)))
theorem locs9_in {f i : Nat} (h : f < 22 ∧ i < (if f < 9 then 4 else if f < 13 then 12 else if f < 20 then 21 else 1)) : (f, i) ∈ locs9 := by
  unfold locs9
  rw [List.mem_flatMap]
  exact ⟨f, List.mem_range.mpr h.1, List.mem_map.mpr ⟨i, List.mem_range.mpr h.2, rfl⟩⟩
def enc (a b : Nat) : Nat := a * 2000 + b
def dist9 (l : List Nat) : Bool := va_nd l
theorem c_inj : ∀ T ∈ [1, 71], va_nd (locs9.map (fun q => enc (clo T q.1 q.2) (csl q.1 q.2))) = true := by decide +kernel
theorem r_inj : ∀ S ∈ [148, 162], va_nd (locs9.map (fun q => enc (rlo S q.1) (rsl q.1 q.2))) = true := by decide +kernel
theorem nd_inj {l : List (Nat × Nat)} {g : Nat × Nat → Nat} (h : va_nd (l.map g) = true) {p q : Nat × Nat} (hp : p ∈ l) (hq : q ∈ l) (e : g p = g q) : p = q := by
  obtain ⟨i, hi⟩ := List.getElem?_of_mem hp
  obtain ⟨j, hj⟩ := List.getElem?_of_mem hq
  have := va_nd_inj _ h i j (g p) (by rw [List.getElem?_map, hi]; rfl) (by rw [List.getElem?_map, hj, e]; rfl)
  subst this
  exact Option.some.inj (hi.symm.trans hj)
theorem CE_w {T : Nat} {σ α : Mem} {nr nt f i : Nat} {x : Int32} (hT : isT T) (hr : nr ≤ 12) (ht : nt ≤ 21) (h : CE T σ α nr nt) (hv : vld f i nr nt) : CE T (sI σ (clo T f i) (csl f i) x) (sI α f i x) nr nt := by
  intro a b hab
  rw [sI_at, sI_at]
  by_cases e : a = f ∧ b = i
  · obtain ⟨rfl, rfl⟩ := e
    simp
  · rw [if_neg e, if_neg]
    · exact h a b hab
    · intro e2
      have h9 := nd_inj (c_inj T (by rcases hT with rfl | rfl <;> simp)) (locs9_in (vld_max hab hr ht)) (locs9_in (vld_max hv hr ht)) (show enc _ _ = enc _ _ by rw [e2.1, e2.2])
      exact e (by simpa using h9)
theorem RE_w {S : Nat} {ρ α : Mem} {nr nt f i : Nat} {x : Int32} (hS : isS S) (hr : nr ≤ 12) (ht : nt ≤ 21) (h : RE S ρ α nr nt) (hv : vld f i nr nt) : RE S (sI ρ (rlo S f) (rsl f i) x) (sI α f i x) nr nt := by
  intro a b hab
  rw [sI_at, sI_at]
  by_cases e : a = f ∧ b = i
  · obtain ⟨rfl, rfl⟩ := e
    simp
  · rw [if_neg e, if_neg]
    · exact h a b hab
    · intro e2
      have h9 := nd_inj (r_inj S (by rcases hS with rfl | rfl <;> simp)) (locs9_in (vld_max hab hr ht)) (locs9_in (vld_max hv hr ht)) (show enc _ _ = enc _ _ by rw [e2.1, e2.2])
      exact e (by simpa using h9)
def cloO (T : Nat) (j k : Nat) : Prop := ∀ f i, f < 22 ∧ i < (if f < 9 then 4 else if f < 13 then 12 else if f < 20 then 21 else 1) → ¬ (clo T f i = j ∧ csl f i = k)
theorem CE_o {T : Nat} {σ α : Mem} {nr nt j k : Nat} {x : Int32} (hr : nr ≤ 12) (ht : nt ≤ 21) (h : CE T σ α nr nt) (hn : cloO T j k) : CE T (sI σ j k x) α nr nt := by
  intro a b hab
  rw [sI_at, if_neg (hn a b (vld_max hab hr ht))]
  exact h a b hab
def rloO (S : Nat) (j k : Nat) : Prop := ∀ f i, f < 22 ∧ i < (if f < 9 then 4 else if f < 13 then 12 else if f < 20 then 21 else 1) → ¬ (rlo S f = j ∧ rsl f i = k)
theorem RE_o {S : Nat} {ρ α : Mem} {nr nt j k : Nat} {x : Int32} (hr : nr ≤ 12) (ht : nt ≤ 21) (h : RE S ρ α nr nt) (hn : rloO S j k) : RE S (sI ρ j k x) α nr nt := by
  intro a b hab
  rw [sI_at, if_neg (hn a b (vld_max hab hr ht))]
  exact h a b hab
