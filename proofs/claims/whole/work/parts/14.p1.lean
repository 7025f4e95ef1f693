/-! the state in the abstract: α f i, field f of bell, ringer or toll i: 0 weight 1 side 2 rope 3 pause 4 strokes, 5 6 and 7 8 thick and worn of the two sides, 9 strength 10 tired 11 strokes 12 reliefs, 13 bell 14 kind 15 age 16 pace 17 strokes 18 loud 19 done, 20 minute 21 store, 22 a ringer's bell, 23 with what a bell goes on, 24 ringers, 25 tolls; t + 100: the reaches of toll t -/
def clo (T f i : Nat) : Nat := match f with
  | 0 => oB T i
  | 1 => oB T i
  | 2 => oB T i
  | 3 => oB T i
  | 4 => oB T i
  | 5 => oH T i
  | 6 => oH T i
  | 7 => oK T i
  | 8 => oK T i
  | 9 => oR T i
  | 10 => oR T i
  | 11 => oR T i
  | 12 => oR T i
  | 13 => oO T i
  | 14 => oO T i
  | 15 => oO T i
  | 16 => oO T i
  | 17 => oO T i
  | 18 => oO T i
  | 19 => oO T i
  | 20 => T
  | 21 => T
  | 22 => oR T i
  | 23 => oB T i
  | 24 => T
  | 25 => T
  | f => oY T (f - 100)
def csl (f i : Nat) : Nat := match f with
  | 0 => 2
  | 1 => 3
  | 2 => 4
  | 3 => 6
  | 4 => 7
  | 5 => 0
  | 6 => 1
  | 7 => 0
  | 8 => 1
  | 9 => 0
  | 10 => 1
  | 11 => 3
  | 12 => 4
  | 13 => 1
  | 14 => 2
  | 15 => 3
  | 16 => 4
  | 17 => 5
  | 18 => 6
  | 19 => 7
  | 20 => 3
  | 21 => 6
  | 22 => 2
  | 23 => 5
  | 24 => 4
  | 25 => 5
  | _ => i
def rlo (S f : Nat) : Nat := match f with
  | 0 => S + 1
  | 1 => S + 4
  | 2 => S + 5
  | 3 => S + 6
  | 4 => S + 7
  | 5 => S + 2
  | 6 => S + 3
  | 7 => S + 2
  | 8 => S + 3
  | 9 => 142
  | 10 => S + 8
  | 11 => S + 9
  | 12 => S + 10
  | 13 => 143
  | 14 => 144
  | 15 => 145
  | 16 => 146
  | 17 => S + 11
  | 18 => S + 12
  | 19 => S + 13
  | 20 => S
  | 21 => S
  | 24 => 141
  | 25 => S
  | _ => 147
def rsl (f i : Nat) : Nat := match f with
  | 0 => i
  | 1 => i
  | 2 => i
  | 3 => i
  | 4 => i
  | 5 => 2 * i
  | 6 => 2 * i
  | 7 => 2 * i + 1
  | 8 => 2 * i + 1
  | 9 => i
  | 10 => i
  | 11 => i
  | 12 => i
  | 13 => i
  | 14 => i
  | 15 => i
  | 16 => i
  | 17 => i
  | 18 => i
  | 19 => i
  | 20 => 0
  | 21 => 1
  | 24 => 1
  | 25 => 2
  | f => 91 * (f - 100) + i
def lim (f nr nt : Nat) : Nat := if f < 9 then 4 else if f < 13 then nr else if f < 20 then nt else if f = 22 then nr else if f = 23 then 4 else 1
def vld (k : Bool) (f i nr nt : Nat) : Prop := (f < 26 ∧ i < lim f nr nt) ∨ (k = true ∧ 100 ≤ f ∧ f < 121 ∧ i < 91)
def CE (k : Bool) (T : Nat) (σ α : Mem) (nr nt : Nat) : Prop := ∀ f i, vld k f i nr nt → σ (clo T f i) (csl f i) = α f i
def RE (k : Bool) (S : Nat) (ρ α : Mem) (nr nt : Nat) : Prop := ∀ f i, vld k f i nr nt → f ≠ 22 → f ≠ 23 → ρ (rlo S f) (rsl f i) = α f i
theorem vl_0 {k : Bool} {nr nt : Nat} {i : Nat} (hi : i < 4) : vld k 0 i nr nt := Or.inl ⟨by decide, hi⟩
theorem CE_0 {k : Bool} {T : Nat} {σ α : Mem} {nr nt : Nat} (h : CE k T σ α nr nt) {i : Nat} (hi : i < 4) : σ (oB T i) 2 = α 0 i := h 0 i (vl_0 hi)
theorem RE_0 {k : Bool} {S : Nat} {ρ α : Mem} {nr nt : Nat} (h : RE k S ρ α nr nt) {i : Nat} (hi : i < 4) : ρ (S + 1) (i) = α 0 i := h 0 i (vl_0 hi) (by decide) (by decide)
theorem vl_1 {k : Bool} {nr nt : Nat} {i : Nat} (hi : i < 4) : vld k 1 i nr nt := Or.inl ⟨by decide, hi⟩
theorem CE_1 {k : Bool} {T : Nat} {σ α : Mem} {nr nt : Nat} (h : CE k T σ α nr nt) {i : Nat} (hi : i < 4) : σ (oB T i) 3 = α 1 i := h 1 i (vl_1 hi)
theorem RE_1 {k : Bool} {S : Nat} {ρ α : Mem} {nr nt : Nat} (h : RE k S ρ α nr nt) {i : Nat} (hi : i < 4) : ρ (S + 4) (i) = α 1 i := h 1 i (vl_1 hi) (by decide) (by decide)
theorem vl_2 {k : Bool} {nr nt : Nat} {i : Nat} (hi : i < 4) : vld k 2 i nr nt := Or.inl ⟨by decide, hi⟩
theorem CE_2 {k : Bool} {T : Nat} {σ α : Mem} {nr nt : Nat} (h : CE k T σ α nr nt) {i : Nat} (hi : i < 4) : σ (oB T i) 4 = α 2 i := h 2 i (vl_2 hi)
theorem RE_2 {k : Bool} {S : Nat} {ρ α : Mem} {nr nt : Nat} (h : RE k S ρ α nr nt) {i : Nat} (hi : i < 4) : ρ (S + 5) (i) = α 2 i := h 2 i (vl_2 hi) (by decide) (by decide)
theorem vl_3 {k : Bool} {nr nt : Nat} {i : Nat} (hi : i < 4) : vld k 3 i nr nt := Or.inl ⟨by decide, hi⟩
theorem CE_3 {k : Bool} {T : Nat} {σ α : Mem} {nr nt : Nat} (h : CE k T σ α nr nt) {i : Nat} (hi : i < 4) : σ (oB T i) 6 = α 3 i := h 3 i (vl_3 hi)
theorem RE_3 {k : Bool} {S : Nat} {ρ α : Mem} {nr nt : Nat} (h : RE k S ρ α nr nt) {i : Nat} (hi : i < 4) : ρ (S + 6) (i) = α 3 i := h 3 i (vl_3 hi) (by decide) (by decide)
theorem vl_4 {k : Bool} {nr nt : Nat} {i : Nat} (hi : i < 4) : vld k 4 i nr nt := Or.inl ⟨by decide, hi⟩
theorem CE_4 {k : Bool} {T : Nat} {σ α : Mem} {nr nt : Nat} (h : CE k T σ α nr nt) {i : Nat} (hi : i < 4) : σ (oB T i) 7 = α 4 i := h 4 i (vl_4 hi)
theorem RE_4 {k : Bool} {S : Nat} {ρ α : Mem} {nr nt : Nat} (h : RE k S ρ α nr nt) {i : Nat} (hi : i < 4) : ρ (S + 7) (i) = α 4 i := h 4 i (vl_4 hi) (by decide) (by decide)
theorem vl_5 {k : Bool} {nr nt : Nat} {i : Nat} (hi : i < 4) : vld k 5 i nr nt := Or.inl ⟨by decide, hi⟩
theorem CE_5 {k : Bool} {T : Nat} {σ α : Mem} {nr nt : Nat} (h : CE k T σ α nr nt) {i : Nat} (hi : i < 4) : σ (oH T i) 0 = α 5 i := h 5 i (vl_5 hi)
theorem RE_5 {k : Bool} {S : Nat} {ρ α : Mem} {nr nt : Nat} (h : RE k S ρ α nr nt) {i : Nat} (hi : i < 4) : ρ (S + 2) (2 * i) = α 5 i := h 5 i (vl_5 hi) (by decide) (by decide)
theorem vl_6 {k : Bool} {nr nt : Nat} {i : Nat} (hi : i < 4) : vld k 6 i nr nt := Or.inl ⟨by decide, hi⟩
theorem CE_6 {k : Bool} {T : Nat} {σ α : Mem} {nr nt : Nat} (h : CE k T σ α nr nt) {i : Nat} (hi : i < 4) : σ (oH T i) 1 = α 6 i := h 6 i (vl_6 hi)
theorem RE_6 {k : Bool} {S : Nat} {ρ α : Mem} {nr nt : Nat} (h : RE k S ρ α nr nt) {i : Nat} (hi : i < 4) : ρ (S + 3) (2 * i) = α 6 i := h 6 i (vl_6 hi) (by decide) (by decide)
theorem vl_7 {k : Bool} {nr nt : Nat} {i : Nat} (hi : i < 4) : vld k 7 i nr nt := Or.inl ⟨by decide, hi⟩
theorem CE_7 {k : Bool} {T : Nat} {σ α : Mem} {nr nt : Nat} (h : CE k T σ α nr nt) {i : Nat} (hi : i < 4) : σ (oK T i) 0 = α 7 i := h 7 i (vl_7 hi)
theorem RE_7 {k : Bool} {S : Nat} {ρ α : Mem} {nr nt : Nat} (h : RE k S ρ α nr nt) {i : Nat} (hi : i < 4) : ρ (S + 2) (2 * i + 1) = α 7 i := h 7 i (vl_7 hi) (by decide) (by decide)
theorem vl_8 {k : Bool} {nr nt : Nat} {i : Nat} (hi : i < 4) : vld k 8 i nr nt := Or.inl ⟨by decide, hi⟩
theorem CE_8 {k : Bool} {T : Nat} {σ α : Mem} {nr nt : Nat} (h : CE k T σ α nr nt) {i : Nat} (hi : i < 4) : σ (oK T i) 1 = α 8 i := h 8 i (vl_8 hi)
theorem RE_8 {k : Bool} {S : Nat} {ρ α : Mem} {nr nt : Nat} (h : RE k S ρ α nr nt) {i : Nat} (hi : i < 4) : ρ (S + 3) (2 * i + 1) = α 8 i := h 8 i (vl_8 hi) (by decide) (by decide)
theorem vl_9 {k : Bool} {nr nt : Nat} {i : Nat} (hi : i < nr) : vld k 9 i nr nt := Or.inl ⟨by decide, hi⟩
theorem CE_9 {k : Bool} {T : Nat} {σ α : Mem} {nr nt : Nat} (h : CE k T σ α nr nt) {i : Nat} (hi : i < nr) : σ (oR T i) 0 = α 9 i := h 9 i (vl_9 hi)
theorem RE_9 {k : Bool} {S : Nat} {ρ α : Mem} {nr nt : Nat} (h : RE k S ρ α nr nt) {i : Nat} (hi : i < nr) : ρ (142) (i) = α 9 i := h 9 i (vl_9 hi) (by decide) (by decide)
theorem vl_10 {k : Bool} {nr nt : Nat} {i : Nat} (hi : i < nr) : vld k 10 i nr nt := Or.inl ⟨by decide, hi⟩
theorem CE_10 {k : Bool} {T : Nat} {σ α : Mem} {nr nt : Nat} (h : CE k T σ α nr nt) {i : Nat} (hi : i < nr) : σ (oR T i) 1 = α 10 i := h 10 i (vl_10 hi)
theorem RE_10 {k : Bool} {S : Nat} {ρ α : Mem} {nr nt : Nat} (h : RE k S ρ α nr nt) {i : Nat} (hi : i < nr) : ρ (S + 8) (i) = α 10 i := h 10 i (vl_10 hi) (by decide) (by decide)
theorem vl_11 {k : Bool} {nr nt : Nat} {i : Nat} (hi : i < nr) : vld k 11 i nr nt := Or.inl ⟨by decide, hi⟩
theorem CE_11 {k : Bool} {T : Nat} {σ α : Mem} {nr nt : Nat} (h : CE k T σ α nr nt) {i : Nat} (hi : i < nr) : σ (oR T i) 3 = α 11 i := h 11 i (vl_11 hi)
theorem RE_11 {k : Bool} {S : Nat} {ρ α : Mem} {nr nt : Nat} (h : RE k S ρ α nr nt) {i : Nat} (hi : i < nr) : ρ (S + 9) (i) = α 11 i := h 11 i (vl_11 hi) (by decide) (by decide)
theorem vl_12 {k : Bool} {nr nt : Nat} {i : Nat} (hi : i < nr) : vld k 12 i nr nt := Or.inl ⟨by decide, hi⟩
theorem CE_12 {k : Bool} {T : Nat} {σ α : Mem} {nr nt : Nat} (h : CE k T σ α nr nt) {i : Nat} (hi : i < nr) : σ (oR T i) 4 = α 12 i := h 12 i (vl_12 hi)
theorem RE_12 {k : Bool} {S : Nat} {ρ α : Mem} {nr nt : Nat} (h : RE k S ρ α nr nt) {i : Nat} (hi : i < nr) : ρ (S + 10) (i) = α 12 i := h 12 i (vl_12 hi) (by decide) (by decide)
theorem vl_13 {k : Bool} {nr nt : Nat} {i : Nat} (hi : i < nt) : vld k 13 i nr nt := Or.inl ⟨by decide, hi⟩
theorem CE_13 {k : Bool} {T : Nat} {σ α : Mem} {nr nt : Nat} (h : CE k T σ α nr nt) {i : Nat} (hi : i < nt) : σ (oO T i) 1 = α 13 i := h 13 i (vl_13 hi)
theorem RE_13 {k : Bool} {S : Nat} {ρ α : Mem} {nr nt : Nat} (h : RE k S ρ α nr nt) {i : Nat} (hi : i < nt) : ρ (143) (i) = α 13 i := h 13 i (vl_13 hi) (by decide) (by decide)
theorem vl_14 {k : Bool} {nr nt : Nat} {i : Nat} (hi : i < nt) : vld k 14 i nr nt := Or.inl ⟨by decide, hi⟩
theorem CE_14 {k : Bool} {T : Nat} {σ α : Mem} {nr nt : Nat} (h : CE k T σ α nr nt) {i : Nat} (hi : i < nt) : σ (oO T i) 2 = α 14 i := h 14 i (vl_14 hi)
theorem RE_14 {k : Bool} {S : Nat} {ρ α : Mem} {nr nt : Nat} (h : RE k S ρ α nr nt) {i : Nat} (hi : i < nt) : ρ (144) (i) = α 14 i := h 14 i (vl_14 hi) (by decide) (by decide)
theorem vl_15 {k : Bool} {nr nt : Nat} {i : Nat} (hi : i < nt) : vld k 15 i nr nt := Or.inl ⟨by decide, hi⟩
theorem CE_15 {k : Bool} {T : Nat} {σ α : Mem} {nr nt : Nat} (h : CE k T σ α nr nt) {i : Nat} (hi : i < nt) : σ (oO T i) 3 = α 15 i := h 15 i (vl_15 hi)
theorem RE_15 {k : Bool} {S : Nat} {ρ α : Mem} {nr nt : Nat} (h : RE k S ρ α nr nt) {i : Nat} (hi : i < nt) : ρ (145) (i) = α 15 i := h 15 i (vl_15 hi) (by decide) (by decide)
theorem vl_16 {k : Bool} {nr nt : Nat} {i : Nat} (hi : i < nt) : vld k 16 i nr nt := Or.inl ⟨by decide, hi⟩
theorem CE_16 {k : Bool} {T : Nat} {σ α : Mem} {nr nt : Nat} (h : CE k T σ α nr nt) {i : Nat} (hi : i < nt) : σ (oO T i) 4 = α 16 i := h 16 i (vl_16 hi)
theorem RE_16 {k : Bool} {S : Nat} {ρ α : Mem} {nr nt : Nat} (h : RE k S ρ α nr nt) {i : Nat} (hi : i < nt) : ρ (146) (i) = α 16 i := h 16 i (vl_16 hi) (by decide) (by decide)
theorem vl_17 {k : Bool} {nr nt : Nat} {i : Nat} (hi : i < nt) : vld k 17 i nr nt := Or.inl ⟨by decide, hi⟩
theorem CE_17 {k : Bool} {T : Nat} {σ α : Mem} {nr nt : Nat} (h : CE k T σ α nr nt) {i : Nat} (hi : i < nt) : σ (oO T i) 5 = α 17 i := h 17 i (vl_17 hi)
theorem RE_17 {k : Bool} {S : Nat} {ρ α : Mem} {nr nt : Nat} (h : RE k S ρ α nr nt) {i : Nat} (hi : i < nt) : ρ (S + 11) (i) = α 17 i := h 17 i (vl_17 hi) (by decide) (by decide)
theorem vl_18 {k : Bool} {nr nt : Nat} {i : Nat} (hi : i < nt) : vld k 18 i nr nt := Or.inl ⟨by decide, hi⟩
theorem CE_18 {k : Bool} {T : Nat} {σ α : Mem} {nr nt : Nat} (h : CE k T σ α nr nt) {i : Nat} (hi : i < nt) : σ (oO T i) 6 = α 18 i := h 18 i (vl_18 hi)
theorem RE_18 {k : Bool} {S : Nat} {ρ α : Mem} {nr nt : Nat} (h : RE k S ρ α nr nt) {i : Nat} (hi : i < nt) : ρ (S + 12) (i) = α 18 i := h 18 i (vl_18 hi) (by decide) (by decide)
theorem vl_19 {k : Bool} {nr nt : Nat} {i : Nat} (hi : i < nt) : vld k 19 i nr nt := Or.inl ⟨by decide, hi⟩
theorem CE_19 {k : Bool} {T : Nat} {σ α : Mem} {nr nt : Nat} (h : CE k T σ α nr nt) {i : Nat} (hi : i < nt) : σ (oO T i) 7 = α 19 i := h 19 i (vl_19 hi)
theorem RE_19 {k : Bool} {S : Nat} {ρ α : Mem} {nr nt : Nat} (h : RE k S ρ α nr nt) {i : Nat} (hi : i < nt) : ρ (S + 13) (i) = α 19 i := h 19 i (vl_19 hi) (by decide) (by decide)
theorem vl_20 {k : Bool} {nr nt : Nat} : vld k 20 0 nr nt := Or.inl ⟨by decide, (show (0 : Nat) < 1 from Nat.zero_lt_one)⟩
theorem CE_20 {k : Bool} {T : Nat} {σ α : Mem} {nr nt : Nat} (h : CE k T σ α nr nt) : σ (T) 3 = α 20 0 := h 20 0 (vl_20)
theorem RE_20 {k : Bool} {S : Nat} {ρ α : Mem} {nr nt : Nat} (h : RE k S ρ α nr nt) : ρ (S) (0) = α 20 0 := h 20 0 (vl_20) (by decide) (by decide)
theorem vl_21 {k : Bool} {nr nt : Nat} : vld k 21 0 nr nt := Or.inl ⟨by decide, (show (0 : Nat) < 1 from Nat.zero_lt_one)⟩
theorem CE_21 {k : Bool} {T : Nat} {σ α : Mem} {nr nt : Nat} (h : CE k T σ α nr nt) : σ (T) 6 = α 21 0 := h 21 0 (vl_21)
theorem RE_21 {k : Bool} {S : Nat} {ρ α : Mem} {nr nt : Nat} (h : RE k S ρ α nr nt) : ρ (S) (1) = α 21 0 := h 21 0 (vl_21) (by decide) (by decide)
theorem vl_22 {k : Bool} {nr nt : Nat} {i : Nat} (hi : i < nr) : vld k 22 i nr nt := Or.inl ⟨by decide, hi⟩
theorem CE_22 {k : Bool} {T : Nat} {σ α : Mem} {nr nt : Nat} (h : CE k T σ α nr nt) {i : Nat} (hi : i < nr) : σ (oR T i) 2 = α 22 i := h 22 i (vl_22 hi)
theorem vl_23 {k : Bool} {nr nt : Nat} {i : Nat} (hi : i < 4) : vld k 23 i nr nt := Or.inl ⟨by decide, hi⟩
theorem CE_23 {k : Bool} {T : Nat} {σ α : Mem} {nr nt : Nat} (h : CE k T σ α nr nt) {i : Nat} (hi : i < 4) : σ (oB T i) 5 = α 23 i := h 23 i (vl_23 hi)
theorem vl_24 {k : Bool} {nr nt : Nat} : vld k 24 0 nr nt := Or.inl ⟨by decide, (show (0 : Nat) < 1 from Nat.zero_lt_one)⟩
theorem CE_24 {k : Bool} {T : Nat} {σ α : Mem} {nr nt : Nat} (h : CE k T σ α nr nt) : σ (T) 4 = α 24 0 := h 24 0 (vl_24)
theorem RE_24 {k : Bool} {S : Nat} {ρ α : Mem} {nr nt : Nat} (h : RE k S ρ α nr nt) : ρ (141) (1) = α 24 0 := h 24 0 (vl_24) (by decide) (by decide)
theorem vl_25 {k : Bool} {nr nt : Nat} : vld k 25 0 nr nt := Or.inl ⟨by decide, (show (0 : Nat) < 1 from Nat.zero_lt_one)⟩
theorem CE_25 {k : Bool} {T : Nat} {σ α : Mem} {nr nt : Nat} (h : CE k T σ α nr nt) : σ (T) 5 = α 25 0 := h 25 0 (vl_25)
theorem RE_25 {k : Bool} {S : Nat} {ρ α : Mem} {nr nt : Nat} (h : RE k S ρ α nr nt) : ρ (S) (2) = α 25 0 := h 25 0 (vl_25) (by decide) (by decide)
theorem clo_y {T t i : Nat} : clo T (t + 100) i = oY T t := by
  show oY T (t + 100 - 100) = oY T t
  rw [Nat.add_sub_cancel]
theorem csl_y {t i : Nat} : csl (t + 100) i = i := rfl
theorem rlo_y {S t : Nat} : rlo S (t + 100) = 147 := rfl
theorem rsl_y {t i : Nat} : rsl (t + 100) i = 91 * t + i := by
  show 91 * (t + 100 - 100) + i = 91 * t + i
  rw [Nat.add_sub_cancel]
theorem vl_y {t i nr nt : Nat} (ht : t < 21) (hi : i < 91) : vld true (t + 100) i nr nt := Or.inr ⟨rfl, by omega, by omega, hi⟩
theorem CE_y {T : Nat} {σ α : Mem} {nr nt t i : Nat} (h : CE true T σ α nr nt) (ht : t < 21) (hi : i < 91) : σ (oY T t) i = α (t + 100) i := by
  have h9 := h (t + 100) i (vl_y ht hi)
  rw [clo_y, csl_y] at h9
  exact h9
theorem RE_y {S : Nat} {σ α : Mem} {nr nt t i : Nat} (h : RE true S σ α nr nt) (ht : t < 21) (hi : i < 91) : σ 147 (91 * t + i) = α (t + 100) i := by
  have h9 := h (t + 100) i (vl_y ht hi) (by omega) (by omega)
  rw [rlo_y, rsl_y] at h9
  exact h9
theorem lim_le {f nr nt : Nat} (hr : nr ≤ 12) (ht : nt ≤ 21) : lim f nr nt ≤ lim f 12 21 := by
  unfold lim
  by_cases h1 : f < 9
  · simp only [if_pos h1, Nat.le_refl]
  · by_cases h2 : f < 13
    · simp only [if_neg h1, if_pos h2, hr]
    · by_cases h3 : f < 20
      · simp only [if_neg h1, if_neg h2, if_pos h3, ht]
      · by_cases h4 : f = 22
        · simp only [if_neg h1, if_neg h2, if_neg h3, if_pos h4, hr]
        · simp only [if_neg h1, if_neg h2, if_neg h3, if_neg h4, Nat.le_refl]
def locs9 : List (Nat × Nat) := (List.range 26).flatMap (fun f => (List.range (lim f 12 21)).map (fun i => (f, i)))
theorem locs9_in {f i : Nat} (h : f < 26 ∧ i < lim f 12 21) : (f, i) ∈ locs9 := by
  unfold locs9
  rw [List.mem_flatMap]
  exact ⟨f, List.mem_range.mpr h.1, List.mem_map.mpr ⟨i, List.mem_range.mpr h.2, rfl⟩⟩
def locs8 : List (Nat × Nat) := locs9.filter (fun q => decide (q.1 ≠ 22) && decide (q.1 ≠ 23))
theorem locs8_in {f i : Nat} (h : f < 26 ∧ i < lim f 12 21) (h2 : f ≠ 22) (h3 : f ≠ 23) : (f, i) ∈ locs8 := List.mem_filter.mpr ⟨locs9_in h, by simp [h2, h3]⟩
def enc (a b : Nat) : Nat := a * 2000 + b
theorem c_inj : ∀ T ∈ [1, 71], va_nd (locs9.map (fun q => enc (clo T q.1 q.2) (csl q.1 q.2))) = true := by decide +kernel
theorem r_inj : ∀ S ∈ [148, 162], va_nd (locs8.map (fun q => enc (rlo S q.1) (rsl q.1 q.2))) = true := by decide +kernel
theorem c_ny : ∀ T ∈ [1, 71], ∀ q ∈ locs9, ck (clo T q.1 q.2) 8 = false := by decide +kernel
theorem r_ny : ∀ S ∈ [148, 162], ∀ q ∈ locs8, rlo S q.1 ≠ 147 := by decide +kernel
theorem c_rg : ∀ T ∈ [1, 71], ∀ q ∈ locs9, T ≤ clo T q.1 q.2 ∧ clo T q.1 q.2 < T + 70 := by decide +kernel
theorem nd_inj {l : List (Nat × Nat)} {g : Nat × Nat → Nat} (h : va_nd (l.map g) = true) {p q : Nat × Nat} (hp : p ∈ l) (hq : q ∈ l) (e : g p = g q) : p = q := by
  obtain ⟨i, hi⟩ := List.getElem?_of_mem hp
  obtain ⟨j, hj⟩ := List.getElem?_of_mem hq
  have := va_nd_inj _ h i j (g p) (by rw [List.getElem?_map, hi]; rfl) (by rw [List.getElem?_map, hj, e]; rfl)
  subst this
  exact Option.some.inj (hi.symm.trans hj)
theorem isT_in {T : Nat} (hT : isT T) : T ∈ [1, 71] := by rcases hT with rfl | rfl <;> simp
theorem isS_in {S : Nat} (hS : isS S) : S ∈ [148, 162] := by rcases hS with rfl | rfl <;> simp
theorem y_ex {f : Nat} (h : 100 ≤ f) (h2 : f < 121) : ∃ t, t < 21 ∧ f = t + 100 := ⟨f - 100, by omega, by omega⟩
theorem c_ij {k : Bool} {T f i g j nr nt : Nat} (hT : isT T) (hr : nr ≤ 12) (ht : nt ≤ 21) (h1 : vld k f i nr nt) (h2 : vld k g j nr nt) (e1 : clo T f i = clo T g j) (e2 : csl f i = csl g j) : f = g ∧ i = j := by
  rcases h1 with ⟨a1, a2⟩ | ⟨a0, a1, a2, a3⟩ <;> rcases h2 with ⟨b1, b2⟩ | ⟨b0, b1, b2, b3⟩
  · have h9 := nd_inj (c_inj T (isT_in hT)) (locs9_in ⟨a1, Nat.lt_of_lt_of_le a2 (lim_le hr ht)⟩) (locs9_in ⟨b1, Nat.lt_of_lt_of_le b2 (lim_le hr ht)⟩) (show enc _ _ = enc _ _ by rw [e1, e2])
    simpa using h9
  · obtain ⟨t, h3, rfl⟩ := y_ex b1 b2
    have h8 := c_ny T (isT_in hT) _ (locs9_in ⟨a1, Nat.lt_of_lt_of_le a2 (lim_le hr ht)⟩)
    rw [clo_y] at e1
    rw [e1, ck_Y hT h3] at h8
    exact absurd h8 (by decide)
  · obtain ⟨t, h3, rfl⟩ := y_ex a1 a2
    have h8 := c_ny T (isT_in hT) _ (locs9_in ⟨b1, Nat.lt_of_lt_of_le b2 (lim_le hr ht)⟩)
    rw [clo_y] at e1
    rw [← e1, ck_Y hT h3] at h8
    exact absurd h8 (by decide)
  · obtain ⟨t, h3, rfl⟩ := y_ex a1 a2
    obtain ⟨u, h4, rfl⟩ := y_ex b1 b2
    rw [clo_y, clo_y, eYY] at e1
    rw [csl_y, csl_y] at e2
    exact ⟨by rw [e1], e2⟩
theorem r_ij {k : Bool} {S f i g j nr nt : Nat} (hS : isS S) (hr : nr ≤ 12) (ht : nt ≤ 21) (h1 : vld k f i nr nt) (f1 : f ≠ 22) (f2 : f ≠ 23) (h2 : vld k g j nr nt) (g1 : g ≠ 22) (g2 : g ≠ 23) (e1 : rlo S f = rlo S g) (e2 : rsl f i = rsl g j) : f = g ∧ i = j := by
  rcases h1 with ⟨a1, a2⟩ | ⟨a0, a1, a2, a3⟩ <;> rcases h2 with ⟨b1, b2⟩ | ⟨b0, b1, b2, b3⟩
  · have h9 := nd_inj (r_inj S (isS_in hS)) (locs8_in ⟨a1, Nat.lt_of_lt_of_le a2 (lim_le hr ht)⟩ f1 f2) (locs8_in ⟨b1, Nat.lt_of_lt_of_le b2 (lim_le hr ht)⟩ g1 g2) (show enc _ _ = enc _ _ by rw [e1, e2])
    simpa using h9
  · obtain ⟨t, h3, rfl⟩ := y_ex b1 b2
    have h8 := r_ny S (isS_in hS) _ (locs8_in ⟨a1, Nat.lt_of_lt_of_le a2 (lim_le hr ht)⟩ f1 f2)
    exact absurd (e1.trans rlo_y) h8
  · obtain ⟨t, h3, rfl⟩ := y_ex a1 a2
    have h8 := r_ny S (isS_in hS) _ (locs8_in ⟨b1, Nat.lt_of_lt_of_le b2 (lim_le hr ht)⟩ g1 g2)
    exact absurd (e1.symm.trans rlo_y) h8
  · obtain ⟨t, h3, rfl⟩ := y_ex a1 a2
    obtain ⟨u, h4, rfl⟩ := y_ex b1 b2
    rw [rsl_y, rsl_y] at e2
    exact ⟨by omega, by omega⟩
theorem CE_w {k : Bool} {T : Nat} {σ α : Mem} {nr nt f i a b : Nat} {x : Int32} (hT : isT T) (hr : nr ≤ 12) (ht : nt ≤ 21) (hv : vld k f i nr nt) (ea : a = clo T f i) (eb : b = csl f i) (h : CE k T σ α nr nt) : CE k T (sI σ a b x) (sI α f i x) nr nt := by
  subst ea eb
  intro g j hg
  rw [sI_at, sI_at]
  by_cases e : g = f ∧ j = i
  · obtain ⟨rfl, rfl⟩ := e
    simp
  · rw [if_neg e, if_neg]
    · exact h g j hg
    · intro e2
      exact e (c_ij hT hr ht hg hv e2.1 e2.2)
theorem RE_w {k : Bool} {S : Nat} {ρ α : Mem} {nr nt f i a b : Nat} {x : Int32} (hS : isS S) (hr : nr ≤ 12) (ht : nt ≤ 21) (hv : vld k f i nr nt) (f1 : f ≠ 22) (f2 : f ≠ 23) (ea : a = rlo S f) (eb : b = rsl f i) (h : RE k S ρ α nr nt) : RE k S (sI ρ a b x) (sI α f i x) nr nt := by
  subst ea eb
  intro g j hg g1 g2
  rw [sI_at, sI_at]
  by_cases e : g = f ∧ j = i
  · obtain ⟨rfl, rfl⟩ := e
    simp
  · rw [if_neg e, if_neg]
    · exact h g j hg g1 g2
    · intro e2
      exact e (r_ij hS hr ht hg g1 g2 hv f1 f2 e2.1 e2.2)
theorem RE_22 {k : Bool} {S : Nat} {ρ α : Mem} {nr nt f i : Nat} {x : Int32} (hf : f = 22 ∨ f = 23) (h : RE k S ρ α nr nt) : RE k S ρ (sI α f i x) nr nt := by
  intro g j hg g1 g2
  rw [sI_at, if_neg (by omega)]
  exact h g j hg g1 g2
theorem CE_yw {T : Nat} {σ α : Mem} {nr nt t i : Nat} {x : Int32} (hT : isT T) (hr : nr ≤ 12) (hn : nt ≤ 21) (ht : t < 21) (hi : i < 91) (h : CE true T σ α nr nt) : CE true T (sI σ (oY T t) i x) (sI α (t + 100) i x) nr nt := CE_w hT hr hn (vl_y ht hi) clo_y.symm csl_y.symm h
theorem RE_yw {S : Nat} {σ α : Mem} {nr nt t i : Nat} {x : Int32} (hS : isS S) (hr : nr ≤ 12) (hn : nt ≤ 21) (ht : t < 21) (hi : i < 91) (h : RE true S σ α nr nt) : RE true S (sI σ 147 (91 * t + i) x) (sI α (t + 100) i x) nr nt := RE_w hS hr hn (vl_y ht hi) (by omega) (by omega) rlo_y.symm rsl_y.symm h
def Fc (T : Nat) (σ σ2 : Mem) : Prop := ∀ j, j < T ∨ T + 70 ≤ j → σ2 j = σ j
def Fr (k : Bool) (S : Nat) (σ σ2 : Mem) : Prop := ∀ j, (j < 148 ∧ (k = true → j ≠ 147)) ∨ (148 ≤ j ∧ (j < S ∨ S + 14 ≤ j)) → σ2 j = σ j
theorem Fc_0 {T : Nat} {σ : Mem} : Fc T σ σ := fun _ _ => rfl
theorem Fc_t {T : Nat} {σ σ2 σ3 : Mem} (h : Fc T σ σ2) (h2 : Fc T σ2 σ3) : Fc T σ σ3 := fun j hj => (h2 j hj).trans (h j hj)
theorem sI_ne {σ : Mem} {a b j : Nat} {x : Int32} (h : j ≠ a) : sI σ a b x j = σ j := if_neg h
theorem Fc_w {T a b : Nat} {σ σ2 : Mem} {x : Int32} (h : Fc T σ σ2) (ha : T ≤ a ∧ a < T + 70) : Fc T σ (sI σ2 a b x) := fun j hj => (sI_ne (by omega)).trans (h j hj)
theorem Fr_0 {k : Bool} {S : Nat} {σ : Mem} : Fr k S σ σ := fun _ _ => rfl
theorem Fr_t {k : Bool} {S : Nat} {σ σ2 σ3 : Mem} (h : Fr k S σ σ2) (h2 : Fr k S σ2 σ3) : Fr k S σ σ3 := fun j hj => (h2 j hj).trans (h j hj)
theorem Fr_w {k : Bool} {S a b : Nat} {σ σ2 : Mem} {x : Int32} (h : Fr k S σ σ2) (hS : isS S) (ha : (S ≤ a ∧ a < S + 14) ∨ (k = true ∧ a = 147)) : Fr k S σ (sI σ2 a b x) := by
  intro j hj
  refine (sI_ne ?_).trans (h j hj)
  rintro rfl
  rcases hS with rfl | rfl <;> rcases ha with ha | ⟨rfl, rfl⟩
  · omega
  · rcases hj with hj | hj
    · exact hj.2 rfl rfl
    · omega
  · omega
  · rcases hj with hj | hj
    · exact hj.2 rfl rfl
    · omega
theorem CE_fr {k : Bool} {T : Nat} {σ σ2 α : Mem} {nr nt : Nat} (hT : isT T) (hr : nr ≤ 12) (ht : nt ≤ 21) (hf : ∀ j, T ≤ j ∧ j < T + 70 → σ2 j = σ j) (h : CE k T σ α nr nt) : CE k T σ2 α nr nt := by
  intro f i hv
  rw [hf, h f i hv]
  rcases hv with ⟨a1, a2⟩ | ⟨a0, a1, a2, a3⟩
  · exact c_rg T (isT_in hT) _ (locs9_in ⟨a1, Nat.lt_of_lt_of_le a2 (lim_le hr ht)⟩)
  · obtain ⟨t, h3, rfl⟩ := y_ex a1 a2
    rw [clo_y]
    unfold oY
    omega
theorem gd_tr {α : Type} {x : Option α} : gd true x = x := Eq.trans rfl rfl
theorem b1_so {α β : Type} {a : α} {K : α → Option β} : b1 (some a) K = K a := Eq.trans rfl rfl
theorem b2_so {α β γ : Type} {a : α} {b : β} {K : α → β → Option γ} : b2 (some (a, b)) K = K a b := Eq.trans rfl rfl
theorem nm_so {α β : Type} {a : α} {K : α → Option β} : nm a K = K a := Eq.trans rfl rfl
theorem bx_r {α β : Type} {a : α} {F : Nat → Option β} {K : α → Option β} : bx (some (.inr a)) F K = K a := Eq.trans rfl rfl
theorem bx_l {α β : Type} {k : Nat} {F : Nat → Option β} {K : α → Option β} : bx (some (.inl k)) F K = F k := Eq.trans rfl rfl
theorem rgB {T i : Nat} (hi : i < 4) : T ≤ oB T i ∧ oB T i < T + 70 := by unfold oB; omega
theorem rgH {T i : Nat} (hi : i < 4) : T ≤ oH T i ∧ oH T i < T + 70 := by unfold oH; omega
theorem rgK {T i : Nat} (hi : i < 4) : T ≤ oK T i ∧ oK T i < T + 70 := by unfold oK; omega
theorem rgR {T i : Nat} (hi : i < 12) : T ≤ oR T i ∧ oR T i < T + 70 := by unfold oR; omega
theorem rgO {T i : Nat} (hi : i < 21) : T ≤ oO T i ∧ oO T i < T + 70 := by unfold oO; omega
theorem rgY {T i : Nat} (hi : i < 21) : T ≤ oY T i ∧ oY T i < T + 70 := by unfold oY; omega
theorem rgT {T : Nat} : T ≤ T ∧ T < T + 70 := ⟨Nat.le_refl _, by omega⟩
theorem CW_0 {k : Bool} {T : Nat} {σ α : Mem} {nr nt : Nat} (x : Int32) (hT : isT T) (hr : nr ≤ 12) (hn : nt ≤ 21) {i : Nat} (hi : i < 4) (h : CE k T σ α nr nt) : CE k T (sI σ (oB T i) 2 x) (sI α 0 i x) nr nt := CE_w hT hr hn (vl_0 hi) rfl rfl h
theorem RW_0 {k : Bool} {S : Nat} {σ α : Mem} {nr nt : Nat} (x : Int32) (hS : isS S) (hr : nr ≤ 12) (hn : nt ≤ 21) {i : Nat} (hi : i < 4) (h : RE k S σ α nr nt) : RE k S (sI σ (S + 1) (i) x) (sI α 0 i x) nr nt := RE_w hS hr hn (vl_0 hi) (by decide) (by decide) rfl rfl h
theorem CW_1 {k : Bool} {T : Nat} {σ α : Mem} {nr nt : Nat} (x : Int32) (hT : isT T) (hr : nr ≤ 12) (hn : nt ≤ 21) {i : Nat} (hi : i < 4) (h : CE k T σ α nr nt) : CE k T (sI σ (oB T i) 3 x) (sI α 1 i x) nr nt := CE_w hT hr hn (vl_1 hi) rfl rfl h
theorem RW_1 {k : Bool} {S : Nat} {σ α : Mem} {nr nt : Nat} (x : Int32) (hS : isS S) (hr : nr ≤ 12) (hn : nt ≤ 21) {i : Nat} (hi : i < 4) (h : RE k S σ α nr nt) : RE k S (sI σ (S + 4) (i) x) (sI α 1 i x) nr nt := RE_w hS hr hn (vl_1 hi) (by decide) (by decide) rfl rfl h
theorem CW_2 {k : Bool} {T : Nat} {σ α : Mem} {nr nt : Nat} (x : Int32) (hT : isT T) (hr : nr ≤ 12) (hn : nt ≤ 21) {i : Nat} (hi : i < 4) (h : CE k T σ α nr nt) : CE k T (sI σ (oB T i) 4 x) (sI α 2 i x) nr nt := CE_w hT hr hn (vl_2 hi) rfl rfl h
theorem RW_2 {k : Bool} {S : Nat} {σ α : Mem} {nr nt : Nat} (x : Int32) (hS : isS S) (hr : nr ≤ 12) (hn : nt ≤ 21) {i : Nat} (hi : i < 4) (h : RE k S σ α nr nt) : RE k S (sI σ (S + 5) (i) x) (sI α 2 i x) nr nt := RE_w hS hr hn (vl_2 hi) (by decide) (by decide) rfl rfl h
theorem CW_3 {k : Bool} {T : Nat} {σ α : Mem} {nr nt : Nat} (x : Int32) (hT : isT T) (hr : nr ≤ 12) (hn : nt ≤ 21) {i : Nat} (hi : i < 4) (h : CE k T σ α nr nt) : CE k T (sI σ (oB T i) 6 x) (sI α 3 i x) nr nt := CE_w hT hr hn (vl_3 hi) rfl rfl h
theorem RW_3 {k : Bool} {S : Nat} {σ α : Mem} {nr nt : Nat} (x : Int32) (hS : isS S) (hr : nr ≤ 12) (hn : nt ≤ 21) {i : Nat} (hi : i < 4) (h : RE k S σ α nr nt) : RE k S (sI σ (S + 6) (i) x) (sI α 3 i x) nr nt := RE_w hS hr hn (vl_3 hi) (by decide) (by decide) rfl rfl h
theorem CW_4 {k : Bool} {T : Nat} {σ α : Mem} {nr nt : Nat} (x : Int32) (hT : isT T) (hr : nr ≤ 12) (hn : nt ≤ 21) {i : Nat} (hi : i < 4) (h : CE k T σ α nr nt) : CE k T (sI σ (oB T i) 7 x) (sI α 4 i x) nr nt := CE_w hT hr hn (vl_4 hi) rfl rfl h
theorem RW_4 {k : Bool} {S : Nat} {σ α : Mem} {nr nt : Nat} (x : Int32) (hS : isS S) (hr : nr ≤ 12) (hn : nt ≤ 21) {i : Nat} (hi : i < 4) (h : RE k S σ α nr nt) : RE k S (sI σ (S + 7) (i) x) (sI α 4 i x) nr nt := RE_w hS hr hn (vl_4 hi) (by decide) (by decide) rfl rfl h
theorem CW_5 {k : Bool} {T : Nat} {σ α : Mem} {nr nt : Nat} (x : Int32) (hT : isT T) (hr : nr ≤ 12) (hn : nt ≤ 21) {i : Nat} (hi : i < 4) (h : CE k T σ α nr nt) : CE k T (sI σ (oH T i) 0 x) (sI α 5 i x) nr nt := CE_w hT hr hn (vl_5 hi) rfl rfl h
theorem RW_5 {k : Bool} {S : Nat} {σ α : Mem} {nr nt : Nat} (x : Int32) (hS : isS S) (hr : nr ≤ 12) (hn : nt ≤ 21) {i : Nat} (hi : i < 4) (h : RE k S σ α nr nt) : RE k S (sI σ (S + 2) (2 * i) x) (sI α 5 i x) nr nt := RE_w hS hr hn (vl_5 hi) (by decide) (by decide) rfl rfl h
theorem CW_6 {k : Bool} {T : Nat} {σ α : Mem} {nr nt : Nat} (x : Int32) (hT : isT T) (hr : nr ≤ 12) (hn : nt ≤ 21) {i : Nat} (hi : i < 4) (h : CE k T σ α nr nt) : CE k T (sI σ (oH T i) 1 x) (sI α 6 i x) nr nt := CE_w hT hr hn (vl_6 hi) rfl rfl h
theorem RW_6 {k : Bool} {S : Nat} {σ α : Mem} {nr nt : Nat} (x : Int32) (hS : isS S) (hr : nr ≤ 12) (hn : nt ≤ 21) {i : Nat} (hi : i < 4) (h : RE k S σ α nr nt) : RE k S (sI σ (S + 3) (2 * i) x) (sI α 6 i x) nr nt := RE_w hS hr hn (vl_6 hi) (by decide) (by decide) rfl rfl h
theorem CW_7 {k : Bool} {T : Nat} {σ α : Mem} {nr nt : Nat} (x : Int32) (hT : isT T) (hr : nr ≤ 12) (hn : nt ≤ 21) {i : Nat} (hi : i < 4) (h : CE k T σ α nr nt) : CE k T (sI σ (oK T i) 0 x) (sI α 7 i x) nr nt := CE_w hT hr hn (vl_7 hi) rfl rfl h
theorem RW_7 {k : Bool} {S : Nat} {σ α : Mem} {nr nt : Nat} (x : Int32) (hS : isS S) (hr : nr ≤ 12) (hn : nt ≤ 21) {i : Nat} (hi : i < 4) (h : RE k S σ α nr nt) : RE k S (sI σ (S + 2) (2 * i + 1) x) (sI α 7 i x) nr nt := RE_w hS hr hn (vl_7 hi) (by decide) (by decide) rfl rfl h
theorem CW_8 {k : Bool} {T : Nat} {σ α : Mem} {nr nt : Nat} (x : Int32) (hT : isT T) (hr : nr ≤ 12) (hn : nt ≤ 21) {i : Nat} (hi : i < 4) (h : CE k T σ α nr nt) : CE k T (sI σ (oK T i) 1 x) (sI α 8 i x) nr nt := CE_w hT hr hn (vl_8 hi) rfl rfl h
theorem RW_8 {k : Bool} {S : Nat} {σ α : Mem} {nr nt : Nat} (x : Int32) (hS : isS S) (hr : nr ≤ 12) (hn : nt ≤ 21) {i : Nat} (hi : i < 4) (h : RE k S σ α nr nt) : RE k S (sI σ (S + 3) (2 * i + 1) x) (sI α 8 i x) nr nt := RE_w hS hr hn (vl_8 hi) (by decide) (by decide) rfl rfl h
theorem CW_9 {k : Bool} {T : Nat} {σ α : Mem} {nr nt : Nat} (x : Int32) (hT : isT T) (hr : nr ≤ 12) (hn : nt ≤ 21) {i : Nat} (hi : i < nr) (h : CE k T σ α nr nt) : CE k T (sI σ (oR T i) 0 x) (sI α 9 i x) nr nt := CE_w hT hr hn (vl_9 hi) rfl rfl h
theorem RW_9 {k : Bool} {S : Nat} {σ α : Mem} {nr nt : Nat} (x : Int32) (hS : isS S) (hr : nr ≤ 12) (hn : nt ≤ 21) {i : Nat} (hi : i < nr) (h : RE k S σ α nr nt) : RE k S (sI σ (142) (i) x) (sI α 9 i x) nr nt := RE_w hS hr hn (vl_9 hi) (by decide) (by decide) rfl rfl h
theorem CW_10 {k : Bool} {T : Nat} {σ α : Mem} {nr nt : Nat} (x : Int32) (hT : isT T) (hr : nr ≤ 12) (hn : nt ≤ 21) {i : Nat} (hi : i < nr) (h : CE k T σ α nr nt) : CE k T (sI σ (oR T i) 1 x) (sI α 10 i x) nr nt := CE_w hT hr hn (vl_10 hi) rfl rfl h
theorem RW_10 {k : Bool} {S : Nat} {σ α : Mem} {nr nt : Nat} (x : Int32) (hS : isS S) (hr : nr ≤ 12) (hn : nt ≤ 21) {i : Nat} (hi : i < nr) (h : RE k S σ α nr nt) : RE k S (sI σ (S + 8) (i) x) (sI α 10 i x) nr nt := RE_w hS hr hn (vl_10 hi) (by decide) (by decide) rfl rfl h
theorem CW_11 {k : Bool} {T : Nat} {σ α : Mem} {nr nt : Nat} (x : Int32) (hT : isT T) (hr : nr ≤ 12) (hn : nt ≤ 21) {i : Nat} (hi : i < nr) (h : CE k T σ α nr nt) : CE k T (sI σ (oR T i) 3 x) (sI α 11 i x) nr nt := CE_w hT hr hn (vl_11 hi) rfl rfl h
theorem RW_11 {k : Bool} {S : Nat} {σ α : Mem} {nr nt : Nat} (x : Int32) (hS : isS S) (hr : nr ≤ 12) (hn : nt ≤ 21) {i : Nat} (hi : i < nr) (h : RE k S σ α nr nt) : RE k S (sI σ (S + 9) (i) x) (sI α 11 i x) nr nt := RE_w hS hr hn (vl_11 hi) (by decide) (by decide) rfl rfl h
theorem CW_12 {k : Bool} {T : Nat} {σ α : Mem} {nr nt : Nat} (x : Int32) (hT : isT T) (hr : nr ≤ 12) (hn : nt ≤ 21) {i : Nat} (hi : i < nr) (h : CE k T σ α nr nt) : CE k T (sI σ (oR T i) 4 x) (sI α 12 i x) nr nt := CE_w hT hr hn (vl_12 hi) rfl rfl h
theorem RW_12 {k : Bool} {S : Nat} {σ α : Mem} {nr nt : Nat} (x : Int32) (hS : isS S) (hr : nr ≤ 12) (hn : nt ≤ 21) {i : Nat} (hi : i < nr) (h : RE k S σ α nr nt) : RE k S (sI σ (S + 10) (i) x) (sI α 12 i x) nr nt := RE_w hS hr hn (vl_12 hi) (by decide) (by decide) rfl rfl h
theorem CW_13 {k : Bool} {T : Nat} {σ α : Mem} {nr nt : Nat} (x : Int32) (hT : isT T) (hr : nr ≤ 12) (hn : nt ≤ 21) {i : Nat} (hi : i < nt) (h : CE k T σ α nr nt) : CE k T (sI σ (oO T i) 1 x) (sI α 13 i x) nr nt := CE_w hT hr hn (vl_13 hi) rfl rfl h
theorem RW_13 {k : Bool} {S : Nat} {σ α : Mem} {nr nt : Nat} (x : Int32) (hS : isS S) (hr : nr ≤ 12) (hn : nt ≤ 21) {i : Nat} (hi : i < nt) (h : RE k S σ α nr nt) : RE k S (sI σ (143) (i) x) (sI α 13 i x) nr nt := RE_w hS hr hn (vl_13 hi) (by decide) (by decide) rfl rfl h
theorem CW_14 {k : Bool} {T : Nat} {σ α : Mem} {nr nt : Nat} (x : Int32) (hT : isT T) (hr : nr ≤ 12) (hn : nt ≤ 21) {i : Nat} (hi : i < nt) (h : CE k T σ α nr nt) : CE k T (sI σ (oO T i) 2 x) (sI α 14 i x) nr nt := CE_w hT hr hn (vl_14 hi) rfl rfl h
theorem RW_14 {k : Bool} {S : Nat} {σ α : Mem} {nr nt : Nat} (x : Int32) (hS : isS S) (hr : nr ≤ 12) (hn : nt ≤ 21) {i : Nat} (hi : i < nt) (h : RE k S σ α nr nt) : RE k S (sI σ (144) (i) x) (sI α 14 i x) nr nt := RE_w hS hr hn (vl_14 hi) (by decide) (by decide) rfl rfl h
theorem CW_15 {k : Bool} {T : Nat} {σ α : Mem} {nr nt : Nat} (x : Int32) (hT : isT T) (hr : nr ≤ 12) (hn : nt ≤ 21) {i : Nat} (hi : i < nt) (h : CE k T σ α nr nt) : CE k T (sI σ (oO T i) 3 x) (sI α 15 i x) nr nt := CE_w hT hr hn (vl_15 hi) rfl rfl h
theorem RW_15 {k : Bool} {S : Nat} {σ α : Mem} {nr nt : Nat} (x : Int32) (hS : isS S) (hr : nr ≤ 12) (hn : nt ≤ 21) {i : Nat} (hi : i < nt) (h : RE k S σ α nr nt) : RE k S (sI σ (145) (i) x) (sI α 15 i x) nr nt := RE_w hS hr hn (vl_15 hi) (by decide) (by decide) rfl rfl h
theorem CW_16 {k : Bool} {T : Nat} {σ α : Mem} {nr nt : Nat} (x : Int32) (hT : isT T) (hr : nr ≤ 12) (hn : nt ≤ 21) {i : Nat} (hi : i < nt) (h : CE k T σ α nr nt) : CE k T (sI σ (oO T i) 4 x) (sI α 16 i x) nr nt := CE_w hT hr hn (vl_16 hi) rfl rfl h
theorem RW_16 {k : Bool} {S : Nat} {σ α : Mem} {nr nt : Nat} (x : Int32) (hS : isS S) (hr : nr ≤ 12) (hn : nt ≤ 21) {i : Nat} (hi : i < nt) (h : RE k S σ α nr nt) : RE k S (sI σ (146) (i) x) (sI α 16 i x) nr nt := RE_w hS hr hn (vl_16 hi) (by decide) (by decide) rfl rfl h
theorem CW_17 {k : Bool} {T : Nat} {σ α : Mem} {nr nt : Nat} (x : Int32) (hT : isT T) (hr : nr ≤ 12) (hn : nt ≤ 21) {i : Nat} (hi : i < nt) (h : CE k T σ α nr nt) : CE k T (sI σ (oO T i) 5 x) (sI α 17 i x) nr nt := CE_w hT hr hn (vl_17 hi) rfl rfl h
theorem RW_17 {k : Bool} {S : Nat} {σ α : Mem} {nr nt : Nat} (x : Int32) (hS : isS S) (hr : nr ≤ 12) (hn : nt ≤ 21) {i : Nat} (hi : i < nt) (h : RE k S σ α nr nt) : RE k S (sI σ (S + 11) (i) x) (sI α 17 i x) nr nt := RE_w hS hr hn (vl_17 hi) (by decide) (by decide) rfl rfl h
theorem CW_18 {k : Bool} {T : Nat} {σ α : Mem} {nr nt : Nat} (x : Int32) (hT : isT T) (hr : nr ≤ 12) (hn : nt ≤ 21) {i : Nat} (hi : i < nt) (h : CE k T σ α nr nt) : CE k T (sI σ (oO T i) 6 x) (sI α 18 i x) nr nt := CE_w hT hr hn (vl_18 hi) rfl rfl h
theorem RW_18 {k : Bool} {S : Nat} {σ α : Mem} {nr nt : Nat} (x : Int32) (hS : isS S) (hr : nr ≤ 12) (hn : nt ≤ 21) {i : Nat} (hi : i < nt) (h : RE k S σ α nr nt) : RE k S (sI σ (S + 12) (i) x) (sI α 18 i x) nr nt := RE_w hS hr hn (vl_18 hi) (by decide) (by decide) rfl rfl h
theorem CW_19 {k : Bool} {T : Nat} {σ α : Mem} {nr nt : Nat} (x : Int32) (hT : isT T) (hr : nr ≤ 12) (hn : nt ≤ 21) {i : Nat} (hi : i < nt) (h : CE k T σ α nr nt) : CE k T (sI σ (oO T i) 7 x) (sI α 19 i x) nr nt := CE_w hT hr hn (vl_19 hi) rfl rfl h
theorem RW_19 {k : Bool} {S : Nat} {σ α : Mem} {nr nt : Nat} (x : Int32) (hS : isS S) (hr : nr ≤ 12) (hn : nt ≤ 21) {i : Nat} (hi : i < nt) (h : RE k S σ α nr nt) : RE k S (sI σ (S + 13) (i) x) (sI α 19 i x) nr nt := RE_w hS hr hn (vl_19 hi) (by decide) (by decide) rfl rfl h
theorem CW_20 {k : Bool} {T : Nat} {σ α : Mem} {nr nt : Nat} (x : Int32) (hT : isT T) (hr : nr ≤ 12) (hn : nt ≤ 21) (h : CE k T σ α nr nt) : CE k T (sI σ (T) 3 x) (sI α 20 0 x) nr nt := CE_w hT hr hn (vl_20) rfl rfl h
theorem RW_20 {k : Bool} {S : Nat} {σ α : Mem} {nr nt : Nat} (x : Int32) (hS : isS S) (hr : nr ≤ 12) (hn : nt ≤ 21) (h : RE k S σ α nr nt) : RE k S (sI σ (S) (0) x) (sI α 20 0 x) nr nt := RE_w hS hr hn (vl_20) (by decide) (by decide) rfl rfl h
theorem CW_21 {k : Bool} {T : Nat} {σ α : Mem} {nr nt : Nat} (x : Int32) (hT : isT T) (hr : nr ≤ 12) (hn : nt ≤ 21) (h : CE k T σ α nr nt) : CE k T (sI σ (T) 6 x) (sI α 21 0 x) nr nt := CE_w hT hr hn (vl_21) rfl rfl h
theorem RW_21 {k : Bool} {S : Nat} {σ α : Mem} {nr nt : Nat} (x : Int32) (hS : isS S) (hr : nr ≤ 12) (hn : nt ≤ 21) (h : RE k S σ α nr nt) : RE k S (sI σ (S) (1) x) (sI α 21 0 x) nr nt := RE_w hS hr hn (vl_21) (by decide) (by decide) rfl rfl h
theorem CW_22 {k : Bool} {T : Nat} {σ α : Mem} {nr nt : Nat} (x : Int32) (hT : isT T) (hr : nr ≤ 12) (hn : nt ≤ 21) {i : Nat} (hi : i < nr) (h : CE k T σ α nr nt) : CE k T (sI σ (oR T i) 2 x) (sI α 22 i x) nr nt := CE_w hT hr hn (vl_22 hi) rfl rfl h
theorem CW_23 {k : Bool} {T : Nat} {σ α : Mem} {nr nt : Nat} (x : Int32) (hT : isT T) (hr : nr ≤ 12) (hn : nt ≤ 21) {i : Nat} (hi : i < 4) (h : CE k T σ α nr nt) : CE k T (sI σ (oB T i) 5 x) (sI α 23 i x) nr nt := CE_w hT hr hn (vl_23 hi) rfl rfl h
theorem CW_24 {k : Bool} {T : Nat} {σ α : Mem} {nr nt : Nat} (x : Int32) (hT : isT T) (hr : nr ≤ 12) (hn : nt ≤ 21) (h : CE k T σ α nr nt) : CE k T (sI σ (T) 4 x) (sI α 24 0 x) nr nt := CE_w hT hr hn (vl_24) rfl rfl h
theorem RW_24 {k : Bool} {S : Nat} {σ α : Mem} {nr nt : Nat} (x : Int32) (hS : isS S) (hr : nr ≤ 12) (hn : nt ≤ 21) (h : RE k S σ α nr nt) : RE k S (sI σ (141) (1) x) (sI α 24 0 x) nr nt := RE_w hS hr hn (vl_24) (by decide) (by decide) rfl rfl h
theorem CW_25 {k : Bool} {T : Nat} {σ α : Mem} {nr nt : Nat} (x : Int32) (hT : isT T) (hr : nr ≤ 12) (hn : nt ≤ 21) (h : CE k T σ α nr nt) : CE k T (sI σ (T) 5 x) (sI α 25 0 x) nr nt := CE_w hT hr hn (vl_25) rfl rfl h
theorem RW_25 {k : Bool} {S : Nat} {σ α : Mem} {nr nt : Nat} (x : Int32) (hS : isS S) (hr : nr ≤ 12) (hn : nt ≤ 21) (h : RE k S σ α nr nt) : RE k S (sI σ (S) (2) x) (sI α 25 0 x) nr nt := RE_w hS hr hn (vl_25) (by decide) (by decide) rfl rfl h
theorem sI_s {σ : Mem} {a b : Nat} {x : Int32} : sI σ a b x a b = x := by rw [sI_at, if_pos ⟨rfl, rfl⟩]
theorem sI_n {σ : Mem} {a b c d : Nat} {x : Int32} (h : c ≠ a ∨ d ≠ b) : sI σ a b x c d = σ c d := by rw [sI_at, if_neg (by omega)]
theorem sI_10 {σ : Mem} {a : Nat} {x : Int32} : sI σ a 1 x a 0 = σ a 0 := sI_n (by omega)
theorem sI_ss {σ : Mem} {a b : Nat} {x y : Int32} : sI (sI σ a b x) a b y = sI σ a b y := by
  funext c d
  rw [sI_at, sI_at, sI_at]
  by_cases h : c = a ∧ d = b
  · rw [if_pos h, if_pos h]
  · rw [if_neg h, if_neg h, if_neg h]
theorem sI_c {σ : Mem} {a b c d : Nat} {x y : Int32} (h : a ≠ c) : sI (sI σ a b x) c d y = sI (sI σ c d y) a b x := by
  funext u v
  rw [sI_at, sI_at, sI_at, sI_at]
  by_cases h1 : u = a ∧ v = b
  · rw [if_pos h1, if_neg (by omega), if_pos h1]
  · rw [if_neg h1]
    by_cases h2 : u = c ∧ v = d
    · rw [if_pos h2, if_neg h1]
    · rw [if_neg h2, if_neg h1]
theorem sI_id {σ : Mem} {a b : Nat} {x : Int32} (h : σ a b = x) : sI σ a b x = σ := by
  funext c d
  rw [sI_at]
  by_cases e : c = a ∧ d = b
  · rw [if_pos e, e.1, e.2, h]
  · rw [if_neg e]
def cN (x : Int32) : Nat := x.toNatClampNeg
theorem cN_n {n : Nat} (h : n < 2 ^ 31) : cN (nI n) = n := nI_clamp h
