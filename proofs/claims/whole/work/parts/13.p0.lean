/-! the pure side: objects by their families -/
def isT (T : Nat) : Prop := T = 1 ∨ T = 71
def isS (S : Nat) : Prop := S = 148 ∨ S = 162
def oB (T i : Nat) : Nat := T + 2 + 3 * i
def oH (T i : Nat) : Nat := T + 3 + 3 * i
def oK (T i : Nat) : Nat := T + 4 + 3 * i
def oR (T i : Nat) : Nat := T + 15 + i
def oO (T i : Nat) : Nat := T + 28 + 2 * i
def oY (T i : Nat) : Nat := T + 29 + 2 * i
theorem sI_at (σ : Mem) (j k : Nat) (x : Int32) (a b : Nat) : sI σ j k x a b = if a = j ∧ b = k then x else σ a b := by
  unfold sI upd
  by_cases h : a = j
  · subst h
    by_cases h2 : b = k <;> simp [h2]
  · simp [h]
theorem fT {P : Nat → Prop} (h1 : P 1) (h2 : P 71) {T : Nat} (hT : isT T) : P T := by
  rcases hT with rfl | rfl
  · exact h1
  · exact h2
theorem fN {P : Nat → Nat → Prop} {n : Nat} (h : ∀ T ∈ [1, 71], ∀ i ∈ List.range n, P T i) {T i : Nat} (hT : isT T) (hi : i < n) : P T i := h T (by rcases hT with rfl | rfl <;> simp) i (List.mem_range.mpr hi)
theorem ck_T {T : Nat} (hT : isT T) : ck T 4 = true := fT (P := fun T => ck T 4 = true) (by decide) (by decide) hT
theorem ck_B {T i : Nat} (hT : isT T) (hi : i < 4) : ck (oB T i) 0 = true := fN (P := fun T i => ck (oB T i) 0 = true) (by decide +kernel) hT hi
theorem ck_H {T i : Nat} (hT : isT T) (hi : i < 4) : ck (oH T i) 1 = true := fN (P := fun T i => ck (oH T i) 1 = true) (by decide +kernel) hT hi
theorem ck_K {T i : Nat} (hT : isT T) (hi : i < 4) : ck (oK T i) 1 = true := fN (P := fun T i => ck (oK T i) 1 = true) (by decide +kernel) hT hi
theorem ck_R {T i : Nat} (hT : isT T) (hi : i < 12) : ck (oR T i) 2 = true := fN (P := fun T i => ck (oR T i) 2 = true) (by decide +kernel) hT hi
theorem ck_O {T i : Nat} (hT : isT T) (hi : i < 21) : ck (oO T i) 3 = true := fN (P := fun T i => ck (oO T i) 3 = true) (by decide +kernel) hT hi
theorem ck_Y {T i : Nat} (hT : isT T) (hi : i < 21) : ck (oY T i) 8 = true := fN (P := fun T i => ck (oY T i) 8 = true) (by decide +kernel) hT hi
theorem ck_AR {T : Nat} (hT : isT T) : ck (T + 14) 10 = true := fT (P := fun T => ck (T + 14) 10 = true) (by decide) (by decide) hT
theorem ck_AO {T : Nat} (hT : isT T) : ck (T + 27) 11 = true := fT (P := fun T => ck (T + 27) 11 = true) (by decide) (by decide) hT
theorem sl_AR {T : Nat} (hT : isT T) : sl (T + 14) = 12 := fT (P := fun T => sl (T + 14) = 12) (by decide) (by decide) hT
theorem sl_AO {T : Nat} (hT : isT T) : sl (T + 27) = 21 := fT (P := fun T => sl (T + 27) = 21) (by decide) (by decide) hT
theorem sl_Y1 {i : Nat} (hi : i < 21) : sl (oY 1 i) = 91 := (by decide +kernel : ∀ i ∈ List.range 21, sl (oY 1 i) = 91) i (List.mem_range.mpr hi)
theorem sl_Y2 {i : Nat} (hi : i < 21) : sl (oY 71 i) = 0 := (by decide +kernel : ∀ i ∈ List.range 21, sl (oY 71 i) = 0) i (List.mem_range.mpr hi)
theorem rf_T0 {T : Nat} (hT : isT T) : rf T 4 0 = some (T + 1) := fT (P := fun T => rf T 4 0 = some (T + 1)) (by decide) (by decide) hT
theorem rf_T1 {T : Nat} (hT : isT T) : rf T 4 1 = some (T + 14) := fT (P := fun T => rf T 4 1 = some (T + 14)) (by decide) (by decide) hT
theorem rf_T2 {T : Nat} (hT : isT T) : rf T 4 2 = some (T + 27) := fT (P := fun T => rf T 4 2 = some (T + 27)) (by decide) (by decide) hT
theorem rf_B0 {T i : Nat} (hT : isT T) (hi : i < 4) : rf (oB T i) 0 0 = some (oH T i) := fN (P := fun T i => rf (oB T i) 0 0 = some (oH T i)) (by decide +kernel) hT hi
theorem rf_B1 {T i : Nat} (hT : isT T) (hi : i < 4) : rf (oB T i) 0 1 = some (oK T i) := fN (P := fun T i => rf (oB T i) 0 1 = some (oK T i)) (by decide +kernel) hT hi
theorem rf_O {T i : Nat} (hT : isT T) (hi : i < 21) : rf (oO T i) 3 0 = some (oY T i) := fN (P := fun T i => rf (oO T i) 3 0 = some (oY T i)) (by decide +kernel) hT hi
theorem ea_B {T i : Nat} (hT : isT T) (hi : i < 4) : ea (T + 1) 9 (nI i) = some (oB T i) := fN (P := fun T i => ea (T + 1) 9 (nI i) = some (oB T i)) (by decide +kernel) hT hi
theorem ea_R {T i : Nat} (hT : isT T) (hi : i < 12) : ea (T + 14) 10 (nI i) = some (oR T i) := fN (P := fun T i => ea (T + 14) 10 (nI i) = some (oR T i)) (by decide +kernel) hT hi
theorem ea_O {T i : Nat} (hT : isT T) (hi : i < 21) : ea (T + 27) 11 (nI i) = some (oO T i) := fN (P := fun T i => ea (T + 27) 11 (nI i) = some (oO T i)) (by decide +kernel) hT hi
theorem rf_00 : rf 0 5 0 = some 1 := by decide
theorem rf_01 : rf 0 5 1 = some 71 := by decide
/-! apart -/
theorem eBB {T i j : Nat} : (oB T i = oB T j) = (i = j) := by unfold oB; apply propext; omega
theorem eHH {T i j : Nat} : (oH T i = oH T j) = (i = j) := by unfold oH; apply propext; omega
theorem eKK {T i j : Nat} : (oK T i = oK T j) = (i = j) := by unfold oK; apply propext; omega
theorem eRR {T i j : Nat} : (oR T i = oR T j) = (i = j) := by unfold oR; apply propext; omega
theorem eOO {T i j : Nat} : (oO T i = oO T j) = (i = j) := by unfold oO; apply propext; omega
theorem eYY {T i j : Nat} : (oY T i = oY T j) = (i = j) := by unfold oY; apply propext; omega
theorem eTB {T j : Nat} (hj : j < 4) : (T = oB T j) = False := eq_false (by unfold oB; omega)
theorem eTH {T j : Nat} (hj : j < 4) : (T = oH T j) = False := eq_false (by unfold oH; omega)
theorem eTK {T j : Nat} (hj : j < 4) : (T = oK T j) = False := eq_false (by unfold oK; omega)
theorem eTR {T j : Nat} (hj : j < 12) : (T = oR T j) = False := eq_false (by unfold oR; omega)
theorem eTO {T j : Nat} (hj : j < 21) : (T = oO T j) = False := eq_false (by unfold oO; omega)
theorem eTY {T j : Nat} (hj : j < 21) : (T = oY T j) = False := eq_false (by unfold oY; omega)
theorem eBT {T i : Nat} (hi : i < 4) : (oB T i = T) = False := eq_false (by unfold oB; omega)
theorem eBH {T i j : Nat} (hi : i < 4) (hj : j < 4) : (oB T i = oH T j) = False := eq_false (by unfold oB oH; omega)
theorem eBK {T i j : Nat} (hi : i < 4) (hj : j < 4) : (oB T i = oK T j) = False := eq_false (by unfold oB oK; omega)
theorem eBR {T i j : Nat} (hi : i < 4) (hj : j < 12) : (oB T i = oR T j) = False := eq_false (by unfold oB oR; omega)
theorem eBO {T i j : Nat} (hi : i < 4) (hj : j < 21) : (oB T i = oO T j) = False := eq_false (by unfold oB oO; omega)
theorem eBY {T i j : Nat} (hi : i < 4) (hj : j < 21) : (oB T i = oY T j) = False := eq_false (by unfold oB oY; omega)
theorem eHT {T i : Nat} (hi : i < 4) : (oH T i = T) = False := eq_false (by unfold oH; omega)
theorem eHB {T i j : Nat} (hi : i < 4) (hj : j < 4) : (oH T i = oB T j) = False := eq_false (by unfold oH oB; omega)
theorem eHK {T i j : Nat} (hi : i < 4) (hj : j < 4) : (oH T i = oK T j) = False := eq_false (by unfold oH oK; omega)
theorem eHR {T i j : Nat} (hi : i < 4) (hj : j < 12) : (oH T i = oR T j) = False := eq_false (by unfold oH oR; omega)
theorem eHO {T i j : Nat} (hi : i < 4) (hj : j < 21) : (oH T i = oO T j) = False := eq_false (by unfold oH oO; omega)
theorem eHY {T i j : Nat} (hi : i < 4) (hj : j < 21) : (oH T i = oY T j) = False := eq_false (by unfold oH oY; omega)
theorem eKT {T i : Nat} (hi : i < 4) : (oK T i = T) = False := eq_false (by unfold oK; omega)
theorem eKB {T i j : Nat} (hi : i < 4) (hj : j < 4) : (oK T i = oB T j) = False := eq_false (by unfold oK oB; omega)
theorem eKH {T i j : Nat} (hi : i < 4) (hj : j < 4) : (oK T i = oH T j) = False := eq_false (by unfold oK oH; omega)
theorem eKR {T i j : Nat} (hi : i < 4) (hj : j < 12) : (oK T i = oR T j) = False := eq_false (by unfold oK oR; omega)
theorem eKO {T i j : Nat} (hi : i < 4) (hj : j < 21) : (oK T i = oO T j) = False := eq_false (by unfold oK oO; omega)
theorem eKY {T i j : Nat} (hi : i < 4) (hj : j < 21) : (oK T i = oY T j) = False := eq_false (by unfold oK oY; omega)
theorem eRT {T i : Nat} (hi : i < 12) : (oR T i = T) = False := eq_false (by unfold oR; omega)
theorem eRB {T i j : Nat} (hi : i < 12) (hj : j < 4) : (oR T i = oB T j) = False := eq_false (by unfold oR oB; omega)
theorem eRH {T i j : Nat} (hi : i < 12) (hj : j < 4) : (oR T i = oH T j) = False := eq_false (by unfold oR oH; omega)
theorem eRK {T i j : Nat} (hi : i < 12) (hj : j < 4) : (oR T i = oK T j) = False := eq_false (by unfold oR oK; omega)
theorem eRO {T i j : Nat} (hi : i < 12) (hj : j < 21) : (oR T i = oO T j) = False := eq_false (by unfold oR oO; omega)
theorem eRY {T i j : Nat} (hi : i < 12) (hj : j < 21) : (oR T i = oY T j) = False := eq_false (by unfold oR oY; omega)
theorem eOT {T i : Nat} (hi : i < 21) : (oO T i = T) = False := eq_false (by unfold oO; omega)
theorem eOB {T i j : Nat} (hi : i < 21) (hj : j < 4) : (oO T i = oB T j) = False := eq_false (by unfold oO oB; omega)
theorem eOH {T i j : Nat} (hi : i < 21) (hj : j < 4) : (oO T i = oH T j) = False := eq_false (by unfold oO oH; omega)
theorem eOK {T i j : Nat} (hi : i < 21) (hj : j < 4) : (oO T i = oK T j) = False := eq_false (by unfold oO oK; omega)
theorem eOR {T i j : Nat} (hi : i < 21) (hj : j < 12) : (oO T i = oR T j) = False := eq_false (by unfold oO oR; omega)
theorem eOY {T i j : Nat} (hi : i < 21) (hj : j < 21) : (oO T i = oY T j) = False := eq_false (by unfold oO oY; omega)
theorem eYT {T i : Nat} (hi : i < 21) : (oY T i = T) = False := eq_false (by unfold oY; omega)
theorem eYB {T i j : Nat} (hi : i < 21) (hj : j < 4) : (oY T i = oB T j) = False := eq_false (by unfold oY oB; omega)
theorem eYH {T i j : Nat} (hi : i < 21) (hj : j < 4) : (oY T i = oH T j) = False := eq_false (by unfold oY oH; omega)
theorem eYK {T i j : Nat} (hi : i < 21) (hj : j < 4) : (oY T i = oK T j) = False := eq_false (by unfold oY oK; omega)
theorem eYR {T i j : Nat} (hi : i < 21) (hj : j < 12) : (oY T i = oR T j) = False := eq_false (by unfold oY oR; omega)
theorem eYO {T i j : Nat} (hi : i < 21) (hj : j < 21) : (oY T i = oO T j) = False := eq_false (by unfold oY oO; omega)
