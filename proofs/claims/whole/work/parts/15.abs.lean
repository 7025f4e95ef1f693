/-! what a minute does, in the abstract -/
def aPull (α : Mem) (r : Nat) (w : Int32) : Mem := sI (sI α 10 r (α 10 r + w)) 11 r (α 11 r + 1)
def aYr (k : Bool) (α : Mem) (t : Nat) (rc : Int32) : Mem := if k = true ∧ ¬ α 17 t ≤ 3 * (α 14 t + 1) then sI α (t + 100) (cN rc) (α (t + 100) (cN rc) + 1) else α
def aSound (k : Bool) (α : Mem) (t : Nat) (l : Int32) (rc : Int32) : Mem := aYr k (if l = 0 then sI α 17 t (α 17 t + 1) else sI (sI α 17 t (α 17 t + 1)) 18 t (α 18 t + 1)) t rc
def aWear (α : Mem) (b ft fw : Nat) (w : Int32) : Mem := if α ft b = 0 then α else if α fw b + w < 10 * α ft b then sI α fw b (α fw b + w) else sI (sI (sI α fw b (α fw b + w)) ft b 0) fw b 0
def aTurn (α : Mem) (b : Nat) : Mem := sI (sI α 1 b (1 - α 1 b)) 4 b (α 4 b + 1)
def aPz (α : Mem) (t : Nat) : Int32 := if α 17 t = α 14 t + 1 then α 16 t - 1 + α 16 t else if α 17 t = 2 * (α 14 t + 1) then α 16 t - 1 + α 16 t else if α 17 t = 3 * (α 14 t + 1) then α 16 t - 1 + α 16 t else α 16 t - 1
def aDue (α : Mem) (t : Nat) : Int32 := 3 * (α 14 t + 1) + α 15 t
def aEmpty (α : Mem) (b : Nat) : Mem := if α 2 b < 0 then sI α 2 b (-1) else sI (sI α 22 (cN (α 2 b)) (-1)) 2 b (-1)
def aFf (α : Mem) (x : Int32) : Nat → Nat → Int32
  | 0, _ => -1
  | d + 1, i => if α 13 i = x ∧ α 19 i < 0 then nI i else aFf α x d (i + 1)
def aFirst (α : Mem) (nt : Nat) (x : Int32) : Int32 := aFf α x nt 0
def aEnd2 (α : Mem) (b : Nat) : Mem := if α 23 b = -1 then aEmpty α b else α
def aEnd1 (α : Mem) (nt t b : Nat) : Mem := if α 23 b = nI t then sI (sI α 3 b 0) 23 b (aFirst (sI α 3 b 0) nt (α 13 t)) else α
def aEnd (α : Mem) (nt t b : Nat) : Mem := aEnd2 (aEnd1 (sI α 19 t (α 20 0)) nt t b) b
def aStop (α : Mem) (nt t : Nat) : Mem := aEnd α nt t (cN (α 13 t))
def aRch (th w : Int32) : Int32 := if th ≤ 0 then 10 * w else 10 * w / (1 + th)
def aTl (α : Mem) (b t nt : Nat) : Mem := if α 17 t < aDue α t then sI α 3 b (aPz α t) else aEnd α nt t b
def aStk (k : Bool) (α : Mem) (b r t ft fw nt : Nat) : Mem := aTl (aTurn (aWear (aSound k (aPull α r (α 0 b)) t (if α ft b = 0 then 1 else 0) (aRch (α ft b) (α 0 b))) b ft fw (α 0 b)) b) b t nt
def aStrike (k : Bool) (α : Mem) (b r t nt : Nat) : Mem := if α 1 b = 0 then aStk k α b r t 5 6 nt else aStk k α b r t 7 8 nt
def aBring (α : Mem) (b r : Nat) : Mem := sI (sI (aEmpty α b) 2 b (nI r)) 22 r (nI b)
def aNo (α : Mem) (r : Nat) (w : Int32) : Prop := 10 * α 9 r < α 10 r + w
def aBs (α : Mem) (w : Int32) : Nat → Nat → Int32 → Int32 → Int32
  | 0, _, y, _ => y
  | d + 1, i, y, z => if α 22 i = -1 ∧ ¬ 10 * α 9 i < α 10 i + w ∧ (y = -1 ∨ ¬ z ≤ α 10 i) then aBs α w d (i + 1) (nI i) (α 10 i) else aBs α w d (i + 1) y z
def aRel (α : Mem) (b nr : Nat) : Int32 × Mem := if aBs α (α 0 b) nr 0 (-1) 0 < 0 then (aBs α (α 0 b) nr 0 (-1) 0, α) else (aBs α (α 0 b) nr 0 (-1) 0, sI (aBring α b (cN (aBs α (α 0 b) nr 0 (-1) 0))) 12 (cN (aBs α (α 0 b) nr 0 (-1) 0)) (α 12 (cN (aBs α (α 0 b) nr 0 (-1) 0)) + 1))
def aFind (α : Mem) (b nr : Nat) : Int32 × Mem := if α 2 b < 0 then aRel α b nr else if 10 * α 9 (cN (α 2 b)) < α 10 (cN (α 2 b)) + α 0 b then aRel α b nr else (α 2 b, α)
def aGo (α : Mem) (b nr : Nat) : Int32 × Mem := if 0 ≤ α 23 b then (if α 3 b ≤ 0 then aFind α b nr else (-1, sI α 3 b (α 3 b - 1))) else (-1, α)
def aBl (k : Bool) (α : Mem) (b nr nt : Nat) (y : Int32) : Int32 × Mem := if (aGo α b nr).1 < 0 then (y, (aGo α b nr).2) else (y + 1, aStrike k (aGo α b nr).2 b (cN (aGo α b nr).1) (cN ((aGo α b nr).2 23 b)) nt)
def aBls (k : Bool) (nr nt : Nat) : Nat → Nat → Int32 → Mem → Int32 × Mem
  | 0, _, y, α => (y, α)
  | d + 1, b, y, α => aBls k nr nt d (b + 1) (aBl k α b nr nt y).1 (aBl k α b nr nt y).2
def aRest (α : Mem) (r : Nat) : Mem := if α 22 r = -1 then sI α 10 r (if 0 < α 10 r - 2 then α 10 r - 2 else 0) else α
def aRests : Nat → Nat → Mem → Mem
  | 0, _, α => α
  | d + 1, r, α => aRests d (r + 1) (aRest α r)
def aTick (α : Mem) (nr : Nat) : Mem := sI (aRests nr 0 α) 20 0 (aRests nr 0 α 20 0 + 1)
def aMin (k : Bool) (α : Mem) (nr nt : Nat) : Int32 × Mem := ((aBls k nr nt 4 0 0 α).1, aTick (aBls k nr nt 4 0 0 α).2 nr)
def aMins (k : Bool) (nr nt : Nat) : Nat → Int32 → Mem → Int32 × Mem
  | 0, y, α => (y, α)
  | d + 1, y, α => aMins k nr nt d (y + (aMin k α nr nt).1) (aMin k α nr nt).2
/-! bounds that the class asks for -/
def okR (α : Mem) (R b : Nat) : Prop := α 2 b = -1 ∨ ∃ r, r < R ∧ α 2 b = nI r
def cR (k : Bool) (T R nt : Nat) (σ α2 : Mem) (x : Option Mem) : Prop := ∃ σ2, x = some σ2 ∧ CE k T σ2 α2 R nt ∧ Fc T σ σ2
def cR2 {β : Type} (k : Bool) (T R nt : Nat) (σ α2 : Mem) (v : β) (x : Option (β × Mem)) : Prop := ∃ σ2, x = some (v, σ2) ∧ CE k T σ2 α2 R nt ∧ Fc T σ σ2
theorem cR_t {k : Bool} {T R nt : Nat} {σ σ1 α2 : Mem} {x : Option Mem} (f : Fc T σ σ1) (h : cR k T R nt σ1 α2 x) : cR k T R nt σ α2 x := by
  obtain ⟨s, e, h2, f2⟩ := h
  exact ⟨s, e, h2, Fc_t f f2⟩
theorem cR2_t {β : Type} {k : Bool} {T R nt : Nat} {σ σ1 α2 : Mem} {v : β} {x : Option (β × Mem)} (f : Fc T σ σ1) (h : cR2 k T R nt σ1 α2 v x) : cR2 k T R nt σ α2 v x := by
  obtain ⟨s, e, h2, f2⟩ := h
  exact ⟨s, e, h2, Fc_t f f2⟩
