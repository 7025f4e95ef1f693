/-! the walk of mean -/
theorem XW_d {U : State} (h : XW U) (d : Drawn) : XW (U.setDrawn d) := ⟨fun w hw => dr_words h.1 d w hw, h.2⟩
theorem GA_d {g : GT} {ad : Nat → Nat} {σ : Mem} {w : Bool} {b : Nat} {s : State} {H : Heap} {locs : List Loc} (h : GA g ad σ w b s H locs) (d : Drawn) : GA g ad σ w b (s.setDrawn d) H locs := ⟨h.1, h.2.1, h.2.2.1, h.2.2.2.1, h.2.2.2.2.1, h.2.2.2.2.2.1, h.2.2.2.2.2.2.1, XW_d h.2.2.2.2.2.2.2 d⟩
theorem CF_d {p : Program} {m : MethodId} {c : Code} {cc : ByteArray} {nL : Nat} {s : State} {args : Array Value} {Ts : List Cond} {own : String} (S : CallFix p m c cc nL s args Ts own) (d : Drawn) : CallFix p m c cc nL (s.setDrawn d) args Ts own := ⟨S.1, S.2.1, S.2.2.1, S.2.2.2.1, dr_words S.2.2.2.2 d⟩
