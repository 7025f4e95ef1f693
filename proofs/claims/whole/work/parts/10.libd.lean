/-! the world while it is made: how many objects, the kind of each, its length, its references, its ints; the address of object j is the start's size and j -/
abbrev Me : Type := Nat × (Nat → Nat) × (Nat → Nat) × (Nat → Nat → Option Nat) × Mem
def dn (M : Me) : Nat := M.1
def dk (M : Me) : Nat → Nat := M.2.1
def dl (M : Me) : Nat → Nat := M.2.2.1
def dr (M : Me) : Nat → Nat → Option Nat := M.2.2.2.1
def di (M : Me) : Mem := M.2.2.2.2
def up1 {α : Type} (f : Nat → α) (j : Nat) (x : α) : Nat → α := fun a => if a = j then x else f a
def dnew (M : Me) (c : Nat) : Me := (dn M + 1, up1 (dk M) (dn M) c, dl M, up1 (dr M) (dn M) (fun _ => none), up1 (di M) (dn M) (fun _ => 0))
def dnewA (M : Me) (c n : Nat) : Me := (dn M + 1, up1 (dk M) (dn M) c, up1 (dl M) (dn M) n, up1 (dr M) (dn M) (fun _ => none), up1 (di M) (dn M) (fun _ => 0))
def dput (M : Me) (j k : Nat) (x : Int32) : Me := (dn M, dk M, dl M, dr M, sI (di M) j k x)
def dputR (M : Me) (j k r : Nat) : Me := (dn M, dk M, dl M, up1 (dr M) j (va_up (dr M j) k (some r)), di M)
def dck (M : Me) (j c : Nat) : Bool := decide (j < dn M) && decide (dk M j = c)
def dia (M : Me) (j c : Nat) (i : Int32) : Bool := dck M j c && inb i (dl M j)
theorem dck_of {M : Me} {j c : Nat} (h : dck M j c = true) : j < dn M ∧ dk M j = c := by simpa [dck] using h
theorem dia_of {M : Me} {j c : Nat} {i : Int32} (h : dia M j c i = true) : (j < dn M ∧ dk M j = c) ∧ vp_in i (dl M j) := by
  unfold dia at h
  rw [Bool.and_eq_true] at h
  exact ⟨dck_of h.1, of_decide_eq_true (p := ¬ (i < 0 ∨ dl M j ≤ i.toNatClampNeg)) h.2⟩
def bad (g : GT) (j : Nat) : Nat := g.2.2.2 + j
def dcell (cA : Nat → ClassId) (ad : Nat → Nat) (k n : Nat) (rr : Nat → Option Nat) (row : Nat → Int32) : va_E := match k with
  | 0 => .inr (0, [va_re ad (rr 0), va_re ad (rr 1), .int (row 2), .int (row 3), .int (row 4), .int (row 5), .int (row 6), .int (row 7)])
  | 1 => .inr (1, [.int (row 0), .int (row 1)])
  | 2 => .inr (2, [.int (row 0), .int (row 1), .int (row 2), .int (row 3), .int (row 4)])
  | 3 => .inr (3, [va_re ad (rr 0), .int (row 1), .int (row 2), .int (row 3), .int (row 4), .int (row 5), .int (row 6), .int (row 7)])
  | 4 => .inr (4, [va_re ad (rr 0), va_re ad (rr 1), va_re ad (rr 2), .int (row 3), .int (row 4), .int (row 5), .int (row 6)])
  | 5 => .inr (5, [va_re ad (rr 0), va_re ad (rr 1)])
  | 6 => .inr (6, [.int (row 0), .int (row 1), .int (row 2), va_re ad (rr 3), va_re ad (rr 4), va_re ad (rr 5), va_re ad (rr 6), va_re ad (rr 7), va_re ad (rr 8), va_re ad (rr 9), va_re ad (rr 10), va_re ad (rr 11), va_re ad (rr 12), va_re ad (rr 13), va_re ad (rr 14), va_re ad (rr 15), va_re ad (rr 16)])
  | 7 => .inr (7, [.int (row 0), .int (row 1), va_re ad (rr 2), .int (row 3), va_re ad (rr 4), va_re ad (rr 5), va_re ad (rr 6), va_re ad (rr 7), va_re ad (rr 8), va_re ad (rr 9), va_re ad (rr 10)])
  | 9 => .inl (cA 1, n, .inr (.inr (.inr (.inr (fun i => (rr i).map ad)))))
  | 10 => .inl (cA 2, n, .inr (.inr (.inr (.inr (fun i => (rr i).map ad)))))
  | 11 => .inl (cA 3, n, .inr (.inr (.inr (.inr (fun i => (rr i).map ad)))))
  | _ => .inl (cA 0, n, .inl row)
def dce (g : GT) (M : Me) (j : Nat) : va_E := dcell g.2.2.1 (bad g) (dk M j) (dl M j) (dr M j) (di M j)
def dwl (g : GT) (M : Me) : va_W := (List.range (dn M)).map (fun j => (bad g j, dce g M j))
theorem dwl_get {g : GT} {M : Me} {j : Nat} (h : j < dn M) : (dwl g M)[j]? = some (bad g j, dce g M j) := by
  simp [dwl, List.getElem?_map, List.getElem?_range h]
theorem dwl_of {g : GT} {M : Me} {j : Nat} {q : Nat × va_E} (h : (dwl g M)[j]? = some q) : j < dn M ∧ q = (bad g j, dce g M j) := by
  by_cases hj : j < dn M
  · rw [dwl_get hj] at h; cases h; exact ⟨hj, rfl⟩
  · rw [List.getElem?_eq_none (by simp [dwl]; omega)] at h; cases h
theorem dwl_D {g : GT} {M : Me} : va_D (fun q => g.2.2.2 ≤ q) (dwl g M) := by
  refine ⟨fun i j p q hp hq e => ?_, fun k q hk => ?_⟩
  · obtain ⟨hi, rfl⟩ := dwl_of hp
    obtain ⟨hj, rfl⟩ := dwl_of hq
    have e : g.2.2.2 + i = g.2.2.2 + j := e
    omega
  · obtain ⟨hi, rfl⟩ := dwl_of hk
    exact Nat.le_add_right _ _
def DG (g : GT) (M : Me) (U : State) : Prop := va_P (g.1, g.2.1) vwCl (dwl g M) U.heap ∧ va_K (g.1, g.2.1) vwCl (tyG g) U ∧ U.heap.size = g.2.2.2 + dn M
def AO (U : State) : Prop := va_AO RX0 U ∧ va_AO RX2 U ∧ va_AO RX3 U
theorem AO_moved {s U : State} (hW : s.vm.Alike U.vm) (h : AO s) : AO U := ⟨h.1.moved hW, h.2.1.moved hW, h.2.2.moved hW⟩
def DP (g : GT) (M : Me) (U : State) : Prop := DG g M U ∧ XW U ∧ AO U
def DA (g : GT) (M : Me) (s : State) (H : Heap) (locs : List Loc) : Prop := va_P (g.1, g.2.1) vwCl (dwl g M) H ∧ va_K (g.1, g.2.1) vwCl (tyG g) s ∧ H.size = g.2.2.2 + dn M ∧ va_S (fun q => g.2.2.2 ≤ q) s.heap H locs ∧ XW s ∧ AO s
theorem DA_start {g : GT} {M : Me} {s : State} (h : DP g M s) : DA g M s s.heap [] := ⟨h.1.1, h.1.2.1, h.1.2.2, va_S.rf, h.2⟩
theorem DA_pre {g : GT} {M : Me} {s U : State} {H : Heap} {locs : List Loc} (h : DA g M s H locs) (hU : U.heap = H) (hW : s.WarmedH U.vm) : DP g M U := ⟨⟨by rw [hU]; exact h.1, va_K.moved hW.alike h.2.1, by rw [hU]; exact h.2.2.1⟩, XW_go hW h.2.2.2.2.1, AO_moved hW.alike h.2.2.2.2.2⟩
theorem DA_world {g : GT} {M : Me} {s U : State} {H : Heap} {locs : List Loc} (h : DA g M s H locs) (hU : U.heap = H) (hW : s.vm.Alike U.vm) : DG g M U := ⟨by rw [hU]; exact h.1, va_K.moved hW h.2.1, by rw [hU]; exact h.2.2.1⟩
theorem DA_next {g : GT} {M M1 : Me} {s t : State} {H H1 : Heap} {locs locs1 : List Loc} (h : DA g M s H locs) (ht : t.heap = H1) (hB : DG g M1 t) (hS : va_S (fun q => g.2.2.2 ≤ q) s.heap H1 locs1) : DA g M1 s H1 locs1 := ⟨by rw [← ht]; exact hB.1, h.2.1, by rw [← ht]; exact hB.2.2, hS, h.2.2.2.2⟩
theorem Dblind {g : GT} {M : Me} {av : List Value} : FrameBlind (va_Pc av (DP g M)) := by
  intro a U f mk q
  obtain ⟨e, ⟨h1, h2, h3⟩, h4, h5⟩ := q
  exact ⟨e, ⟨h1, va_K.moved (u := U) (U := U.calling f mk a) (Vm.Alike.refl U.vm) h2, h3⟩, XW_same (s := U) (U := U.calling f mk a) rfl h4, AO_moved (s := U) (U := U.calling f mk a) (Vm.Alike.refl U.vm) h5⟩
theorem dset {g : GT} {M M1 : Me} {j : Nat} {e : va_E} (hn : dn M1 = dn M) (hj : j < dn M) (he : e = dce g M1 j) (ho : ∀ i, i ≠ j → dce g M1 i = dce g M i) : (dwl g M).set j (bad g j, e) = dwl g M1 := by
  subst he
  apply List.ext_getElem?
  intro i
  by_cases hi : i = j
  · subst hi
    rw [List.getElem?_set_self (by simp [dwl]; omega), dwl_get (by rw [hn]; exact hj)]
  · rw [List.getElem?_set_ne (Ne.symm hi)]
    by_cases h : i < dn M
    · rw [dwl_get h, dwl_get (by rw [hn]; exact h), ho i hi]
    · rw [List.getElem?_eq_none (by simp [dwl]; omega), List.getElem?_eq_none (by simp [dwl]; omega)]
theorem dpush {g : GT} {M M1 : Me} (hn : dn M1 = dn M + 1) (ho : ∀ i, i ≠ dn M → dce g M1 i = dce g M i) : dwl g M1 = dwl g M ++ [(bad g (dn M), dce g M1 (dn M))] := by
  unfold dwl
  rw [hn, List.range_succ, List.map_append]
  congr 1
  apply List.map_congr_left
  intro i hi
  rw [ho i (Nat.ne_of_lt (List.mem_range.mp hi))]
theorem dput_o {g : GT} {M : Me} {j k : Nat} {x : Int32} : ∀ i, i ≠ j → dce g (dput M j k x) i = dce g M i := fun i hi => by simp [dce, dput, dk, dl, dr, di, sI, hi]
theorem dputR_o {g : GT} {M : Me} {j k r : Nat} : ∀ i, i ≠ j → dce g (dputR M j k r) i = dce g M i := fun i hi => by simp [dce, dputR, dk, dl, dr, di, up1, hi]
theorem dnew_o {g : GT} {M : Me} {c : Nat} : ∀ i, i ≠ dn M → dce g (dnew M c) i = dce g M i := fun i hi => by simp [dce, dnew, dk, dl, dr, di, dn, up1] at hi ⊢; simp [hi]
theorem dnewA_o {g : GT} {M : Me} {c n : Nat} : ∀ i, i ≠ dn M → dce g (dnewA M c n) i = dce g M i := fun i hi => by simp [dce, dnewA, dk, dl, dr, di, dn, up1] at hi ⊢; simp [hi]
theorem DA_wrote {g : GT} {M M1 : Me} {s : State} {H H1 : Heap} {locs locs1 : List Loc} {j : Nat} {e : va_E} (h : DA g M s H locs) (hn : dn M1 = dn M) (hj : j < dn M) (he : e = dce g M1 j) (ho : ∀ i, i ≠ j → dce g M1 i = dce g M i) (hP : va_P (g.1, g.2.1) vwCl ((dwl g M).set j (bad g j, e)) H1) (hz : H1.size = H.size) (hS : va_S (fun q => g.2.2.2 ≤ q) s.heap H1 locs1) : DA g M1 s H1 locs1 := ⟨by rw [← dset hn hj he ho]; exact hP, h.2.1, by rw [hz, hn]; exact h.2.2.1, hS, h.2.2.2.2⟩
theorem DA_made {g : GT} {M M1 : Me} {s : State} {H H1 : Heap} {locs : List Loc} (h : DA g M s H locs) (hb : g.2.2.2 ≤ s.heap.size) (hn : dn M1 = dn M + 1) (ho : ∀ i, i ≠ dn M → dce g M1 i = dce g M i) (hz : H1.size = H.size + 1) (ok : ∀ q, q < H.size → H1[q]? = H[q]?) (hc : va_at (g.1, g.2.1) vwCl (H.size, dce g M1 (dn M)) H1) : DA g M1 s H1 locs := by
  have hb9 : bad g (dn M) = H.size := h.2.2.1.symm
  refine ⟨?_, h.2.1, by rw [hz, h.2.2.1, hn]; omega, ⟨Nat.le_trans h.2.2.2.1.1 (by omega), fun q h1 h2 => (ok q (Nat.lt_of_lt_of_le h1 h.2.2.2.1.1)).trans (h.2.2.2.1.2.1 q h1 h2), h.2.2.2.1.2.2⟩, h.2.2.2.2⟩
  rw [dpush hn ho]
  refine (h.1.kept (fun k q hk => ok q.1 (h.1 k q hk).lt)).app (fun k q hk => ?_)
  match k, hk with
  | 0, hk =>
    have hk : some (bad g (dn M), dce g M1 (dn M)) = some q := hk
    cases hk
    rw [hb9]
    exact hc
  | k + 1, hk => simp at hk
section RD
variable {p : Program} {l : Launch} {e : Env} {R : Room} {s : State} {m : MethodId} {args : Array Value} {below : List Frame} {meth : Method} {c : Code} {H : Heap} {locs : List Loc} {cells slots : Nat} {Q : State → Prop} {P : Prop} {cc : ByteArray} {nL : Nat} {own : String} {pc : Nat} {ls : Array Slot} {rest : List Value} {α : Type} {X Y : Option α} {res : α} {g : GT} {M : Me}
theorem dg_0 {j : Nat} (h : j < dn M ∧ dk M j = 0) : (dwl g M)[j]? = some (bad g j, .inr (0, [va_re (bad g) (dr M j 0), va_re (bad g) (dr M j 1), .int (di M j 2), .int (di M j 3), .int (di M j 4), .int (di M j 5), .int (di M j 6), .int (di M j 7)])) := (dwl_get h.1).trans (congrArg (fun z => some (bad g j, z)) (by unfold dce; rw [h.2]; rfl))
theorem d_new_0 (S : CallFix p m c cc nL s args AL own) (hA : DA g M s H locs) (hb : g.2.2.2 ≤ s.heap.size) {index : Nat} {K : Me → Option α} (hq : Cond.classLink own index RX0 ∈ AL) (hi : Cond.instantiable RX0 8 ∈ AL) (hn : Cond.initialized RX0 ∈ AL) (hcells : cells + 1 ≤ R.cells) (hslots : slots + 8 ≤ R.slots) (hdg : decode cc pc = .ok (.new index, 3)) (kk : ∀ (M1 : Me) (H1 : Heap), DA g M1 s H1 locs → K M1 = some res → W p l e R s m args below meth c H1 locs (cells + 1) (slots + 8) Q (F0 m (pc + 3) ls (.ref (bad g (dn M)) :: rest))) : nm (dnew M 0) K = some res → W p l e R s m args below meth c H locs cells slots Q (F0 m pc ls rest) := fun h => by
  have hKn := hA.2.1.1 0 (RX0, TX0, 8) rfl
  refine W.newcK S.1 S.2.1 S.2.2.2.1 (S.2.2.2.2 _ hq) (S.2.2.2.2 _ hi) (S.2.2.2.2 _ hn) rfl hdg hcells hslots hKn.2.1 rfl fun H1 kC hkC e1 z1 o1 => ?_
  rw [show H.size = bad g (dn M) from hA.2.2.1]
  refine kk (dnew M 0) H1 (DA_made hA hb rfl dnew_o z1 o1 ?_) h
  have he : dce g (dnew M 0) (dn M) = .inr (0, [.null, .null, .int 0, .int 0, .int 0, .int 0, .int 0, .int 0]) := by simp [dce, dnew, dk, dl, dr, di, dn, up1, dcell, va_re, va_rf]
  rw [he]
  exact ⟨_, rfl, (u_born tyX0 S.2.2.2.2 inX0 hKn hkC e1 tyX0_ok).to (fun j hj => by
    match j, hj with
    | 0, _ => rfl
    | 1, _ => rfl
    | 2, _ => rfl
    | 3, _ => rfl
    | 4, _ => rfl
    | 5, _ => rfl
    | 6, _ => rfl
    | 7, _ => rfl
    | k + 8, hj => exact absurd hj (by omega))⟩
theorem dg_1 {j : Nat} (h : j < dn M ∧ dk M j = 1) : (dwl g M)[j]? = some (bad g j, .inr (1, [.int (di M j 0), .int (di M j 1)])) := (dwl_get h.1).trans (congrArg (fun z => some (bad g j, z)) (by unfold dce; rw [h.2]; rfl))
theorem d_new_1 (S : CallFix p m c cc nL s args AL own) (hA : DA g M s H locs) (hb : g.2.2.2 ≤ s.heap.size) {index : Nat} {K : Me → Option α} (hq : Cond.classLink own index RX1 ∈ AL) (hi : Cond.instantiable RX1 2 ∈ AL) (hn : Cond.initialized RX1 ∈ AL) (hcells : cells + 1 ≤ R.cells) (hslots : slots + 2 ≤ R.slots) (hdg : decode cc pc = .ok (.new index, 3)) (kk : ∀ (M1 : Me) (H1 : Heap), DA g M1 s H1 locs → K M1 = some res → W p l e R s m args below meth c H1 locs (cells + 1) (slots + 2) Q (F0 m (pc + 3) ls (.ref (bad g (dn M)) :: rest))) : nm (dnew M 1) K = some res → W p l e R s m args below meth c H locs cells slots Q (F0 m pc ls rest) := fun h => by
  have hKn := hA.2.1.1 1 (RX1, TX1, 2) rfl
  refine W.newcK S.1 S.2.1 S.2.2.2.1 (S.2.2.2.2 _ hq) (S.2.2.2.2 _ hi) (S.2.2.2.2 _ hn) rfl hdg hcells hslots hKn.2.1 rfl fun H1 kC hkC e1 z1 o1 => ?_
  rw [show H.size = bad g (dn M) from hA.2.2.1]
  refine kk (dnew M 1) H1 (DA_made hA hb rfl dnew_o z1 o1 ?_) h
  have he : dce g (dnew M 1) (dn M) = .inr (1, [.int 0, .int 0]) := by simp [dce, dnew, dk, dl, dr, di, dn, up1, dcell, va_re, va_rf]
  rw [he]
  exact ⟨_, rfl, (u_born tyX1 S.2.2.2.2 inX1 hKn hkC e1 tyX1_ok).to (fun j hj => by
    match j, hj with
    | 0, _ => rfl
    | 1, _ => rfl
    | k + 2, hj => exact absurd hj (by omega))⟩
theorem dg_2 {j : Nat} (h : j < dn M ∧ dk M j = 2) : (dwl g M)[j]? = some (bad g j, .inr (2, [.int (di M j 0), .int (di M j 1), .int (di M j 2), .int (di M j 3), .int (di M j 4)])) := (dwl_get h.1).trans (congrArg (fun z => some (bad g j, z)) (by unfold dce; rw [h.2]; rfl))
theorem d_new_2 (S : CallFix p m c cc nL s args AL own) (hA : DA g M s H locs) (hb : g.2.2.2 ≤ s.heap.size) {index : Nat} {K : Me → Option α} (hq : Cond.classLink own index RX2 ∈ AL) (hi : Cond.instantiable RX2 5 ∈ AL) (hn : Cond.initialized RX2 ∈ AL) (hcells : cells + 1 ≤ R.cells) (hslots : slots + 5 ≤ R.slots) (hdg : decode cc pc = .ok (.new index, 3)) (kk : ∀ (M1 : Me) (H1 : Heap), DA g M1 s H1 locs → K M1 = some res → W p l e R s m args below meth c H1 locs (cells + 1) (slots + 5) Q (F0 m (pc + 3) ls (.ref (bad g (dn M)) :: rest))) : nm (dnew M 2) K = some res → W p l e R s m args below meth c H locs cells slots Q (F0 m pc ls rest) := fun h => by
  have hKn := hA.2.1.1 2 (RX2, TX2, 5) rfl
  refine W.newcK S.1 S.2.1 S.2.2.2.1 (S.2.2.2.2 _ hq) (S.2.2.2.2 _ hi) (S.2.2.2.2 _ hn) rfl hdg hcells hslots hKn.2.1 rfl fun H1 kC hkC e1 z1 o1 => ?_
  rw [show H.size = bad g (dn M) from hA.2.2.1]
  refine kk (dnew M 2) H1 (DA_made hA hb rfl dnew_o z1 o1 ?_) h
  have he : dce g (dnew M 2) (dn M) = .inr (2, [.int 0, .int 0, .int 0, .int 0, .int 0]) := by simp [dce, dnew, dk, dl, dr, di, dn, up1, dcell, va_re, va_rf]
  rw [he]
  exact ⟨_, rfl, (u_born tyX2 S.2.2.2.2 inX2 hKn hkC e1 tyX2_ok).to (fun j hj => by
    match j, hj with
    | 0, _ => rfl
    | 1, _ => rfl
    | 2, _ => rfl
    | 3, _ => rfl
    | 4, _ => rfl
    | k + 5, hj => exact absurd hj (by omega))⟩
theorem dg_3 {j : Nat} (h : j < dn M ∧ dk M j = 3) : (dwl g M)[j]? = some (bad g j, .inr (3, [va_re (bad g) (dr M j 0), .int (di M j 1), .int (di M j 2), .int (di M j 3), .int (di M j 4), .int (di M j 5), .int (di M j 6), .int (di M j 7)])) := (dwl_get h.1).trans (congrArg (fun z => some (bad g j, z)) (by unfold dce; rw [h.2]; rfl))
theorem d_new_3 (S : CallFix p m c cc nL s args AL own) (hA : DA g M s H locs) (hb : g.2.2.2 ≤ s.heap.size) {index : Nat} {K : Me → Option α} (hq : Cond.classLink own index RX3 ∈ AL) (hi : Cond.instantiable RX3 8 ∈ AL) (hn : Cond.initialized RX3 ∈ AL) (hcells : cells + 1 ≤ R.cells) (hslots : slots + 8 ≤ R.slots) (hdg : decode cc pc = .ok (.new index, 3)) (kk : ∀ (M1 : Me) (H1 : Heap), DA g M1 s H1 locs → K M1 = some res → W p l e R s m args below meth c H1 locs (cells + 1) (slots + 8) Q (F0 m (pc + 3) ls (.ref (bad g (dn M)) :: rest))) : nm (dnew M 3) K = some res → W p l e R s m args below meth c H locs cells slots Q (F0 m pc ls rest) := fun h => by
  have hKn := hA.2.1.1 3 (RX3, TX3, 8) rfl
  refine W.newcK S.1 S.2.1 S.2.2.2.1 (S.2.2.2.2 _ hq) (S.2.2.2.2 _ hi) (S.2.2.2.2 _ hn) rfl hdg hcells hslots hKn.2.1 rfl fun H1 kC hkC e1 z1 o1 => ?_
  rw [show H.size = bad g (dn M) from hA.2.2.1]
  refine kk (dnew M 3) H1 (DA_made hA hb rfl dnew_o z1 o1 ?_) h
  have he : dce g (dnew M 3) (dn M) = .inr (3, [.null, .int 0, .int 0, .int 0, .int 0, .int 0, .int 0, .int 0]) := by simp [dce, dnew, dk, dl, dr, di, dn, up1, dcell, va_re, va_rf]
  rw [he]
  exact ⟨_, rfl, (u_born tyX3 S.2.2.2.2 inX3 hKn hkC e1 tyX3_ok).to (fun j hj => by
    match j, hj with
    | 0, _ => rfl
    | 1, _ => rfl
    | 2, _ => rfl
    | 3, _ => rfl
    | 4, _ => rfl
    | 5, _ => rfl
    | 6, _ => rfl
    | 7, _ => rfl
    | k + 8, hj => exact absurd hj (by omega))⟩
theorem dg_4 {j : Nat} (h : j < dn M ∧ dk M j = 4) : (dwl g M)[j]? = some (bad g j, .inr (4, [va_re (bad g) (dr M j 0), va_re (bad g) (dr M j 1), va_re (bad g) (dr M j 2), .int (di M j 3), .int (di M j 4), .int (di M j 5), .int (di M j 6)])) := (dwl_get h.1).trans (congrArg (fun z => some (bad g j, z)) (by unfold dce; rw [h.2]; rfl))
theorem d_new_4 (S : CallFix p m c cc nL s args AL own) (hA : DA g M s H locs) (hb : g.2.2.2 ≤ s.heap.size) {index : Nat} {K : Me → Option α} (hq : Cond.classLink own index RX4 ∈ AL) (hi : Cond.instantiable RX4 7 ∈ AL) (hn : Cond.initialized RX4 ∈ AL) (hcells : cells + 1 ≤ R.cells) (hslots : slots + 7 ≤ R.slots) (hdg : decode cc pc = .ok (.new index, 3)) (kk : ∀ (M1 : Me) (H1 : Heap), DA g M1 s H1 locs → K M1 = some res → W p l e R s m args below meth c H1 locs (cells + 1) (slots + 7) Q (F0 m (pc + 3) ls (.ref (bad g (dn M)) :: rest))) : nm (dnew M 4) K = some res → W p l e R s m args below meth c H locs cells slots Q (F0 m pc ls rest) := fun h => by
  have hKn := hA.2.1.1 4 (RX4, TX4, 7) rfl
  refine W.newcK S.1 S.2.1 S.2.2.2.1 (S.2.2.2.2 _ hq) (S.2.2.2.2 _ hi) (S.2.2.2.2 _ hn) rfl hdg hcells hslots hKn.2.1 rfl fun H1 kC hkC e1 z1 o1 => ?_
  rw [show H.size = bad g (dn M) from hA.2.2.1]
  refine kk (dnew M 4) H1 (DA_made hA hb rfl dnew_o z1 o1 ?_) h
  have he : dce g (dnew M 4) (dn M) = .inr (4, [.null, .null, .null, .int 0, .int 0, .int 0, .int 0]) := by simp [dce, dnew, dk, dl, dr, di, dn, up1, dcell, va_re, va_rf]
  rw [he]
  exact ⟨_, rfl, (u_born tyX4 S.2.2.2.2 inX4 hKn hkC e1 tyX4_ok).to (fun j hj => by
    match j, hj with
    | 0, _ => rfl
    | 1, _ => rfl
    | 2, _ => rfl
    | 3, _ => rfl
    | 4, _ => rfl
    | 5, _ => rfl
    | 6, _ => rfl
    | k + 7, hj => exact absurd hj (by omega))⟩
theorem dg_5 {j : Nat} (h : j < dn M ∧ dk M j = 5) : (dwl g M)[j]? = some (bad g j, .inr (5, [va_re (bad g) (dr M j 0), va_re (bad g) (dr M j 1)])) := (dwl_get h.1).trans (congrArg (fun z => some (bad g j, z)) (by unfold dce; rw [h.2]; rfl))
theorem d_new_5 (S : CallFix p m c cc nL s args AL own) (hA : DA g M s H locs) (hb : g.2.2.2 ≤ s.heap.size) {index : Nat} {K : Me → Option α} (hq : Cond.classLink own index RX5 ∈ AL) (hi : Cond.instantiable RX5 2 ∈ AL) (hn : Cond.initialized RX5 ∈ AL) (hcells : cells + 1 ≤ R.cells) (hslots : slots + 2 ≤ R.slots) (hdg : decode cc pc = .ok (.new index, 3)) (kk : ∀ (M1 : Me) (H1 : Heap), DA g M1 s H1 locs → K M1 = some res → W p l e R s m args below meth c H1 locs (cells + 1) (slots + 2) Q (F0 m (pc + 3) ls (.ref (bad g (dn M)) :: rest))) : nm (dnew M 5) K = some res → W p l e R s m args below meth c H locs cells slots Q (F0 m pc ls rest) := fun h => by
  have hKn := hA.2.1.1 5 (RX5, TX5, 2) rfl
  refine W.newcK S.1 S.2.1 S.2.2.2.1 (S.2.2.2.2 _ hq) (S.2.2.2.2 _ hi) (S.2.2.2.2 _ hn) rfl hdg hcells hslots hKn.2.1 rfl fun H1 kC hkC e1 z1 o1 => ?_
  rw [show H.size = bad g (dn M) from hA.2.2.1]
  refine kk (dnew M 5) H1 (DA_made hA hb rfl dnew_o z1 o1 ?_) h
  have he : dce g (dnew M 5) (dn M) = .inr (5, [.null, .null]) := by simp [dce, dnew, dk, dl, dr, di, dn, up1, dcell, va_re, va_rf]
  rw [he]
  exact ⟨_, rfl, (u_born tyX5 S.2.2.2.2 inX5 hKn hkC e1 tyX5_ok).to (fun j hj => by
    match j, hj with
    | 0, _ => rfl
    | 1, _ => rfl
    | k + 2, hj => exact absurd hj (by omega))⟩
theorem dg_6 {j : Nat} (h : j < dn M ∧ dk M j = 6) : (dwl g M)[j]? = some (bad g j, .inr (6, [.int (di M j 0), .int (di M j 1), .int (di M j 2), va_re (bad g) (dr M j 3), va_re (bad g) (dr M j 4), va_re (bad g) (dr M j 5), va_re (bad g) (dr M j 6), va_re (bad g) (dr M j 7), va_re (bad g) (dr M j 8), va_re (bad g) (dr M j 9), va_re (bad g) (dr M j 10), va_re (bad g) (dr M j 11), va_re (bad g) (dr M j 12), va_re (bad g) (dr M j 13), va_re (bad g) (dr M j 14), va_re (bad g) (dr M j 15), va_re (bad g) (dr M j 16)])) := (dwl_get h.1).trans (congrArg (fun z => some (bad g j, z)) (by unfold dce; rw [h.2]; rfl))
theorem d_new_6 (S : CallFix p m c cc nL s args AL own) (hA : DA g M s H locs) (hb : g.2.2.2 ≤ s.heap.size) {index : Nat} {K : Me → Option α} (hq : Cond.classLink own index RX6 ∈ AL) (hi : Cond.instantiable RX6 17 ∈ AL) (hn : Cond.initialized RX6 ∈ AL) (hcells : cells + 1 ≤ R.cells) (hslots : slots + 17 ≤ R.slots) (hdg : decode cc pc = .ok (.new index, 3)) (kk : ∀ (M1 : Me) (H1 : Heap), DA g M1 s H1 locs → K M1 = some res → W p l e R s m args below meth c H1 locs (cells + 1) (slots + 17) Q (F0 m (pc + 3) ls (.ref (bad g (dn M)) :: rest))) : nm (dnew M 6) K = some res → W p l e R s m args below meth c H locs cells slots Q (F0 m pc ls rest) := fun h => by
  have hKn := hA.2.1.1 6 (RX6, TX6, 17) rfl
  refine W.newcK S.1 S.2.1 S.2.2.2.1 (S.2.2.2.2 _ hq) (S.2.2.2.2 _ hi) (S.2.2.2.2 _ hn) rfl hdg hcells hslots hKn.2.1 rfl fun H1 kC hkC e1 z1 o1 => ?_
  rw [show H.size = bad g (dn M) from hA.2.2.1]
  refine kk (dnew M 6) H1 (DA_made hA hb rfl dnew_o z1 o1 ?_) h
  have he : dce g (dnew M 6) (dn M) = .inr (6, [.int 0, .int 0, .int 0, .null, .null, .null, .null, .null, .null, .null, .null, .null, .null, .null, .null, .null, .null]) := by simp [dce, dnew, dk, dl, dr, di, dn, up1, dcell, va_re, va_rf]
  rw [he]
  exact ⟨_, rfl, (u_born tyX6 S.2.2.2.2 inX6 hKn hkC e1 tyX6_ok).to (fun j hj => by
    match j, hj with
    | 0, _ => rfl
    | 1, _ => rfl
    | 2, _ => rfl
    | 3, _ => rfl
    | 4, _ => rfl
    | 5, _ => rfl
    | 6, _ => rfl
    | 7, _ => rfl
    | 8, _ => rfl
    | 9, _ => rfl
    | 10, _ => rfl
    | 11, _ => rfl
    | 12, _ => rfl
    | 13, _ => rfl
    | 14, _ => rfl
    | 15, _ => rfl
    | 16, _ => rfl
    | k + 17, hj => exact absurd hj (by omega))⟩
theorem dg_7 {j : Nat} (h : j < dn M ∧ dk M j = 7) : (dwl g M)[j]? = some (bad g j, .inr (7, [.int (di M j 0), .int (di M j 1), va_re (bad g) (dr M j 2), .int (di M j 3), va_re (bad g) (dr M j 4), va_re (bad g) (dr M j 5), va_re (bad g) (dr M j 6), va_re (bad g) (dr M j 7), va_re (bad g) (dr M j 8), va_re (bad g) (dr M j 9), va_re (bad g) (dr M j 10)])) := (dwl_get h.1).trans (congrArg (fun z => some (bad g j, z)) (by unfold dce; rw [h.2]; rfl))
theorem d_new_7 (S : CallFix p m c cc nL s args AL own) (hA : DA g M s H locs) (hb : g.2.2.2 ≤ s.heap.size) {index : Nat} {K : Me → Option α} (hq : Cond.classLink own index RX7 ∈ AL) (hi : Cond.instantiable RX7 11 ∈ AL) (hn : Cond.initialized RX7 ∈ AL) (hcells : cells + 1 ≤ R.cells) (hslots : slots + 11 ≤ R.slots) (hdg : decode cc pc = .ok (.new index, 3)) (kk : ∀ (M1 : Me) (H1 : Heap), DA g M1 s H1 locs → K M1 = some res → W p l e R s m args below meth c H1 locs (cells + 1) (slots + 11) Q (F0 m (pc + 3) ls (.ref (bad g (dn M)) :: rest))) : nm (dnew M 7) K = some res → W p l e R s m args below meth c H locs cells slots Q (F0 m pc ls rest) := fun h => by
  have hKn := hA.2.1.1 7 (RX7, TX7, 11) rfl
  refine W.newcK S.1 S.2.1 S.2.2.2.1 (S.2.2.2.2 _ hq) (S.2.2.2.2 _ hi) (S.2.2.2.2 _ hn) rfl hdg hcells hslots hKn.2.1 rfl fun H1 kC hkC e1 z1 o1 => ?_
  rw [show H.size = bad g (dn M) from hA.2.2.1]
  refine kk (dnew M 7) H1 (DA_made hA hb rfl dnew_o z1 o1 ?_) h
  have he : dce g (dnew M 7) (dn M) = .inr (7, [.int 0, .int 0, .null, .int 0, .null, .null, .null, .null, .null, .null, .null]) := by simp [dce, dnew, dk, dl, dr, di, dn, up1, dcell, va_re, va_rf]
  rw [he]
  exact ⟨_, rfl, (u_born tyX7 S.2.2.2.2 inX7 hKn hkC e1 tyX7_ok).to (fun j hj => by
    match j, hj with
    | 0, _ => rfl
    | 1, _ => rfl
    | 2, _ => rfl
    | 3, _ => rfl
    | 4, _ => rfl
    | 5, _ => rfl
    | 6, _ => rfl
    | 7, _ => rfl
    | 8, _ => rfl
    | 9, _ => rfl
    | 10, _ => rfl
    | k + 11, hj => exact absurd hj (by omega))⟩
theorem dg_9 {j : Nat} (h : j < dn M ∧ dk M j = 9) : (dwl g M)[j]? = some (bad g j, .inl (g.2.2.1 1, dl M j, .inr (.inr (.inr (.inr (fun i => (dr M j i).map (bad g))))))) := (dwl_get h.1).trans (congrArg (fun z => some (bad g j, z)) (by unfold dce; rw [h.2]; rfl))
theorem dg_10 {j : Nat} (h : j < dn M ∧ dk M j = 10) : (dwl g M)[j]? = some (bad g j, .inl (g.2.2.1 2, dl M j, .inr (.inr (.inr (.inr (fun i => (dr M j i).map (bad g))))))) := (dwl_get h.1).trans (congrArg (fun z => some (bad g j, z)) (by unfold dce; rw [h.2]; rfl))
theorem dg_11 {j : Nat} (h : j < dn M ∧ dk M j = 11) : (dwl g M)[j]? = some (bad g j, .inl (g.2.2.1 3, dl M j, .inr (.inr (.inr (.inr (fun i => (dr M j i).map (bad g))))))) := (dwl_get h.1).trans (congrArg (fun z => some (bad g j, z)) (by unfold dce; rw [h.2]; rfl))
theorem dg_8 {j : Nat} (h : j < dn M ∧ dk M j = 8) : (dwl g M)[j]? = some (bad g j, .inl (g.2.2.1 0, dl M j, .inl (di M j))) := (dwl_get h.1).trans (congrArg (fun z => some (bad g j, z)) (by unfold dce; rw [h.2]; rfl))
theorem d_newI (S : CallFix p m c cc nL s args AL own) (hA : DA g M s H locs) (hb : g.2.2.2 ≤ s.heap.size) {n : Nat} {x : Int32} {K : Me → Option α} (ha : Cond.arrayClass .int ∈ AL) (hdg : decode cc pc = .ok (.newarray .int, 2)) (hn : ¬ x < 0) (hN : x.toNatClampNeg = n) (hb9 : n * componentBytes (newarray.typeOf .int) ≤ 536870912) (hc : cells + 1 ≤ R.cells) (hs : slots + n ≤ R.slots) (kk : ∀ (M1 : Me) (H1 : Heap), DA g M1 s H1 locs → K M1 = some res → W p l e R s m args below meth c H1 locs (cells + 1) (slots + n) Q (F0 m (pc + 2) ls (.ref (bad g (dn M)) :: rest))) : nm (dnewA M 8 n) K = some res → W p l e R s m args below meth c H locs cells slots Q (F0 m pc ls (.int x :: rest)) := fun h => by
  refine va_newaK S.1 S.2.1 (atype := .int) (S.2.2.2.2 _ ha) rfl hdg rfl hn hN hb9 hc hs rfl (fun H1 cA e1 e2 e3 e4 e5 => ?_)
  have h5 : s.vm.findClass ("[" ++ (newarray.typeOf .int).toString) = some (g.2.2.1 0) := (hA.2.1.2 0 _ rfl).2
  obtain rfl : cA = g.2.2.1 0 := Option.some.inj (e5.symm.trans h5)
  rw [show H.size = bad g (dn M) from hA.2.2.1]
  refine kk (dnewA M 8 n) H1 (DA_made hA hb rfl dnewA_o e2 e3 ?_) h
  have he : dce g (dnewA M 8 n) (dn M) = .inl (g.2.2.1 0, n, .inl (fun _ => 0)) := by simp [dce, dnewA, dk, dl, dr, di, dn, up1, dcell]
  rw [he]
  exact e1
theorem d_newQ_9 (S : CallFix p m c cc nL s args AL own) (hA : DA g M s H locs) (hb : g.2.2.2 ≤ s.heap.size) {n index : Nat} {x : Int32} {K : Me → Option α} (hq : Cond.classLink own index RX0 ∈ AL) (hdg : decode cc pc = .ok (.anewarray index, 3)) (hn : ¬ x < 0) (hN : x.toNatClampNeg = n) (hb9 : n * 4 ≤ 536870912) (hc : cells + 1 ≤ R.cells) (hs : slots + n ≤ R.slots) (kk : ∀ (M1 : Me) (H1 : Heap), DA g M1 s H1 locs → K M1 = some res → W p l e R s m args below meth c H1 locs (cells + 1) (slots + n) Q (F0 m (pc + 3) ls (.ref (bad g (dn M)) :: rest))) : nm (dnewA M 9 n) K = some res → W p l e R s m args below meth c H locs cells slots Q (F0 m pc ls (.int x :: rest)) := fun h => by
  subst hN
  refine W.anew S.1 S.2.1 S.2.2.2.1 (S.2.2.2.2 _ hq) (va_AO.use hA.2.2.2.2.2.1) rfl hdg rfl hn hb9 hc hs fun cA kA comp f1 f2 f3 f4 => ?_
  obtain ⟨kA9, comp9, g1, g2, g3, g4⟩ := (hA.2.1.2 1 _ rfl).2
  obtain rfl : cA = g.2.2.1 1 := Option.some.inj (f1.symm.trans g4)
  generalize hH1 : H.push ({ cls := g.2.2.1 1, slots := Array.replicate x.toNatClampNeg .null, vm := .none } : Cell) = H1
  have z1 : H1.size = H.size + 1 := by rw [← hH1, Array.size_push]
  have e1 : H1[H.size]? = some (arrV (g.2.2.1 1) x.toNatClampNeg (fun _ => .null)) := by rw [← hH1, Array.getElem?_push_size, ← arrV_new]
  have o1 : ∀ q : Nat, q < H.size → H1[q]? = H[q]? := fun q hq => by rw [← hH1, Array.getElem?_push, if_neg (Nat.ne_of_lt hq)]
  rw [show H.size = bad g (dn M) from hA.2.2.1]
  refine kk (dnewA M 9 x.toNatClampNeg) H1 (DA_made hA hb rfl dnewA_o z1 o1 ?_) h
  have he : dce g (dnewA M 9 x.toNatClampNeg) (dn M) = .inl (g.2.2.1 1, x.toNatClampNeg, .inr (.inr (.inr (.inr (fun _ => none))))) := by simp [dce, dnewA, dk, dl, dr, di, dn, up1, dcell]
  rw [he]
  exact e1
theorem d_newQ_10 (S : CallFix p m c cc nL s args AL own) (hA : DA g M s H locs) (hb : g.2.2.2 ≤ s.heap.size) {n index : Nat} {x : Int32} {K : Me → Option α} (hq : Cond.classLink own index RX2 ∈ AL) (hdg : decode cc pc = .ok (.anewarray index, 3)) (hn : ¬ x < 0) (hN : x.toNatClampNeg = n) (hb9 : n * 4 ≤ 536870912) (hc : cells + 1 ≤ R.cells) (hs : slots + n ≤ R.slots) (kk : ∀ (M1 : Me) (H1 : Heap), DA g M1 s H1 locs → K M1 = some res → W p l e R s m args below meth c H1 locs (cells + 1) (slots + n) Q (F0 m (pc + 3) ls (.ref (bad g (dn M)) :: rest))) : nm (dnewA M 10 n) K = some res → W p l e R s m args below meth c H locs cells slots Q (F0 m pc ls (.int x :: rest)) := fun h => by
  subst hN
  refine W.anew S.1 S.2.1 S.2.2.2.1 (S.2.2.2.2 _ hq) (va_AO.use hA.2.2.2.2.2.2.1) rfl hdg rfl hn hb9 hc hs fun cA kA comp f1 f2 f3 f4 => ?_
  obtain ⟨kA9, comp9, g1, g2, g3, g4⟩ := (hA.2.1.2 2 _ rfl).2
  obtain rfl : cA = g.2.2.1 2 := Option.some.inj (f1.symm.trans g4)
  generalize hH1 : H.push ({ cls := g.2.2.1 2, slots := Array.replicate x.toNatClampNeg .null, vm := .none } : Cell) = H1
  have z1 : H1.size = H.size + 1 := by rw [← hH1, Array.size_push]
  have e1 : H1[H.size]? = some (arrV (g.2.2.1 2) x.toNatClampNeg (fun _ => .null)) := by rw [← hH1, Array.getElem?_push_size, ← arrV_new]
  have o1 : ∀ q : Nat, q < H.size → H1[q]? = H[q]? := fun q hq => by rw [← hH1, Array.getElem?_push, if_neg (Nat.ne_of_lt hq)]
  rw [show H.size = bad g (dn M) from hA.2.2.1]
  refine kk (dnewA M 10 x.toNatClampNeg) H1 (DA_made hA hb rfl dnewA_o z1 o1 ?_) h
  have he : dce g (dnewA M 10 x.toNatClampNeg) (dn M) = .inl (g.2.2.1 2, x.toNatClampNeg, .inr (.inr (.inr (.inr (fun _ => none))))) := by simp [dce, dnewA, dk, dl, dr, di, dn, up1, dcell]
  rw [he]
  exact e1
theorem d_newQ_11 (S : CallFix p m c cc nL s args AL own) (hA : DA g M s H locs) (hb : g.2.2.2 ≤ s.heap.size) {n index : Nat} {x : Int32} {K : Me → Option α} (hq : Cond.classLink own index RX3 ∈ AL) (hdg : decode cc pc = .ok (.anewarray index, 3)) (hn : ¬ x < 0) (hN : x.toNatClampNeg = n) (hb9 : n * 4 ≤ 536870912) (hc : cells + 1 ≤ R.cells) (hs : slots + n ≤ R.slots) (kk : ∀ (M1 : Me) (H1 : Heap), DA g M1 s H1 locs → K M1 = some res → W p l e R s m args below meth c H1 locs (cells + 1) (slots + n) Q (F0 m (pc + 3) ls (.ref (bad g (dn M)) :: rest))) : nm (dnewA M 11 n) K = some res → W p l e R s m args below meth c H locs cells slots Q (F0 m pc ls (.int x :: rest)) := fun h => by
  subst hN
  refine W.anew S.1 S.2.1 S.2.2.2.1 (S.2.2.2.2 _ hq) (va_AO.use hA.2.2.2.2.2.2.2) rfl hdg rfl hn hb9 hc hs fun cA kA comp f1 f2 f3 f4 => ?_
  obtain ⟨kA9, comp9, g1, g2, g3, g4⟩ := (hA.2.1.2 3 _ rfl).2
  obtain rfl : cA = g.2.2.1 3 := Option.some.inj (f1.symm.trans g4)
  generalize hH1 : H.push ({ cls := g.2.2.1 3, slots := Array.replicate x.toNatClampNeg .null, vm := .none } : Cell) = H1
  have z1 : H1.size = H.size + 1 := by rw [← hH1, Array.size_push]
  have e1 : H1[H.size]? = some (arrV (g.2.2.1 3) x.toNatClampNeg (fun _ => .null)) := by rw [← hH1, Array.getElem?_push_size, ← arrV_new]
  have o1 : ∀ q : Nat, q < H.size → H1[q]? = H[q]? := fun q hq => by rw [← hH1, Array.getElem?_push, if_neg (Nat.ne_of_lt hq)]
  rw [show H.size = bad g (dn M) from hA.2.2.1]
  refine kk (dnewA M 11 x.toNatClampNeg) H1 (DA_made hA hb rfl dnewA_o z1 o1 ?_) h
  have he : dce g (dnewA M 11 x.toNatClampNeg) (dn M) = .inl (g.2.2.1 3, x.toNatClampNeg, .inr (.inr (.inr (.inr (fun _ => none))))) := by simp [dce, dnewA, dk, dl, dr, di, dn, up1, dcell]
  rw [he]
  exact e1
theorem d_put_0_0 (S : CallFix p m c cc nL s args AL RX0) (hA : DA g M s H locs) (hin2 : meth.name = "<init>") {j index : Nat} {r : Nat} {K : Me → Option α} (hl : Cond.fieldLink RX0 index "MuffledTolls$Bell" "hand" "LMuffledTolls$Leather;" ∈ AL) (hdg : decode cc pc = .ok (.putfield index, 3)) (kk : ∀ (M1 : Me) (H1 : Heap) (locs1 : List Loc), DA g M1 s H1 locs1 → K M1 = some res → W p l e R s m args below meth c H1 locs1 cells slots Q (F0 m (pc + 3) ls rest)) : gd (dck M j 0) (nm (dputR M j 0 r) K) = some res → W p l e R s m args below meth c H locs cells slots Q (F0 m pc ls (.ref (bad g r) :: .ref (bad g j) :: rest)) := fun h => by
  obtain ⟨hc, h⟩ := og h
  have hc := dck_of hc
  have hap := va_apart (own := RX0) S.2.2.2.2 inX0 tyX0 tyX0_ok nmX0 hA.2.1 (show vwCl[0]? = some _ from rfl)
  obtain ⟨r9, h1, cell, q1, q2, q3, q4⟩ := hA.1 j _ (dg_0 hc)
  obtain rfl : r9 = (RX0, TX0, 8) := (Option.some.inj h1).symm
  obtain ⟨hSl, hfc, kC, hkC, hkind⟩ := hA.2.1.1 0 _ h1
  obtain ⟨cf, kf, fi, fd, hi, hsl⟩ := hSl 0 (by decide)
  have hlay := S.2.2.2.2 _ (inX0 _ (u_in_lay (k := 0) (by decide)))
  unfold u_lay at hlay
  rw [if_pos (show (TX0 0).2.2.2 = true from rfl)] at hlay
  have hst := (u_facts hfc hkC (u_lays S.2.2.2.2 inX0 (k := 0) (by decide)) hi).1
  have hcf : m.cls = cf := by
    obtain ⟨_, _, c9, _, _, _, -, -, hf9, -, -, -, hown2, -⟩ := Cond.laysFinal_spec hlay
    have e1 : c9 = cf := by have := hi.symm.trans hf9; simp at this; exact this.1.symm
    rw [← e1]; exact Option.some.inj (S.2.2.2.1.symm.trans hown2)
  have h6 := u_fits (ty := tyX0 0) (v := .ref (bad g r)) hfc hkC hkind (Or.inr hlay) hi (tyX0_ok 0 (by decide)) rfl rfl
  refine W.putFinK S.1 S.2.1 S.2.2.2.1 (S.2.2.2.2 _ hl) hi hst hcf hin2 (by rw [q2]; exact h6) q1 q3 (by rw [hsl]; exact k2_hasslot (q4 0 (by decide))) rfl rfl hdg fun H1 e1 e2 e3 => ?_
  rw [hsl] at e1 ⊢
  refine kk (dputR M j 0 r) H1 _ (DA_wrote hA rfl hc.1 (e := .inr (0, [va_re (bad g) (dr M j 0), va_re (bad g) (dr M j 1), .int (di M j 2), .int (di M j 3), .int (di M j 4), .int (di M j 5), .int (di M j 6), .int (di M j 7)].set 0 (.ref (bad g r)))) ?_ dputR_o (hA.1.set dwl_D (dg_0 hc) ⟨_, h1, t_OB.to (V := updV (vp_V _) 0 (.ref (bad g r))) ⟨_, e1, q2, q3, t_set q4 hap (by decide) _⟩ (fun j _ => vp_updV_set (Nat.le_of_ble_eq_true rfl) _ j)⟩ e3) e2 (hA.2.2.2.1.put e2 e3 (Nat.le_add_right _ _))) h
  have hk := hc.2
  simp only [dk] at hk
  simp [dce, dputR, dk, dl, dr, di, up1, va_up, hk, dcell, va_re, va_rf]
theorem d_put_0_1 (S : CallFix p m c cc nL s args AL RX0) (hA : DA g M s H locs) (hin2 : meth.name = "<init>") {j index : Nat} {r : Nat} {K : Me → Option α} (hl : Cond.fieldLink RX0 index "MuffledTolls$Bell" "back" "LMuffledTolls$Leather;" ∈ AL) (hdg : decode cc pc = .ok (.putfield index, 3)) (kk : ∀ (M1 : Me) (H1 : Heap) (locs1 : List Loc), DA g M1 s H1 locs1 → K M1 = some res → W p l e R s m args below meth c H1 locs1 cells slots Q (F0 m (pc + 3) ls rest)) : gd (dck M j 0) (nm (dputR M j 1 r) K) = some res → W p l e R s m args below meth c H locs cells slots Q (F0 m pc ls (.ref (bad g r) :: .ref (bad g j) :: rest)) := fun h => by
  obtain ⟨hc, h⟩ := og h
  have hc := dck_of hc
  have hap := va_apart (own := RX0) S.2.2.2.2 inX0 tyX0 tyX0_ok nmX0 hA.2.1 (show vwCl[0]? = some _ from rfl)
  obtain ⟨r9, h1, cell, q1, q2, q3, q4⟩ := hA.1 j _ (dg_0 hc)
  obtain rfl : r9 = (RX0, TX0, 8) := (Option.some.inj h1).symm
  obtain ⟨hSl, hfc, kC, hkC, hkind⟩ := hA.2.1.1 0 _ h1
  obtain ⟨cf, kf, fi, fd, hi, hsl⟩ := hSl 1 (by decide)
  have hlay := S.2.2.2.2 _ (inX0 _ (u_in_lay (k := 1) (by decide)))
  unfold u_lay at hlay
  rw [if_pos (show (TX0 1).2.2.2 = true from rfl)] at hlay
  have hst := (u_facts hfc hkC (u_lays S.2.2.2.2 inX0 (k := 1) (by decide)) hi).1
  have hcf : m.cls = cf := by
    obtain ⟨_, _, c9, _, _, _, -, -, hf9, -, -, -, hown2, -⟩ := Cond.laysFinal_spec hlay
    have e1 : c9 = cf := by have := hi.symm.trans hf9; simp at this; exact this.1.symm
    rw [← e1]; exact Option.some.inj (S.2.2.2.1.symm.trans hown2)
  have h6 := u_fits (ty := tyX0 1) (v := .ref (bad g r)) hfc hkC hkind (Or.inr hlay) hi (tyX0_ok 1 (by decide)) rfl rfl
  refine W.putFinK S.1 S.2.1 S.2.2.2.1 (S.2.2.2.2 _ hl) hi hst hcf hin2 (by rw [q2]; exact h6) q1 q3 (by rw [hsl]; exact k2_hasslot (q4 1 (by decide))) rfl rfl hdg fun H1 e1 e2 e3 => ?_
  rw [hsl] at e1 ⊢
  refine kk (dputR M j 1 r) H1 _ (DA_wrote hA rfl hc.1 (e := .inr (0, [va_re (bad g) (dr M j 0), va_re (bad g) (dr M j 1), .int (di M j 2), .int (di M j 3), .int (di M j 4), .int (di M j 5), .int (di M j 6), .int (di M j 7)].set 1 (.ref (bad g r)))) ?_ dputR_o (hA.1.set dwl_D (dg_0 hc) ⟨_, h1, t_OB.to (V := updV (vp_V _) 1 (.ref (bad g r))) ⟨_, e1, q2, q3, t_set q4 hap (by decide) _⟩ (fun j _ => vp_updV_set (Nat.le_of_ble_eq_true rfl) _ j)⟩ e3) e2 (hA.2.2.2.1.put e2 e3 (Nat.le_add_right _ _))) h
  have hk := hc.2
  simp only [dk] at hk
  simp [dce, dputR, dk, dl, dr, di, up1, va_up, hk, dcell, va_re, va_rf]
theorem d_put_0_2 (S : CallFix p m c cc nL s args AL own) (hA : DA g M s H locs) {j index : Nat} {v : Int32} {K : Me → Option α} (hl : Cond.fieldLink own index "MuffledTolls$Bell" "weight" "I" ∈ AL) (hdg : decode cc pc = .ok (.putfield index, 3)) (kk : ∀ (M1 : Me) (H1 : Heap) (locs1 : List Loc), DA g M1 s H1 locs1 → K M1 = some res → W p l e R s m args below meth c H1 locs1 cells slots Q (F0 m (pc + 3) ls rest)) : gd (dck M j 0) (nm (dput M j 2 v) K) = some res → W p l e R s m args below meth c H locs cells slots Q (F0 m pc ls (.int v :: .ref (bad g j) :: rest)) := fun h => by
  obtain ⟨hc, h⟩ := og h
  have hc := dck_of hc
  have hap := va_apart (own := own) S.2.2.2.2 inX0 tyX0 tyX0_ok nmX0 hA.2.1 (show vwCl[0]? = some _ from rfl)
  obtain ⟨r9, h1, cell, q1, q2, q3, q4⟩ := hA.1 j _ (dg_0 hc)
  obtain rfl : r9 = (RX0, TX0, 8) := (Option.some.inj h1).symm
  obtain ⟨hSl, hfc, kC, hkC, hkind⟩ := hA.2.1.1 0 _ h1
  obtain ⟨cf, kf, fi, fd, hi, hsl⟩ := hSl 2 (by decide)
  have hlay := S.2.2.2.2 _ (inX0 _ (u_in_lay (k := 2) (by decide)))
  unfold u_lay at hlay
  rw [if_neg (show ¬ (TX0 2).2.2.2 = true by decide)] at hlay
  have hst := (u_facts hfc hkC (u_lays S.2.2.2.2 inX0 (k := 2) (by decide)) hi).1
  have h6 := u_store (ty := tyX0 2) (v := .int v) hfc hkC hkind hlay hi (tyX0_ok 2 (by decide)) rfl rfl
  refine W.putK S.1 S.2.1 (f := fd) ⟨S.2.2.2.1, S.2.2.2.2 _ hl, ⟨_, _, _, hi⟩, hst⟩ (by rw [q2]; exact h6) q1 q3 (by rw [hsl]; exact k2_hasslot (q4 2 (by decide))) rfl rfl hdg fun H1 e1 e2 e3 => ?_
  rw [hsl] at e1 ⊢
  refine kk (dput M j 2 v) H1 _ (DA_wrote hA rfl hc.1 (e := .inr (0, [va_re (bad g) (dr M j 0), va_re (bad g) (dr M j 1), .int (di M j 2), .int (di M j 3), .int (di M j 4), .int (di M j 5), .int (di M j 6), .int (di M j 7)].set 2 (.int v))) ?_ dput_o (hA.1.set dwl_D (dg_0 hc) ⟨_, h1, t_OB.to (V := updV (vp_V _) 2 (.int v)) ⟨_, e1, q2, q3, t_set q4 hap (by decide) _⟩ (fun j _ => vp_updV_set (Nat.le_of_ble_eq_true rfl) _ j)⟩ e3) e2 (hA.2.2.2.1.put e2 e3 (Nat.le_add_right _ _))) h
  have hk := hc.2
  simp only [dk] at hk
  simp [dce, dput, dk, dl, dr, di, sI, upd, hk, dcell, va_re, va_rf]
theorem d_put_0_4 (S : CallFix p m c cc nL s args AL own) (hA : DA g M s H locs) {j index : Nat} {v : Int32} {K : Me → Option α} (hl : Cond.fieldLink own index "MuffledTolls$Bell" "rope" "I" ∈ AL) (hdg : decode cc pc = .ok (.putfield index, 3)) (kk : ∀ (M1 : Me) (H1 : Heap) (locs1 : List Loc), DA g M1 s H1 locs1 → K M1 = some res → W p l e R s m args below meth c H1 locs1 cells slots Q (F0 m (pc + 3) ls rest)) : gd (dck M j 0) (nm (dput M j 4 v) K) = some res → W p l e R s m args below meth c H locs cells slots Q (F0 m pc ls (.int v :: .ref (bad g j) :: rest)) := fun h => by
  obtain ⟨hc, h⟩ := og h
  have hc := dck_of hc
  have hap := va_apart (own := own) S.2.2.2.2 inX0 tyX0 tyX0_ok nmX0 hA.2.1 (show vwCl[0]? = some _ from rfl)
  obtain ⟨r9, h1, cell, q1, q2, q3, q4⟩ := hA.1 j _ (dg_0 hc)
  obtain rfl : r9 = (RX0, TX0, 8) := (Option.some.inj h1).symm
  obtain ⟨hSl, hfc, kC, hkC, hkind⟩ := hA.2.1.1 0 _ h1
  obtain ⟨cf, kf, fi, fd, hi, hsl⟩ := hSl 4 (by decide)
  have hlay := S.2.2.2.2 _ (inX0 _ (u_in_lay (k := 4) (by decide)))
  unfold u_lay at hlay
  rw [if_neg (show ¬ (TX0 4).2.2.2 = true by decide)] at hlay
  have hst := (u_facts hfc hkC (u_lays S.2.2.2.2 inX0 (k := 4) (by decide)) hi).1
  have h6 := u_store (ty := tyX0 4) (v := .int v) hfc hkC hkind hlay hi (tyX0_ok 4 (by decide)) rfl rfl
  refine W.putK S.1 S.2.1 (f := fd) ⟨S.2.2.2.1, S.2.2.2.2 _ hl, ⟨_, _, _, hi⟩, hst⟩ (by rw [q2]; exact h6) q1 q3 (by rw [hsl]; exact k2_hasslot (q4 4 (by decide))) rfl rfl hdg fun H1 e1 e2 e3 => ?_
  rw [hsl] at e1 ⊢
  refine kk (dput M j 4 v) H1 _ (DA_wrote hA rfl hc.1 (e := .inr (0, [va_re (bad g) (dr M j 0), va_re (bad g) (dr M j 1), .int (di M j 2), .int (di M j 3), .int (di M j 4), .int (di M j 5), .int (di M j 6), .int (di M j 7)].set 4 (.int v))) ?_ dput_o (hA.1.set dwl_D (dg_0 hc) ⟨_, h1, t_OB.to (V := updV (vp_V _) 4 (.int v)) ⟨_, e1, q2, q3, t_set q4 hap (by decide) _⟩ (fun j _ => vp_updV_set (Nat.le_of_ble_eq_true rfl) _ j)⟩ e3) e2 (hA.2.2.2.1.put e2 e3 (Nat.le_add_right _ _))) h
  have hk := hc.2
  simp only [dk] at hk
  simp [dce, dput, dk, dl, dr, di, sI, upd, hk, dcell, va_re, va_rf]
theorem d_put_0_5 (S : CallFix p m c cc nL s args AL own) (hA : DA g M s H locs) {j index : Nat} {v : Int32} {K : Me → Option α} (hl : Cond.fieldLink own index "MuffledTolls$Bell" "goesOnWith" "I" ∈ AL) (hdg : decode cc pc = .ok (.putfield index, 3)) (kk : ∀ (M1 : Me) (H1 : Heap) (locs1 : List Loc), DA g M1 s H1 locs1 → K M1 = some res → W p l e R s m args below meth c H1 locs1 cells slots Q (F0 m (pc + 3) ls rest)) : gd (dck M j 0) (nm (dput M j 5 v) K) = some res → W p l e R s m args below meth c H locs cells slots Q (F0 m pc ls (.int v :: .ref (bad g j) :: rest)) := fun h => by
  obtain ⟨hc, h⟩ := og h
  have hc := dck_of hc
  have hap := va_apart (own := own) S.2.2.2.2 inX0 tyX0 tyX0_ok nmX0 hA.2.1 (show vwCl[0]? = some _ from rfl)
  obtain ⟨r9, h1, cell, q1, q2, q3, q4⟩ := hA.1 j _ (dg_0 hc)
  obtain rfl : r9 = (RX0, TX0, 8) := (Option.some.inj h1).symm
  obtain ⟨hSl, hfc, kC, hkC, hkind⟩ := hA.2.1.1 0 _ h1
  obtain ⟨cf, kf, fi, fd, hi, hsl⟩ := hSl 5 (by decide)
  have hlay := S.2.2.2.2 _ (inX0 _ (u_in_lay (k := 5) (by decide)))
  unfold u_lay at hlay
  rw [if_neg (show ¬ (TX0 5).2.2.2 = true by decide)] at hlay
  have hst := (u_facts hfc hkC (u_lays S.2.2.2.2 inX0 (k := 5) (by decide)) hi).1
  have h6 := u_store (ty := tyX0 5) (v := .int v) hfc hkC hkind hlay hi (tyX0_ok 5 (by decide)) rfl rfl
  refine W.putK S.1 S.2.1 (f := fd) ⟨S.2.2.2.1, S.2.2.2.2 _ hl, ⟨_, _, _, hi⟩, hst⟩ (by rw [q2]; exact h6) q1 q3 (by rw [hsl]; exact k2_hasslot (q4 5 (by decide))) rfl rfl hdg fun H1 e1 e2 e3 => ?_
  rw [hsl] at e1 ⊢
  refine kk (dput M j 5 v) H1 _ (DA_wrote hA rfl hc.1 (e := .inr (0, [va_re (bad g) (dr M j 0), va_re (bad g) (dr M j 1), .int (di M j 2), .int (di M j 3), .int (di M j 4), .int (di M j 5), .int (di M j 6), .int (di M j 7)].set 5 (.int v))) ?_ dput_o (hA.1.set dwl_D (dg_0 hc) ⟨_, h1, t_OB.to (V := updV (vp_V _) 5 (.int v)) ⟨_, e1, q2, q3, t_set q4 hap (by decide) _⟩ (fun j _ => vp_updV_set (Nat.le_of_ble_eq_true rfl) _ j)⟩ e3) e2 (hA.2.2.2.1.put e2 e3 (Nat.le_add_right _ _))) h
  have hk := hc.2
  simp only [dk] at hk
  simp [dce, dput, dk, dl, dr, di, sI, upd, hk, dcell, va_re, va_rf]
theorem d_put_2_2 (S : CallFix p m c cc nL s args AL own) (hA : DA g M s H locs) {j index : Nat} {v : Int32} {K : Me → Option α} (hl : Cond.fieldLink own index "MuffledTolls$Ringer" "bell" "I" ∈ AL) (hdg : decode cc pc = .ok (.putfield index, 3)) (kk : ∀ (M1 : Me) (H1 : Heap) (locs1 : List Loc), DA g M1 s H1 locs1 → K M1 = some res → W p l e R s m args below meth c H1 locs1 cells slots Q (F0 m (pc + 3) ls rest)) : gd (dck M j 2) (nm (dput M j 2 v) K) = some res → W p l e R s m args below meth c H locs cells slots Q (F0 m pc ls (.int v :: .ref (bad g j) :: rest)) := fun h => by
  obtain ⟨hc, h⟩ := og h
  have hc := dck_of hc
  have hap := va_apart (own := own) S.2.2.2.2 inX2 tyX2 tyX2_ok nmX2 hA.2.1 (show vwCl[2]? = some _ from rfl)
  obtain ⟨r9, h1, cell, q1, q2, q3, q4⟩ := hA.1 j _ (dg_2 hc)
  obtain rfl : r9 = (RX2, TX2, 5) := (Option.some.inj h1).symm
  obtain ⟨hSl, hfc, kC, hkC, hkind⟩ := hA.2.1.1 2 _ h1
  obtain ⟨cf, kf, fi, fd, hi, hsl⟩ := hSl 2 (by decide)
  have hlay := S.2.2.2.2 _ (inX2 _ (u_in_lay (k := 2) (by decide)))
  unfold u_lay at hlay
  rw [if_neg (show ¬ (TX2 2).2.2.2 = true by decide)] at hlay
  have hst := (u_facts hfc hkC (u_lays S.2.2.2.2 inX2 (k := 2) (by decide)) hi).1
  have h6 := u_store (ty := tyX2 2) (v := .int v) hfc hkC hkind hlay hi (tyX2_ok 2 (by decide)) rfl rfl
  refine W.putK S.1 S.2.1 (f := fd) ⟨S.2.2.2.1, S.2.2.2.2 _ hl, ⟨_, _, _, hi⟩, hst⟩ (by rw [q2]; exact h6) q1 q3 (by rw [hsl]; exact k2_hasslot (q4 2 (by decide))) rfl rfl hdg fun H1 e1 e2 e3 => ?_
  rw [hsl] at e1 ⊢
  refine kk (dput M j 2 v) H1 _ (DA_wrote hA rfl hc.1 (e := .inr (2, [.int (di M j 0), .int (di M j 1), .int (di M j 2), .int (di M j 3), .int (di M j 4)].set 2 (.int v))) ?_ dput_o (hA.1.set dwl_D (dg_2 hc) ⟨_, h1, t_OB.to (V := updV (vp_V _) 2 (.int v)) ⟨_, e1, q2, q3, t_set q4 hap (by decide) _⟩ (fun j _ => vp_updV_set (Nat.le_of_ble_eq_true rfl) _ j)⟩ e3) e2 (hA.2.2.2.1.put e2 e3 (Nat.le_add_right _ _))) h
  have hk := hc.2
  simp only [dk] at hk
  simp [dce, dput, dk, dl, dr, di, sI, upd, hk, dcell, va_re, va_rf]
theorem d_put_3_0 (S : CallFix p m c cc nL s args AL RX3) (hA : DA g M s H locs) (hin2 : meth.name = "<init>") {j index : Nat} {r : Nat} {K : Me → Option α} (hl : Cond.fieldLink RX3 index "MuffledTolls$Toll" "yearsByReach" "[I" ∈ AL) (hdg : decode cc pc = .ok (.putfield index, 3)) (kk : ∀ (M1 : Me) (H1 : Heap) (locs1 : List Loc), DA g M1 s H1 locs1 → K M1 = some res → W p l e R s m args below meth c H1 locs1 cells slots Q (F0 m (pc + 3) ls rest)) : gd (dck M j 3) (nm (dputR M j 0 r) K) = some res → W p l e R s m args below meth c H locs cells slots Q (F0 m pc ls (.ref (bad g r) :: .ref (bad g j) :: rest)) := fun h => by
  obtain ⟨hc, h⟩ := og h
  have hc := dck_of hc
  have hap := va_apart (own := RX3) S.2.2.2.2 inX3 tyX3 tyX3_ok nmX3 hA.2.1 (show vwCl[3]? = some _ from rfl)
  obtain ⟨r9, h1, cell, q1, q2, q3, q4⟩ := hA.1 j _ (dg_3 hc)
  obtain rfl : r9 = (RX3, TX3, 8) := (Option.some.inj h1).symm
  obtain ⟨hSl, hfc, kC, hkC, hkind⟩ := hA.2.1.1 3 _ h1
  obtain ⟨cf, kf, fi, fd, hi, hsl⟩ := hSl 0 (by decide)
  have hlay := S.2.2.2.2 _ (inX3 _ (u_in_lay (k := 0) (by decide)))
  unfold u_lay at hlay
  rw [if_pos (show (TX3 0).2.2.2 = true from rfl)] at hlay
  have hst := (u_facts hfc hkC (u_lays S.2.2.2.2 inX3 (k := 0) (by decide)) hi).1
  have hcf : m.cls = cf := by
    obtain ⟨_, _, c9, _, _, _, -, -, hf9, -, -, -, hown2, -⟩ := Cond.laysFinal_spec hlay
    have e1 : c9 = cf := by have := hi.symm.trans hf9; simp at this; exact this.1.symm
    rw [← e1]; exact Option.some.inj (S.2.2.2.1.symm.trans hown2)
  have h6 := u_fits (ty := tyX3 0) (v := .ref (bad g r)) hfc hkC hkind (Or.inr hlay) hi (tyX3_ok 0 (by decide)) rfl rfl
  refine W.putFinK S.1 S.2.1 S.2.2.2.1 (S.2.2.2.2 _ hl) hi hst hcf hin2 (by rw [q2]; exact h6) q1 q3 (by rw [hsl]; exact k2_hasslot (q4 0 (by decide))) rfl rfl hdg fun H1 e1 e2 e3 => ?_
  rw [hsl] at e1 ⊢
  refine kk (dputR M j 0 r) H1 _ (DA_wrote hA rfl hc.1 (e := .inr (3, [va_re (bad g) (dr M j 0), .int (di M j 1), .int (di M j 2), .int (di M j 3), .int (di M j 4), .int (di M j 5), .int (di M j 6), .int (di M j 7)].set 0 (.ref (bad g r)))) ?_ dputR_o (hA.1.set dwl_D (dg_3 hc) ⟨_, h1, t_OB.to (V := updV (vp_V _) 0 (.ref (bad g r))) ⟨_, e1, q2, q3, t_set q4 hap (by decide) _⟩ (fun j _ => vp_updV_set (Nat.le_of_ble_eq_true rfl) _ j)⟩ e3) e2 (hA.2.2.2.1.put e2 e3 (Nat.le_add_right _ _))) h
  have hk := hc.2
  simp only [dk] at hk
  simp [dce, dputR, dk, dl, dr, di, up1, va_up, hk, dcell, va_re, va_rf]
theorem d_put_3_7 (S : CallFix p m c cc nL s args AL own) (hA : DA g M s H locs) {j index : Nat} {v : Int32} {K : Me → Option α} (hl : Cond.fieldLink own index "MuffledTolls$Toll" "doneIn" "I" ∈ AL) (hdg : decode cc pc = .ok (.putfield index, 3)) (kk : ∀ (M1 : Me) (H1 : Heap) (locs1 : List Loc), DA g M1 s H1 locs1 → K M1 = some res → W p l e R s m args below meth c H1 locs1 cells slots Q (F0 m (pc + 3) ls rest)) : gd (dck M j 3) (nm (dput M j 7 v) K) = some res → W p l e R s m args below meth c H locs cells slots Q (F0 m pc ls (.int v :: .ref (bad g j) :: rest)) := fun h => by
  obtain ⟨hc, h⟩ := og h
  have hc := dck_of hc
  have hap := va_apart (own := own) S.2.2.2.2 inX3 tyX3 tyX3_ok nmX3 hA.2.1 (show vwCl[3]? = some _ from rfl)
  obtain ⟨r9, h1, cell, q1, q2, q3, q4⟩ := hA.1 j _ (dg_3 hc)
  obtain rfl : r9 = (RX3, TX3, 8) := (Option.some.inj h1).symm
  obtain ⟨hSl, hfc, kC, hkC, hkind⟩ := hA.2.1.1 3 _ h1
  obtain ⟨cf, kf, fi, fd, hi, hsl⟩ := hSl 7 (by decide)
  have hlay := S.2.2.2.2 _ (inX3 _ (u_in_lay (k := 7) (by decide)))
  unfold u_lay at hlay
  rw [if_neg (show ¬ (TX3 7).2.2.2 = true by decide)] at hlay
  have hst := (u_facts hfc hkC (u_lays S.2.2.2.2 inX3 (k := 7) (by decide)) hi).1
  have h6 := u_store (ty := tyX3 7) (v := .int v) hfc hkC hkind hlay hi (tyX3_ok 7 (by decide)) rfl rfl
  refine W.putK S.1 S.2.1 (f := fd) ⟨S.2.2.2.1, S.2.2.2.2 _ hl, ⟨_, _, _, hi⟩, hst⟩ (by rw [q2]; exact h6) q1 q3 (by rw [hsl]; exact k2_hasslot (q4 7 (by decide))) rfl rfl hdg fun H1 e1 e2 e3 => ?_
  rw [hsl] at e1 ⊢
  refine kk (dput M j 7 v) H1 _ (DA_wrote hA rfl hc.1 (e := .inr (3, [va_re (bad g) (dr M j 0), .int (di M j 1), .int (di M j 2), .int (di M j 3), .int (di M j 4), .int (di M j 5), .int (di M j 6), .int (di M j 7)].set 7 (.int v))) ?_ dput_o (hA.1.set dwl_D (dg_3 hc) ⟨_, h1, t_OB.to (V := updV (vp_V _) 7 (.int v)) ⟨_, e1, q2, q3, t_set q4 hap (by decide) _⟩ (fun j _ => vp_updV_set (Nat.le_of_ble_eq_true rfl) _ j)⟩ e3) e2 (hA.2.2.2.1.put e2 e3 (Nat.le_add_right _ _))) h
  have hk := hc.2
  simp only [dk] at hk
  simp [dce, dput, dk, dl, dr, di, sI, upd, hk, dcell, va_re, va_rf]
theorem d_put_4_0 (S : CallFix p m c cc nL s args AL RX4) (hA : DA g M s H locs) (hin2 : meth.name = "<init>") {j index : Nat} {r : Nat} {K : Me → Option α} (hl : Cond.fieldLink RX4 index "MuffledTolls$Tower" "bells" "[LMuffledTolls$Bell;" ∈ AL) (hdg : decode cc pc = .ok (.putfield index, 3)) (kk : ∀ (M1 : Me) (H1 : Heap) (locs1 : List Loc), DA g M1 s H1 locs1 → K M1 = some res → W p l e R s m args below meth c H1 locs1 cells slots Q (F0 m (pc + 3) ls rest)) : gd (dck M j 4) (nm (dputR M j 0 r) K) = some res → W p l e R s m args below meth c H locs cells slots Q (F0 m pc ls (.ref (bad g r) :: .ref (bad g j) :: rest)) := fun h => by
  obtain ⟨hc, h⟩ := og h
  have hc := dck_of hc
  have hap := va_apart (own := RX4) S.2.2.2.2 inX4 tyX4 tyX4_ok nmX4 hA.2.1 (show vwCl[4]? = some _ from rfl)
  obtain ⟨r9, h1, cell, q1, q2, q3, q4⟩ := hA.1 j _ (dg_4 hc)
  obtain rfl : r9 = (RX4, TX4, 7) := (Option.some.inj h1).symm
  obtain ⟨hSl, hfc, kC, hkC, hkind⟩ := hA.2.1.1 4 _ h1
  obtain ⟨cf, kf, fi, fd, hi, hsl⟩ := hSl 0 (by decide)
  have hlay := S.2.2.2.2 _ (inX4 _ (u_in_lay (k := 0) (by decide)))
  unfold u_lay at hlay
  rw [if_pos (show (TX4 0).2.2.2 = true from rfl)] at hlay
  have hst := (u_facts hfc hkC (u_lays S.2.2.2.2 inX4 (k := 0) (by decide)) hi).1
  have hcf : m.cls = cf := by
    obtain ⟨_, _, c9, _, _, _, -, -, hf9, -, -, -, hown2, -⟩ := Cond.laysFinal_spec hlay
    have e1 : c9 = cf := by have := hi.symm.trans hf9; simp at this; exact this.1.symm
    rw [← e1]; exact Option.some.inj (S.2.2.2.1.symm.trans hown2)
  have h6 := u_fits (ty := tyX4 0) (v := .ref (bad g r)) hfc hkC hkind (Or.inr hlay) hi (tyX4_ok 0 (by decide)) rfl rfl
  refine W.putFinK S.1 S.2.1 S.2.2.2.1 (S.2.2.2.2 _ hl) hi hst hcf hin2 (by rw [q2]; exact h6) q1 q3 (by rw [hsl]; exact k2_hasslot (q4 0 (by decide))) rfl rfl hdg fun H1 e1 e2 e3 => ?_
  rw [hsl] at e1 ⊢
  refine kk (dputR M j 0 r) H1 _ (DA_wrote hA rfl hc.1 (e := .inr (4, [va_re (bad g) (dr M j 0), va_re (bad g) (dr M j 1), va_re (bad g) (dr M j 2), .int (di M j 3), .int (di M j 4), .int (di M j 5), .int (di M j 6)].set 0 (.ref (bad g r)))) ?_ dputR_o (hA.1.set dwl_D (dg_4 hc) ⟨_, h1, t_OB.to (V := updV (vp_V _) 0 (.ref (bad g r))) ⟨_, e1, q2, q3, t_set q4 hap (by decide) _⟩ (fun j _ => vp_updV_set (Nat.le_of_ble_eq_true rfl) _ j)⟩ e3) e2 (hA.2.2.2.1.put e2 e3 (Nat.le_add_right _ _))) h
  have hk := hc.2
  simp only [dk] at hk
  simp [dce, dputR, dk, dl, dr, di, up1, va_up, hk, dcell, va_re, va_rf]
theorem d_put_4_1 (S : CallFix p m c cc nL s args AL RX4) (hA : DA g M s H locs) (hin2 : meth.name = "<init>") {j index : Nat} {r : Nat} {K : Me → Option α} (hl : Cond.fieldLink RX4 index "MuffledTolls$Tower" "ringers" "[LMuffledTolls$Ringer;" ∈ AL) (hdg : decode cc pc = .ok (.putfield index, 3)) (kk : ∀ (M1 : Me) (H1 : Heap) (locs1 : List Loc), DA g M1 s H1 locs1 → K M1 = some res → W p l e R s m args below meth c H1 locs1 cells slots Q (F0 m (pc + 3) ls rest)) : gd (dck M j 4) (nm (dputR M j 1 r) K) = some res → W p l e R s m args below meth c H locs cells slots Q (F0 m pc ls (.ref (bad g r) :: .ref (bad g j) :: rest)) := fun h => by
  obtain ⟨hc, h⟩ := og h
  have hc := dck_of hc
  have hap := va_apart (own := RX4) S.2.2.2.2 inX4 tyX4 tyX4_ok nmX4 hA.2.1 (show vwCl[4]? = some _ from rfl)
  obtain ⟨r9, h1, cell, q1, q2, q3, q4⟩ := hA.1 j _ (dg_4 hc)
  obtain rfl : r9 = (RX4, TX4, 7) := (Option.some.inj h1).symm
  obtain ⟨hSl, hfc, kC, hkC, hkind⟩ := hA.2.1.1 4 _ h1
  obtain ⟨cf, kf, fi, fd, hi, hsl⟩ := hSl 1 (by decide)
  have hlay := S.2.2.2.2 _ (inX4 _ (u_in_lay (k := 1) (by decide)))
  unfold u_lay at hlay
  rw [if_pos (show (TX4 1).2.2.2 = true from rfl)] at hlay
  have hst := (u_facts hfc hkC (u_lays S.2.2.2.2 inX4 (k := 1) (by decide)) hi).1
  have hcf : m.cls = cf := by
    obtain ⟨_, _, c9, _, _, _, -, -, hf9, -, -, -, hown2, -⟩ := Cond.laysFinal_spec hlay
    have e1 : c9 = cf := by have := hi.symm.trans hf9; simp at this; exact this.1.symm
    rw [← e1]; exact Option.some.inj (S.2.2.2.1.symm.trans hown2)
  have h6 := u_fits (ty := tyX4 1) (v := .ref (bad g r)) hfc hkC hkind (Or.inr hlay) hi (tyX4_ok 1 (by decide)) rfl rfl
  refine W.putFinK S.1 S.2.1 S.2.2.2.1 (S.2.2.2.2 _ hl) hi hst hcf hin2 (by rw [q2]; exact h6) q1 q3 (by rw [hsl]; exact k2_hasslot (q4 1 (by decide))) rfl rfl hdg fun H1 e1 e2 e3 => ?_
  rw [hsl] at e1 ⊢
  refine kk (dputR M j 1 r) H1 _ (DA_wrote hA rfl hc.1 (e := .inr (4, [va_re (bad g) (dr M j 0), va_re (bad g) (dr M j 1), va_re (bad g) (dr M j 2), .int (di M j 3), .int (di M j 4), .int (di M j 5), .int (di M j 6)].set 1 (.ref (bad g r)))) ?_ dputR_o (hA.1.set dwl_D (dg_4 hc) ⟨_, h1, t_OB.to (V := updV (vp_V _) 1 (.ref (bad g r))) ⟨_, e1, q2, q3, t_set q4 hap (by decide) _⟩ (fun j _ => vp_updV_set (Nat.le_of_ble_eq_true rfl) _ j)⟩ e3) e2 (hA.2.2.2.1.put e2 e3 (Nat.le_add_right _ _))) h
  have hk := hc.2
  simp only [dk] at hk
  simp [dce, dputR, dk, dl, dr, di, up1, va_up, hk, dcell, va_re, va_rf]
theorem d_put_4_2 (S : CallFix p m c cc nL s args AL RX4) (hA : DA g M s H locs) (hin2 : meth.name = "<init>") {j index : Nat} {r : Nat} {K : Me → Option α} (hl : Cond.fieldLink RX4 index "MuffledTolls$Tower" "tolls" "[LMuffledTolls$Toll;" ∈ AL) (hdg : decode cc pc = .ok (.putfield index, 3)) (kk : ∀ (M1 : Me) (H1 : Heap) (locs1 : List Loc), DA g M1 s H1 locs1 → K M1 = some res → W p l e R s m args below meth c H1 locs1 cells slots Q (F0 m (pc + 3) ls rest)) : gd (dck M j 4) (nm (dputR M j 2 r) K) = some res → W p l e R s m args below meth c H locs cells slots Q (F0 m pc ls (.ref (bad g r) :: .ref (bad g j) :: rest)) := fun h => by
  obtain ⟨hc, h⟩ := og h
  have hc := dck_of hc
  have hap := va_apart (own := RX4) S.2.2.2.2 inX4 tyX4 tyX4_ok nmX4 hA.2.1 (show vwCl[4]? = some _ from rfl)
  obtain ⟨r9, h1, cell, q1, q2, q3, q4⟩ := hA.1 j _ (dg_4 hc)
  obtain rfl : r9 = (RX4, TX4, 7) := (Option.some.inj h1).symm
  obtain ⟨hSl, hfc, kC, hkC, hkind⟩ := hA.2.1.1 4 _ h1
  obtain ⟨cf, kf, fi, fd, hi, hsl⟩ := hSl 2 (by decide)
  have hlay := S.2.2.2.2 _ (inX4 _ (u_in_lay (k := 2) (by decide)))
  unfold u_lay at hlay
  rw [if_pos (show (TX4 2).2.2.2 = true from rfl)] at hlay
  have hst := (u_facts hfc hkC (u_lays S.2.2.2.2 inX4 (k := 2) (by decide)) hi).1
  have hcf : m.cls = cf := by
    obtain ⟨_, _, c9, _, _, _, -, -, hf9, -, -, -, hown2, -⟩ := Cond.laysFinal_spec hlay
    have e1 : c9 = cf := by have := hi.symm.trans hf9; simp at this; exact this.1.symm
    rw [← e1]; exact Option.some.inj (S.2.2.2.1.symm.trans hown2)
  have h6 := u_fits (ty := tyX4 2) (v := .ref (bad g r)) hfc hkC hkind (Or.inr hlay) hi (tyX4_ok 2 (by decide)) rfl rfl
  refine W.putFinK S.1 S.2.1 S.2.2.2.1 (S.2.2.2.2 _ hl) hi hst hcf hin2 (by rw [q2]; exact h6) q1 q3 (by rw [hsl]; exact k2_hasslot (q4 2 (by decide))) rfl rfl hdg fun H1 e1 e2 e3 => ?_
  rw [hsl] at e1 ⊢
  refine kk (dputR M j 2 r) H1 _ (DA_wrote hA rfl hc.1 (e := .inr (4, [va_re (bad g) (dr M j 0), va_re (bad g) (dr M j 1), va_re (bad g) (dr M j 2), .int (di M j 3), .int (di M j 4), .int (di M j 5), .int (di M j 6)].set 2 (.ref (bad g r)))) ?_ dputR_o (hA.1.set dwl_D (dg_4 hc) ⟨_, h1, t_OB.to (V := updV (vp_V _) 2 (.ref (bad g r))) ⟨_, e1, q2, q3, t_set q4 hap (by decide) _⟩ (fun j _ => vp_updV_set (Nat.le_of_ble_eq_true rfl) _ j)⟩ e3) e2 (hA.2.2.2.1.put e2 e3 (Nat.le_add_right _ _))) h
  have hk := hc.2
  simp only [dk] at hk
  simp [dce, dputR, dk, dl, dr, di, up1, va_up, hk, dcell, va_re, va_rf]
theorem d_put_4_6 (S : CallFix p m c cc nL s args AL own) (hA : DA g M s H locs) {j index : Nat} {v : Int32} {K : Me → Option α} (hl : Cond.fieldLink own index "MuffledTolls$Tower" "store" "I" ∈ AL) (hdg : decode cc pc = .ok (.putfield index, 3)) (kk : ∀ (M1 : Me) (H1 : Heap) (locs1 : List Loc), DA g M1 s H1 locs1 → K M1 = some res → W p l e R s m args below meth c H1 locs1 cells slots Q (F0 m (pc + 3) ls rest)) : gd (dck M j 4) (nm (dput M j 6 v) K) = some res → W p l e R s m args below meth c H locs cells slots Q (F0 m pc ls (.int v :: .ref (bad g j) :: rest)) := fun h => by
  obtain ⟨hc, h⟩ := og h
  have hc := dck_of hc
  have hap := va_apart (own := own) S.2.2.2.2 inX4 tyX4 tyX4_ok nmX4 hA.2.1 (show vwCl[4]? = some _ from rfl)
  obtain ⟨r9, h1, cell, q1, q2, q3, q4⟩ := hA.1 j _ (dg_4 hc)
  obtain rfl : r9 = (RX4, TX4, 7) := (Option.some.inj h1).symm
  obtain ⟨hSl, hfc, kC, hkC, hkind⟩ := hA.2.1.1 4 _ h1
  obtain ⟨cf, kf, fi, fd, hi, hsl⟩ := hSl 6 (by decide)
  have hlay := S.2.2.2.2 _ (inX4 _ (u_in_lay (k := 6) (by decide)))
  unfold u_lay at hlay
  rw [if_neg (show ¬ (TX4 6).2.2.2 = true by decide)] at hlay
  have hst := (u_facts hfc hkC (u_lays S.2.2.2.2 inX4 (k := 6) (by decide)) hi).1
  have h6 := u_store (ty := tyX4 6) (v := .int v) hfc hkC hkind hlay hi (tyX4_ok 6 (by decide)) rfl rfl
  refine W.putK S.1 S.2.1 (f := fd) ⟨S.2.2.2.1, S.2.2.2.2 _ hl, ⟨_, _, _, hi⟩, hst⟩ (by rw [q2]; exact h6) q1 q3 (by rw [hsl]; exact k2_hasslot (q4 6 (by decide))) rfl rfl hdg fun H1 e1 e2 e3 => ?_
  rw [hsl] at e1 ⊢
  refine kk (dput M j 6 v) H1 _ (DA_wrote hA rfl hc.1 (e := .inr (4, [va_re (bad g) (dr M j 0), va_re (bad g) (dr M j 1), va_re (bad g) (dr M j 2), .int (di M j 3), .int (di M j 4), .int (di M j 5), .int (di M j 6)].set 6 (.int v))) ?_ dput_o (hA.1.set dwl_D (dg_4 hc) ⟨_, h1, t_OB.to (V := updV (vp_V _) 6 (.int v)) ⟨_, e1, q2, q3, t_set q4 hap (by decide) _⟩ (fun j _ => vp_updV_set (Nat.le_of_ble_eq_true rfl) _ j)⟩ e3) e2 (hA.2.2.2.1.put e2 e3 (Nat.le_add_right _ _))) h
  have hk := hc.2
  simp only [dk] at hk
  simp [dce, dput, dk, dl, dr, di, sI, upd, hk, dcell, va_re, va_rf]
theorem d_put_5_0 (S : CallFix p m c cc nL s args AL RX5) (hA : DA g M s H locs) (hin2 : meth.name = "<init>") {j index : Nat} {r : Nat} {K : Me → Option α} (hl : Cond.fieldLink RX5 index "MuffledTolls" "tower" "LMuffledTolls$Tower;" ∈ AL) (hdg : decode cc pc = .ok (.putfield index, 3)) (kk : ∀ (M1 : Me) (H1 : Heap) (locs1 : List Loc), DA g M1 s H1 locs1 → K M1 = some res → W p l e R s m args below meth c H1 locs1 cells slots Q (F0 m (pc + 3) ls rest)) : gd (dck M j 5) (nm (dputR M j 0 r) K) = some res → W p l e R s m args below meth c H locs cells slots Q (F0 m pc ls (.ref (bad g r) :: .ref (bad g j) :: rest)) := fun h => by
  obtain ⟨hc, h⟩ := og h
  have hc := dck_of hc
  have hap := va_apart (own := RX5) S.2.2.2.2 inX5 tyX5 tyX5_ok nmX5 hA.2.1 (show vwCl[5]? = some _ from rfl)
  obtain ⟨r9, h1, cell, q1, q2, q3, q4⟩ := hA.1 j _ (dg_5 hc)
  obtain rfl : r9 = (RX5, TX5, 2) := (Option.some.inj h1).symm
  obtain ⟨hSl, hfc, kC, hkC, hkind⟩ := hA.2.1.1 5 _ h1
  obtain ⟨cf, kf, fi, fd, hi, hsl⟩ := hSl 0 (by decide)
  have hlay := S.2.2.2.2 _ (inX5 _ (u_in_lay (k := 0) (by decide)))
  unfold u_lay at hlay
  rw [if_pos (show (TX5 0).2.2.2 = true from rfl)] at hlay
  have hst := (u_facts hfc hkC (u_lays S.2.2.2.2 inX5 (k := 0) (by decide)) hi).1
  have hcf : m.cls = cf := by
    obtain ⟨_, _, c9, _, _, _, -, -, hf9, -, -, -, hown2, -⟩ := Cond.laysFinal_spec hlay
    have e1 : c9 = cf := by have := hi.symm.trans hf9; simp at this; exact this.1.symm
    rw [← e1]; exact Option.some.inj (S.2.2.2.1.symm.trans hown2)
  have h6 := u_fits (ty := tyX5 0) (v := .ref (bad g r)) hfc hkC hkind (Or.inr hlay) hi (tyX5_ok 0 (by decide)) rfl rfl
  refine W.putFinK S.1 S.2.1 S.2.2.2.1 (S.2.2.2.2 _ hl) hi hst hcf hin2 (by rw [q2]; exact h6) q1 q3 (by rw [hsl]; exact k2_hasslot (q4 0 (by decide))) rfl rfl hdg fun H1 e1 e2 e3 => ?_
  rw [hsl] at e1 ⊢
  refine kk (dputR M j 0 r) H1 _ (DA_wrote hA rfl hc.1 (e := .inr (5, [va_re (bad g) (dr M j 0), va_re (bad g) (dr M j 1)].set 0 (.ref (bad g r)))) ?_ dputR_o (hA.1.set dwl_D (dg_5 hc) ⟨_, h1, t_OB.to (V := updV (vp_V _) 0 (.ref (bad g r))) ⟨_, e1, q2, q3, t_set q4 hap (by decide) _⟩ (fun j _ => vp_updV_set (Nat.le_of_ble_eq_true rfl) _ j)⟩ e3) e2 (hA.2.2.2.1.put e2 e3 (Nat.le_add_right _ _))) h
  have hk := hc.2
  simp only [dk] at hk
  simp [dce, dputR, dk, dl, dr, di, up1, va_up, hk, dcell, va_re, va_rf]
theorem d_put_5_1 (S : CallFix p m c cc nL s args AL RX5) (hA : DA g M s H locs) (hin2 : meth.name = "<init>") {j index : Nat} {r : Nat} {K : Me → Option α} (hl : Cond.fieldLink RX5 index "MuffledTolls" "ahead" "LMuffledTolls$Tower;" ∈ AL) (hdg : decode cc pc = .ok (.putfield index, 3)) (kk : ∀ (M1 : Me) (H1 : Heap) (locs1 : List Loc), DA g M1 s H1 locs1 → K M1 = some res → W p l e R s m args below meth c H1 locs1 cells slots Q (F0 m (pc + 3) ls rest)) : gd (dck M j 5) (nm (dputR M j 1 r) K) = some res → W p l e R s m args below meth c H locs cells slots Q (F0 m pc ls (.ref (bad g r) :: .ref (bad g j) :: rest)) := fun h => by
  obtain ⟨hc, h⟩ := og h
  have hc := dck_of hc
  have hap := va_apart (own := RX5) S.2.2.2.2 inX5 tyX5 tyX5_ok nmX5 hA.2.1 (show vwCl[5]? = some _ from rfl)
  obtain ⟨r9, h1, cell, q1, q2, q3, q4⟩ := hA.1 j _ (dg_5 hc)
  obtain rfl : r9 = (RX5, TX5, 2) := (Option.some.inj h1).symm
  obtain ⟨hSl, hfc, kC, hkC, hkind⟩ := hA.2.1.1 5 _ h1
  obtain ⟨cf, kf, fi, fd, hi, hsl⟩ := hSl 1 (by decide)
  have hlay := S.2.2.2.2 _ (inX5 _ (u_in_lay (k := 1) (by decide)))
  unfold u_lay at hlay
  rw [if_pos (show (TX5 1).2.2.2 = true from rfl)] at hlay
  have hst := (u_facts hfc hkC (u_lays S.2.2.2.2 inX5 (k := 1) (by decide)) hi).1
  have hcf : m.cls = cf := by
    obtain ⟨_, _, c9, _, _, _, -, -, hf9, -, -, -, hown2, -⟩ := Cond.laysFinal_spec hlay
    have e1 : c9 = cf := by have := hi.symm.trans hf9; simp at this; exact this.1.symm
    rw [← e1]; exact Option.some.inj (S.2.2.2.1.symm.trans hown2)
  have h6 := u_fits (ty := tyX5 1) (v := .ref (bad g r)) hfc hkC hkind (Or.inr hlay) hi (tyX5_ok 1 (by decide)) rfl rfl
  refine W.putFinK S.1 S.2.1 S.2.2.2.1 (S.2.2.2.2 _ hl) hi hst hcf hin2 (by rw [q2]; exact h6) q1 q3 (by rw [hsl]; exact k2_hasslot (q4 1 (by decide))) rfl rfl hdg fun H1 e1 e2 e3 => ?_
  rw [hsl] at e1 ⊢
  refine kk (dputR M j 1 r) H1 _ (DA_wrote hA rfl hc.1 (e := .inr (5, [va_re (bad g) (dr M j 0), va_re (bad g) (dr M j 1)].set 1 (.ref (bad g r)))) ?_ dputR_o (hA.1.set dwl_D (dg_5 hc) ⟨_, h1, t_OB.to (V := updV (vp_V _) 1 (.ref (bad g r))) ⟨_, e1, q2, q3, t_set q4 hap (by decide) _⟩ (fun j _ => vp_updV_set (Nat.le_of_ble_eq_true rfl) _ j)⟩ e3) e2 (hA.2.2.2.1.put e2 e3 (Nat.le_add_right _ _))) h
  have hk := hc.2
  simp only [dk] at hk
  simp [dce, dputR, dk, dl, dr, di, up1, va_up, hk, dcell, va_re, va_rf]
theorem d_put_6_1 (S : CallFix p m c cc nL s args AL own) (hA : DA g M s H locs) {j index : Nat} {v : Int32} {K : Me → Option α} (hl : Cond.fieldLink own index "MuffledTollsModel$State" "store" "I" ∈ AL) (hdg : decode cc pc = .ok (.putfield index, 3)) (kk : ∀ (M1 : Me) (H1 : Heap) (locs1 : List Loc), DA g M1 s H1 locs1 → K M1 = some res → W p l e R s m args below meth c H1 locs1 cells slots Q (F0 m (pc + 3) ls rest)) : gd (dck M j 6) (nm (dput M j 1 v) K) = some res → W p l e R s m args below meth c H locs cells slots Q (F0 m pc ls (.int v :: .ref (bad g j) :: rest)) := fun h => by
  obtain ⟨hc, h⟩ := og h
  have hc := dck_of hc
  have hap := va_apart (own := own) S.2.2.2.2 inX6 tyX6 tyX6_ok nmX6 hA.2.1 (show vwCl[6]? = some _ from rfl)
  obtain ⟨r9, h1, cell, q1, q2, q3, q4⟩ := hA.1 j _ (dg_6 hc)
  obtain rfl : r9 = (RX6, TX6, 17) := (Option.some.inj h1).symm
  obtain ⟨hSl, hfc, kC, hkC, hkind⟩ := hA.2.1.1 6 _ h1
  obtain ⟨cf, kf, fi, fd, hi, hsl⟩ := hSl 1 (by decide)
  have hlay := S.2.2.2.2 _ (inX6 _ (u_in_lay (k := 1) (by decide)))
  unfold u_lay at hlay
  rw [if_neg (show ¬ (TX6 1).2.2.2 = true by decide)] at hlay
  have hst := (u_facts hfc hkC (u_lays S.2.2.2.2 inX6 (k := 1) (by decide)) hi).1
  have h6 := u_store (ty := tyX6 1) (v := .int v) hfc hkC hkind hlay hi (tyX6_ok 1 (by decide)) rfl rfl
  refine W.putK S.1 S.2.1 (f := fd) ⟨S.2.2.2.1, S.2.2.2.2 _ hl, ⟨_, _, _, hi⟩, hst⟩ (by rw [q2]; exact h6) q1 q3 (by rw [hsl]; exact k2_hasslot (q4 1 (by decide))) rfl rfl hdg fun H1 e1 e2 e3 => ?_
  rw [hsl] at e1 ⊢
  refine kk (dput M j 1 v) H1 _ (DA_wrote hA rfl hc.1 (e := .inr (6, [.int (di M j 0), .int (di M j 1), .int (di M j 2), va_re (bad g) (dr M j 3), va_re (bad g) (dr M j 4), va_re (bad g) (dr M j 5), va_re (bad g) (dr M j 6), va_re (bad g) (dr M j 7), va_re (bad g) (dr M j 8), va_re (bad g) (dr M j 9), va_re (bad g) (dr M j 10), va_re (bad g) (dr M j 11), va_re (bad g) (dr M j 12), va_re (bad g) (dr M j 13), va_re (bad g) (dr M j 14), va_re (bad g) (dr M j 15), va_re (bad g) (dr M j 16)].set 1 (.int v))) ?_ dput_o (hA.1.set dwl_D (dg_6 hc) ⟨_, h1, t_OB.to (V := updV (vp_V _) 1 (.int v)) ⟨_, e1, q2, q3, t_set q4 hap (by decide) _⟩ (fun j _ => vp_updV_set (Nat.le_of_ble_eq_true rfl) _ j)⟩ e3) e2 (hA.2.2.2.1.put e2 e3 (Nat.le_add_right _ _))) h
  have hk := hc.2
  simp only [dk] at hk
  simp [dce, dput, dk, dl, dr, di, sI, upd, hk, dcell, va_re, va_rf]
theorem d_put_6_3 (S : CallFix p m c cc nL s args AL RX6) (hA : DA g M s H locs) (hin2 : meth.name = "<init>") {j index : Nat} {r : Nat} {K : Me → Option α} (hl : Cond.fieldLink RX6 index "MuffledTollsModel$State" "weight" "[I" ∈ AL) (hdg : decode cc pc = .ok (.putfield index, 3)) (kk : ∀ (M1 : Me) (H1 : Heap) (locs1 : List Loc), DA g M1 s H1 locs1 → K M1 = some res → W p l e R s m args below meth c H1 locs1 cells slots Q (F0 m (pc + 3) ls rest)) : gd (dck M j 6) (nm (dputR M j 3 r) K) = some res → W p l e R s m args below meth c H locs cells slots Q (F0 m pc ls (.ref (bad g r) :: .ref (bad g j) :: rest)) := fun h => by
  obtain ⟨hc, h⟩ := og h
  have hc := dck_of hc
  have hap := va_apart (own := RX6) S.2.2.2.2 inX6 tyX6 tyX6_ok nmX6 hA.2.1 (show vwCl[6]? = some _ from rfl)
  obtain ⟨r9, h1, cell, q1, q2, q3, q4⟩ := hA.1 j _ (dg_6 hc)
  obtain rfl : r9 = (RX6, TX6, 17) := (Option.some.inj h1).symm
  obtain ⟨hSl, hfc, kC, hkC, hkind⟩ := hA.2.1.1 6 _ h1
  obtain ⟨cf, kf, fi, fd, hi, hsl⟩ := hSl 3 (by decide)
  have hlay := S.2.2.2.2 _ (inX6 _ (u_in_lay (k := 3) (by decide)))
  unfold u_lay at hlay
  rw [if_pos (show (TX6 3).2.2.2 = true from rfl)] at hlay
  have hst := (u_facts hfc hkC (u_lays S.2.2.2.2 inX6 (k := 3) (by decide)) hi).1
  have hcf : m.cls = cf := by
    obtain ⟨_, _, c9, _, _, _, -, -, hf9, -, -, -, hown2, -⟩ := Cond.laysFinal_spec hlay
    have e1 : c9 = cf := by have := hi.symm.trans hf9; simp at this; exact this.1.symm
    rw [← e1]; exact Option.some.inj (S.2.2.2.1.symm.trans hown2)
  have h6 := u_fits (ty := tyX6 3) (v := .ref (bad g r)) hfc hkC hkind (Or.inr hlay) hi (tyX6_ok 3 (by decide)) rfl rfl
  refine W.putFinK S.1 S.2.1 S.2.2.2.1 (S.2.2.2.2 _ hl) hi hst hcf hin2 (by rw [q2]; exact h6) q1 q3 (by rw [hsl]; exact k2_hasslot (q4 3 (by decide))) rfl rfl hdg fun H1 e1 e2 e3 => ?_
  rw [hsl] at e1 ⊢
  refine kk (dputR M j 3 r) H1 _ (DA_wrote hA rfl hc.1 (e := .inr (6, [.int (di M j 0), .int (di M j 1), .int (di M j 2), va_re (bad g) (dr M j 3), va_re (bad g) (dr M j 4), va_re (bad g) (dr M j 5), va_re (bad g) (dr M j 6), va_re (bad g) (dr M j 7), va_re (bad g) (dr M j 8), va_re (bad g) (dr M j 9), va_re (bad g) (dr M j 10), va_re (bad g) (dr M j 11), va_re (bad g) (dr M j 12), va_re (bad g) (dr M j 13), va_re (bad g) (dr M j 14), va_re (bad g) (dr M j 15), va_re (bad g) (dr M j 16)].set 3 (.ref (bad g r)))) ?_ dputR_o (hA.1.set dwl_D (dg_6 hc) ⟨_, h1, t_OB.to (V := updV (vp_V _) 3 (.ref (bad g r))) ⟨_, e1, q2, q3, t_set q4 hap (by decide) _⟩ (fun j _ => vp_updV_set (Nat.le_of_ble_eq_true rfl) _ j)⟩ e3) e2 (hA.2.2.2.1.put e2 e3 (Nat.le_add_right _ _))) h
  have hk := hc.2
  simp only [dk] at hk
  simp [dce, dputR, dk, dl, dr, di, up1, va_up, hk, dcell, va_re, va_rf]
theorem d_put_6_4 (S : CallFix p m c cc nL s args AL RX6) (hA : DA g M s H locs) (hin2 : meth.name = "<init>") {j index : Nat} {r : Nat} {K : Me → Option α} (hl : Cond.fieldLink RX6 index "MuffledTollsModel$State" "thick" "[I" ∈ AL) (hdg : decode cc pc = .ok (.putfield index, 3)) (kk : ∀ (M1 : Me) (H1 : Heap) (locs1 : List Loc), DA g M1 s H1 locs1 → K M1 = some res → W p l e R s m args below meth c H1 locs1 cells slots Q (F0 m (pc + 3) ls rest)) : gd (dck M j 6) (nm (dputR M j 4 r) K) = some res → W p l e R s m args below meth c H locs cells slots Q (F0 m pc ls (.ref (bad g r) :: .ref (bad g j) :: rest)) := fun h => by
  obtain ⟨hc, h⟩ := og h
  have hc := dck_of hc
  have hap := va_apart (own := RX6) S.2.2.2.2 inX6 tyX6 tyX6_ok nmX6 hA.2.1 (show vwCl[6]? = some _ from rfl)
  obtain ⟨r9, h1, cell, q1, q2, q3, q4⟩ := hA.1 j _ (dg_6 hc)
  obtain rfl : r9 = (RX6, TX6, 17) := (Option.some.inj h1).symm
  obtain ⟨hSl, hfc, kC, hkC, hkind⟩ := hA.2.1.1 6 _ h1
  obtain ⟨cf, kf, fi, fd, hi, hsl⟩ := hSl 4 (by decide)
  have hlay := S.2.2.2.2 _ (inX6 _ (u_in_lay (k := 4) (by decide)))
  unfold u_lay at hlay
  rw [if_pos (show (TX6 4).2.2.2 = true from rfl)] at hlay
  have hst := (u_facts hfc hkC (u_lays S.2.2.2.2 inX6 (k := 4) (by decide)) hi).1
  have hcf : m.cls = cf := by
    obtain ⟨_, _, c9, _, _, _, -, -, hf9, -, -, -, hown2, -⟩ := Cond.laysFinal_spec hlay
    have e1 : c9 = cf := by have := hi.symm.trans hf9; simp at this; exact this.1.symm
    rw [← e1]; exact Option.some.inj (S.2.2.2.1.symm.trans hown2)
  have h6 := u_fits (ty := tyX6 4) (v := .ref (bad g r)) hfc hkC hkind (Or.inr hlay) hi (tyX6_ok 4 (by decide)) rfl rfl
  refine W.putFinK S.1 S.2.1 S.2.2.2.1 (S.2.2.2.2 _ hl) hi hst hcf hin2 (by rw [q2]; exact h6) q1 q3 (by rw [hsl]; exact k2_hasslot (q4 4 (by decide))) rfl rfl hdg fun H1 e1 e2 e3 => ?_
  rw [hsl] at e1 ⊢
  refine kk (dputR M j 4 r) H1 _ (DA_wrote hA rfl hc.1 (e := .inr (6, [.int (di M j 0), .int (di M j 1), .int (di M j 2), va_re (bad g) (dr M j 3), va_re (bad g) (dr M j 4), va_re (bad g) (dr M j 5), va_re (bad g) (dr M j 6), va_re (bad g) (dr M j 7), va_re (bad g) (dr M j 8), va_re (bad g) (dr M j 9), va_re (bad g) (dr M j 10), va_re (bad g) (dr M j 11), va_re (bad g) (dr M j 12), va_re (bad g) (dr M j 13), va_re (bad g) (dr M j 14), va_re (bad g) (dr M j 15), va_re (bad g) (dr M j 16)].set 4 (.ref (bad g r)))) ?_ dputR_o (hA.1.set dwl_D (dg_6 hc) ⟨_, h1, t_OB.to (V := updV (vp_V _) 4 (.ref (bad g r))) ⟨_, e1, q2, q3, t_set q4 hap (by decide) _⟩ (fun j _ => vp_updV_set (Nat.le_of_ble_eq_true rfl) _ j)⟩ e3) e2 (hA.2.2.2.1.put e2 e3 (Nat.le_add_right _ _))) h
  have hk := hc.2
  simp only [dk] at hk
  simp [dce, dputR, dk, dl, dr, di, up1, va_up, hk, dcell, va_re, va_rf]
theorem d_put_6_5 (S : CallFix p m c cc nL s args AL RX6) (hA : DA g M s H locs) (hin2 : meth.name = "<init>") {j index : Nat} {r : Nat} {K : Me → Option α} (hl : Cond.fieldLink RX6 index "MuffledTollsModel$State" "worn" "[I" ∈ AL) (hdg : decode cc pc = .ok (.putfield index, 3)) (kk : ∀ (M1 : Me) (H1 : Heap) (locs1 : List Loc), DA g M1 s H1 locs1 → K M1 = some res → W p l e R s m args below meth c H1 locs1 cells slots Q (F0 m (pc + 3) ls rest)) : gd (dck M j 6) (nm (dputR M j 5 r) K) = some res → W p l e R s m args below meth c H locs cells slots Q (F0 m pc ls (.ref (bad g r) :: .ref (bad g j) :: rest)) := fun h => by
  obtain ⟨hc, h⟩ := og h
  have hc := dck_of hc
  have hap := va_apart (own := RX6) S.2.2.2.2 inX6 tyX6 tyX6_ok nmX6 hA.2.1 (show vwCl[6]? = some _ from rfl)
  obtain ⟨r9, h1, cell, q1, q2, q3, q4⟩ := hA.1 j _ (dg_6 hc)
  obtain rfl : r9 = (RX6, TX6, 17) := (Option.some.inj h1).symm
  obtain ⟨hSl, hfc, kC, hkC, hkind⟩ := hA.2.1.1 6 _ h1
  obtain ⟨cf, kf, fi, fd, hi, hsl⟩ := hSl 5 (by decide)
  have hlay := S.2.2.2.2 _ (inX6 _ (u_in_lay (k := 5) (by decide)))
  unfold u_lay at hlay
  rw [if_pos (show (TX6 5).2.2.2 = true from rfl)] at hlay
  have hst := (u_facts hfc hkC (u_lays S.2.2.2.2 inX6 (k := 5) (by decide)) hi).1
  have hcf : m.cls = cf := by
    obtain ⟨_, _, c9, _, _, _, -, -, hf9, -, -, -, hown2, -⟩ := Cond.laysFinal_spec hlay
    have e1 : c9 = cf := by have := hi.symm.trans hf9; simp at this; exact this.1.symm
    rw [← e1]; exact Option.some.inj (S.2.2.2.1.symm.trans hown2)
  have h6 := u_fits (ty := tyX6 5) (v := .ref (bad g r)) hfc hkC hkind (Or.inr hlay) hi (tyX6_ok 5 (by decide)) rfl rfl
  refine W.putFinK S.1 S.2.1 S.2.2.2.1 (S.2.2.2.2 _ hl) hi hst hcf hin2 (by rw [q2]; exact h6) q1 q3 (by rw [hsl]; exact k2_hasslot (q4 5 (by decide))) rfl rfl hdg fun H1 e1 e2 e3 => ?_
  rw [hsl] at e1 ⊢
  refine kk (dputR M j 5 r) H1 _ (DA_wrote hA rfl hc.1 (e := .inr (6, [.int (di M j 0), .int (di M j 1), .int (di M j 2), va_re (bad g) (dr M j 3), va_re (bad g) (dr M j 4), va_re (bad g) (dr M j 5), va_re (bad g) (dr M j 6), va_re (bad g) (dr M j 7), va_re (bad g) (dr M j 8), va_re (bad g) (dr M j 9), va_re (bad g) (dr M j 10), va_re (bad g) (dr M j 11), va_re (bad g) (dr M j 12), va_re (bad g) (dr M j 13), va_re (bad g) (dr M j 14), va_re (bad g) (dr M j 15), va_re (bad g) (dr M j 16)].set 5 (.ref (bad g r)))) ?_ dputR_o (hA.1.set dwl_D (dg_6 hc) ⟨_, h1, t_OB.to (V := updV (vp_V _) 5 (.ref (bad g r))) ⟨_, e1, q2, q3, t_set q4 hap (by decide) _⟩ (fun j _ => vp_updV_set (Nat.le_of_ble_eq_true rfl) _ j)⟩ e3) e2 (hA.2.2.2.1.put e2 e3 (Nat.le_add_right _ _))) h
  have hk := hc.2
  simp only [dk] at hk
  simp [dce, dputR, dk, dl, dr, di, up1, va_up, hk, dcell, va_re, va_rf]
theorem d_put_6_6 (S : CallFix p m c cc nL s args AL RX6) (hA : DA g M s H locs) (hin2 : meth.name = "<init>") {j index : Nat} {r : Nat} {K : Me → Option α} (hl : Cond.fieldLink RX6 index "MuffledTollsModel$State" "side" "[I" ∈ AL) (hdg : decode cc pc = .ok (.putfield index, 3)) (kk : ∀ (M1 : Me) (H1 : Heap) (locs1 : List Loc), DA g M1 s H1 locs1 → K M1 = some res → W p l e R s m args below meth c H1 locs1 cells slots Q (F0 m (pc + 3) ls rest)) : gd (dck M j 6) (nm (dputR M j 6 r) K) = some res → W p l e R s m args below meth c H locs cells slots Q (F0 m pc ls (.ref (bad g r) :: .ref (bad g j) :: rest)) := fun h => by
  obtain ⟨hc, h⟩ := og h
  have hc := dck_of hc
  have hap := va_apart (own := RX6) S.2.2.2.2 inX6 tyX6 tyX6_ok nmX6 hA.2.1 (show vwCl[6]? = some _ from rfl)
  obtain ⟨r9, h1, cell, q1, q2, q3, q4⟩ := hA.1 j _ (dg_6 hc)
  obtain rfl : r9 = (RX6, TX6, 17) := (Option.some.inj h1).symm
  obtain ⟨hSl, hfc, kC, hkC, hkind⟩ := hA.2.1.1 6 _ h1
  obtain ⟨cf, kf, fi, fd, hi, hsl⟩ := hSl 6 (by decide)
  have hlay := S.2.2.2.2 _ (inX6 _ (u_in_lay (k := 6) (by decide)))
  unfold u_lay at hlay
  rw [if_pos (show (TX6 6).2.2.2 = true from rfl)] at hlay
  have hst := (u_facts hfc hkC (u_lays S.2.2.2.2 inX6 (k := 6) (by decide)) hi).1
  have hcf : m.cls = cf := by
    obtain ⟨_, _, c9, _, _, _, -, -, hf9, -, -, -, hown2, -⟩ := Cond.laysFinal_spec hlay
    have e1 : c9 = cf := by have := hi.symm.trans hf9; simp at this; exact this.1.symm
    rw [← e1]; exact Option.some.inj (S.2.2.2.1.symm.trans hown2)
  have h6 := u_fits (ty := tyX6 6) (v := .ref (bad g r)) hfc hkC hkind (Or.inr hlay) hi (tyX6_ok 6 (by decide)) rfl rfl
  refine W.putFinK S.1 S.2.1 S.2.2.2.1 (S.2.2.2.2 _ hl) hi hst hcf hin2 (by rw [q2]; exact h6) q1 q3 (by rw [hsl]; exact k2_hasslot (q4 6 (by decide))) rfl rfl hdg fun H1 e1 e2 e3 => ?_
  rw [hsl] at e1 ⊢
  refine kk (dputR M j 6 r) H1 _ (DA_wrote hA rfl hc.1 (e := .inr (6, [.int (di M j 0), .int (di M j 1), .int (di M j 2), va_re (bad g) (dr M j 3), va_re (bad g) (dr M j 4), va_re (bad g) (dr M j 5), va_re (bad g) (dr M j 6), va_re (bad g) (dr M j 7), va_re (bad g) (dr M j 8), va_re (bad g) (dr M j 9), va_re (bad g) (dr M j 10), va_re (bad g) (dr M j 11), va_re (bad g) (dr M j 12), va_re (bad g) (dr M j 13), va_re (bad g) (dr M j 14), va_re (bad g) (dr M j 15), va_re (bad g) (dr M j 16)].set 6 (.ref (bad g r)))) ?_ dputR_o (hA.1.set dwl_D (dg_6 hc) ⟨_, h1, t_OB.to (V := updV (vp_V _) 6 (.ref (bad g r))) ⟨_, e1, q2, q3, t_set q4 hap (by decide) _⟩ (fun j _ => vp_updV_set (Nat.le_of_ble_eq_true rfl) _ j)⟩ e3) e2 (hA.2.2.2.1.put e2 e3 (Nat.le_add_right _ _))) h
  have hk := hc.2
  simp only [dk] at hk
  simp [dce, dputR, dk, dl, dr, di, up1, va_up, hk, dcell, va_re, va_rf]
theorem d_put_6_7 (S : CallFix p m c cc nL s args AL RX6) (hA : DA g M s H locs) (hin2 : meth.name = "<init>") {j index : Nat} {r : Nat} {K : Me → Option α} (hl : Cond.fieldLink RX6 index "MuffledTollsModel$State" "rope" "[I" ∈ AL) (hdg : decode cc pc = .ok (.putfield index, 3)) (kk : ∀ (M1 : Me) (H1 : Heap) (locs1 : List Loc), DA g M1 s H1 locs1 → K M1 = some res → W p l e R s m args below meth c H1 locs1 cells slots Q (F0 m (pc + 3) ls rest)) : gd (dck M j 6) (nm (dputR M j 7 r) K) = some res → W p l e R s m args below meth c H locs cells slots Q (F0 m pc ls (.ref (bad g r) :: .ref (bad g j) :: rest)) := fun h => by
  obtain ⟨hc, h⟩ := og h
  have hc := dck_of hc
  have hap := va_apart (own := RX6) S.2.2.2.2 inX6 tyX6 tyX6_ok nmX6 hA.2.1 (show vwCl[6]? = some _ from rfl)
  obtain ⟨r9, h1, cell, q1, q2, q3, q4⟩ := hA.1 j _ (dg_6 hc)
  obtain rfl : r9 = (RX6, TX6, 17) := (Option.some.inj h1).symm
  obtain ⟨hSl, hfc, kC, hkC, hkind⟩ := hA.2.1.1 6 _ h1
  obtain ⟨cf, kf, fi, fd, hi, hsl⟩ := hSl 7 (by decide)
  have hlay := S.2.2.2.2 _ (inX6 _ (u_in_lay (k := 7) (by decide)))
  unfold u_lay at hlay
  rw [if_pos (show (TX6 7).2.2.2 = true from rfl)] at hlay
  have hst := (u_facts hfc hkC (u_lays S.2.2.2.2 inX6 (k := 7) (by decide)) hi).1
  have hcf : m.cls = cf := by
    obtain ⟨_, _, c9, _, _, _, -, -, hf9, -, -, -, hown2, -⟩ := Cond.laysFinal_spec hlay
    have e1 : c9 = cf := by have := hi.symm.trans hf9; simp at this; exact this.1.symm
    rw [← e1]; exact Option.some.inj (S.2.2.2.1.symm.trans hown2)
  have h6 := u_fits (ty := tyX6 7) (v := .ref (bad g r)) hfc hkC hkind (Or.inr hlay) hi (tyX6_ok 7 (by decide)) rfl rfl
  refine W.putFinK S.1 S.2.1 S.2.2.2.1 (S.2.2.2.2 _ hl) hi hst hcf hin2 (by rw [q2]; exact h6) q1 q3 (by rw [hsl]; exact k2_hasslot (q4 7 (by decide))) rfl rfl hdg fun H1 e1 e2 e3 => ?_
  rw [hsl] at e1 ⊢
  refine kk (dputR M j 7 r) H1 _ (DA_wrote hA rfl hc.1 (e := .inr (6, [.int (di M j 0), .int (di M j 1), .int (di M j 2), va_re (bad g) (dr M j 3), va_re (bad g) (dr M j 4), va_re (bad g) (dr M j 5), va_re (bad g) (dr M j 6), va_re (bad g) (dr M j 7), va_re (bad g) (dr M j 8), va_re (bad g) (dr M j 9), va_re (bad g) (dr M j 10), va_re (bad g) (dr M j 11), va_re (bad g) (dr M j 12), va_re (bad g) (dr M j 13), va_re (bad g) (dr M j 14), va_re (bad g) (dr M j 15), va_re (bad g) (dr M j 16)].set 7 (.ref (bad g r)))) ?_ dputR_o (hA.1.set dwl_D (dg_6 hc) ⟨_, h1, t_OB.to (V := updV (vp_V _) 7 (.ref (bad g r))) ⟨_, e1, q2, q3, t_set q4 hap (by decide) _⟩ (fun j _ => vp_updV_set (Nat.le_of_ble_eq_true rfl) _ j)⟩ e3) e2 (hA.2.2.2.1.put e2 e3 (Nat.le_add_right _ _))) h
  have hk := hc.2
  simp only [dk] at hk
  simp [dce, dputR, dk, dl, dr, di, up1, va_up, hk, dcell, va_re, va_rf]
theorem d_put_6_8 (S : CallFix p m c cc nL s args AL RX6) (hA : DA g M s H locs) (hin2 : meth.name = "<init>") {j index : Nat} {r : Nat} {K : Me → Option α} (hl : Cond.fieldLink RX6 index "MuffledTollsModel$State" "pause" "[I" ∈ AL) (hdg : decode cc pc = .ok (.putfield index, 3)) (kk : ∀ (M1 : Me) (H1 : Heap) (locs1 : List Loc), DA g M1 s H1 locs1 → K M1 = some res → W p l e R s m args below meth c H1 locs1 cells slots Q (F0 m (pc + 3) ls rest)) : gd (dck M j 6) (nm (dputR M j 8 r) K) = some res → W p l e R s m args below meth c H locs cells slots Q (F0 m pc ls (.ref (bad g r) :: .ref (bad g j) :: rest)) := fun h => by
  obtain ⟨hc, h⟩ := og h
  have hc := dck_of hc
  have hap := va_apart (own := RX6) S.2.2.2.2 inX6 tyX6 tyX6_ok nmX6 hA.2.1 (show vwCl[6]? = some _ from rfl)
  obtain ⟨r9, h1, cell, q1, q2, q3, q4⟩ := hA.1 j _ (dg_6 hc)
  obtain rfl : r9 = (RX6, TX6, 17) := (Option.some.inj h1).symm
  obtain ⟨hSl, hfc, kC, hkC, hkind⟩ := hA.2.1.1 6 _ h1
  obtain ⟨cf, kf, fi, fd, hi, hsl⟩ := hSl 8 (by decide)
  have hlay := S.2.2.2.2 _ (inX6 _ (u_in_lay (k := 8) (by decide)))
  unfold u_lay at hlay
  rw [if_pos (show (TX6 8).2.2.2 = true from rfl)] at hlay
  have hst := (u_facts hfc hkC (u_lays S.2.2.2.2 inX6 (k := 8) (by decide)) hi).1
  have hcf : m.cls = cf := by
    obtain ⟨_, _, c9, _, _, _, -, -, hf9, -, -, -, hown2, -⟩ := Cond.laysFinal_spec hlay
    have e1 : c9 = cf := by have := hi.symm.trans hf9; simp at this; exact this.1.symm
    rw [← e1]; exact Option.some.inj (S.2.2.2.1.symm.trans hown2)
  have h6 := u_fits (ty := tyX6 8) (v := .ref (bad g r)) hfc hkC hkind (Or.inr hlay) hi (tyX6_ok 8 (by decide)) rfl rfl
  refine W.putFinK S.1 S.2.1 S.2.2.2.1 (S.2.2.2.2 _ hl) hi hst hcf hin2 (by rw [q2]; exact h6) q1 q3 (by rw [hsl]; exact k2_hasslot (q4 8 (by decide))) rfl rfl hdg fun H1 e1 e2 e3 => ?_
  rw [hsl] at e1 ⊢
  refine kk (dputR M j 8 r) H1 _ (DA_wrote hA rfl hc.1 (e := .inr (6, [.int (di M j 0), .int (di M j 1), .int (di M j 2), va_re (bad g) (dr M j 3), va_re (bad g) (dr M j 4), va_re (bad g) (dr M j 5), va_re (bad g) (dr M j 6), va_re (bad g) (dr M j 7), va_re (bad g) (dr M j 8), va_re (bad g) (dr M j 9), va_re (bad g) (dr M j 10), va_re (bad g) (dr M j 11), va_re (bad g) (dr M j 12), va_re (bad g) (dr M j 13), va_re (bad g) (dr M j 14), va_re (bad g) (dr M j 15), va_re (bad g) (dr M j 16)].set 8 (.ref (bad g r)))) ?_ dputR_o (hA.1.set dwl_D (dg_6 hc) ⟨_, h1, t_OB.to (V := updV (vp_V _) 8 (.ref (bad g r))) ⟨_, e1, q2, q3, t_set q4 hap (by decide) _⟩ (fun j _ => vp_updV_set (Nat.le_of_ble_eq_true rfl) _ j)⟩ e3) e2 (hA.2.2.2.1.put e2 e3 (Nat.le_add_right _ _))) h
  have hk := hc.2
  simp only [dk] at hk
  simp [dce, dputR, dk, dl, dr, di, up1, va_up, hk, dcell, va_re, va_rf]
theorem d_put_6_9 (S : CallFix p m c cc nL s args AL RX6) (hA : DA g M s H locs) (hin2 : meth.name = "<init>") {j index : Nat} {r : Nat} {K : Me → Option α} (hl : Cond.fieldLink RX6 index "MuffledTollsModel$State" "rung" "[I" ∈ AL) (hdg : decode cc pc = .ok (.putfield index, 3)) (kk : ∀ (M1 : Me) (H1 : Heap) (locs1 : List Loc), DA g M1 s H1 locs1 → K M1 = some res → W p l e R s m args below meth c H1 locs1 cells slots Q (F0 m (pc + 3) ls rest)) : gd (dck M j 6) (nm (dputR M j 9 r) K) = some res → W p l e R s m args below meth c H locs cells slots Q (F0 m pc ls (.ref (bad g r) :: .ref (bad g j) :: rest)) := fun h => by
  obtain ⟨hc, h⟩ := og h
  have hc := dck_of hc
  have hap := va_apart (own := RX6) S.2.2.2.2 inX6 tyX6 tyX6_ok nmX6 hA.2.1 (show vwCl[6]? = some _ from rfl)
  obtain ⟨r9, h1, cell, q1, q2, q3, q4⟩ := hA.1 j _ (dg_6 hc)
  obtain rfl : r9 = (RX6, TX6, 17) := (Option.some.inj h1).symm
  obtain ⟨hSl, hfc, kC, hkC, hkind⟩ := hA.2.1.1 6 _ h1
  obtain ⟨cf, kf, fi, fd, hi, hsl⟩ := hSl 9 (by decide)
  have hlay := S.2.2.2.2 _ (inX6 _ (u_in_lay (k := 9) (by decide)))
  unfold u_lay at hlay
  rw [if_pos (show (TX6 9).2.2.2 = true from rfl)] at hlay
  have hst := (u_facts hfc hkC (u_lays S.2.2.2.2 inX6 (k := 9) (by decide)) hi).1
  have hcf : m.cls = cf := by
    obtain ⟨_, _, c9, _, _, _, -, -, hf9, -, -, -, hown2, -⟩ := Cond.laysFinal_spec hlay
    have e1 : c9 = cf := by have := hi.symm.trans hf9; simp at this; exact this.1.symm
    rw [← e1]; exact Option.some.inj (S.2.2.2.1.symm.trans hown2)
  have h6 := u_fits (ty := tyX6 9) (v := .ref (bad g r)) hfc hkC hkind (Or.inr hlay) hi (tyX6_ok 9 (by decide)) rfl rfl
  refine W.putFinK S.1 S.2.1 S.2.2.2.1 (S.2.2.2.2 _ hl) hi hst hcf hin2 (by rw [q2]; exact h6) q1 q3 (by rw [hsl]; exact k2_hasslot (q4 9 (by decide))) rfl rfl hdg fun H1 e1 e2 e3 => ?_
  rw [hsl] at e1 ⊢
  refine kk (dputR M j 9 r) H1 _ (DA_wrote hA rfl hc.1 (e := .inr (6, [.int (di M j 0), .int (di M j 1), .int (di M j 2), va_re (bad g) (dr M j 3), va_re (bad g) (dr M j 4), va_re (bad g) (dr M j 5), va_re (bad g) (dr M j 6), va_re (bad g) (dr M j 7), va_re (bad g) (dr M j 8), va_re (bad g) (dr M j 9), va_re (bad g) (dr M j 10), va_re (bad g) (dr M j 11), va_re (bad g) (dr M j 12), va_re (bad g) (dr M j 13), va_re (bad g) (dr M j 14), va_re (bad g) (dr M j 15), va_re (bad g) (dr M j 16)].set 9 (.ref (bad g r)))) ?_ dputR_o (hA.1.set dwl_D (dg_6 hc) ⟨_, h1, t_OB.to (V := updV (vp_V _) 9 (.ref (bad g r))) ⟨_, e1, q2, q3, t_set q4 hap (by decide) _⟩ (fun j _ => vp_updV_set (Nat.le_of_ble_eq_true rfl) _ j)⟩ e3) e2 (hA.2.2.2.1.put e2 e3 (Nat.le_add_right _ _))) h
  have hk := hc.2
  simp only [dk] at hk
  simp [dce, dputR, dk, dl, dr, di, up1, va_up, hk, dcell, va_re, va_rf]
theorem d_put_6_10 (S : CallFix p m c cc nL s args AL RX6) (hA : DA g M s H locs) (hin2 : meth.name = "<init>") {j index : Nat} {r : Nat} {K : Me → Option α} (hl : Cond.fieldLink RX6 index "MuffledTollsModel$State" "tired" "[I" ∈ AL) (hdg : decode cc pc = .ok (.putfield index, 3)) (kk : ∀ (M1 : Me) (H1 : Heap) (locs1 : List Loc), DA g M1 s H1 locs1 → K M1 = some res → W p l e R s m args below meth c H1 locs1 cells slots Q (F0 m (pc + 3) ls rest)) : gd (dck M j 6) (nm (dputR M j 10 r) K) = some res → W p l e R s m args below meth c H locs cells slots Q (F0 m pc ls (.ref (bad g r) :: .ref (bad g j) :: rest)) := fun h => by
  obtain ⟨hc, h⟩ := og h
  have hc := dck_of hc
  have hap := va_apart (own := RX6) S.2.2.2.2 inX6 tyX6 tyX6_ok nmX6 hA.2.1 (show vwCl[6]? = some _ from rfl)
  obtain ⟨r9, h1, cell, q1, q2, q3, q4⟩ := hA.1 j _ (dg_6 hc)
  obtain rfl : r9 = (RX6, TX6, 17) := (Option.some.inj h1).symm
  obtain ⟨hSl, hfc, kC, hkC, hkind⟩ := hA.2.1.1 6 _ h1
  obtain ⟨cf, kf, fi, fd, hi, hsl⟩ := hSl 10 (by decide)
  have hlay := S.2.2.2.2 _ (inX6 _ (u_in_lay (k := 10) (by decide)))
  unfold u_lay at hlay
  rw [if_pos (show (TX6 10).2.2.2 = true from rfl)] at hlay
  have hst := (u_facts hfc hkC (u_lays S.2.2.2.2 inX6 (k := 10) (by decide)) hi).1
  have hcf : m.cls = cf := by
    obtain ⟨_, _, c9, _, _, _, -, -, hf9, -, -, -, hown2, -⟩ := Cond.laysFinal_spec hlay
    have e1 : c9 = cf := by have := hi.symm.trans hf9; simp at this; exact this.1.symm
    rw [← e1]; exact Option.some.inj (S.2.2.2.1.symm.trans hown2)
  have h6 := u_fits (ty := tyX6 10) (v := .ref (bad g r)) hfc hkC hkind (Or.inr hlay) hi (tyX6_ok 10 (by decide)) rfl rfl
  refine W.putFinK S.1 S.2.1 S.2.2.2.1 (S.2.2.2.2 _ hl) hi hst hcf hin2 (by rw [q2]; exact h6) q1 q3 (by rw [hsl]; exact k2_hasslot (q4 10 (by decide))) rfl rfl hdg fun H1 e1 e2 e3 => ?_
  rw [hsl] at e1 ⊢
  refine kk (dputR M j 10 r) H1 _ (DA_wrote hA rfl hc.1 (e := .inr (6, [.int (di M j 0), .int (di M j 1), .int (di M j 2), va_re (bad g) (dr M j 3), va_re (bad g) (dr M j 4), va_re (bad g) (dr M j 5), va_re (bad g) (dr M j 6), va_re (bad g) (dr M j 7), va_re (bad g) (dr M j 8), va_re (bad g) (dr M j 9), va_re (bad g) (dr M j 10), va_re (bad g) (dr M j 11), va_re (bad g) (dr M j 12), va_re (bad g) (dr M j 13), va_re (bad g) (dr M j 14), va_re (bad g) (dr M j 15), va_re (bad g) (dr M j 16)].set 10 (.ref (bad g r)))) ?_ dputR_o (hA.1.set dwl_D (dg_6 hc) ⟨_, h1, t_OB.to (V := updV (vp_V _) 10 (.ref (bad g r))) ⟨_, e1, q2, q3, t_set q4 hap (by decide) _⟩ (fun j _ => vp_updV_set (Nat.le_of_ble_eq_true rfl) _ j)⟩ e3) e2 (hA.2.2.2.1.put e2 e3 (Nat.le_add_right _ _))) h
  have hk := hc.2
  simp only [dk] at hk
  simp [dce, dputR, dk, dl, dr, di, up1, va_up, hk, dcell, va_re, va_rf]
theorem d_put_6_11 (S : CallFix p m c cc nL s args AL RX6) (hA : DA g M s H locs) (hin2 : meth.name = "<init>") {j index : Nat} {r : Nat} {K : Me → Option α} (hl : Cond.fieldLink RX6 index "MuffledTollsModel$State" "pulls" "[I" ∈ AL) (hdg : decode cc pc = .ok (.putfield index, 3)) (kk : ∀ (M1 : Me) (H1 : Heap) (locs1 : List Loc), DA g M1 s H1 locs1 → K M1 = some res → W p l e R s m args below meth c H1 locs1 cells slots Q (F0 m (pc + 3) ls rest)) : gd (dck M j 6) (nm (dputR M j 11 r) K) = some res → W p l e R s m args below meth c H locs cells slots Q (F0 m pc ls (.ref (bad g r) :: .ref (bad g j) :: rest)) := fun h => by
  obtain ⟨hc, h⟩ := og h
  have hc := dck_of hc
  have hap := va_apart (own := RX6) S.2.2.2.2 inX6 tyX6 tyX6_ok nmX6 hA.2.1 (show vwCl[6]? = some _ from rfl)
  obtain ⟨r9, h1, cell, q1, q2, q3, q4⟩ := hA.1 j _ (dg_6 hc)
  obtain rfl : r9 = (RX6, TX6, 17) := (Option.some.inj h1).symm
  obtain ⟨hSl, hfc, kC, hkC, hkind⟩ := hA.2.1.1 6 _ h1
  obtain ⟨cf, kf, fi, fd, hi, hsl⟩ := hSl 11 (by decide)
  have hlay := S.2.2.2.2 _ (inX6 _ (u_in_lay (k := 11) (by decide)))
  unfold u_lay at hlay
  rw [if_pos (show (TX6 11).2.2.2 = true from rfl)] at hlay
  have hst := (u_facts hfc hkC (u_lays S.2.2.2.2 inX6 (k := 11) (by decide)) hi).1
  have hcf : m.cls = cf := by
    obtain ⟨_, _, c9, _, _, _, -, -, hf9, -, -, -, hown2, -⟩ := Cond.laysFinal_spec hlay
    have e1 : c9 = cf := by have := hi.symm.trans hf9; simp at this; exact this.1.symm
    rw [← e1]; exact Option.some.inj (S.2.2.2.1.symm.trans hown2)
  have h6 := u_fits (ty := tyX6 11) (v := .ref (bad g r)) hfc hkC hkind (Or.inr hlay) hi (tyX6_ok 11 (by decide)) rfl rfl
  refine W.putFinK S.1 S.2.1 S.2.2.2.1 (S.2.2.2.2 _ hl) hi hst hcf hin2 (by rw [q2]; exact h6) q1 q3 (by rw [hsl]; exact k2_hasslot (q4 11 (by decide))) rfl rfl hdg fun H1 e1 e2 e3 => ?_
  rw [hsl] at e1 ⊢
  refine kk (dputR M j 11 r) H1 _ (DA_wrote hA rfl hc.1 (e := .inr (6, [.int (di M j 0), .int (di M j 1), .int (di M j 2), va_re (bad g) (dr M j 3), va_re (bad g) (dr M j 4), va_re (bad g) (dr M j 5), va_re (bad g) (dr M j 6), va_re (bad g) (dr M j 7), va_re (bad g) (dr M j 8), va_re (bad g) (dr M j 9), va_re (bad g) (dr M j 10), va_re (bad g) (dr M j 11), va_re (bad g) (dr M j 12), va_re (bad g) (dr M j 13), va_re (bad g) (dr M j 14), va_re (bad g) (dr M j 15), va_re (bad g) (dr M j 16)].set 11 (.ref (bad g r)))) ?_ dputR_o (hA.1.set dwl_D (dg_6 hc) ⟨_, h1, t_OB.to (V := updV (vp_V _) 11 (.ref (bad g r))) ⟨_, e1, q2, q3, t_set q4 hap (by decide) _⟩ (fun j _ => vp_updV_set (Nat.le_of_ble_eq_true rfl) _ j)⟩ e3) e2 (hA.2.2.2.1.put e2 e3 (Nat.le_add_right _ _))) h
  have hk := hc.2
  simp only [dk] at hk
  simp [dce, dputR, dk, dl, dr, di, up1, va_up, hk, dcell, va_re, va_rf]
theorem d_put_6_12 (S : CallFix p m c cc nL s args AL RX6) (hA : DA g M s H locs) (hin2 : meth.name = "<init>") {j index : Nat} {r : Nat} {K : Me → Option α} (hl : Cond.fieldLink RX6 index "MuffledTollsModel$State" "reliefs" "[I" ∈ AL) (hdg : decode cc pc = .ok (.putfield index, 3)) (kk : ∀ (M1 : Me) (H1 : Heap) (locs1 : List Loc), DA g M1 s H1 locs1 → K M1 = some res → W p l e R s m args below meth c H1 locs1 cells slots Q (F0 m (pc + 3) ls rest)) : gd (dck M j 6) (nm (dputR M j 12 r) K) = some res → W p l e R s m args below meth c H locs cells slots Q (F0 m pc ls (.ref (bad g r) :: .ref (bad g j) :: rest)) := fun h => by
  obtain ⟨hc, h⟩ := og h
  have hc := dck_of hc
  have hap := va_apart (own := RX6) S.2.2.2.2 inX6 tyX6 tyX6_ok nmX6 hA.2.1 (show vwCl[6]? = some _ from rfl)
  obtain ⟨r9, h1, cell, q1, q2, q3, q4⟩ := hA.1 j _ (dg_6 hc)
  obtain rfl : r9 = (RX6, TX6, 17) := (Option.some.inj h1).symm
  obtain ⟨hSl, hfc, kC, hkC, hkind⟩ := hA.2.1.1 6 _ h1
  obtain ⟨cf, kf, fi, fd, hi, hsl⟩ := hSl 12 (by decide)
  have hlay := S.2.2.2.2 _ (inX6 _ (u_in_lay (k := 12) (by decide)))
  unfold u_lay at hlay
  rw [if_pos (show (TX6 12).2.2.2 = true from rfl)] at hlay
  have hst := (u_facts hfc hkC (u_lays S.2.2.2.2 inX6 (k := 12) (by decide)) hi).1
  have hcf : m.cls = cf := by
    obtain ⟨_, _, c9, _, _, _, -, -, hf9, -, -, -, hown2, -⟩ := Cond.laysFinal_spec hlay
    have e1 : c9 = cf := by have := hi.symm.trans hf9; simp at this; exact this.1.symm
    rw [← e1]; exact Option.some.inj (S.2.2.2.1.symm.trans hown2)
  have h6 := u_fits (ty := tyX6 12) (v := .ref (bad g r)) hfc hkC hkind (Or.inr hlay) hi (tyX6_ok 12 (by decide)) rfl rfl
  refine W.putFinK S.1 S.2.1 S.2.2.2.1 (S.2.2.2.2 _ hl) hi hst hcf hin2 (by rw [q2]; exact h6) q1 q3 (by rw [hsl]; exact k2_hasslot (q4 12 (by decide))) rfl rfl hdg fun H1 e1 e2 e3 => ?_
  rw [hsl] at e1 ⊢
  refine kk (dputR M j 12 r) H1 _ (DA_wrote hA rfl hc.1 (e := .inr (6, [.int (di M j 0), .int (di M j 1), .int (di M j 2), va_re (bad g) (dr M j 3), va_re (bad g) (dr M j 4), va_re (bad g) (dr M j 5), va_re (bad g) (dr M j 6), va_re (bad g) (dr M j 7), va_re (bad g) (dr M j 8), va_re (bad g) (dr M j 9), va_re (bad g) (dr M j 10), va_re (bad g) (dr M j 11), va_re (bad g) (dr M j 12), va_re (bad g) (dr M j 13), va_re (bad g) (dr M j 14), va_re (bad g) (dr M j 15), va_re (bad g) (dr M j 16)].set 12 (.ref (bad g r)))) ?_ dputR_o (hA.1.set dwl_D (dg_6 hc) ⟨_, h1, t_OB.to (V := updV (vp_V _) 12 (.ref (bad g r))) ⟨_, e1, q2, q3, t_set q4 hap (by decide) _⟩ (fun j _ => vp_updV_set (Nat.le_of_ble_eq_true rfl) _ j)⟩ e3) e2 (hA.2.2.2.1.put e2 e3 (Nat.le_add_right _ _))) h
  have hk := hc.2
  simp only [dk] at hk
  simp [dce, dputR, dk, dl, dr, di, up1, va_up, hk, dcell, va_re, va_rf]
theorem d_put_6_13 (S : CallFix p m c cc nL s args AL RX6) (hA : DA g M s H locs) (hin2 : meth.name = "<init>") {j index : Nat} {r : Nat} {K : Me → Option α} (hl : Cond.fieldLink RX6 index "MuffledTollsModel$State" "strokes" "[I" ∈ AL) (hdg : decode cc pc = .ok (.putfield index, 3)) (kk : ∀ (M1 : Me) (H1 : Heap) (locs1 : List Loc), DA g M1 s H1 locs1 → K M1 = some res → W p l e R s m args below meth c H1 locs1 cells slots Q (F0 m (pc + 3) ls rest)) : gd (dck M j 6) (nm (dputR M j 13 r) K) = some res → W p l e R s m args below meth c H locs cells slots Q (F0 m pc ls (.ref (bad g r) :: .ref (bad g j) :: rest)) := fun h => by
  obtain ⟨hc, h⟩ := og h
  have hc := dck_of hc
  have hap := va_apart (own := RX6) S.2.2.2.2 inX6 tyX6 tyX6_ok nmX6 hA.2.1 (show vwCl[6]? = some _ from rfl)
  obtain ⟨r9, h1, cell, q1, q2, q3, q4⟩ := hA.1 j _ (dg_6 hc)
  obtain rfl : r9 = (RX6, TX6, 17) := (Option.some.inj h1).symm
  obtain ⟨hSl, hfc, kC, hkC, hkind⟩ := hA.2.1.1 6 _ h1
  obtain ⟨cf, kf, fi, fd, hi, hsl⟩ := hSl 13 (by decide)
  have hlay := S.2.2.2.2 _ (inX6 _ (u_in_lay (k := 13) (by decide)))
  unfold u_lay at hlay
  rw [if_pos (show (TX6 13).2.2.2 = true from rfl)] at hlay
  have hst := (u_facts hfc hkC (u_lays S.2.2.2.2 inX6 (k := 13) (by decide)) hi).1
  have hcf : m.cls = cf := by
    obtain ⟨_, _, c9, _, _, _, -, -, hf9, -, -, -, hown2, -⟩ := Cond.laysFinal_spec hlay
    have e1 : c9 = cf := by have := hi.symm.trans hf9; simp at this; exact this.1.symm
    rw [← e1]; exact Option.some.inj (S.2.2.2.1.symm.trans hown2)
  have h6 := u_fits (ty := tyX6 13) (v := .ref (bad g r)) hfc hkC hkind (Or.inr hlay) hi (tyX6_ok 13 (by decide)) rfl rfl
  refine W.putFinK S.1 S.2.1 S.2.2.2.1 (S.2.2.2.2 _ hl) hi hst hcf hin2 (by rw [q2]; exact h6) q1 q3 (by rw [hsl]; exact k2_hasslot (q4 13 (by decide))) rfl rfl hdg fun H1 e1 e2 e3 => ?_
  rw [hsl] at e1 ⊢
  refine kk (dputR M j 13 r) H1 _ (DA_wrote hA rfl hc.1 (e := .inr (6, [.int (di M j 0), .int (di M j 1), .int (di M j 2), va_re (bad g) (dr M j 3), va_re (bad g) (dr M j 4), va_re (bad g) (dr M j 5), va_re (bad g) (dr M j 6), va_re (bad g) (dr M j 7), va_re (bad g) (dr M j 8), va_re (bad g) (dr M j 9), va_re (bad g) (dr M j 10), va_re (bad g) (dr M j 11), va_re (bad g) (dr M j 12), va_re (bad g) (dr M j 13), va_re (bad g) (dr M j 14), va_re (bad g) (dr M j 15), va_re (bad g) (dr M j 16)].set 13 (.ref (bad g r)))) ?_ dputR_o (hA.1.set dwl_D (dg_6 hc) ⟨_, h1, t_OB.to (V := updV (vp_V _) 13 (.ref (bad g r))) ⟨_, e1, q2, q3, t_set q4 hap (by decide) _⟩ (fun j _ => vp_updV_set (Nat.le_of_ble_eq_true rfl) _ j)⟩ e3) e2 (hA.2.2.2.1.put e2 e3 (Nat.le_add_right _ _))) h
  have hk := hc.2
  simp only [dk] at hk
  simp [dce, dputR, dk, dl, dr, di, up1, va_up, hk, dcell, va_re, va_rf]
theorem d_put_6_14 (S : CallFix p m c cc nL s args AL RX6) (hA : DA g M s H locs) (hin2 : meth.name = "<init>") {j index : Nat} {r : Nat} {K : Me → Option α} (hl : Cond.fieldLink RX6 index "MuffledTollsModel$State" "loud" "[I" ∈ AL) (hdg : decode cc pc = .ok (.putfield index, 3)) (kk : ∀ (M1 : Me) (H1 : Heap) (locs1 : List Loc), DA g M1 s H1 locs1 → K M1 = some res → W p l e R s m args below meth c H1 locs1 cells slots Q (F0 m (pc + 3) ls rest)) : gd (dck M j 6) (nm (dputR M j 14 r) K) = some res → W p l e R s m args below meth c H locs cells slots Q (F0 m pc ls (.ref (bad g r) :: .ref (bad g j) :: rest)) := fun h => by
  obtain ⟨hc, h⟩ := og h
  have hc := dck_of hc
  have hap := va_apart (own := RX6) S.2.2.2.2 inX6 tyX6 tyX6_ok nmX6 hA.2.1 (show vwCl[6]? = some _ from rfl)
  obtain ⟨r9, h1, cell, q1, q2, q3, q4⟩ := hA.1 j _ (dg_6 hc)
  obtain rfl : r9 = (RX6, TX6, 17) := (Option.some.inj h1).symm
  obtain ⟨hSl, hfc, kC, hkC, hkind⟩ := hA.2.1.1 6 _ h1
  obtain ⟨cf, kf, fi, fd, hi, hsl⟩ := hSl 14 (by decide)
  have hlay := S.2.2.2.2 _ (inX6 _ (u_in_lay (k := 14) (by decide)))
  unfold u_lay at hlay
  rw [if_pos (show (TX6 14).2.2.2 = true from rfl)] at hlay
  have hst := (u_facts hfc hkC (u_lays S.2.2.2.2 inX6 (k := 14) (by decide)) hi).1
  have hcf : m.cls = cf := by
    obtain ⟨_, _, c9, _, _, _, -, -, hf9, -, -, -, hown2, -⟩ := Cond.laysFinal_spec hlay
    have e1 : c9 = cf := by have := hi.symm.trans hf9; simp at this; exact this.1.symm
    rw [← e1]; exact Option.some.inj (S.2.2.2.1.symm.trans hown2)
  have h6 := u_fits (ty := tyX6 14) (v := .ref (bad g r)) hfc hkC hkind (Or.inr hlay) hi (tyX6_ok 14 (by decide)) rfl rfl
  refine W.putFinK S.1 S.2.1 S.2.2.2.1 (S.2.2.2.2 _ hl) hi hst hcf hin2 (by rw [q2]; exact h6) q1 q3 (by rw [hsl]; exact k2_hasslot (q4 14 (by decide))) rfl rfl hdg fun H1 e1 e2 e3 => ?_
  rw [hsl] at e1 ⊢
  refine kk (dputR M j 14 r) H1 _ (DA_wrote hA rfl hc.1 (e := .inr (6, [.int (di M j 0), .int (di M j 1), .int (di M j 2), va_re (bad g) (dr M j 3), va_re (bad g) (dr M j 4), va_re (bad g) (dr M j 5), va_re (bad g) (dr M j 6), va_re (bad g) (dr M j 7), va_re (bad g) (dr M j 8), va_re (bad g) (dr M j 9), va_re (bad g) (dr M j 10), va_re (bad g) (dr M j 11), va_re (bad g) (dr M j 12), va_re (bad g) (dr M j 13), va_re (bad g) (dr M j 14), va_re (bad g) (dr M j 15), va_re (bad g) (dr M j 16)].set 14 (.ref (bad g r)))) ?_ dputR_o (hA.1.set dwl_D (dg_6 hc) ⟨_, h1, t_OB.to (V := updV (vp_V _) 14 (.ref (bad g r))) ⟨_, e1, q2, q3, t_set q4 hap (by decide) _⟩ (fun j _ => vp_updV_set (Nat.le_of_ble_eq_true rfl) _ j)⟩ e3) e2 (hA.2.2.2.1.put e2 e3 (Nat.le_add_right _ _))) h
  have hk := hc.2
  simp only [dk] at hk
  simp [dce, dputR, dk, dl, dr, di, up1, va_up, hk, dcell, va_re, va_rf]
theorem d_put_6_15 (S : CallFix p m c cc nL s args AL RX6) (hA : DA g M s H locs) (hin2 : meth.name = "<init>") {j index : Nat} {r : Nat} {K : Me → Option α} (hl : Cond.fieldLink RX6 index "MuffledTollsModel$State" "done" "[I" ∈ AL) (hdg : decode cc pc = .ok (.putfield index, 3)) (kk : ∀ (M1 : Me) (H1 : Heap) (locs1 : List Loc), DA g M1 s H1 locs1 → K M1 = some res → W p l e R s m args below meth c H1 locs1 cells slots Q (F0 m (pc + 3) ls rest)) : gd (dck M j 6) (nm (dputR M j 15 r) K) = some res → W p l e R s m args below meth c H locs cells slots Q (F0 m pc ls (.ref (bad g r) :: .ref (bad g j) :: rest)) := fun h => by
  obtain ⟨hc, h⟩ := og h
  have hc := dck_of hc
  have hap := va_apart (own := RX6) S.2.2.2.2 inX6 tyX6 tyX6_ok nmX6 hA.2.1 (show vwCl[6]? = some _ from rfl)
  obtain ⟨r9, h1, cell, q1, q2, q3, q4⟩ := hA.1 j _ (dg_6 hc)
  obtain rfl : r9 = (RX6, TX6, 17) := (Option.some.inj h1).symm
  obtain ⟨hSl, hfc, kC, hkC, hkind⟩ := hA.2.1.1 6 _ h1
  obtain ⟨cf, kf, fi, fd, hi, hsl⟩ := hSl 15 (by decide)
  have hlay := S.2.2.2.2 _ (inX6 _ (u_in_lay (k := 15) (by decide)))
  unfold u_lay at hlay
  rw [if_pos (show (TX6 15).2.2.2 = true from rfl)] at hlay
  have hst := (u_facts hfc hkC (u_lays S.2.2.2.2 inX6 (k := 15) (by decide)) hi).1
  have hcf : m.cls = cf := by
    obtain ⟨_, _, c9, _, _, _, -, -, hf9, -, -, -, hown2, -⟩ := Cond.laysFinal_spec hlay
    have e1 : c9 = cf := by have := hi.symm.trans hf9; simp at this; exact this.1.symm
    rw [← e1]; exact Option.some.inj (S.2.2.2.1.symm.trans hown2)
  have h6 := u_fits (ty := tyX6 15) (v := .ref (bad g r)) hfc hkC hkind (Or.inr hlay) hi (tyX6_ok 15 (by decide)) rfl rfl
  refine W.putFinK S.1 S.2.1 S.2.2.2.1 (S.2.2.2.2 _ hl) hi hst hcf hin2 (by rw [q2]; exact h6) q1 q3 (by rw [hsl]; exact k2_hasslot (q4 15 (by decide))) rfl rfl hdg fun H1 e1 e2 e3 => ?_
  rw [hsl] at e1 ⊢
  refine kk (dputR M j 15 r) H1 _ (DA_wrote hA rfl hc.1 (e := .inr (6, [.int (di M j 0), .int (di M j 1), .int (di M j 2), va_re (bad g) (dr M j 3), va_re (bad g) (dr M j 4), va_re (bad g) (dr M j 5), va_re (bad g) (dr M j 6), va_re (bad g) (dr M j 7), va_re (bad g) (dr M j 8), va_re (bad g) (dr M j 9), va_re (bad g) (dr M j 10), va_re (bad g) (dr M j 11), va_re (bad g) (dr M j 12), va_re (bad g) (dr M j 13), va_re (bad g) (dr M j 14), va_re (bad g) (dr M j 15), va_re (bad g) (dr M j 16)].set 15 (.ref (bad g r)))) ?_ dputR_o (hA.1.set dwl_D (dg_6 hc) ⟨_, h1, t_OB.to (V := updV (vp_V _) 15 (.ref (bad g r))) ⟨_, e1, q2, q3, t_set q4 hap (by decide) _⟩ (fun j _ => vp_updV_set (Nat.le_of_ble_eq_true rfl) _ j)⟩ e3) e2 (hA.2.2.2.1.put e2 e3 (Nat.le_add_right _ _))) h
  have hk := hc.2
  simp only [dk] at hk
  simp [dce, dputR, dk, dl, dr, di, up1, va_up, hk, dcell, va_re, va_rf]
theorem d_put_6_16 (S : CallFix p m c cc nL s args AL RX6) (hA : DA g M s H locs) (hin2 : meth.name = "<init>") {j index : Nat} {r : Nat} {K : Me → Option α} (hl : Cond.fieldLink RX6 index "MuffledTollsModel$State" "this$0" "LMuffledTollsModel;" ∈ AL) (hdg : decode cc pc = .ok (.putfield index, 3)) (kk : ∀ (M1 : Me) (H1 : Heap) (locs1 : List Loc), DA g M1 s H1 locs1 → K M1 = some res → W p l e R s m args below meth c H1 locs1 cells slots Q (F0 m (pc + 3) ls rest)) : gd (dck M j 6) (nm (dputR M j 16 r) K) = some res → W p l e R s m args below meth c H locs cells slots Q (F0 m pc ls (.ref (bad g r) :: .ref (bad g j) :: rest)) := fun h => by
  obtain ⟨hc, h⟩ := og h
  have hc := dck_of hc
  have hap := va_apart (own := RX6) S.2.2.2.2 inX6 tyX6 tyX6_ok nmX6 hA.2.1 (show vwCl[6]? = some _ from rfl)
  obtain ⟨r9, h1, cell, q1, q2, q3, q4⟩ := hA.1 j _ (dg_6 hc)
  obtain rfl : r9 = (RX6, TX6, 17) := (Option.some.inj h1).symm
  obtain ⟨hSl, hfc, kC, hkC, hkind⟩ := hA.2.1.1 6 _ h1
  obtain ⟨cf, kf, fi, fd, hi, hsl⟩ := hSl 16 (by decide)
  have hlay := S.2.2.2.2 _ (inX6 _ (u_in_lay (k := 16) (by decide)))
  unfold u_lay at hlay
  rw [if_pos (show (TX6 16).2.2.2 = true from rfl)] at hlay
  have hst := (u_facts hfc hkC (u_lays S.2.2.2.2 inX6 (k := 16) (by decide)) hi).1
  have hcf : m.cls = cf := by
    obtain ⟨_, _, c9, _, _, _, -, -, hf9, -, -, -, hown2, -⟩ := Cond.laysFinal_spec hlay
    have e1 : c9 = cf := by have := hi.symm.trans hf9; simp at this; exact this.1.symm
    rw [← e1]; exact Option.some.inj (S.2.2.2.1.symm.trans hown2)
  have h6 := u_fits (ty := tyX6 16) (v := .ref (bad g r)) hfc hkC hkind (Or.inr hlay) hi (tyX6_ok 16 (by decide)) rfl rfl
  refine W.putFinK S.1 S.2.1 S.2.2.2.1 (S.2.2.2.2 _ hl) hi hst hcf hin2 (by rw [q2]; exact h6) q1 q3 (by rw [hsl]; exact k2_hasslot (q4 16 (by decide))) rfl rfl hdg fun H1 e1 e2 e3 => ?_
  rw [hsl] at e1 ⊢
  refine kk (dputR M j 16 r) H1 _ (DA_wrote hA rfl hc.1 (e := .inr (6, [.int (di M j 0), .int (di M j 1), .int (di M j 2), va_re (bad g) (dr M j 3), va_re (bad g) (dr M j 4), va_re (bad g) (dr M j 5), va_re (bad g) (dr M j 6), va_re (bad g) (dr M j 7), va_re (bad g) (dr M j 8), va_re (bad g) (dr M j 9), va_re (bad g) (dr M j 10), va_re (bad g) (dr M j 11), va_re (bad g) (dr M j 12), va_re (bad g) (dr M j 13), va_re (bad g) (dr M j 14), va_re (bad g) (dr M j 15), va_re (bad g) (dr M j 16)].set 16 (.ref (bad g r)))) ?_ dputR_o (hA.1.set dwl_D (dg_6 hc) ⟨_, h1, t_OB.to (V := updV (vp_V _) 16 (.ref (bad g r))) ⟨_, e1, q2, q3, t_set q4 hap (by decide) _⟩ (fun j _ => vp_updV_set (Nat.le_of_ble_eq_true rfl) _ j)⟩ e3) e2 (hA.2.2.2.1.put e2 e3 (Nat.le_add_right _ _))) h
  have hk := hc.2
  simp only [dk] at hk
  simp [dce, dputR, dk, dl, dr, di, up1, va_up, hk, dcell, va_re, va_rf]
theorem d_put_7_2 (S : CallFix p m c cc nL s args AL RX7) (hA : DA g M s H locs) (hin2 : meth.name = "<init>") {j index : Nat} {r : Nat} {K : Me → Option α} (hl : Cond.fieldLink RX7 index "MuffledTollsModel" "strength" "[I" ∈ AL) (hdg : decode cc pc = .ok (.putfield index, 3)) (kk : ∀ (M1 : Me) (H1 : Heap) (locs1 : List Loc), DA g M1 s H1 locs1 → K M1 = some res → W p l e R s m args below meth c H1 locs1 cells slots Q (F0 m (pc + 3) ls rest)) : gd (dck M j 7) (nm (dputR M j 2 r) K) = some res → W p l e R s m args below meth c H locs cells slots Q (F0 m pc ls (.ref (bad g r) :: .ref (bad g j) :: rest)) := fun h => by
  obtain ⟨hc, h⟩ := og h
  have hc := dck_of hc
  have hap := va_apart (own := RX7) S.2.2.2.2 inX7 tyX7 tyX7_ok nmX7 hA.2.1 (show vwCl[7]? = some _ from rfl)
  obtain ⟨r9, h1, cell, q1, q2, q3, q4⟩ := hA.1 j _ (dg_7 hc)
  obtain rfl : r9 = (RX7, TX7, 11) := (Option.some.inj h1).symm
  obtain ⟨hSl, hfc, kC, hkC, hkind⟩ := hA.2.1.1 7 _ h1
  obtain ⟨cf, kf, fi, fd, hi, hsl⟩ := hSl 2 (by decide)
  have hlay := S.2.2.2.2 _ (inX7 _ (u_in_lay (k := 2) (by decide)))
  unfold u_lay at hlay
  rw [if_pos (show (TX7 2).2.2.2 = true from rfl)] at hlay
  have hst := (u_facts hfc hkC (u_lays S.2.2.2.2 inX7 (k := 2) (by decide)) hi).1
  have hcf : m.cls = cf := by
    obtain ⟨_, _, c9, _, _, _, -, -, hf9, -, -, -, hown2, -⟩ := Cond.laysFinal_spec hlay
    have e1 : c9 = cf := by have := hi.symm.trans hf9; simp at this; exact this.1.symm
    rw [← e1]; exact Option.some.inj (S.2.2.2.1.symm.trans hown2)
  have h6 := u_fits (ty := tyX7 2) (v := .ref (bad g r)) hfc hkC hkind (Or.inr hlay) hi (tyX7_ok 2 (by decide)) rfl rfl
  refine W.putFinK S.1 S.2.1 S.2.2.2.1 (S.2.2.2.2 _ hl) hi hst hcf hin2 (by rw [q2]; exact h6) q1 q3 (by rw [hsl]; exact k2_hasslot (q4 2 (by decide))) rfl rfl hdg fun H1 e1 e2 e3 => ?_
  rw [hsl] at e1 ⊢
  refine kk (dputR M j 2 r) H1 _ (DA_wrote hA rfl hc.1 (e := .inr (7, [.int (di M j 0), .int (di M j 1), va_re (bad g) (dr M j 2), .int (di M j 3), va_re (bad g) (dr M j 4), va_re (bad g) (dr M j 5), va_re (bad g) (dr M j 6), va_re (bad g) (dr M j 7), va_re (bad g) (dr M j 8), va_re (bad g) (dr M j 9), va_re (bad g) (dr M j 10)].set 2 (.ref (bad g r)))) ?_ dputR_o (hA.1.set dwl_D (dg_7 hc) ⟨_, h1, t_OB.to (V := updV (vp_V _) 2 (.ref (bad g r))) ⟨_, e1, q2, q3, t_set q4 hap (by decide) _⟩ (fun j _ => vp_updV_set (Nat.le_of_ble_eq_true rfl) _ j)⟩ e3) e2 (hA.2.2.2.1.put e2 e3 (Nat.le_add_right _ _))) h
  have hk := hc.2
  simp only [dk] at hk
  simp [dce, dputR, dk, dl, dr, di, up1, va_up, hk, dcell, va_re, va_rf]
theorem d_put_7_4 (S : CallFix p m c cc nL s args AL RX7) (hA : DA g M s H locs) (hin2 : meth.name = "<init>") {j index : Nat} {r : Nat} {K : Me → Option α} (hl : Cond.fieldLink RX7 index "MuffledTollsModel" "belongs" "[I" ∈ AL) (hdg : decode cc pc = .ok (.putfield index, 3)) (kk : ∀ (M1 : Me) (H1 : Heap) (locs1 : List Loc), DA g M1 s H1 locs1 → K M1 = some res → W p l e R s m args below meth c H1 locs1 cells slots Q (F0 m (pc + 3) ls rest)) : gd (dck M j 7) (nm (dputR M j 4 r) K) = some res → W p l e R s m args below meth c H locs cells slots Q (F0 m pc ls (.ref (bad g r) :: .ref (bad g j) :: rest)) := fun h => by
  obtain ⟨hc, h⟩ := og h
  have hc := dck_of hc
  have hap := va_apart (own := RX7) S.2.2.2.2 inX7 tyX7 tyX7_ok nmX7 hA.2.1 (show vwCl[7]? = some _ from rfl)
  obtain ⟨r9, h1, cell, q1, q2, q3, q4⟩ := hA.1 j _ (dg_7 hc)
  obtain rfl : r9 = (RX7, TX7, 11) := (Option.some.inj h1).symm
  obtain ⟨hSl, hfc, kC, hkC, hkind⟩ := hA.2.1.1 7 _ h1
  obtain ⟨cf, kf, fi, fd, hi, hsl⟩ := hSl 4 (by decide)
  have hlay := S.2.2.2.2 _ (inX7 _ (u_in_lay (k := 4) (by decide)))
  unfold u_lay at hlay
  rw [if_pos (show (TX7 4).2.2.2 = true from rfl)] at hlay
  have hst := (u_facts hfc hkC (u_lays S.2.2.2.2 inX7 (k := 4) (by decide)) hi).1
  have hcf : m.cls = cf := by
    obtain ⟨_, _, c9, _, _, _, -, -, hf9, -, -, -, hown2, -⟩ := Cond.laysFinal_spec hlay
    have e1 : c9 = cf := by have := hi.symm.trans hf9; simp at this; exact this.1.symm
    rw [← e1]; exact Option.some.inj (S.2.2.2.1.symm.trans hown2)
  have h6 := u_fits (ty := tyX7 4) (v := .ref (bad g r)) hfc hkC hkind (Or.inr hlay) hi (tyX7_ok 4 (by decide)) rfl rfl
  refine W.putFinK S.1 S.2.1 S.2.2.2.1 (S.2.2.2.2 _ hl) hi hst hcf hin2 (by rw [q2]; exact h6) q1 q3 (by rw [hsl]; exact k2_hasslot (q4 4 (by decide))) rfl rfl hdg fun H1 e1 e2 e3 => ?_
  rw [hsl] at e1 ⊢
  refine kk (dputR M j 4 r) H1 _ (DA_wrote hA rfl hc.1 (e := .inr (7, [.int (di M j 0), .int (di M j 1), va_re (bad g) (dr M j 2), .int (di M j 3), va_re (bad g) (dr M j 4), va_re (bad g) (dr M j 5), va_re (bad g) (dr M j 6), va_re (bad g) (dr M j 7), va_re (bad g) (dr M j 8), va_re (bad g) (dr M j 9), va_re (bad g) (dr M j 10)].set 4 (.ref (bad g r)))) ?_ dputR_o (hA.1.set dwl_D (dg_7 hc) ⟨_, h1, t_OB.to (V := updV (vp_V _) 4 (.ref (bad g r))) ⟨_, e1, q2, q3, t_set q4 hap (by decide) _⟩ (fun j _ => vp_updV_set (Nat.le_of_ble_eq_true rfl) _ j)⟩ e3) e2 (hA.2.2.2.1.put e2 e3 (Nat.le_add_right _ _))) h
  have hk := hc.2
  simp only [dk] at hk
  simp [dce, dputR, dk, dl, dr, di, up1, va_up, hk, dcell, va_re, va_rf]
theorem d_put_7_5 (S : CallFix p m c cc nL s args AL RX7) (hA : DA g M s H locs) (hin2 : meth.name = "<init>") {j index : Nat} {r : Nat} {K : Me → Option α} (hl : Cond.fieldLink RX7 index "MuffledTollsModel" "kind" "[I" ∈ AL) (hdg : decode cc pc = .ok (.putfield index, 3)) (kk : ∀ (M1 : Me) (H1 : Heap) (locs1 : List Loc), DA g M1 s H1 locs1 → K M1 = some res → W p l e R s m args below meth c H1 locs1 cells slots Q (F0 m (pc + 3) ls rest)) : gd (dck M j 7) (nm (dputR M j 5 r) K) = some res → W p l e R s m args below meth c H locs cells slots Q (F0 m pc ls (.ref (bad g r) :: .ref (bad g j) :: rest)) := fun h => by
  obtain ⟨hc, h⟩ := og h
  have hc := dck_of hc
  have hap := va_apart (own := RX7) S.2.2.2.2 inX7 tyX7 tyX7_ok nmX7 hA.2.1 (show vwCl[7]? = some _ from rfl)
  obtain ⟨r9, h1, cell, q1, q2, q3, q4⟩ := hA.1 j _ (dg_7 hc)
  obtain rfl : r9 = (RX7, TX7, 11) := (Option.some.inj h1).symm
  obtain ⟨hSl, hfc, kC, hkC, hkind⟩ := hA.2.1.1 7 _ h1
  obtain ⟨cf, kf, fi, fd, hi, hsl⟩ := hSl 5 (by decide)
  have hlay := S.2.2.2.2 _ (inX7 _ (u_in_lay (k := 5) (by decide)))
  unfold u_lay at hlay
  rw [if_pos (show (TX7 5).2.2.2 = true from rfl)] at hlay
  have hst := (u_facts hfc hkC (u_lays S.2.2.2.2 inX7 (k := 5) (by decide)) hi).1
  have hcf : m.cls = cf := by
    obtain ⟨_, _, c9, _, _, _, -, -, hf9, -, -, -, hown2, -⟩ := Cond.laysFinal_spec hlay
    have e1 : c9 = cf := by have := hi.symm.trans hf9; simp at this; exact this.1.symm
    rw [← e1]; exact Option.some.inj (S.2.2.2.1.symm.trans hown2)
  have h6 := u_fits (ty := tyX7 5) (v := .ref (bad g r)) hfc hkC hkind (Or.inr hlay) hi (tyX7_ok 5 (by decide)) rfl rfl
  refine W.putFinK S.1 S.2.1 S.2.2.2.1 (S.2.2.2.2 _ hl) hi hst hcf hin2 (by rw [q2]; exact h6) q1 q3 (by rw [hsl]; exact k2_hasslot (q4 5 (by decide))) rfl rfl hdg fun H1 e1 e2 e3 => ?_
  rw [hsl] at e1 ⊢
  refine kk (dputR M j 5 r) H1 _ (DA_wrote hA rfl hc.1 (e := .inr (7, [.int (di M j 0), .int (di M j 1), va_re (bad g) (dr M j 2), .int (di M j 3), va_re (bad g) (dr M j 4), va_re (bad g) (dr M j 5), va_re (bad g) (dr M j 6), va_re (bad g) (dr M j 7), va_re (bad g) (dr M j 8), va_re (bad g) (dr M j 9), va_re (bad g) (dr M j 10)].set 5 (.ref (bad g r)))) ?_ dputR_o (hA.1.set dwl_D (dg_7 hc) ⟨_, h1, t_OB.to (V := updV (vp_V _) 5 (.ref (bad g r))) ⟨_, e1, q2, q3, t_set q4 hap (by decide) _⟩ (fun j _ => vp_updV_set (Nat.le_of_ble_eq_true rfl) _ j)⟩ e3) e2 (hA.2.2.2.1.put e2 e3 (Nat.le_add_right _ _))) h
  have hk := hc.2
  simp only [dk] at hk
  simp [dce, dputR, dk, dl, dr, di, up1, va_up, hk, dcell, va_re, va_rf]
theorem d_put_7_6 (S : CallFix p m c cc nL s args AL RX7) (hA : DA g M s H locs) (hin2 : meth.name = "<init>") {j index : Nat} {r : Nat} {K : Me → Option α} (hl : Cond.fieldLink RX7 index "MuffledTollsModel" "age" "[I" ∈ AL) (hdg : decode cc pc = .ok (.putfield index, 3)) (kk : ∀ (M1 : Me) (H1 : Heap) (locs1 : List Loc), DA g M1 s H1 locs1 → K M1 = some res → W p l e R s m args below meth c H1 locs1 cells slots Q (F0 m (pc + 3) ls rest)) : gd (dck M j 7) (nm (dputR M j 6 r) K) = some res → W p l e R s m args below meth c H locs cells slots Q (F0 m pc ls (.ref (bad g r) :: .ref (bad g j) :: rest)) := fun h => by
  obtain ⟨hc, h⟩ := og h
  have hc := dck_of hc
  have hap := va_apart (own := RX7) S.2.2.2.2 inX7 tyX7 tyX7_ok nmX7 hA.2.1 (show vwCl[7]? = some _ from rfl)
  obtain ⟨r9, h1, cell, q1, q2, q3, q4⟩ := hA.1 j _ (dg_7 hc)
  obtain rfl : r9 = (RX7, TX7, 11) := (Option.some.inj h1).symm
  obtain ⟨hSl, hfc, kC, hkC, hkind⟩ := hA.2.1.1 7 _ h1
  obtain ⟨cf, kf, fi, fd, hi, hsl⟩ := hSl 6 (by decide)
  have hlay := S.2.2.2.2 _ (inX7 _ (u_in_lay (k := 6) (by decide)))
  unfold u_lay at hlay
  rw [if_pos (show (TX7 6).2.2.2 = true from rfl)] at hlay
  have hst := (u_facts hfc hkC (u_lays S.2.2.2.2 inX7 (k := 6) (by decide)) hi).1
  have hcf : m.cls = cf := by
    obtain ⟨_, _, c9, _, _, _, -, -, hf9, -, -, -, hown2, -⟩ := Cond.laysFinal_spec hlay
    have e1 : c9 = cf := by have := hi.symm.trans hf9; simp at this; exact this.1.symm
    rw [← e1]; exact Option.some.inj (S.2.2.2.1.symm.trans hown2)
  have h6 := u_fits (ty := tyX7 6) (v := .ref (bad g r)) hfc hkC hkind (Or.inr hlay) hi (tyX7_ok 6 (by decide)) rfl rfl
  refine W.putFinK S.1 S.2.1 S.2.2.2.1 (S.2.2.2.2 _ hl) hi hst hcf hin2 (by rw [q2]; exact h6) q1 q3 (by rw [hsl]; exact k2_hasslot (q4 6 (by decide))) rfl rfl hdg fun H1 e1 e2 e3 => ?_
  rw [hsl] at e1 ⊢
  refine kk (dputR M j 6 r) H1 _ (DA_wrote hA rfl hc.1 (e := .inr (7, [.int (di M j 0), .int (di M j 1), va_re (bad g) (dr M j 2), .int (di M j 3), va_re (bad g) (dr M j 4), va_re (bad g) (dr M j 5), va_re (bad g) (dr M j 6), va_re (bad g) (dr M j 7), va_re (bad g) (dr M j 8), va_re (bad g) (dr M j 9), va_re (bad g) (dr M j 10)].set 6 (.ref (bad g r)))) ?_ dputR_o (hA.1.set dwl_D (dg_7 hc) ⟨_, h1, t_OB.to (V := updV (vp_V _) 6 (.ref (bad g r))) ⟨_, e1, q2, q3, t_set q4 hap (by decide) _⟩ (fun j _ => vp_updV_set (Nat.le_of_ble_eq_true rfl) _ j)⟩ e3) e2 (hA.2.2.2.1.put e2 e3 (Nat.le_add_right _ _))) h
  have hk := hc.2
  simp only [dk] at hk
  simp [dce, dputR, dk, dl, dr, di, up1, va_up, hk, dcell, va_re, va_rf]
theorem d_put_7_7 (S : CallFix p m c cc nL s args AL RX7) (hA : DA g M s H locs) (hin2 : meth.name = "<init>") {j index : Nat} {r : Nat} {K : Me → Option α} (hl : Cond.fieldLink RX7 index "MuffledTollsModel" "pace" "[I" ∈ AL) (hdg : decode cc pc = .ok (.putfield index, 3)) (kk : ∀ (M1 : Me) (H1 : Heap) (locs1 : List Loc), DA g M1 s H1 locs1 → K M1 = some res → W p l e R s m args below meth c H1 locs1 cells slots Q (F0 m (pc + 3) ls rest)) : gd (dck M j 7) (nm (dputR M j 7 r) K) = some res → W p l e R s m args below meth c H locs cells slots Q (F0 m pc ls (.ref (bad g r) :: .ref (bad g j) :: rest)) := fun h => by
  obtain ⟨hc, h⟩ := og h
  have hc := dck_of hc
  have hap := va_apart (own := RX7) S.2.2.2.2 inX7 tyX7 tyX7_ok nmX7 hA.2.1 (show vwCl[7]? = some _ from rfl)
  obtain ⟨r9, h1, cell, q1, q2, q3, q4⟩ := hA.1 j _ (dg_7 hc)
  obtain rfl : r9 = (RX7, TX7, 11) := (Option.some.inj h1).symm
  obtain ⟨hSl, hfc, kC, hkC, hkind⟩ := hA.2.1.1 7 _ h1
  obtain ⟨cf, kf, fi, fd, hi, hsl⟩ := hSl 7 (by decide)
  have hlay := S.2.2.2.2 _ (inX7 _ (u_in_lay (k := 7) (by decide)))
  unfold u_lay at hlay
  rw [if_pos (show (TX7 7).2.2.2 = true from rfl)] at hlay
  have hst := (u_facts hfc hkC (u_lays S.2.2.2.2 inX7 (k := 7) (by decide)) hi).1
  have hcf : m.cls = cf := by
    obtain ⟨_, _, c9, _, _, _, -, -, hf9, -, -, -, hown2, -⟩ := Cond.laysFinal_spec hlay
    have e1 : c9 = cf := by have := hi.symm.trans hf9; simp at this; exact this.1.symm
    rw [← e1]; exact Option.some.inj (S.2.2.2.1.symm.trans hown2)
  have h6 := u_fits (ty := tyX7 7) (v := .ref (bad g r)) hfc hkC hkind (Or.inr hlay) hi (tyX7_ok 7 (by decide)) rfl rfl
  refine W.putFinK S.1 S.2.1 S.2.2.2.1 (S.2.2.2.2 _ hl) hi hst hcf hin2 (by rw [q2]; exact h6) q1 q3 (by rw [hsl]; exact k2_hasslot (q4 7 (by decide))) rfl rfl hdg fun H1 e1 e2 e3 => ?_
  rw [hsl] at e1 ⊢
  refine kk (dputR M j 7 r) H1 _ (DA_wrote hA rfl hc.1 (e := .inr (7, [.int (di M j 0), .int (di M j 1), va_re (bad g) (dr M j 2), .int (di M j 3), va_re (bad g) (dr M j 4), va_re (bad g) (dr M j 5), va_re (bad g) (dr M j 6), va_re (bad g) (dr M j 7), va_re (bad g) (dr M j 8), va_re (bad g) (dr M j 9), va_re (bad g) (dr M j 10)].set 7 (.ref (bad g r)))) ?_ dputR_o (hA.1.set dwl_D (dg_7 hc) ⟨_, h1, t_OB.to (V := updV (vp_V _) 7 (.ref (bad g r))) ⟨_, e1, q2, q3, t_set q4 hap (by decide) _⟩ (fun j _ => vp_updV_set (Nat.le_of_ble_eq_true rfl) _ j)⟩ e3) e2 (hA.2.2.2.1.put e2 e3 (Nat.le_add_right _ _))) h
  have hk := hc.2
  simp only [dk] at hk
  simp [dce, dputR, dk, dl, dr, di, up1, va_up, hk, dcell, va_re, va_rf]
theorem d_put_7_8 (S : CallFix p m c cc nL s args AL RX7) (hA : DA g M s H locs) (hin2 : meth.name = "<init>") {j index : Nat} {r : Nat} {K : Me → Option α} (hl : Cond.fieldLink RX7 index "MuffledTollsModel" "reached" "[I" ∈ AL) (hdg : decode cc pc = .ok (.putfield index, 3)) (kk : ∀ (M1 : Me) (H1 : Heap) (locs1 : List Loc), DA g M1 s H1 locs1 → K M1 = some res → W p l e R s m args below meth c H1 locs1 cells slots Q (F0 m (pc + 3) ls rest)) : gd (dck M j 7) (nm (dputR M j 8 r) K) = some res → W p l e R s m args below meth c H locs cells slots Q (F0 m pc ls (.ref (bad g r) :: .ref (bad g j) :: rest)) := fun h => by
  obtain ⟨hc, h⟩ := og h
  have hc := dck_of hc
  have hap := va_apart (own := RX7) S.2.2.2.2 inX7 tyX7 tyX7_ok nmX7 hA.2.1 (show vwCl[7]? = some _ from rfl)
  obtain ⟨r9, h1, cell, q1, q2, q3, q4⟩ := hA.1 j _ (dg_7 hc)
  obtain rfl : r9 = (RX7, TX7, 11) := (Option.some.inj h1).symm
  obtain ⟨hSl, hfc, kC, hkC, hkind⟩ := hA.2.1.1 7 _ h1
  obtain ⟨cf, kf, fi, fd, hi, hsl⟩ := hSl 8 (by decide)
  have hlay := S.2.2.2.2 _ (inX7 _ (u_in_lay (k := 8) (by decide)))
  unfold u_lay at hlay
  rw [if_pos (show (TX7 8).2.2.2 = true from rfl)] at hlay
  have hst := (u_facts hfc hkC (u_lays S.2.2.2.2 inX7 (k := 8) (by decide)) hi).1
  have hcf : m.cls = cf := by
    obtain ⟨_, _, c9, _, _, _, -, -, hf9, -, -, -, hown2, -⟩ := Cond.laysFinal_spec hlay
    have e1 : c9 = cf := by have := hi.symm.trans hf9; simp at this; exact this.1.symm
    rw [← e1]; exact Option.some.inj (S.2.2.2.1.symm.trans hown2)
  have h6 := u_fits (ty := tyX7 8) (v := .ref (bad g r)) hfc hkC hkind (Or.inr hlay) hi (tyX7_ok 8 (by decide)) rfl rfl
  refine W.putFinK S.1 S.2.1 S.2.2.2.1 (S.2.2.2.2 _ hl) hi hst hcf hin2 (by rw [q2]; exact h6) q1 q3 (by rw [hsl]; exact k2_hasslot (q4 8 (by decide))) rfl rfl hdg fun H1 e1 e2 e3 => ?_
  rw [hsl] at e1 ⊢
  refine kk (dputR M j 8 r) H1 _ (DA_wrote hA rfl hc.1 (e := .inr (7, [.int (di M j 0), .int (di M j 1), va_re (bad g) (dr M j 2), .int (di M j 3), va_re (bad g) (dr M j 4), va_re (bad g) (dr M j 5), va_re (bad g) (dr M j 6), va_re (bad g) (dr M j 7), va_re (bad g) (dr M j 8), va_re (bad g) (dr M j 9), va_re (bad g) (dr M j 10)].set 8 (.ref (bad g r)))) ?_ dputR_o (hA.1.set dwl_D (dg_7 hc) ⟨_, h1, t_OB.to (V := updV (vp_V _) 8 (.ref (bad g r))) ⟨_, e1, q2, q3, t_set q4 hap (by decide) _⟩ (fun j _ => vp_updV_set (Nat.le_of_ble_eq_true rfl) _ j)⟩ e3) e2 (hA.2.2.2.1.put e2 e3 (Nat.le_add_right _ _))) h
  have hk := hc.2
  simp only [dk] at hk
  simp [dce, dputR, dk, dl, dr, di, up1, va_up, hk, dcell, va_re, va_rf]
theorem d_put_7_9 (S : CallFix p m c cc nL s args AL RX7) (hA : DA g M s H locs) (hin2 : meth.name = "<init>") {j index : Nat} {r : Nat} {K : Me → Option α} (hl : Cond.fieldLink RX7 index "MuffledTollsModel" "s" "LMuffledTollsModel$State;" ∈ AL) (hdg : decode cc pc = .ok (.putfield index, 3)) (kk : ∀ (M1 : Me) (H1 : Heap) (locs1 : List Loc), DA g M1 s H1 locs1 → K M1 = some res → W p l e R s m args below meth c H1 locs1 cells slots Q (F0 m (pc + 3) ls rest)) : gd (dck M j 7) (nm (dputR M j 9 r) K) = some res → W p l e R s m args below meth c H locs cells slots Q (F0 m pc ls (.ref (bad g r) :: .ref (bad g j) :: rest)) := fun h => by
  obtain ⟨hc, h⟩ := og h
  have hc := dck_of hc
  have hap := va_apart (own := RX7) S.2.2.2.2 inX7 tyX7 tyX7_ok nmX7 hA.2.1 (show vwCl[7]? = some _ from rfl)
  obtain ⟨r9, h1, cell, q1, q2, q3, q4⟩ := hA.1 j _ (dg_7 hc)
  obtain rfl : r9 = (RX7, TX7, 11) := (Option.some.inj h1).symm
  obtain ⟨hSl, hfc, kC, hkC, hkind⟩ := hA.2.1.1 7 _ h1
  obtain ⟨cf, kf, fi, fd, hi, hsl⟩ := hSl 9 (by decide)
  have hlay := S.2.2.2.2 _ (inX7 _ (u_in_lay (k := 9) (by decide)))
  unfold u_lay at hlay
  rw [if_pos (show (TX7 9).2.2.2 = true from rfl)] at hlay
  have hst := (u_facts hfc hkC (u_lays S.2.2.2.2 inX7 (k := 9) (by decide)) hi).1
  have hcf : m.cls = cf := by
    obtain ⟨_, _, c9, _, _, _, -, -, hf9, -, -, -, hown2, -⟩ := Cond.laysFinal_spec hlay
    have e1 : c9 = cf := by have := hi.symm.trans hf9; simp at this; exact this.1.symm
    rw [← e1]; exact Option.some.inj (S.2.2.2.1.symm.trans hown2)
  have h6 := u_fits (ty := tyX7 9) (v := .ref (bad g r)) hfc hkC hkind (Or.inr hlay) hi (tyX7_ok 9 (by decide)) rfl rfl
  refine W.putFinK S.1 S.2.1 S.2.2.2.1 (S.2.2.2.2 _ hl) hi hst hcf hin2 (by rw [q2]; exact h6) q1 q3 (by rw [hsl]; exact k2_hasslot (q4 9 (by decide))) rfl rfl hdg fun H1 e1 e2 e3 => ?_
  rw [hsl] at e1 ⊢
  refine kk (dputR M j 9 r) H1 _ (DA_wrote hA rfl hc.1 (e := .inr (7, [.int (di M j 0), .int (di M j 1), va_re (bad g) (dr M j 2), .int (di M j 3), va_re (bad g) (dr M j 4), va_re (bad g) (dr M j 5), va_re (bad g) (dr M j 6), va_re (bad g) (dr M j 7), va_re (bad g) (dr M j 8), va_re (bad g) (dr M j 9), va_re (bad g) (dr M j 10)].set 9 (.ref (bad g r)))) ?_ dputR_o (hA.1.set dwl_D (dg_7 hc) ⟨_, h1, t_OB.to (V := updV (vp_V _) 9 (.ref (bad g r))) ⟨_, e1, q2, q3, t_set q4 hap (by decide) _⟩ (fun j _ => vp_updV_set (Nat.le_of_ble_eq_true rfl) _ j)⟩ e3) e2 (hA.2.2.2.1.put e2 e3 (Nat.le_add_right _ _))) h
  have hk := hc.2
  simp only [dk] at hk
  simp [dce, dputR, dk, dl, dr, di, up1, va_up, hk, dcell, va_re, va_rf]
theorem d_put_7_10 (S : CallFix p m c cc nL s args AL RX7) (hA : DA g M s H locs) (hin2 : meth.name = "<init>") {j index : Nat} {r : Nat} {K : Me → Option α} (hl : Cond.fieldLink RX7 index "MuffledTollsModel" "ahead" "LMuffledTollsModel$State;" ∈ AL) (hdg : decode cc pc = .ok (.putfield index, 3)) (kk : ∀ (M1 : Me) (H1 : Heap) (locs1 : List Loc), DA g M1 s H1 locs1 → K M1 = some res → W p l e R s m args below meth c H1 locs1 cells slots Q (F0 m (pc + 3) ls rest)) : gd (dck M j 7) (nm (dputR M j 10 r) K) = some res → W p l e R s m args below meth c H locs cells slots Q (F0 m pc ls (.ref (bad g r) :: .ref (bad g j) :: rest)) := fun h => by
  obtain ⟨hc, h⟩ := og h
  have hc := dck_of hc
  have hap := va_apart (own := RX7) S.2.2.2.2 inX7 tyX7 tyX7_ok nmX7 hA.2.1 (show vwCl[7]? = some _ from rfl)
  obtain ⟨r9, h1, cell, q1, q2, q3, q4⟩ := hA.1 j _ (dg_7 hc)
  obtain rfl : r9 = (RX7, TX7, 11) := (Option.some.inj h1).symm
  obtain ⟨hSl, hfc, kC, hkC, hkind⟩ := hA.2.1.1 7 _ h1
  obtain ⟨cf, kf, fi, fd, hi, hsl⟩ := hSl 10 (by decide)
  have hlay := S.2.2.2.2 _ (inX7 _ (u_in_lay (k := 10) (by decide)))
  unfold u_lay at hlay
  rw [if_pos (show (TX7 10).2.2.2 = true from rfl)] at hlay
  have hst := (u_facts hfc hkC (u_lays S.2.2.2.2 inX7 (k := 10) (by decide)) hi).1
  have hcf : m.cls = cf := by
    obtain ⟨_, _, c9, _, _, _, -, -, hf9, -, -, -, hown2, -⟩ := Cond.laysFinal_spec hlay
    have e1 : c9 = cf := by have := hi.symm.trans hf9; simp at this; exact this.1.symm
    rw [← e1]; exact Option.some.inj (S.2.2.2.1.symm.trans hown2)
  have h6 := u_fits (ty := tyX7 10) (v := .ref (bad g r)) hfc hkC hkind (Or.inr hlay) hi (tyX7_ok 10 (by decide)) rfl rfl
  refine W.putFinK S.1 S.2.1 S.2.2.2.1 (S.2.2.2.2 _ hl) hi hst hcf hin2 (by rw [q2]; exact h6) q1 q3 (by rw [hsl]; exact k2_hasslot (q4 10 (by decide))) rfl rfl hdg fun H1 e1 e2 e3 => ?_
  rw [hsl] at e1 ⊢
  refine kk (dputR M j 10 r) H1 _ (DA_wrote hA rfl hc.1 (e := .inr (7, [.int (di M j 0), .int (di M j 1), va_re (bad g) (dr M j 2), .int (di M j 3), va_re (bad g) (dr M j 4), va_re (bad g) (dr M j 5), va_re (bad g) (dr M j 6), va_re (bad g) (dr M j 7), va_re (bad g) (dr M j 8), va_re (bad g) (dr M j 9), va_re (bad g) (dr M j 10)].set 10 (.ref (bad g r)))) ?_ dputR_o (hA.1.set dwl_D (dg_7 hc) ⟨_, h1, t_OB.to (V := updV (vp_V _) 10 (.ref (bad g r))) ⟨_, e1, q2, q3, t_set q4 hap (by decide) _⟩ (fun j _ => vp_updV_set (Nat.le_of_ble_eq_true rfl) _ j)⟩ e3) e2 (hA.2.2.2.1.put e2 e3 (Nat.le_add_right _ _))) h
  have hk := hc.2
  simp only [dk] at hk
  simp [dce, dputR, dk, dl, dr, di, up1, va_up, hk, dcell, va_re, va_rf]
theorem d_gr_4_0 (S : CallFix p m c cc nL s args AL own) (hA : DA g M s H locs) {j index : Nat} {K : Nat → Option α} (hl : Cond.fieldLink own index "MuffledTolls$Tower" "bells" "[LMuffledTolls$Bell;" ∈ AL) (hdg : decode cc pc = .ok (.getfield index, 3)) (kk : ∀ r : Nat, K r = some res → W p l e R s m args below meth c H locs cells slots Q (F0 m (pc + 3) ls (.ref (bad g r) :: rest))) : gd (dck M j 4) (b1 (dr M j 0) K) = some res → W p l e R s m args below meth c H locs cells slots Q (F0 m pc ls (.ref (bad g j) :: rest)) := fun h => by
  obtain ⟨hc, h⟩ := og h
  obtain ⟨r, e1, h⟩ := ob h
  exact va_get S.1 S.2.1 S.2.2.2.2 inX4 S.2.2.2.1 hA.2.1 hA.1 j (dg_4 (dck_of hc)) rfl 0 (by decide) (S.2.2.2.2 _ hl) (fun _ h9 => h9) (v := .ref (bad g r)) (by simp [va_re, va_rf, e1]) hdg (kk r h)
theorem d_gr_4_1 (S : CallFix p m c cc nL s args AL own) (hA : DA g M s H locs) {j index : Nat} {K : Nat → Option α} (hl : Cond.fieldLink own index "MuffledTolls$Tower" "ringers" "[LMuffledTolls$Ringer;" ∈ AL) (hdg : decode cc pc = .ok (.getfield index, 3)) (kk : ∀ r : Nat, K r = some res → W p l e R s m args below meth c H locs cells slots Q (F0 m (pc + 3) ls (.ref (bad g r) :: rest))) : gd (dck M j 4) (b1 (dr M j 1) K) = some res → W p l e R s m args below meth c H locs cells slots Q (F0 m pc ls (.ref (bad g j) :: rest)) := fun h => by
  obtain ⟨hc, h⟩ := og h
  obtain ⟨r, e1, h⟩ := ob h
  exact va_get S.1 S.2.1 S.2.2.2.2 inX4 S.2.2.2.1 hA.2.1 hA.1 j (dg_4 (dck_of hc)) rfl 1 (by decide) (S.2.2.2.2 _ hl) (fun _ h9 => h9) (v := .ref (bad g r)) (by simp [va_re, va_rf, e1]) hdg (kk r h)
theorem d_gr_4_2 (S : CallFix p m c cc nL s args AL own) (hA : DA g M s H locs) {j index : Nat} {K : Nat → Option α} (hl : Cond.fieldLink own index "MuffledTolls$Tower" "tolls" "[LMuffledTolls$Toll;" ∈ AL) (hdg : decode cc pc = .ok (.getfield index, 3)) (kk : ∀ r : Nat, K r = some res → W p l e R s m args below meth c H locs cells slots Q (F0 m (pc + 3) ls (.ref (bad g r) :: rest))) : gd (dck M j 4) (b1 (dr M j 2) K) = some res → W p l e R s m args below meth c H locs cells slots Q (F0 m pc ls (.ref (bad g j) :: rest)) := fun h => by
  obtain ⟨hc, h⟩ := og h
  obtain ⟨r, e1, h⟩ := ob h
  exact va_get S.1 S.2.1 S.2.2.2.2 inX4 S.2.2.2.1 hA.2.1 hA.1 j (dg_4 (dck_of hc)) rfl 2 (by decide) (S.2.2.2.2 _ hl) (fun _ h9 => h9) (v := .ref (bad g r)) (by simp [va_re, va_rf, e1]) hdg (kk r h)
theorem d_gr_6_3 (S : CallFix p m c cc nL s args AL own) (hA : DA g M s H locs) {j index : Nat} {K : Nat → Option α} (hl : Cond.fieldLink own index "MuffledTollsModel$State" "weight" "[I" ∈ AL) (hdg : decode cc pc = .ok (.getfield index, 3)) (kk : ∀ r : Nat, K r = some res → W p l e R s m args below meth c H locs cells slots Q (F0 m (pc + 3) ls (.ref (bad g r) :: rest))) : gd (dck M j 6) (b1 (dr M j 3) K) = some res → W p l e R s m args below meth c H locs cells slots Q (F0 m pc ls (.ref (bad g j) :: rest)) := fun h => by
  obtain ⟨hc, h⟩ := og h
  obtain ⟨r, e1, h⟩ := ob h
  exact va_get S.1 S.2.1 S.2.2.2.2 inX6 S.2.2.2.1 hA.2.1 hA.1 j (dg_6 (dck_of hc)) rfl 3 (by decide) (S.2.2.2.2 _ hl) (fun _ h9 => h9) (v := .ref (bad g r)) (by simp [va_re, va_rf, e1]) hdg (kk r h)
theorem d_gr_6_7 (S : CallFix p m c cc nL s args AL own) (hA : DA g M s H locs) {j index : Nat} {K : Nat → Option α} (hl : Cond.fieldLink own index "MuffledTollsModel$State" "rope" "[I" ∈ AL) (hdg : decode cc pc = .ok (.getfield index, 3)) (kk : ∀ r : Nat, K r = some res → W p l e R s m args below meth c H locs cells slots Q (F0 m (pc + 3) ls (.ref (bad g r) :: rest))) : gd (dck M j 6) (b1 (dr M j 7) K) = some res → W p l e R s m args below meth c H locs cells slots Q (F0 m pc ls (.ref (bad g j) :: rest)) := fun h => by
  obtain ⟨hc, h⟩ := og h
  obtain ⟨r, e1, h⟩ := ob h
  exact va_get S.1 S.2.1 S.2.2.2.2 inX6 S.2.2.2.1 hA.2.1 hA.1 j (dg_6 (dck_of hc)) rfl 7 (by decide) (S.2.2.2.2 _ hl) (fun _ h9 => h9) (v := .ref (bad g r)) (by simp [va_re, va_rf, e1]) hdg (kk r h)
theorem d_iast (S : CallFix p m c cc nL s args AL own) (hA : DA g M s H locs) {j : Nat} {i v : Int32} {K : Me → Option α} (hdg : decode cc pc = .ok (.iastore, 1)) (kk : ∀ (M1 : Me) (H1 : Heap) (locs1 : List Loc), DA g M1 s H1 locs1 → K M1 = some res → W p l e R s m args below meth c H1 locs1 cells slots Q (F0 m (pc + 1) ls rest)) : gd (dia M j 8 i) (nm (dput M j i.toNatClampNeg v) K) = some res → W p l e R s m args below meth c H locs cells slots Q (F0 m pc ls (.int v :: .int i :: .ref (bad g j) :: rest)) := fun h => by
  obtain ⟨hc, h⟩ := og h
  obtain ⟨hc, hin⟩ := dia_of hc
  refine W.iast S.1 S.2.1 (hA.1 j _ (dg_8 hc)) ((hA.2.1.2 0 _ rfl).1 _ (fun z => .int (di M j z))) (fun z => by cases z) (by show ¬ (i < 0 ∨ (arrV _ _ _).slots.size ≤ _); rw [arrV_size]; exact hin) rfl rfl hdg fun H1 e1 z oq => ?_
  refine kk (dput M j i.toNatClampNeg v) H1 _ (DA_wrote hA rfl hc.1 (e := .inl (g.2.2.1 0, dl M j, .inl (upd (di M j) i.toNatClampNeg v))) ?_ dput_o (hA.1.set dwl_D (dg_8 hc) ?_ oq) z (hA.2.2.2.1.put z oq (Nat.le_add_right _ _))) h
  · have hk := hc.2
    simp only [dk] at hk
    simp [dce, dput, dk, dl, dr, di, sI, hk, dcell]
  · show H1[bad g j]? = some (vp_cell _ _)
    rw [e1]
    rw [vp_cell_i, vp_cell_i, arrV_store]
    congr 2
    funext q
    by_cases hq : q = i.toNatClampNeg
    · subst hq
      simp [updV, upd]
    · simp [updV, upd, hq]
theorem d_aast_9 (S : CallFix p m c cc nL s args AL own) (hA : DA g M s H locs) {j r : Nat} {i : Int32} {K : Me → Option α} (hdg : decode cc pc = .ok (.aastore, 1)) (kk : ∀ (M1 : Me) (H1 : Heap) (locs1 : List Loc), DA g M1 s H1 locs1 → K M1 = some res → W p l e R s m args below meth c H1 locs1 cells slots Q (F0 m (pc + 1) ls rest)) : gd (dia M j 9 i && dck M r 0) (nm (dputR M j i.toNatClampNeg r) K) = some res → W p l e R s m args below meth c H locs cells slots Q (F0 m pc ls (.ref (bad g r) :: .int i :: .ref (bad g j) :: rest)) := fun h => by
  obtain ⟨hc, h⟩ := og h
  rw [Bool.and_eq_true] at hc
  obtain ⟨hc, hr⟩ := hc
  obtain ⟨hc, hin⟩ := dia_of hc
  have hr := dck_of hr
  have hlt : i.toNatClampNeg < dl M j := Nat.not_le.mp fun q => hin (Or.inr q)
  have h0 : ¬ i < 0 := fun q => hin (Or.inl q)
  obtain ⟨r', hr', cellV, g1, g2, g3, -⟩ := hA.1 r _ (dg_0 hr)
  have hcls := (hA.2.1.1 0 _ hr').2
  obtain rfl : r' = (RX0, TX0, 8) := (Option.some.inj hr').symm
  obtain ⟨kA, comp, k1, k2, k3, -⟩ := (hA.2.1.2 1 _ rfl).2
  have hcomp : comp = g.1 0 := Option.some.inj (k3.symm.trans hcls.1)
  subst hcomp
  obtain ⟨kC, hkC, -⟩ := hcls.2
  refine W.aast S.1 S.2.1 (hA.1 j _ (dg_9 hc)) (fun q h => by cases h) (fun h => by cases h) k1 k2 rfl hkC ⟨h0, by show _ < (arrV _ _ _).slots.size; rw [arrV_size]; exact hlt⟩ g1 (fun q h => by rw [g3] at h; cases h) (by rw [g2]; exact hkC) (by rw [g2]; exact va_assign hcls) rfl rfl hdg fun H1 e1 z oq => ?_
  refine kk (dputR M j i.toNatClampNeg r) H1 _ (DA_wrote hA rfl hc.1 (e := .inl (g.2.2.1 1, dl M j, .inr (.inr (.inr (.inr (fun z => (va_up (dr M j) i.toNatClampNeg (some r) z).map (bad g))))))) ?_ dputR_o (hA.1.set dwl_D (dg_9 hc) ?_ oq) z (hA.2.2.2.1.put z oq (Nat.le_add_right _ _))) h
  · have hk := hc.2
    simp only [dk] at hk
    simp [dce, dputR, dk, dl, dr, di, up1, hk, dcell]
  · show H1[bad g j]? = some (vp_cell _ _)
    rw [e1]
    rw [vp_cell_q, vp_cell_q, arrV_store]
    congr 2
    funext q
    by_cases hq : q = i.toNatClampNeg
    · subst hq
      simp [updV, va_up, va_rf]
    · simp [updV, va_up, hq]
theorem d_aast_10 (S : CallFix p m c cc nL s args AL own) (hA : DA g M s H locs) {j r : Nat} {i : Int32} {K : Me → Option α} (hdg : decode cc pc = .ok (.aastore, 1)) (kk : ∀ (M1 : Me) (H1 : Heap) (locs1 : List Loc), DA g M1 s H1 locs1 → K M1 = some res → W p l e R s m args below meth c H1 locs1 cells slots Q (F0 m (pc + 1) ls rest)) : gd (dia M j 10 i && dck M r 2) (nm (dputR M j i.toNatClampNeg r) K) = some res → W p l e R s m args below meth c H locs cells slots Q (F0 m pc ls (.ref (bad g r) :: .int i :: .ref (bad g j) :: rest)) := fun h => by
  obtain ⟨hc, h⟩ := og h
  rw [Bool.and_eq_true] at hc
  obtain ⟨hc, hr⟩ := hc
  obtain ⟨hc, hin⟩ := dia_of hc
  have hr := dck_of hr
  have hlt : i.toNatClampNeg < dl M j := Nat.not_le.mp fun q => hin (Or.inr q)
  have h0 : ¬ i < 0 := fun q => hin (Or.inl q)
  obtain ⟨r', hr', cellV, g1, g2, g3, -⟩ := hA.1 r _ (dg_2 hr)
  have hcls := (hA.2.1.1 2 _ hr').2
  obtain rfl : r' = (RX2, TX2, 5) := (Option.some.inj hr').symm
  obtain ⟨kA, comp, k1, k2, k3, -⟩ := (hA.2.1.2 2 _ rfl).2
  have hcomp : comp = g.1 2 := Option.some.inj (k3.symm.trans hcls.1)
  subst hcomp
  obtain ⟨kC, hkC, -⟩ := hcls.2
  refine W.aast S.1 S.2.1 (hA.1 j _ (dg_10 hc)) (fun q h => by cases h) (fun h => by cases h) k1 k2 rfl hkC ⟨h0, by show _ < (arrV _ _ _).slots.size; rw [arrV_size]; exact hlt⟩ g1 (fun q h => by rw [g3] at h; cases h) (by rw [g2]; exact hkC) (by rw [g2]; exact va_assign hcls) rfl rfl hdg fun H1 e1 z oq => ?_
  refine kk (dputR M j i.toNatClampNeg r) H1 _ (DA_wrote hA rfl hc.1 (e := .inl (g.2.2.1 2, dl M j, .inr (.inr (.inr (.inr (fun z => (va_up (dr M j) i.toNatClampNeg (some r) z).map (bad g))))))) ?_ dputR_o (hA.1.set dwl_D (dg_10 hc) ?_ oq) z (hA.2.2.2.1.put z oq (Nat.le_add_right _ _))) h
  · have hk := hc.2
    simp only [dk] at hk
    simp [dce, dputR, dk, dl, dr, di, up1, hk, dcell]
  · show H1[bad g j]? = some (vp_cell _ _)
    rw [e1]
    rw [vp_cell_q, vp_cell_q, arrV_store]
    congr 2
    funext q
    by_cases hq : q = i.toNatClampNeg
    · subst hq
      simp [updV, va_up, va_rf]
    · simp [updV, va_up, hq]
theorem d_aast_11 (S : CallFix p m c cc nL s args AL own) (hA : DA g M s H locs) {j r : Nat} {i : Int32} {K : Me → Option α} (hdg : decode cc pc = .ok (.aastore, 1)) (kk : ∀ (M1 : Me) (H1 : Heap) (locs1 : List Loc), DA g M1 s H1 locs1 → K M1 = some res → W p l e R s m args below meth c H1 locs1 cells slots Q (F0 m (pc + 1) ls rest)) : gd (dia M j 11 i && dck M r 3) (nm (dputR M j i.toNatClampNeg r) K) = some res → W p l e R s m args below meth c H locs cells slots Q (F0 m pc ls (.ref (bad g r) :: .int i :: .ref (bad g j) :: rest)) := fun h => by
  obtain ⟨hc, h⟩ := og h
  rw [Bool.and_eq_true] at hc
  obtain ⟨hc, hr⟩ := hc
  obtain ⟨hc, hin⟩ := dia_of hc
  have hr := dck_of hr
  have hlt : i.toNatClampNeg < dl M j := Nat.not_le.mp fun q => hin (Or.inr q)
  have h0 : ¬ i < 0 := fun q => hin (Or.inl q)
  obtain ⟨r', hr', cellV, g1, g2, g3, -⟩ := hA.1 r _ (dg_3 hr)
  have hcls := (hA.2.1.1 3 _ hr').2
  obtain rfl : r' = (RX3, TX3, 8) := (Option.some.inj hr').symm
  obtain ⟨kA, comp, k1, k2, k3, -⟩ := (hA.2.1.2 3 _ rfl).2
  have hcomp : comp = g.1 3 := Option.some.inj (k3.symm.trans hcls.1)
  subst hcomp
  obtain ⟨kC, hkC, -⟩ := hcls.2
  refine W.aast S.1 S.2.1 (hA.1 j _ (dg_11 hc)) (fun q h => by cases h) (fun h => by cases h) k1 k2 rfl hkC ⟨h0, by show _ < (arrV _ _ _).slots.size; rw [arrV_size]; exact hlt⟩ g1 (fun q h => by rw [g3] at h; cases h) (by rw [g2]; exact hkC) (by rw [g2]; exact va_assign hcls) rfl rfl hdg fun H1 e1 z oq => ?_
  refine kk (dputR M j i.toNatClampNeg r) H1 _ (DA_wrote hA rfl hc.1 (e := .inl (g.2.2.1 3, dl M j, .inr (.inr (.inr (.inr (fun z => (va_up (dr M j) i.toNatClampNeg (some r) z).map (bad g))))))) ?_ dputR_o (hA.1.set dwl_D (dg_11 hc) ?_ oq) z (hA.2.2.2.1.put z oq (Nat.le_add_right _ _))) h
  · have hk := hc.2
    simp only [dk] at hk
    simp [dce, dputR, dk, dl, dr, di, up1, hk, dcell]
  · show H1[bad g j]? = some (vp_cell _ _)
    rw [e1]
    rw [vp_cell_q, vp_cell_q, arrV_store]
    congr 2
    funext q
    by_cases hq : q = i.toNatClampNeg
    · subst hq
      simp [updV, va_up, va_rf]
    · simp [updV, va_up, hq]
theorem d_obj (S : CallFix p m c cc nL s args AL own) {j idx : Nat} (hl : Cond.methodLink own idx objectInit ∈ AL) (hi : Cond.instanceMethod objectInit ∈ AL) (hc : Cond.code objectInit ⟨#[0xb1]⟩ 1 none ∈ AL) (hls : ls.size = nL) (hR : 1 ≤ R.frames) (hL : 0 + (rest.map fun v => v.category).sum + 12 ≤ R.locals) (hdg : decode cc pc = .ok (.invokespecial idx, 3)) (kk : P → W p l e R s m args below meth c H locs cells slots Q (F0 m (pc + 3) ls rest)) : P → W p l e R s m args below meth c H locs cells slots Q (F0 m pc ls (.ref (bad g j) :: rest)) := fun h => W.objInit S.1 S.2.1 S.2.2.2.1 (S.2.2.2.2 _ hl) (S.2.2.2.2 _ hi) (S.2.2.2.2 _ hc) rfl (hls.trans S.2.2.1.symm) rfl hdg hR hL (kk h)
theorem d_callI (S : CallFix p m c cc nL s args AL own) (hA : DA g M s H locs) {y : MethodName} {bytes : ByteArray} {maxL n idx mc ms j : Nat} {rm : Room} {st0 : List Value} (As : List Value) {f : Option Me} {K : Me → Option α} (hM : ∀ M1, f = some M1 → Met l y (wsy y bytes maxL none) rm (va_Pc (.ref (bad g j) :: As) (DP g M)) (va_Qv (fun (u : Me) => u = M1) (DG g) (fun q => g.2.2.2 ≤ q)) mc ms (fun q => g.2.2.2 ≤ q)) (mw : Cond.instanceMethod y ∈ AL ∧ Cond.initialized y.cls ∈ AL ∧ Cond.code y bytes maxL none ∈ AL ∧ (y.cls ≠ "java/lang/invoke/MethodHandle" ∧ y.cls ≠ "java/lang/invoke/VarHandle" ∧ (parseMethodDescriptor y.desc).map (fun d => d.parameters.length) = some n)) (hy1 : y.name = "<init>") (hl : Cond.methodLink own idx y ∈ AL) (hdg : decode cc pc = .ok (.invokespecial idx, 3)) (hst : st0 = As.reverse ++ .ref (bad g j) :: rest) (hn : As.length = n) (hls : ls.size = nL) (hW : (rest.map fun v => v.category).sum ≤ 8) (hR : rm.frames + 1 ≤ R.frames ∧ 8 + (maxL + 11) + rm.locals ≤ R.locals) (hrc : rm.cells = mc) (hrs : rm.slots = ms) (hf : cells + mc ≤ R.cells ∧ slots + ms ≤ R.slots) (kk : ∀ (M1 : Me) (H1 : Heap) (locs1 : List Loc), DA g M1 s H1 locs1 → K M1 = some res → W p l e R s m args below meth c H1 locs1 (cells + mc) (slots + ms) Q (F0 m (pc + 3) ls rest)) : b1 f K = some res → W p l e R s m args below meth c H locs cells slots Q (F0 m pc ls st0) := fun h => by
  obtain ⟨M1, e1, h⟩ := ob h
  have hpre : ∀ U : State, U.heap = H → s.WarmedH U.vm → va_Pc (.ref (bad g j) :: As) (DP g M) (Value.ref (bad g j) :: As).toArray U := fun U hU hW => ⟨rfl, DA_pre hA hU hW⟩
  refine va_callv (va_runI (As := As) (rest := rest) (b := bad g j) S (hM M1 e1) (cwI n S.2.2.2.2 (wsy_good mw.2.2.1) rfl hrc hrs (S.2.2.2.2 _ mw.2.1) (S.2.2.2.2 _ hl) (S.2.2.2.2 _ mw.1) hy1 mw.2.2.2 hR) ⟨Dblind, hpre⟩ rfl hn hls hst (lv_room hW) hdg hf) hA.2.2.2.1 (fun q _ h => h) (fun q h => h) (fun u t H1 locs1 ht hvm hw hB hz hk hS => ?_)
  subst hw
  exact kk _ H1 locs1 (DA_next hA ht hB hS) h
theorem d_callN (S : CallFix p m c cc nL s args AL own) (hA : DA g M s H locs) {host : String} {y : MethodName} {bytes : ByteArray} {maxL n idx mc ms j : Nat} {rm : Room} {st0 : List Value} (As : List Value) {f : Option Me} {K : Me → Option α} (hM : ∀ M1, f = some M1 → Met l y (wsy y bytes maxL none) rm (va_Pc (.ref (bad g j) :: As) (DP g M)) (va_Qv (fun (u : Me) => u = M1) (DG g) (fun q => g.2.2.2 ≤ q)) mc ms (fun q => g.2.2.2 ≤ q)) (mw : Cond.instanceMethod y ∈ AL ∧ Cond.initialized y.cls ∈ AL ∧ Cond.code y bytes maxL none ∈ AL ∧ (y.cls ≠ "java/lang/invoke/MethodHandle" ∧ y.cls ≠ "java/lang/invoke/VarHandle" ∧ (parseMethodDescriptor y.desc).map (fun d => d.parameters.length) = some n)) (hy1 : y.name = "<init>") (hl : Cond.methodLinkNest own idx y host ∈ XL) (hdg : decode cc pc = .ok (.invokespecial idx, 3)) (hst : st0 = As.reverse ++ .ref (bad g j) :: rest) (hn : As.length = n) (hls : ls.size = nL) (hW : (rest.map fun v => v.category).sum ≤ 8) (hR : rm.frames + 1 ≤ R.frames ∧ 8 + (maxL + 11) + rm.locals ≤ R.locals) (hrc : rm.cells = mc) (hrs : rm.slots = ms) (hf : cells + mc ≤ R.cells ∧ slots + ms ≤ R.slots) (kk : ∀ (M1 : Me) (H1 : Heap) (locs1 : List Loc), DA g M1 s H1 locs1 → K M1 = some res → W p l e R s m args below meth c H1 locs1 (cells + mc) (slots + ms) Q (F0 m (pc + 3) ls rest)) : b1 f K = some res → W p l e R s m args below meth c H locs cells slots Q (F0 m pc ls st0) := fun h => by
  obtain ⟨M1, e1, h⟩ := ob h
  have hpre : ∀ U : State, U.heap = H → s.WarmedH U.vm → va_Pc (.ref (bad g j) :: As) (DP g M) (Value.ref (bad g j) :: As).toArray U := fun U hU hW => ⟨rfl, DA_pre hA hU hW⟩
  refine va_callv (va_runIN (As := As) (rest := rest) (b := bad g j) S (hM M1 e1) ⟨va_cnB n S.2.2.2.2 (wsy_good mw.2.2.1) rfl hrc hrs (hA.2.2.2.2.1.1 _ hl) (S.2.2.2.2 _ mw.2.1) mw.2.2.2 hR, hy1, S.2.2.2.2 _ mw.1⟩ ⟨Dblind, hpre⟩ rfl hn hls hst (lv_room hW) hdg hf) hA.2.2.2.1 (fun q _ h => h) (fun q h => h) (fun u t H1 locs1 ht hvm hw hB hz hk hS => ?_)
  subst hw
  exact kk _ H1 locs1 (DA_next hA ht hB hS) h
theorem d_vret (S : CallFix p m c cc nL s args AL own) (hA : DA g M s H locs) {M1 : Me} {mc ms : Nat} (hr : meth.sig.returnType = none) (hlk : meth.locks = false) (hc : cells ≤ mc) (hs : slots ≤ ms) (hdg : decode cc pc = .ok (.return_, 1)) : some M = some M1 → W p l e R s m args below meth c H locs cells slots (MQ below (va_Qv (fun (u : Me) => u = M1) (DG g) (fun q => g.2.2.2 ≤ q)) args s mc ms (fun q => g.2.2.2 ≤ q)) (F0 m pc ls []) := fun h => by
  cases h
  exact W.widen hc hs (W.vret S.1 S.2.1 hr (fun t ht hW => ⟨⟨M, rfl, rfl, DA_world hA ht hW.alike⟩, hA.2.2.2.1.F ht⟩) hA.2.2.2.1.2.2 hdg)
end RD
