/-! the law's wrappers: the world with the answer's cell, a call whose throws are caught -/
def NX (U : State) : Prop := ∀ i j : Nat, i ∈ [1, 2, 3] → j ∈ [1, 2, 3] → i ≠ j → va_Nc (XN i) (XN j) U
theorem NX_moved {u U : State} (hvm : u.vm.Alike U.vm) (h : NX u) : NX U := fun i j hi hj hij => va_Nc.moved hvm (h i j hi hj hij)
def OC (g : GT) (o : Nat) (f : Nat → Int64) (H : Heap) : Prop := H[o]? = some (vp_cell (g.2.2.1 4) (1, .inr (.inl f)))
def PO (g : GT) (ad : Nat → Nat) (σ : Mem) (o : Nat) (f : Nat → Int64) (U : State) : Prop := PB g ad σ o U ∧ OC g o f U.heap ∧ NX U ∧ ∀ j, j < 176 → ad j < o
def GO (g : GT) (ad : Nat → Nat) (o : Nat) (u : Mem × (Nat → Int64)) (U : State) : Prop := GW g ad u.1 U ∧ OC g o u.2 U.heap
def LA (g : GT) (ad : Nat → Nat) (σ : Mem) (o : Nat) (f : Nat → Int64) (s : State) (H : Heap) (locs : List Loc) : Prop := GA g ad σ true o s H locs ∧ OC g o f H ∧ NX s ∧ ∀ j, j < 176 → ad j < o
theorem OC_lt {g : GT} {o : Nat} {f : Nat → Int64} {H : Heap} (h : OC g o f H) : o < H.size := (Array.getElem?_eq_some_iff.mp h).1
theorem blindO {g : GT} {ad : Nat → Nat} {σ : Mem} {o : Nat} {f : Nat → Int64} {av : List Value} : FrameBlind (va_Pc av (PO g ad σ o f)) := by
  intro a U fr mk q
  obtain ⟨e, h1, h2, h3, h4⟩ := q
  exact ⟨e, (blind a U fr mk ⟨e, h1⟩).2, h2, NX_moved (u := U) (U := U.calling fr mk a) (Vm.Alike.refl U.vm) h3, h4⟩
theorem LA_start {g : GT} {ad : Nat → Nat} {σ : Mem} {o : Nat} {f : Nat → Int64} {s : State} (h : PO g ad σ o f s) : LA g ad σ o f s s.heap [] := ⟨GA_start h.1, h.2⟩
theorem LA_pre {g : GT} {ad : Nat → Nat} {σ : Mem} {o : Nat} {f : Nat → Int64} {s U : State} {H : Heap} {locs : List Loc} (h : LA g ad σ o f s H locs) (hU : U.heap = H) (hW : s.WarmedH U.vm) : PB g ad σ (o + 1) U := by
  have h1 := GA_pre h.1 hU hW
  exact ⟨h1.1, Nat.le_succ_of_le h1.2.1, by rw [hU]; exact OC_lt h.2.1, h1.2.2.2⟩
theorem AA_o {g : GT} {ad : Nat → Nat} {o q : Nat} (h : AA g ad true (o + 1) q) : AA g ad true o q := by
  rcases h with h | h
  · exact Or.inl h
  · exact Or.inr (Nat.le_of_succ_le h)
theorem AA_no {g : GT} {ad : Nat → Nat} {o : Nat} (h : ∀ j, j < 176 → ad j < o) : ¬ AA g ad true (o + 1) o := by
  rintro (⟨-, j, hj, e⟩ | h1)
  · exact absurd (h j hj) (by rw [← e]; exact Nat.lt_irrefl o)
  · exact absurd h1 (Nat.not_succ_le_self o)
theorem LA_next {g : GT} {ad : Nat → Nat} {σ σ1 : Mem} {o : Nat} {f : Nat → Int64} {s t : State} {H H1 : Heap} {locs locs1 : List Loc} (h : LA g ad σ o f s H locs) (ht : t.heap = H1) (hB : GW g ad σ1 t) (hk : ∀ q : Nat, q < H.size → ¬ AA g ad true (o + 1) q → H1[q]? = H[q]?) (hS : va_S (AA g ad true o) s.heap H1 locs1) : LA g ad σ1 o f s H1 locs1 :=
  ⟨GA_next h.1 ht hB hS, (hk o (OC_lt h.2.1) (AA_no h.2.2.2)).trans h.2.1, h.2.2⟩
/-- a method that only tells, said as one that may write -/
theorem vx_up {l : Launch} {y : MethodName} {ws : List Cond} {rm : Room} {Pc : Array Value → State → Prop} {mc ms b : Nat} {g : GT} {ad : Nat → Nat} {σ : Mem} {rr : Nat ⊕ Int32} (h : vx_Met l y ws rm Pc (va_Qi (fun (r' : Int32) (u : Mem) => rr = .inr r' ∧ u = σ) (GW g ad) (AA g ad true b)) (XCR g ad σ true b rr) mc ms (AA g ad true b)) : vx_Met l y ws rm Pc (va_Qi (fun (r' : Int32) (u : Mem) => (rr, σ) = (.inr r', u)) (GW g ad) (AA g ad true b)) (XCm g ad true b (rr, σ)) mc ms (AA g ad true b) := by
  intro p e ha hc hk s m args below hf happ hP hK
  obtain ⟨n, o, h1, h2, h3, hq⟩ := h p e ha hc hk s m args below hf happ hP hK
  refine ⟨n, o, h1, h2, h3, ?_⟩
  rcases hq with ⟨⟨⟨r, u, e1, ⟨e2, e3⟩, e4⟩, hF⟩, hL⟩ | ⟨q, e1, E, ce, L, ⟨u, e2, ⟨e3, e4⟩, e5⟩, h9⟩
  · exact Or.inl ⟨⟨⟨r, u, e1, by rw [e2, e3], e4⟩, hF⟩, hL⟩
  · exact Or.inr ⟨q, e1, E, ce, L, ⟨(u, σ), by rw [e2], ⟨e3, e4⟩, e5⟩, h9⟩
/-- the words of a method that has a table of handlers -/
def wsH (y : MethodName) (b : ByteArray) (n : Nat) (r : Option FieldType) (hh : List (Nat × Nat × Nat × Nat)) : List Cond := .codeWith y b n r hh :: AL
def MH (y : MethodName) (bytes : ByteArray) (maxL : Nat) (ret : Option FieldType) (hh : List (Nat × Nat × Nat × Nat)) (n : Nat) : Prop := Cond.static y ∈ AL ∧ Cond.initialized y.cls ∈ AL ∧ Cond.codeWith y bytes maxL ret hh ∈ AL ∧ (y.cls ≠ "java/lang/invoke/MethodHandle" ∧ y.cls ≠ "java/lang/invoke/VarHandle" ∧ (parseMethodDescriptor y.desc).map (fun d => d.parameters.length) = some n)
theorem gH {own : String} {y : MethodName} {bytes : ByteArray} {maxL n idx : Nat} {ret : Option FieldType} {hh : List (Nat × Nat × Nat × Nat)} (hl : Cond.methodLink own idx y ∈ AL) (h : MH y bytes maxL ret hh n) : GoodIn AL (va_wsS own idx y (wsH y bytes maxL ret hh)) := by
  intro w hw
  unfold va_wsS at hw
  rcases List.mem_append.mp hw with hw | hw
  · simp only [List.mem_cons, List.not_mem_nil, or_false] at hw
    rcases hw with rfl | rfl | rfl
    · exact AL_good _ hl
    · exact AL_good _ h.1
    · exact AL_good _ h.2.1
  · rcases List.mem_cons.mp hw with e | hw
    · rw [e]; exact AL_good _ h.2.2.1
    · exact AL_good _ hw
/-- what a wrapper answers: 0 and the answer's cell, or the place of the class that was caught -/
def okQ (tab : List (Nat × Nat)) (rr : (Nat ⊕ Int32) × Mem) (r : Int32) (u : Mem × (Nat → Int64)) : Prop := u.1 = rr.2 ∧ match rr.1 with
  | .inl k => ∃ c, (k, c) ∈ tab ∧ r = nI c
  | .inr x => r = 0 ∧ u.2 0 = x.toInt64
abbrev XCF : String → State → State → Prop := vx_X (fun _ : Unit => False) (fun _ _ _ => True) (fun _ => False)
def castL : List Cond := [.castable (XN 1) (XN 1), .castable (XN 2) (XN 2), .castable (XN 3) (XN 3)]
theorem cast_a : ∀ w ∈ castL, w ∈ lw_tbl := List.forall_mem_cons.mpr ⟨tq2 (List.mem_of_getElem? (i := 67) rfl), List.forall_mem_cons.mpr ⟨tq2 (List.mem_of_getElem? (i := 138) rfl), List.forall_mem_cons.mpr ⟨tq2 (List.mem_of_getElem? (i := 162) rfl), fun _ h => absurd h List.not_mem_nil⟩⟩⟩
theorem cast_b : ∀ w ∈ castL, (goodWord w || xWord w) = true := by decide +kernel
section RW
variable {p : Program} {l : Launch} {e : Env} {R : Room} {s : State} {m : MethodId} {args : Array Value} {below : List Frame} {meth : Method} {c : Code} {H : Heap} {locs : List Loc} {cells slots : Nat} {Q : State → Prop} {cc : ByteArray} {nL : Nat} {own : String} {pc : Nat} {ls : Array Slot} {rest : List Value} {g : GT} {ad : Nat → Nat} {σ : Mem} {o : Nat} {f : Nat → Int64}
theorem castOf (S : CallFix p m c cc nL s args AL own) (hL : LA g ad σ o f s H locs) {k : Nat} (hk : k ∈ [1, 2, 3]) : (Cond.castable (XN k) (XN k)).before args s = true := by
  refine hatOf S.2.2.2.2 hL.1.2.2.2.2.2.2.2 cast_a cast_b _ ?_
  simp only [List.mem_cons, List.not_mem_nil, or_false] at hk
  rcases hk with rfl | rfl | rfl
  · exact List.mem_cons_self
  · exact List.mem_cons_of_mem _ List.mem_cons_self
  · exact List.mem_cons_of_mem _ (List.mem_cons_of_mem _ List.mem_cons_self)
theorem w_cls (S : CallFix p m c cc nL s args AL own) (hL : LA g ad σ o f s H locs) {y : MethodName} {bytes : ByteArray} {ret : Option FieldType} {maxL n idx mc ms : Nat} {rm : Room} {st0 : List Value} (As : List Value) {rr : (Nat ⊕ Int32) × Mem} (hM : vx_Met l y (wsy y bytes maxL ret) rm (va_Pc (.ref (ad 0) :: As) (PB g ad σ (o + 1))) (va_Qi (fun (r' : Int32) (u : Mem) => rr = (.inr r', u)) (GW g ad) (AA g ad true (o + 1))) (XCm g ad true (o + 1) rr) mc ms (AA g ad true (o + 1))) (mw : MW y bytes maxL ret n) (hy : RX5 = y.cls) (hl : Cond.methodLink own idx y ∈ AL) (hdg : decode cc pc = .ok (.invokevirtual idx, 3)) (hst : st0 = As.reverse ++ .ref (ad 0) :: rest) (hn : As.length = n) (hls : ls.size = nL) (hW : (rest.map fun v => v.category).sum ≤ 8) (hR : rm.frames + 1 ≤ R.frames ∧ 8 + (maxL + 11) + rm.locals ≤ R.locals) (hrc : rm.cells = mc) (hrs : rm.slots = ms) (hf : cells + mc ≤ R.cells ∧ slots + ms ≤ R.slots)
    (kx : ∀ (k : Nat) (σ1 : Mem) (ce : Cell) (q9 : Addr) (H1 : Heap) (locs1 : List Loc), rr = (.inl k, σ1) → LA g ad σ1 o f s H1 locs1 → H1[q9]? = some ce → ce.vm = .none → s.vm.findClass (XN k) = some ce.cls → vx_W p l e R s m args below meth c H1 locs1 (cells + mc) (slots + ms) Q (F0 m pc ls rest) q9)
    (kk : ∀ (r : Int32) (σ1 : Mem) (H1 : Heap) (locs1 : List Loc), rr = (.inr r, σ1) → LA g ad σ1 o f s H1 locs1 → W p l e R s m args below meth c H1 locs1 (cells + mc) (slots + ms) Q (F0 m (pc + 3) ls (.int r :: rest))) : W p l e R s m args below meth c H locs cells slots Q (F0 m pc ls st0) := by
  refine vx_calli (vx_runV (As := As) (rest := rest) (b := ad 0) (C := y.cls) S hM (cwV n S.2.2.2.2 (gV hl mw) rfl hrc hrs ⟨rfl, mw.2.2.2.2⟩ hR) ⟨blind, by rw [← hy]; exact recvOf hL.1 (ci := 5) (q := (RX5, TX5, 2)) ⟨by decide, by decide⟩ rfl (by decide), fun U hU hW => ⟨rfl, LA_pre hL hU hW⟩⟩ rfl hn hls hst (lv_room hW) hdg hf) hL.1.2.2.2.1 (fun q _ h => AA_o h) (fun q h => AA_o h) (fun q _ h => AA_o h) (fun E ce q9 u t H1 locs1 ht hvm hp hB hz hk hS hce hcv hcl => ?_) (fun r u t H1 locs1 ht hvm hw hB hz hk hS => ?_)
  · obtain ⟨rfl, hB⟩ := hB
    exact kx u.1 u.2 ce q9 H1 locs1 hp (LA_next hL ht hB hk hS) hce hcv hcl
  · exact kk r u H1 locs1 hw (LA_next hL ht hB hk hS)
theorem w_last (S : CallFix p m c cc nL s args AL own) (hL : LA g ad σ o f s H locs) {x : Int64} (hdg : decode cc pc = .ok (.lastore, 1)) (kk : ∀ (f1 : Nat → Int64) (H1 : Heap) (locs1 : List Loc), f1 0 = x → LA g ad σ o f1 s H1 locs1 → W p l e R s m args below meth c H1 locs1 cells slots Q (F0 m (pc + 1) ls rest)) : W p l e R s m args below meth c H locs cells slots Q (F0 m pc ls (.long x :: .int 0 :: .ref o :: rest)) := by
  have h0 : (0 : Int32).toNatClampNeg = 0 := sb_cl0
  refine W.last S.1 S.2.1 (a := o) hL.2.1 ((hL.1.2.1.2 4 _ rfl).1 1 (fun j => .long (f j))) (fun z => by cases z) (by show ¬ ((0 : Int32) < 0 ∨ (arrV _ _ _).slots.size ≤ _); rw [arrV_size, h0]; exact (by decide : ¬ ((0 : Int32) < 0 ∨ 1 ≤ 0))) rfl rfl hdg fun H1 e1 z oq => ?_
  refine kk (vp_updL f 0 x) H1 _ (by simp [vp_updL]) ⟨GA_kept hL.1 (fun j hj => oq _ (Nat.ne_of_lt (hL.2.2.2 j hj))) (hL.1.2.2.2.1.put z oq (Or.inr (Nat.le_refl o))), ?_, hL.2.2⟩
  show H1[o]? = some (vp_cell _ _)
  rw [e1]
  rw [vp_cell_l, vp_cell_l, arrV_store]
  congr 2
  funext q
  by_cases hq : q = 0
  · subst hq
    simp [updV, vp_updL]
  · simp [updV, vp_updL, hq]
theorem w_ret {tab : List (Nat × Nat)} {rr : (Nat ⊕ Int32) × Mem} {XC : String → State → State → Prop} {v : Int32} {mc ms : Nat} (S : CallFix p m c cc nL s args AL own) (hL : LA g ad σ o f s H locs) (hr : meth.sig.returnType = some .int) (hlk : meth.locks = false) (hc : cells ≤ mc) (hs : slots ≤ ms) (hdg : decode cc pc = .ok (.ireturn, 1)) (hw : okQ tab rr v (σ, f)) : W p l e R s m args below meth c H locs cells slots (vx_MQ below (va_Qi (fun (r' : Int32) (u : Mem × (Nat → Int64)) => okQ tab rr r' u) (GO g ad o) (AA g ad true o)) XC args s mc ms (AA g ad true o)) (F0 m pc ls [.int v]) :=
  vx_ret (W.widen hc hs (W.iret S.1 S.2.1 hr (fun t ht hW => ⟨⟨v, (σ, f), rfl, hw, ⟨GA_world hL.1 ht hW.alike, by rw [ht]; exact hL.2.1⟩⟩, hL.1.2.2.2.1.F ht⟩) hL.1.2.2.2.1.2.2 hdg))
/-- the way into the handler of class k; the rows ahead name the classes of 'ahead' -/
theorem w_catch (S : CallFix p m c cc nL s args AL own) (hL : LA g ad σ o f s H locs) {tb : List (Nat × Nat × Nat × Nat)} (htab : c.exceptionTable.toList = tableOf tb) {k : Nat} (hk : k ∈ [1, 2, 3]) {ce : Cell} {q9 : Addr} (hce : H[q9]? = some ce) (hcv : ce.vm = .none) (hcl : s.vm.findClass (XN k) = some ce.cls) (pre : List (Nat × Nat × Nat × Nat)) (x : Nat × Nat × Nat × Nat) (suf : List (Nat × Nat × Nat × Nat)) (htb : tb = pre ++ x :: suf) (hpre : ∀ z ∈ pre, ∃ j, j ∈ [1, 2, 3] ∧ k ≠ j ∧ z.2.2.2 ≠ 0 ∧ Cond.classLink own z.2.2.2 (XN j) ∈ AL) (hx : covers (⟨x.1, x.2.1, x.2.2.1, x.2.2.2⟩ : ExceptionTableEntry) pc = true) (h0 : x.2.2.2 ≠ 0) (hl : Cond.classLink own x.2.2.2 (XN k) ∈ AL) (kk : W p l e R s m args below meth c H locs cells slots Q (F0 m x.2.2.1 ls [.ref q9])) : vx_W p l e R s m args below meth c H locs cells slots Q (F0 m pc ls rest) q9 := by
  refine vx_catch (name := XN k) (E := XN k) S.2.2.2.1 (tableOf pre) ⟨x.1, x.2.1, x.2.2.1, x.2.2.2⟩ (tableOf suf) ?_ ?_ hx h0 (S.2.2.2.2 _ hl) (castOf S hL hk) hce hcv hcl kk
  · rw [htab, htb]
    simp [tableOf]
  · intro z hz
    unfold tableOf at hz
    obtain ⟨q, hq, rfl⟩ := List.mem_map.mp hz
    obtain ⟨j, hj, hkj, hz0, hlj⟩ := hpre q hq
    exact Or.inr ⟨hz0, XN j, S.2.2.2.2 _ hlj, hL.2.2.1 k j hk hj hkj⟩
end RW
