/-! THE CLAIM OUT OF ONE WALK OF THE LAW'S BODY. Your part is whole_start (and what it stands on); all else here is the same for every law, but numbers. -/
def R_law : String := "MuffledTollsLaw"
def lw_P (b : Addr) (xs : List Int32) (args : Array Value) (s : State) : Prop := args = #[.ref b] ∧ s.IntsAt b xs ∧ xs.length ≤ 2560 ∧ (Jvm.Cond.and given_1 narrow_1).before args s = true
/-- what a walk over the start with the record d0 says of its end, said of the start itself -/
theorem lw_closed {s t : State} {o : Outcome} {d0 : Drawn} {L : List Loc} {k n : Nat} (hd0 : s.drawn.sameBut d0 lw_cs) (hv : ∃ v, o = .returned v) (hW : (s.setDrawn d0).WarmedH t.vm) (hs : (s.setDrawn d0).sameButNew ({ t with vm := s.vm } : State) L k n) : State.butDraws s t lw_cs (fun t1 => Framed s o t1 L k n) := by
  have h2 : t.drawn = d0 := congrArg State.drawn hs.1
  refine ⟨⟨hv, hW, State.sameButNew.setDrawn hs s.drawn⟩, ?_, by decide⟩
  rw [h2]
  exact hd0
def lw_Q (_ : Array Value) (s : State) (o : Outcome) (t : State) : Prop := o = .returned (some (.int 1)) ∧ State.butDraws s t lw_cs (fun t1 => Framed s o t1 [] 601024 7293033)
def lw_Z (below : List Frame) (a : Array Value) (s : State) : State → Prop := fun t => ∃ o, t.status = .running ∧ Ended t below o ∧ lw_Q a s o t
/-- the law's own end, with 1 on the stack, nothing written that was there before, its room as the claim has it; d0: the record of draws at this point (at the entry s.drawn: begin with 'refine W.base ?_' and 'have hd0 := Drawn.sameBut.refl s.drawn lw_cs') -/
theorem lw_ret {p : Program} {l : Launch} {e : Env} {s : State} {m : MethodId} {below : List Frame} {meth : Method} {c : Code} {b : Nat} {d0 : Drawn} (hd0 : s.drawn.sameBut d0 lw_cs) (hx : p.tables.exec = Jvm.exec) (hb : c.code = code) (hr : meth.sig.returnType = ret) (hlocks : meth.locks = false) {pc : Nat} {H : Heap} {ls : Array Slot} (hdg : decode code pc = .ok (.ireturn, 1)) : W p l e room_1 (s.setDrawn d0) m #[Value.ref b] below meth c H [] 601024 7293033 (lw_Z below #[Value.ref b] s) (F0 m pc ls [.int 1]) := by
  intro T hT X
  obtain ⟨fs, hret, hrun, hended, hW, hframe⟩ := X.leave (v := some (.int 1)) (hlocks := hlocks) (fun h => by rw [hr] at h; cases h)
  have hmeth' : T.vm.method? m = some meth := X.method'
  refine ⟨T.setFrames fs, ?_, .returned (some (.int 1)), hrun, hended, rfl, lw_closed hd0 ⟨_, rfl⟩ hW hframe⟩
  jvm_step X.here [X.here.top, hx, hb, hdg, hmeth', hr, ret, narrow_b1]
  (try refine ⟨rfl, ?_⟩); (try refine ⟨rfl, ?_⟩)
  first | (intro acts; rw [hret _ acts rfl rfl rfl]) | rw [hret _ _ rfl rfl rfl]
  exact Steps.refl _
/-- what holds at the law's entry: the machine, the code, the tables' words (any of lw_tbl by 'hts w (by decide +kernel)'), the script of L ints xs at the cell b, what the Statement gives of the start (any of its parts by flat_of_before) -/
def lw_At (p : Program) (s : State) (m : MethodId) (meth : Method) (c : Code) (b L : Nat) (xs : Nat → Int32) : Prop :=
  p.tables.exec = Jvm.exec ∧ c.code = code ∧ meth.sig.returnType = ret ∧ c.maxLocals = 9 ∧ s.vm.findClass R_law = some m.cls ∧ (∀ w ∈ lw_tbl, w.before #[Value.ref b] s = true) ∧ va_X b L xs s s.heap ∧ b < s.heap.size ∧ meth.locks = false ∧ (Jvm.Cond.and given_1 narrow_1).before #[Value.ref b] s = true

/-! the law's world and its rows -/
def LW (g : GT) (ad : Nat → Nat) (σ : Mem) (o : Nat) (f : Nat → Int64) (s : State) (H : Heap) (locs : List Loc) : Prop := GA g ad σ true g.2.2.2 s H locs ∧ OC g o f H ∧ NX s ∧ (∀ j, j < 176 → ad j < o) ∧ g.2.2.2 = s.heap.size
theorem LW_lo {g : GT} {ad : Nat → Nat} {σ : Mem} {o : Nat} {f : Nat → Int64} {s : State} {H : Heap} {locs : List Loc} (h : LW g ad σ o f s H locs) : g.2.2.2 ≤ o :=
  Nat.le_trans (h.1.2.2.1.2 0 (ad 0, ce g.2.2.1 ad (σ 0) 0) (wl_get (by decide))) (Nat.le_of_lt (h.2.2.2.1 0 (by decide)))
theorem LW_PO {g : GT} {ad : Nat → Nat} {σ : Mem} {o : Nat} {f : Nat → Int64} {s U : State} {H : Heap} {locs : List Loc} (h : LW g ad σ o f s H locs) (hU : U.heap = H) (hW : s.WarmedH U.vm) : PO g ad σ o f U := by
  have h1 := GA_pre h.1 hU hW
  exact ⟨⟨h1.1, LW_lo h, by rw [hU]; exact Nat.le_of_lt (OC_lt h.2.1), h1.2.2.2⟩, by rw [hU]; exact h.2.1, NX_moved hW.alike h.2.2.1, h.2.2.2.1⟩
theorem LW_PB {g : GT} {ad : Nat → Nat} {σ : Mem} {o : Nat} {f : Nat → Int64} {s U : State} {H : Heap} {locs : List Loc} (h : LW g ad σ o f s H locs) (hU : U.heap = H) (hW : s.WarmedH U.vm) : PB g ad σ (o + 1) U := by
  have h1 := GA_pre h.1 hU hW
  exact ⟨h1.1, Nat.le_succ_of_le (LW_lo h), by rw [hU]; exact OC_lt h.2.1, h1.2.2.2⟩
theorem AA_b {g : GT} {ad : Nat → Nat} {o q : Nat} (hb : g.2.2.2 ≤ o) (h : AA g ad true o q) : AA g ad true g.2.2.2 q := by
  rcases h with h | h
  · exact Or.inl h
  · exact Or.inr (Nat.le_trans hb h)
theorem LW_d {g : GT} {ad : Nat → Nat} {σ : Mem} {o : Nat} {f : Nat → Int64} {s : State} {H : Heap} {locs : List Loc} (h : LW g ad σ o f s H locs) (d : Drawn) : LW g ad σ o f (s.setDrawn d) H locs := ⟨GA_d h.1 d, h.2.1, NX_moved (u := s) (U := s.setDrawn d) (Vm.Alike.refl s.vm) h.2.2.1, h.2.2.2⟩
theorem LW_ref {g : GT} {ad : Nat → Nat} {σ σ1 : Mem} {o : Nat} {f : Nat → Int64} {s t : State} {H H1 : Heap} {locs locs1 : List Loc} (h : LW g ad σ o f s H locs) (ht : t.heap = H1) (hB : GW g ad σ1 t) (hk : ∀ q : Nat, q < H.size → ¬ AA g ad true (o + 1) q → H1[q]? = H[q]?) (hS : va_S (AA g ad true g.2.2.2) s.heap H1 locs1) : LW g ad σ1 o f s H1 locs1 :=
  ⟨GA_next h.1 ht hB hS, (hk o (OC_lt h.2.1) (AA_no h.2.2.2.1)).trans h.2.1, h.2.2⟩
theorem OC_P {g : GT} {o : Nat} {f : Nat → Int64} {H : Heap} (h : OC g o f H) : va_P (g.1, g.2.1) vwCl [(o, .inl (g.2.2.1 4, 1, .inr (.inl f)))] H := fun k z hk => by
  match k, hk with
  | 0, hk => cases hk; exact h
  | k + 1, hk => simp at hk
theorem okk {tab : List (Nat × Nat)} {rr : Nat ⊕ Int32} {bb : Int32} {σ1 σ2 : Mem} (h : okRes tab rr bb σ2) : ∀ k σ', (rr, σ1) = ((.inl k, σ') : (Nat ⊕ Int32) × Mem) → ∃ c, (k, c) ∈ tab := by
  intro k σ' e
  cases e
  obtain ⟨c, h1, -⟩ := h
  exact ⟨c, h1⟩
theorem thr {tab : List (Nat × Nat)} {rr : Nat ⊕ Int32} {bb k1 : Int32} {σ1 σ2 : Mem} {u : Mem × (Nat → Int64)} (h1 : ∀ a ∈ tab, ∀ b ∈ tab, a.1 = b.1 → a.2 = b.2) (h2 : ∀ a ∈ tab, ¬ nI a.2 = 0) (h : okRes tab rr bb σ2) (hq : okQ tab (rr, σ1) k1 u) : σ2 141 0 = k1 ∧ (k1 = 0 → u.2 0 = bb.toInt64) := by
  obtain ⟨-, hq⟩ := hq
  cases rr with
  | inl k =>
    obtain ⟨c, c1, c2⟩ := h
    obtain ⟨d, d1, d2⟩ := hq
    have e : c = d := h1 _ c1 _ d1 rfl
    exact ⟨by rw [c2, d2, e], fun z => absurd (d2.symm.trans z) (h2 _ d1)⟩
  | inr x =>
    obtain ⟨c1, c2⟩ := h
    obtain ⟨d1, d2⟩ := hq
    exact ⟨by rw [c1, d1], fun _ => by rw [d2, c2]⟩
theorem nan_dcmp {x y : UInt64} (h : isNaN64 x = true) : FP.dcmp x y = none := by
  have h1 := isNaN64_iff.mp h
  have e : x.toNat &&& 0x7fffffffffffffff = x.toNat % 9223372036854775808 := Nat.and_two_pow_sub_one_eq_mod x.toNat 63
  rw [e] at h1
  have hE : FP.Core.fieldE FP.Core.b64 x.toNat = FP.Core.b64.exps - 1 := by
    show x.toNat / 4503599627370496 % 2048 = 2047
    omega
  have hT : ¬ FP.Core.fieldT FP.Core.b64 x.toNat = 0 := by
    show ¬ x.toNat % 4503599627370496 = 0
    omega
  have hd : FP.Core.decode FP.Core.b64 x.toNat = .nan := by
    unfold FP.Core.decode
    rw [if_pos hE, if_neg hT]
  show FP.Core.order (FP.Core.decode FP.Core.b64 x.toNat) (FP.Core.decode FP.Core.b64 y.toNat) = none
  rw [hd]
  rfl
theorem mean_cmp {v : Option (Int32 × Int32)} {x y : UInt64} (hx : okMean v x) (hy : okMean v y) : Op.cmpValue (FP.dcmp x y) CmpOp.l = 0 ∨ (¬ Op.cmpValue (FP.dcmp x x) CmpOp.l = 0 ∧ ¬ Op.cmpValue (FP.dcmp y y) CmpOp.l = 0) := by
  have h : x = y ∨ (isNaN64 x = true ∧ isNaN64 y = true) := by
    cases v with
    | none => exact Or.inl (Eq.trans hx (Eq.symm hy))
    | some q =>
      have hx : alike64 x (FP.ddiv (FP.i2d q.1) (FP.i2d q.2)) = true := hx
      have hy : alike64 y (FP.ddiv (FP.i2d q.1) (FP.i2d q.2)) = true := hy
      generalize FP.ddiv (FP.i2d q.1) (FP.i2d q.2) = z at hx hy
      unfold alike64 at hx hy
      rw [Bool.or_eq_true, Bool.and_eq_true] at hx hy
      rcases hx with hx | hx
      · have hx := of_decide_eq_true hx
        subst hx
        rcases hy with hy | hy
        · exact Or.inl (of_decide_eq_true hy).symm
        · exact Or.inr ⟨hy.2, hy.1⟩
      · rcases hy with hy | hy
        · have hy := of_decide_eq_true hy
          subst hy
          exact Or.inr ⟨hx.1, hx.2⟩
        · exact Or.inr ⟨hx.1, hy.1⟩
  rcases h with rfl | ⟨h1, h2⟩
  · by_cases z : Op.cmpValue (FP.dcmp x x) CmpOp.l = 0
    · exact Or.inl z
    · exact Or.inr ⟨z, z⟩
  · refine Or.inr ⟨?_, ?_⟩
    · rw [nan_dcmp h1]; decide
    · rw [nan_dcmp h2]; decide
section RL2
variable {p : Program} {l : Launch} {e : Env} {R : Room} {s : State} {m : MethodId} {args : Array Value} {below : List Frame} {meth : Method} {c : Code} {H : Heap} {locs : List Loc} {cells slots : Nat} {Q : State → Prop} {cc : ByteArray} {nL : Nat} {own : String} {pc : Nat} {ls : Array Slot} {rest : List Value} {g : GT} {ad : Nat → Nat} {σ : Mem} {o : Nat} {f : Nat → Int64}
theorem l_wrap (S : CallFix p m c cc nL s args AL own) (hL : LW g ad σ o f s H locs) {y : MethodName} {bytes : ByteArray} {maxL n idx mc ms : Nat} {hh : List (Nat × Nat × Nat × Nat)} {rm : Room} {st0 : List Value} (As : List Value) {tab : List (Nat × Nat)} {rr : (Nat ⊕ Int32) × Mem} (hM : vx_Met l y (wsH y bytes maxL (some .int) hh) rm (va_Pc As (PO g ad σ o f)) (va_Qi (fun (r : Int32) (u : Mem × (Nat → Int64)) => okQ tab rr r u) (GO g ad o) (AA g ad true o)) XCF mc ms (AA g ad true o)) (mw : MH y bytes maxL (some .int) hh n) (hl : Cond.methodLink own idx y ∈ AL) (hdg : decode cc pc = .ok (.invokestatic idx, 3)) (hst : st0 = As.reverse ++ rest) (hn : As.length = n) (hls : ls.size = nL) (hW : (rest.map fun v => v.category).sum ≤ 8) (hR : rm.frames + 1 ≤ R.frames ∧ 8 + (maxL + 11) + rm.locals ≤ R.locals) (hrc : rm.cells = mc) (hrs : rm.slots = ms) (hf : cells + mc ≤ R.cells ∧ slots + ms ≤ R.slots) (kk : ∀ (r : Int32) (σ1 : Mem) (f1 : Nat → Int64) (H1 : Heap) (locs1 : List Loc), okQ tab rr r (σ1, f1) → LW g ad σ1 o f1 s H1 locs1 → W p l e R s m args below meth c H1 locs1 (cells + mc) (slots + ms) Q (F0 m (pc + 3) ls (.int r :: rest))) : W p l e R s m args below meth c H locs cells slots Q (F0 m pc ls st0) := by
  refine vx_calli (vx_runSX (As := As) (rest := rest) S hM (vx_cwSW n S.2.2.2.2 (gH hl mw) rfl hrc hrs mw.2.2.2 hR) ⟨blindO, fun U hU hW => ⟨rfl, LW_PO hL hU hW⟩⟩ rfl hn hls hst (lv_room hW) hdg hf) hL.1.2.2.2.1 (fun q _ h => AA_b (LW_lo hL) h) (fun q h => AA_b (LW_lo hL) h) (fun q _ h => h.elim) (fun E ce q9 u t H1 locs1 ht hvm hp hB hz hk hS hce hcv hcl => hp.elim) (fun r u t H1 locs1 ht hvm hw hB hz hk hS => ?_)
  exact kk r u.1 u.2 H1 locs1 hw ⟨GA_next hL.1 ht hB.1 hS, by rw [← ht]; exact hB.2, hL.2.2⟩
theorem l_ref (S : CallFix p m c cc nL s args AL own) (hL : LW g ad σ o f s H locs) {y : MethodName} {bytes : ByteArray} {maxL n idx mc ms : Nat} {ret : Option FieldType} {rm : Room} {st0 : List Value} (As : List Value) {r : Int32} {σ1 : Mem} {j ci : Nat} (q : vw_C) (hci : vwCl[ci]? = some q) (hq : q.1 = y.cls) (h8 : ci < 8) (hc : j < 176 ∧ sk j = ci) (hM : Met l y (wsy y bytes maxL ret) rm (va_Pc (.ref (ad j) :: As) (PB g ad σ (o + 1))) (va_Qi (fun (r' : Int32) (u : Mem) => r' = r ∧ u = σ1) (GW g ad) (AA g ad true (o + 1))) mc ms (AA g ad true (o + 1))) (mw : MW y bytes maxL ret n) (hl : Cond.methodLink own idx y ∈ AL) (hdg : decode cc pc = .ok (.invokevirtual idx, 3)) (hst : st0 = As.reverse ++ .ref (ad j) :: rest) (hn : As.length = n) (hls : ls.size = nL) (hW : (rest.map fun v => v.category).sum ≤ 8) (hR : rm.frames + 1 ≤ R.frames ∧ 8 + (maxL + 11) + rm.locals ≤ R.locals) (hrc : rm.cells = mc) (hrs : rm.slots = ms) (hf : cells + mc ≤ R.cells ∧ slots + ms ≤ R.slots) (kk : ∀ (H1 : Heap) (locs1 : List Loc), LW g ad σ1 o f s H1 locs1 → W p l e R s m args below meth c H1 locs1 (cells + mc) (slots + ms) Q (F0 m (pc + 3) ls (.int r :: rest))) : W p l e R s m args below meth c H locs cells slots Q (F0 m pc ls st0) := by
  refine va_calli (va_runV (As := As) (rest := rest) (b := ad j) (C := y.cls) S hM (cwV n S.2.2.2.2 (gV hl mw) rfl hrc hrs ⟨rfl, mw.2.2.2.2⟩ hR) ⟨blind, by rw [← hq]; exact recvOf hL.1 hc hci h8, fun U hU hW => ⟨rfl, LW_PB hL hU hW⟩⟩ rfl hn hls hst (lv_room hW) hdg hf) hL.1.2.2.2.1 (fun q _ h => AA_b (LW_lo hL) (AA_o h)) (fun q h => AA_b (LW_lo hL) (AA_o h)) (fun r2 u t H1 locs1 ht hvm hw hB hz hk hS => ?_)
  obtain ⟨rfl, rfl⟩ := hw
  exact kk H1 locs1 (LW_ref hL ht hB hk hS)
theorem l_refL (S : CallFix p m c cc nL s args AL own) (hL : LW g ad σ o f s H locs) {y : MethodName} {bytes : ByteArray} {maxL n idx mc ms : Nat} {ret : Option FieldType} {rm : Room} {st0 : List Value} (As : List Value) {r : Int64} {σ1 : Mem} {j ci : Nat} (q : vw_C) (hci : vwCl[ci]? = some q) (hq : q.1 = y.cls) (h8 : ci < 8) (hc : j < 176 ∧ sk j = ci) (hM : Met l y (wsy y bytes maxL ret) rm (va_Pc (.ref (ad j) :: As) (PB g ad σ (o + 1))) (va_Ql (fun (r' : Int64) (u : Mem) => r' = r ∧ u = σ1) (GW g ad) (AA g ad true (o + 1))) mc ms (AA g ad true (o + 1))) (mw : MW y bytes maxL ret n) (hl : Cond.methodLink own idx y ∈ AL) (hdg : decode cc pc = .ok (.invokevirtual idx, 3)) (hst : st0 = As.reverse ++ .ref (ad j) :: rest) (hn : As.length = n) (hls : ls.size = nL) (hW : (rest.map fun v => v.category).sum ≤ 8) (hR : rm.frames + 1 ≤ R.frames ∧ 8 + (maxL + 11) + rm.locals ≤ R.locals) (hrc : rm.cells = mc) (hrs : rm.slots = ms) (hf : cells + mc ≤ R.cells ∧ slots + ms ≤ R.slots) (kk : ∀ (H1 : Heap) (locs1 : List Loc), LW g ad σ1 o f s H1 locs1 → W p l e R s m args below meth c H1 locs1 (cells + mc) (slots + ms) Q (F0 m (pc + 3) ls (.long r :: rest))) : W p l e R s m args below meth c H locs cells slots Q (F0 m pc ls st0) := by
  refine va_calll (va_runV (As := As) (rest := rest) (b := ad j) (C := y.cls) S hM (cwV n S.2.2.2.2 (gV hl mw) rfl hrc hrs ⟨rfl, mw.2.2.2.2⟩ hR) ⟨blind, by rw [← hq]; exact recvOf hL.1 hc hci h8, fun U hU hW => ⟨rfl, LW_PB hL hU hW⟩⟩ rfl hn hls hst (lv_room hW) hdg hf) hL.1.2.2.2.1 (fun q _ h => AA_b (LW_lo hL) (AA_o h)) (fun q h => AA_b (LW_lo hL) (AA_o h)) (fun r2 u t H1 locs1 ht hvm hw hB hz hk hS => ?_)
  obtain ⟨rfl, rfl⟩ := hw
  exact kk H1 locs1 (LW_ref hL ht hB hk hS)
theorem l_refD (S : CallFix p m c cc nL s args AL own) {d0 : Drawn} (hd0 : s.drawn.sameBut d0 lw_cs) (hL : LW g ad σ o f s H locs) {y : MethodName} {bytes : ByteArray} {maxL n idx mc ms : Nat} {ret : Option FieldType} {rm : Room} {st0 : List Value} (As : List Value) {P : UInt64 → Prop} {σ1 : Mem} {j ci : Nat} (q : vw_C) (hci : vwCl[ci]? = some q) (hq : q.1 = y.cls) (h8 : ci < 8) (hc : j < 176 ∧ sk j = ci) (hM : MetD lw_cs l y (wsy y bytes maxL ret) rm (va_Pc (.ref (ad j) :: As) (PB g ad σ (o + 1))) (va_Qd (fun (r' : UInt64) (u : Mem) => P r' ∧ u = σ1) (GW g ad) (AA g ad true (o + 1))) mc ms (AA g ad true (o + 1))) (mw : MW y bytes maxL ret n) (hl : Cond.methodLink own idx y ∈ AL) (hdg : decode cc pc = .ok (.invokevirtual idx, 3)) (hst : st0 = As.reverse ++ .ref (ad j) :: rest) (hn : As.length = n) (hls : ls.size = nL) (hW : (rest.map fun v => v.category).sum ≤ 8) (hR : rm.frames + 1 ≤ R.frames ∧ 8 + (maxL + 11) + rm.locals ≤ R.locals) (hrc : rm.cells = mc) (hrs : rm.slots = ms) (hf : cells + mc ≤ R.cells ∧ slots + ms ≤ R.slots) (kk : ∀ (r : UInt64) (d1 : Drawn) (H1 : Heap) (locs1 : List Loc), s.drawn.sameBut d1 lw_cs → P r → LW g ad σ1 o f s H1 locs1 → W p l e R (s.setDrawn d1) m args below meth c H1 locs1 (cells + mc) (slots + ms) Q (F0 m (pc + 3) ls (.double r :: rest))) : W p l e R (s.setDrawn d0) m args below meth c H locs cells slots Q (F0 m pc ls st0) := by
  have S1 := CF_d S d0
  have hL1 := LW_d hL d0
  refine va_calldD hd0 (va_runV_D (As := As) (rest := rest) (b := ad j) (C := y.cls) S1 hM (cwV n S1.2.2.2.2 (gV hl mw) rfl hrc hrs ⟨rfl, mw.2.2.2.2⟩ hR) ⟨blind, by rw [← hq]; exact recvOf hL1.1 hc hci h8, fun U hU hW => ⟨rfl, LW_PB hL1 hU hW⟩⟩ rfl hn hls hst (lv_room hW) hdg hf) hL.1.2.2.2.1 (fun q _ h => AA_b (LW_lo hL) (AA_o h)) (fun q h => AA_b (LW_lo hL) (AA_o h)) (fun r2 u t H1 locs1 ht hvm hw hB hz hk hS d1 hd1 => ?_)
  obtain ⟨hw, rfl⟩ := hw
  exact kk r2 d1 H1 locs1 hd1 hw (LW_ref hL ht hB hk hS)
theorem l_b {b : Nat} (hL : LW g ad σ o f s H locs) (hb : b < s.heap.size) : ¬ AA g ad true g.2.2.2 b := fun h => by
  have h1 := AA_base hL.1.2.2.1 (Nat.le_refl _) h
  rw [hL.2.2.2.2] at h1
  exact Nat.not_le_of_lt hb h1
theorem l_arg (S : CallFix p m c cc nL s args AL own) (hL : LW g ad σ o f s H locs) {b L i : Nat} {xs : Nat → Int32} (hX : va_X b L xs s s.heap) (hb : b < s.heap.size) {lv : List (Nat × Value)} (hl : lv_has ls nL lv) (n0 n4 : Nat) (h0 : lv[n0]? = some (0, .ref b)) (h4 : lv[n4]? = some (4, .int (nI i))) {k : Int} (kn : Nat) (hk : Int32.ofInt k = nI kn) (hin : i + kn < L) (hLn : L ≤ 2560) (d0 : decode cc pc = .ok (.aload_n 0, 1)) (d1 : decode cc (pc + 1) = .ok (.iload 4, 2)) (d3 : decode cc (pc + 3) = .ok (.iconst k, 1)) (d4 : decode cc (pc + 4) = .ok (.iadd, 1)) (d5 : decode cc (pc + 5) = .ok (.iaload, 1)) (kk : W p l e R s m args below meth c H locs cells slots Q (F0 m (pc + 6) ls (.int (xs (i + kn)) :: rest))) : W p l e R s m args below meth c H locs cells slots Q (F0 m pc ls rest) := by
  have hlt : i + kn < 2 ^ 31 := by omega
  have hcl : (nI (i + kn)).toNatClampNeg = i + kn := nI_clamp hlt
  refine v_aload_n (P := True) S hl n0 h0 rfl d0 (fun _ => ?_) trivial
  refine v_iload (P := True) S hl n4 h4 d1 (fun _ => ?_) trivial
  refine v_iconst (P := True) S (nI kn) d3 hk (fun _ => ?_) trivial
  refine v_iadd (P := True) S d4 (fun _ => ?_) trivial
  rw [nI_add]
  refine va_sld S.1 S.2.1 hX hb (l_b hL hb) hL.1.2.2.2.1 (fun h => ?_) d5 ?_
  · rcases h with h | h
    · exact nI_pos hlt h
    · rw [hcl] at h; omega
  · rw [hcl]; exact kk
theorem l_kind (S : CallFix p m c cc nL s args AL own) (hL : LW g ad σ o f s H locs) {b L i : Nat} {xs : Nat → Int32} (hX : va_X b L xs s s.heap) (hb : b < s.heap.size) {lv : List (Nat × Value)} (hl : lv_has ls nL lv) (n0 n4 : Nat) (h0 : lv[n0]? = some (0, .ref b)) (h4 : lv[n4]? = some (4, .int (nI i))) (hin : i < L) (hLn : L ≤ 2560) (d0 : decode cc pc = .ok (.aload_n 0, 1)) (d1 : decode cc (pc + 1) = .ok (.iload 4, 2)) (d3 : decode cc (pc + 3) = .ok (.iaload, 1)) (kk : W p l e R s m args below meth c H locs cells slots Q (F0 m (pc + 4) ls (.int (xs i) :: rest))) : W p l e R s m args below meth c H locs cells slots Q (F0 m pc ls rest) := by
  have hlt : i < 2 ^ 31 := by omega
  have hcl : (nI i).toNatClampNeg = i := nI_clamp hlt
  refine v_aload_n (P := True) S hl n0 h0 rfl d0 (fun _ => ?_) trivial
  refine v_iload (P := True) S hl n4 h4 d1 (fun _ => ?_) trivial
  refine va_sld S.1 S.2.1 hX hb (l_b hL hb) hL.1.2.2.2.1 (fun h => ?_) d3 ?_
  · rcases h with h | h
    · exact nI_pos hlt h
    · rw [hcl] at h; omega
  · rw [hcl]; exact kk
theorem l_ld (S : CallFix p m c cc nL s args AL own) (hL : LW g ad σ o f s H locs) (hdg : decode cc pc = .ok (.laload, 1)) (kk : W p l e R s m args below meth c H locs cells slots Q (F0 m (pc + 1) ls (.long (f 0) :: rest))) : W p l e R s m args below meth c H locs cells slots Q (F0 m pc ls (.int 0 :: .ref o :: rest)) := by
  have h0 : (0 : Int32).toNatClampNeg = 0 := sb_cl0
  refine va_lald S.1 S.2.1 hL.1.2.1 (OC_P hL.2.1) 0 4 rfl rfl (fun h => ?_) hdg ?_
  · rcases h with h | h
    · exact absurd h (by decide)
    · rw [h0] at h; exact absurd h (by decide)
  · rw [h0]; exact kk
theorem v_dcmp {P : Prop} (S : CallFix p m c cc nL s args AL own) {x y : UInt64} {op : CmpOp} (hdg : decode cc pc = .ok (.dcmp op, 1)) (kk : P → W p l e R s m args below meth c H locs cells slots Q (F0 m (pc + 1) ls (.int (Op.cmpValue (FP.dcmp x y) op) :: rest))) : P → W p l e R s m args below meth c H locs cells slots Q (F0 m pc ls (.double y :: .double x :: rest)) := fun h => lv_dcmp S.1 S.2.1 hdg (kk h)
theorem v_if_eq_f2 {P : Prop} (S : CallFix p m c cc nL s args AL own) {x : Int32} {off : Int} (tgt : Nat) (hc : ¬ x = 0) (hdg : decode cc pc = .ok (.ifCond .eq off, 3)) (ht : (pc : Int) + off = (tgt : Int)) (kk : P → W p l e R s m args below meth c H locs cells slots Q (F0 m (pc + 3) ls rest)) : P → W p l e R s m args below meth c H locs cells slots Q (F0 m pc ls (.int x :: rest)) := fun h => lv_if_eq S.1 S.2.1 hdg ht (fun q => absurd q hc) (fun _ => kk h)
end RL2
