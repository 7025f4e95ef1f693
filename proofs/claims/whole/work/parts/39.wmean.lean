/-! the walk of mean -/
theorem XW_d {U : State} (h : XW U) (d : Drawn) : XW (U.setDrawn d) := ⟨fun w hw => dr_words h.1 d w hw, h.2⟩
theorem GA_d {g : GT} {ad : Nat → Nat} {σ : Mem} {w : Bool} {b : Nat} {s : State} {H : Heap} {locs : List Loc} (h : GA g ad σ w b s H locs) (d : Drawn) : GA g ad σ w b (s.setDrawn d) H locs := ⟨h.1, h.2.1, h.2.2.1, h.2.2.2.1, h.2.2.2.2.1, h.2.2.2.2.2.1, h.2.2.2.2.2.2.1, XW_d h.2.2.2.2.2.2.2 d⟩
theorem CF_d {p : Program} {m : MethodId} {c : Code} {cc : ByteArray} {nL : Nat} {s : State} {args : Array Value} {Ts : List Cond} {own : String} (S : CallFix p m c cc nL s args Ts own) (d : Drawn) : CallFix p m c cc nL (s.setDrawn d) args Ts own := ⟨S.1, S.2.1, S.2.2.1, S.2.2.2.1, dr_words S.2.2.2.2 d⟩
def okMean (v : Option (Int32 × Int32)) (r : UInt64) : Prop := match v with
  | none => r = FP.dconst0
  | some q => alike64 r (FP.ddiv (FP.i2d q.1) (FP.i2d q.2)) = true
set_option maxHeartbeats 4000000 in
set_option maxRecDepth 100000 in
theorem wl_X5_mean_16 {p : Program} {l : Launch} {e : Env} {R : Room} {s : State} {m : MethodId} {args : Array Value} {below : List Frame} {meth : Method} {c : Code} {g : GT} {ad : Nat → Nat} {w : Bool} {b : Nat} {Q : State → Prop} (S : CallFix p m c cX5_mean 3 s args AL RX5) (σ : Mem) (a0 : Nat) {β : Type} {rr : β} {K : Int32 → Int32 → Option β} (kx : ∀ (y1 : Int32) (y2 : Int32) (H : Heap) (locs : List Loc) (ls : Array Slot), lv_has ls 3 [(0, .ref (ad a0)), (1, .int y1), (2, .int y2)] → GA g ad σ w b s H locs → K y1 y2 = some rr → W p l e R s m args below meth c H locs 0 0 Q (F0 m 48 ls [])) : ∀ (fuel : Nat) (y1 : Int32) (y2 : Int32) (H : Heap) (locs : List Loc) (ls : Array Slot), lv_has ls 3 [(0, .ref (ad a0)), (1, .int y1), (2, .int y2)] → GA g ad σ w b s H locs → lp_X5_mean_16 σ a0 K fuel y1 y2 = some rr → W p l e R s m args below meth c H locs 0 0 Q (F0 m 16 ls []) := by
  intro fuel
  induction fuel with
  | zero =>
    intro y1 y2 H locs ls hl hG h
    rw [lp_X5_mean_16.eq_1] at h
    cases h
  | succ fuel ih =>
    intro y1 y2 H locs ls hl hG
    rw [lp_X5_mean_16.eq_2]
    refine v_iload_n S hl 2 rfl rfl dX5_mean_16 ?_
    refine v_aload_n S hl 0 rfl rfl dX5_mean_17 ?_
    refine gr_5_0 S hG q24 dX5_mean_18 (fun r1 => ?_)
    refine gf_4_4 S hG q88 dX5_mean_21 ?_
    refine v_icmp_ge S 48 dX5_mean_24 (by decide) ?_ ?_
    · exact kx y1 y2 _ _ ls (lv_sub hl [0, 1, 2] rfl) hG
    · refine v_iload_n S hl 1 rfl rfl dX5_mean_27 ?_
      refine v_aload_n S hl 0 rfl rfl dX5_mean_28 ?_
      refine gr_5_0 S hG q24 dX5_mean_29 (fun r2 => ?_)
      refine gr_4_1 S hG q99 dX5_mean_32 (fun r3 => ?_)
      refine v_iload_n S hl 2 rfl rfl dX5_mean_35 ?_
      refine v_aald_10 S hG dX5_mean_36 (fun r4 => ?_)
      refine gf_2_1 S hG q307 dX5_mean_37 ?_
      refine v_iadd S dX5_mean_40 ?_
      refine v_nm (fun x5 => ?_)
      refine v_istore_n S hl [(1, .int x5), (0, .ref (ad a0)), (2, .int y2)] rfl dX5_mean_41 (by decide) rfl (fun ls hl => ?_)
      refine v_iinc S hl 2 rfl dX5_mean_42 rfl (by decide) (fun z => [(2, .int z), (1, .int x5), (0, .ref (ad a0))]) (fun _ => rfl) (fun x6 ls hl => ?_)
      refine v_goto S 16 dX5_mean_45 (by decide) ?_
      exact ih x5 x6 _ _ ls (lv_sub hl [2, 1, 0] rfl) hG
set_option maxHeartbeats 4000000 in
set_option maxRecDepth 100000 in
theorem met_X5_mean (l : Launch) (g : GT) (ad : Nat → Nat) (w : Bool) (b : Nat) (σ : Mem) (t : Nat) (v : Option (Int32 × Int32)) (h : fn_X5_mean σ t = some v) : MetD lw_cs l yX5_mean (wsy yX5_mean cX5_mean 3 (some .double)) ({ frames := 0, cells := 0, slots := 0, locals := 0 } : Room) (va_Pc [.ref (ad t)] (PB g ad σ b)) (va_Qd (fun (r : UInt64) (u : Mem) => okMean v r ∧ u = σ) (GW g ad) (AA g ad w b)) 0 0 (AA g ad w b) := by
  refine MetD.ofW (cc := cX5_mean) (maxL := 3) (ret := (some .double)) (by decide) rfl ?_
  intro p e s m args below meth c s₁ B hml hv hd0
  obtain ⟨rfl, hv⟩ := hv
  have S0 : CallFix p m c cX5_mean 3 s _ AL RX5 := ⟨B.exec, B.bytes, hml, findClass_of_methodNamed B.named, fun w h => atoms_spec (ws := wsy yX5_mean cX5_mean 3 (some .double)) B.pre w (List.mem_cons_of_mem _ h)⟩
  have S := CF_d S0 s.drawn
  have hr := B.returns
  have hlk := B.notSynchronized
  have hG : GA g ad σ w b (s.setDrawn s.drawn) s.heap [] := GA_d (GA_start hv) s.drawn
  have hl := lv_entry ([.ref (ad t)]) (n := 3) (Nat.le_of_ble_eq_true rfl)
  rw [lg_entry_eq]
  generalize (lg_sl ([.ref (ad t)]) ++ List.replicate (3 - (lg_sl ([.ref (ad t)])).length) Slot.unset).toArray = ls at hl ⊢
  have hl : lv_has ls 3 [(0, .ref (ad t))] := hl
  revert h
  unfold fn_X5_mean
  refine v_aload_n S hl 0 rfl rfl dX5_mean_0 ?_
  refine gr_5_0 S hG q24 dX5_mean_1 (fun r1 => ?_)
  refine gf_4_4 S hG q88 dX5_mean_4 ?_
  refine v_if_ne S 12 dX5_mean_7 (by decide) ?_ ?_
  · refine v_iconst S 0 dX5_mean_12 rfl ?_
    refine v_istore_n S hl [(1, .int 0), (0, .ref (ad t))] rfl dX5_mean_13 (by decide) rfl (fun ls hl => ?_)
    refine v_iconst S 0 dX5_mean_14 rfl ?_
    refine v_istore_n S hl [(2, .int 0), (1, .int 0), (0, .ref (ad t))] rfl dX5_mean_15 (by decide) rfl (fun ls hl => ?_)
    refine wl_X5_mean_16 S σ t (fun y1 y2 H locs ls hl hG => ?_) 30 0 0 _ _ ls (lv_sub hl [2, 1, 0] rfl) hG
    refine v_iload_n S hl 1 rfl rfl dX5_mean_48 ?_
    refine v_i2d S dX5_mean_49 ?_
    refine v_aload_n S hl 0 rfl rfl dX5_mean_50 ?_
    refine gr_5_0 S hG q24 dX5_mean_51 (fun r9 => ?_)
    refine gf_4_4 S hG q88 dX5_mean_54 ?_
    refine v_i2d S dX5_mean_57 ?_
    intro h9
    have h9 := Option.some.inj h9
    subst h9
    refine lv_ddiv_any hd0 lw_bits S.1 S.2.1 dX5_mean_58 (fun r d1 hal hd1 => ?_)
    refine W.endD hd1 ?_
    have hG2 := GA_d hG d1
    exact W.dret S.1 S.2.1 hr (fun t ht hW => ⟨⟨r, σ, rfl, ⟨hal, rfl⟩, GA_world hG2 ht hW.alike⟩, hG2.2.2.2.1.F ht⟩) hG2.2.2.2.1.2.2 dX5_mean_59
  · intro h9
    have h9 := Option.some.inj h9
    subst h9
    refine lv_dconst0 S.1 S.2.1 dX5_mean_10 ?_
    refine W.endD hd0 ?_
    exact W.dret S.1 S.2.1 hr (fun t ht hW => ⟨⟨FP.dconst0, σ, rfl, ⟨rfl, rfl⟩, GA_world hG ht hW.alike⟩, hG.2.2.2.1.F ht⟩) hG.2.2.2.1.2.2 dX5_mean_11
