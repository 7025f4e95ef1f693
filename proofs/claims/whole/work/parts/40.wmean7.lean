/-! the walk of the reference's mean -/
set_option maxHeartbeats 4000000 in
set_option maxRecDepth 100000 in
theorem wl_X7_mean_9 {p : Program} {l : Launch} {e : Env} {R : Room} {s : State} {m : MethodId} {args : Array Value} {below : List Frame} {meth : Method} {c : Code} {g : GT} {ad : Nat → Nat} {w : Bool} {b : Nat} {Q : State → Prop} (S : CallFix p m c cX7_mean 3 s args AL RX7) (σ : Mem) (a0 : Nat) {β : Type} {rr : β} {K : Int32 → Int32 → Option β} (kx : ∀ (y1 : Int32) (y2 : Int32) (H : Heap) (locs : List Loc) (ls : Array Slot), lv_has ls 3 [(0, .ref (ad a0)), (1, .int y1), (2, .int y2)] → GA g ad σ w b s H locs → K y1 y2 = some rr → W p l e R s m args below meth c H locs 0 0 Q (F0 m 35 ls [])) : ∀ (fuel : Nat) (y1 : Int32) (y2 : Int32) (H : Heap) (locs : List Loc) (ls : Array Slot), lv_has ls 3 [(0, .ref (ad a0)), (1, .int y1), (2, .int y2)] → GA g ad σ w b s H locs → lp_X7_mean_9 σ a0 K fuel y1 y2 = some rr → W p l e R s m args below meth c H locs 0 0 Q (F0 m 9 ls []) := by
  intro fuel
  induction fuel with
  | zero =>
    intro y1 y2 H locs ls hl hG h
    rw [lp_X7_mean_9.eq_1] at h
    cases h
  | succ fuel ih =>
    intro y1 y2 H locs ls hl hG
    rw [lp_X7_mean_9.eq_2]
    refine v_iload_n S hl 2 rfl rfl dX7_mean_9 ?_
    refine v_aload_n S hl 0 rfl rfl dX7_mean_10 ?_
    refine gf_7_1 S hG q325 dX7_mean_11 ?_
    refine v_icmp_ge S 35 dX7_mean_14 (by decide) ?_ ?_
    · exact kx y1 y2 _ _ ls (lv_sub hl [0, 1, 2] rfl) hG
    · refine v_iload_n S hl 1 rfl rfl dX7_mean_17 ?_
      refine v_aload_n S hl 0 rfl rfl dX7_mean_18 ?_
      refine gr_7_9 S hG q336 dX7_mean_19 (fun r2 => ?_)
      refine grN_6_10 S hG q389 dX7_mean_22 (fun r3 => ?_)
      refine v_iload_n S hl 2 rfl rfl dX7_mean_25 ?_
      refine v_iald S hG dX7_mean_26 ?_
      refine v_iadd S dX7_mean_27 ?_
      refine v_nm (fun x5 => ?_)
      refine v_istore_n S hl [(1, .int x5), (0, .ref (ad a0)), (2, .int y2)] rfl dX7_mean_28 (by decide) rfl (fun ls hl => ?_)
      refine v_iinc S hl 2 rfl dX7_mean_29 rfl (by decide) (fun z => [(2, .int z), (1, .int x5), (0, .ref (ad a0))]) (fun _ => rfl) (fun x6 ls hl => ?_)
      refine v_goto S 9 dX7_mean_32 (by decide) ?_
      exact ih x5 x6 _ _ ls (lv_sub hl [2, 1, 0] rfl) hG
set_option maxHeartbeats 4000000 in
set_option maxRecDepth 100000 in
theorem met_X7_mean (l : Launch) (g : GT) (ad : Nat → Nat) (b : Nat) (σ : Mem) (t : Nat) (v : Option (Int32 × Int32)) (σr : Mem) (h : fn_X7_mean σ t = some (v, σr)) : MetD lw_cs l yX7_mean (wsy yX7_mean cX7_mean 3 (some .double)) ({ frames := 0, cells := 0, slots := 0, locals := 0 } : Room) (va_Pc [.ref (ad t)] (PB g ad σ b)) (va_Qd (fun (r : UInt64) (u : Mem) => okMean v r ∧ u = σr) (GW g ad) (AA g ad true b)) 0 0 (AA g ad true b) := by
  refine MetD.ofW (cc := cX7_mean) (maxL := 3) (ret := (some .double)) (by decide) rfl ?_
  intro p e s m args below meth c s₁ B hml hv hd0
  obtain ⟨rfl, hv⟩ := hv
  have S0 : CallFix p m c cX7_mean 3 s _ AL RX7 := ⟨B.exec, B.bytes, hml, findClass_of_methodNamed B.named, fun w h => atoms_spec (ws := wsy yX7_mean cX7_mean 3 (some .double)) B.pre w (List.mem_cons_of_mem _ h)⟩
  have S := CF_d S0 s.drawn
  have hr := B.returns
  have hlk := B.notSynchronized
  have hG : GA g ad σ true b (s.setDrawn s.drawn) s.heap [] := GA_d (GA_start hv) s.drawn
  have hl := lv_entry ([.ref (ad t)]) (n := 3) (Nat.le_of_ble_eq_true rfl)
  rw [lg_entry_eq]
  generalize (lg_sl ([.ref (ad t)]) ++ List.replicate (3 - (lg_sl ([.ref (ad t)])).length) Slot.unset).toArray = ls at hl ⊢
  have hl : lv_has ls 3 [(0, .ref (ad t))] := hl
  revert h
  unfold fn_X7_mean
  refine v_aload_n S hl 0 rfl rfl dX7_mean_0 ?_
  refine v_iconst S 0 dX7_mean_1 rfl ?_
  refine pf_7_0 S hG q320 dX7_mean_2 (fun σ1 H locs hG => ?_)
  refine v_iconst S 0 dX7_mean_5 rfl ?_
  refine v_istore_n S hl [(1, .int 0), (0, .ref (ad t))] rfl dX7_mean_6 (by decide) rfl (fun ls hl => ?_)
  refine v_iconst S 0 dX7_mean_7 rfl ?_
  refine v_istore_n S hl [(2, .int 0), (1, .int 0), (0, .ref (ad t))] rfl dX7_mean_8 (by decide) rfl (fun ls hl => ?_)
  refine wl_X7_mean_9 S σ1 t (fun y1 y2 H locs ls hl hG => ?_) 30 0 0 _ _ ls (lv_sub hl [2, 1, 0] rfl) hG
  refine v_aload_n S hl 0 rfl rfl dX7_mean_35 ?_
  refine gf_7_1 S hG q325 dX7_mean_36 ?_
  refine v_if_ne S 46 dX7_mean_39 (by decide) ?_ ?_
  · refine v_iload_n S hl 1 rfl rfl dX7_mean_46 ?_
    refine v_i2d S dX7_mean_47 ?_
    refine v_aload_n S hl 0 rfl rfl dX7_mean_48 ?_
    refine gf_7_1 S hG q325 dX7_mean_49 ?_
    refine v_i2d S dX7_mean_52 ?_
    intro h9
    have h9 := Option.some.inj h9
    cases h9
    refine lv_ddiv_any hd0 lw_bits S.1 S.2.1 dX7_mean_53 (fun r d1 hal hd1 => ?_)
    refine W.endD hd1 ?_
    have hG2 := GA_d hG d1
    exact W.dret S.1 S.2.1 hr (fun t ht hW => ⟨⟨r, _, rfl, ⟨hal, rfl⟩, GA_world hG2 ht hW.alike⟩, hG2.2.2.2.1.F ht⟩) hG2.2.2.2.1.2.2 dX7_mean_54
  · intro h9
    have h9 := Option.some.inj h9
    cases h9
    refine lv_dconst0 S.1 S.2.1 dX7_mean_42 ?_
    refine v_goto (P := True) S 54 dX7_mean_43 (by decide) (fun _ => ?_) trivial
    refine W.endD hd0 ?_
    exact W.dret S.1 S.2.1 hr (fun t ht hW => ⟨⟨FP.dconst0, _, rfl, ⟨rfl, rfl⟩, GA_world hG ht hW.alike⟩, hG.2.2.2.1.F ht⟩) hG.2.2.2.1.2.2 dX7_mean_54
