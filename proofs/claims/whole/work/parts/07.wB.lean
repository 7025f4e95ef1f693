set_option maxHeartbeats 4000000 in
set_option maxRecDepth 100000 in
theorem wl_X4_tollsNotDone_4 {p : Program} {l : Launch} {e : Env} {s : State} {m : MethodId} {args : Array Value} {below : List Frame} {meth : Method} {c : Code} {g : GT} {ad : Nat → Nat} {w : Bool} {b : Nat} (S : CallFix p m c cX4_tollsNotDone 4 s args AL RX4) (hr : meth.sig.returnType = some .int) (hlk : meth.locks = false) (σ : Mem) (a0 : Nat) (a1 : Int32) {rr : Int32} {K : Int32 → Int32 → Option Int32} (kx : ∀ (y2 : Int32) (y3 : Int32) (H : Heap) (locs : List Loc) (ls : Array Slot), lv_has ls 4 [(0, .ref (ad a0)), (1, .int a1), (2, .int y2), (3, .int y3)] → GA g ad σ w b s H locs → K y2 y3 = some rr → W p l e ({ frames := 1, cells := 0, slots := 0, locals := 20 } : Room) s m args below meth c H locs 0 0 (MQ below (va_Qi (fun (r' : Int32) (u : Mem) => r' = rr ∧ u = σ) (GW g ad) (AA g ad w b)) args s 0 0 (AA g ad w b)) (F0 m 46 ls [])) : ∀ (fuel : Nat) (y2 : Int32) (y3 : Int32) (H : Heap) (locs : List Loc) (ls : Array Slot), lv_has ls 4 [(0, .ref (ad a0)), (1, .int a1), (2, .int y2), (3, .int y3)] → GA g ad σ w b s H locs → lp_X4_tollsNotDone_4 σ a0 a1 K fuel y2 y3 = some rr → W p l e ({ frames := 1, cells := 0, slots := 0, locals := 20 } : Room) s m args below meth c H locs 0 0 (MQ below (va_Qi (fun (r' : Int32) (u : Mem) => r' = rr ∧ u = σ) (GW g ad) (AA g ad w b)) args s 0 0 (AA g ad w b)) (F0 m 4 ls []) := by
  intro fuel
  induction fuel with
  | zero =>
    intro y2 y3 H locs ls hl hG h
    rw [lp_X4_tollsNotDone_4.eq_1] at h
    cases h
  | succ fuel ih =>
    intro y2 y3 H locs ls hl hG
    rw [lp_X4_tollsNotDone_4.eq_2]
    refine v_iload_n S hl 3 rfl rfl dX4_tollsNotDone_4 ?_
    refine v_aload_n S hl 0 rfl rfl dX4_tollsNotDone_5 ?_
    refine gf_4_5 S hG q58 dX4_tollsNotDone_6 ?_
    refine v_icmp_ge S 46 dX4_tollsNotDone_9 (by decide) ?_ ?_
    · exact kx y2 y3 _ _ ls (lv_sub hl [0, 1, 2, 3] rfl) hG
    · refine v_aload_n S hl 0 rfl rfl dX4_tollsNotDone_12 ?_
      refine gr_4_2 S hG q59 dX4_tollsNotDone_13 (fun r1 => ?_)
      refine v_iload_n S hl 3 rfl rfl dX4_tollsNotDone_16 ?_
      refine v_aald_11 S hG dX4_tollsNotDone_17 (fun r2 => ?_)
      refine gf_3_1 S hG q60 dX4_tollsNotDone_18 ?_
      refine v_iload_n S hl 1 rfl rfl dX4_tollsNotDone_21 ?_
      refine v_icmp_ne S 40 dX4_tollsNotDone_22 (by decide) ?_ ?_
      · refine v_iinc S hl 3 rfl dX4_tollsNotDone_40 rfl (by decide) (fun z => [(3, .int z), (0, .ref (ad a0)), (1, .int a1), (2, .int y2)]) (fun _ => rfl) (fun x3 ls hl => ?_)
        refine v_goto S 4 dX4_tollsNotDone_43 (by decide) ?_
        exact ih y2 x3 _ _ ls (lv_sub hl [1, 2, 3, 0] rfl) hG
      · refine v_aload_n S hl 0 rfl rfl dX4_tollsNotDone_25 ?_
        refine gr_4_2 S hG q59 dX4_tollsNotDone_26 (fun r4 => ?_)
        refine v_iload_n S hl 3 rfl rfl dX4_tollsNotDone_29 ?_
        refine v_aald_11 S hG dX4_tollsNotDone_30 (fun r5 => ?_)
        refine v_cV_iR S hG [] rfl rfl (by decide) (met_X3_isDone l g ad w b σ r5) mw_X3_isDone q61 dX4_tollsNotDone_31 rfl rfl hl.1 (Nat.le_of_ble_eq_true rfl) ⟨Nat.le_of_ble_eq_true rfl, Nat.le_of_ble_eq_true rfl⟩ rfl rfl ⟨Nat.le_of_ble_eq_true rfl, Nat.le_of_ble_eq_true rfl⟩ (fun r6 H locs hG => ?_)
        refine v_if_ne S 40 dX4_tollsNotDone_34 (by decide) ?_ ?_
        · refine v_iinc S hl 3 rfl dX4_tollsNotDone_40 rfl (by decide) (fun z => [(3, .int z), (0, .ref (ad a0)), (1, .int a1), (2, .int y2)]) (fun _ => rfl) (fun x7 ls hl => ?_)
          refine v_goto S 4 dX4_tollsNotDone_43 (by decide) ?_
          exact ih y2 x7 _ _ ls (lv_sub hl [1, 2, 3, 0] rfl) hG
        · refine v_iinc S hl 2 rfl dX4_tollsNotDone_37 rfl (by decide) (fun z => [(2, .int z), (0, .ref (ad a0)), (1, .int a1), (3, .int y3)]) (fun _ => rfl) (fun x8 ls hl => ?_)
          refine v_iinc S hl 3 rfl dX4_tollsNotDone_40 rfl (by decide) (fun z => [(3, .int z), (2, .int x8), (0, .ref (ad a0)), (1, .int a1)]) (fun _ => rfl) (fun x9 ls hl => ?_)
          refine v_goto S 4 dX4_tollsNotDone_43 (by decide) ?_
          exact ih x8 x9 _ _ ls (lv_sub hl [2, 3, 1, 0] rfl) hG
set_option maxHeartbeats 4000000 in
set_option maxRecDepth 100000 in
theorem met_X4_tollsNotDone (l : Launch) (g : GT) (ad : Nat → Nat) (w : Bool) (b : Nat) (σ : Mem) (t : Nat) (p0 : Int32) (rr : Int32) (h : fn_X4_tollsNotDone σ t p0 = some rr) : Met l yX4_tollsNotDone (wsy yX4_tollsNotDone cX4_tollsNotDone 4 (some .int)) ({ frames := 1, cells := 0, slots := 0, locals := 20 } : Room) (va_Pc [.ref (ad t), .int p0] (PB g ad σ b)) (va_Qi (fun (r' : Int32) (u : Mem) => r' = rr ∧ u = σ) (GW g ad) (AA g ad w b)) 0 0 (AA g ad w b) := by
  refine Met.ofW (cc := cX4_tollsNotDone) (maxL := 4) (ret := (some .int)) (by decide) rfl ?_
  intro p e s m args below meth c s₁ B hml hv
  obtain ⟨rfl, hv⟩ := hv
  have S : CallFix p m c cX4_tollsNotDone 4 s _ AL RX4 := ⟨B.exec, B.bytes, hml, findClass_of_methodNamed B.named, fun w h => atoms_spec (ws := wsy yX4_tollsNotDone cX4_tollsNotDone 4 (some .int)) B.pre w (List.mem_cons_of_mem _ h)⟩
  have hr := B.returns
  have hlk := B.notSynchronized
  have hG : GA g ad σ w b s s.heap [] := GA_start hv
  have hl := lv_entry ([.ref (ad t), .int p0]) (n := 4) (Nat.le_of_ble_eq_true rfl)
  rw [lg_entry_eq]
  generalize (lg_sl ([.ref (ad t), .int p0]) ++ List.replicate (4 - (lg_sl ([.ref (ad t), .int p0])).length) Slot.unset).toArray = ls at hl ⊢
  have hl : lv_has ls 4 [(0, .ref (ad t)), (1, .int p0)] := hl
  revert h
  unfold fn_X4_tollsNotDone
  refine v_iconst S 0 dX4_tollsNotDone_0 rfl ?_
  refine v_istore_n S hl [(2, .int 0), (0, .ref (ad t)), (1, .int p0)] rfl dX4_tollsNotDone_1 (by decide) rfl (fun ls hl => ?_)
  refine v_iconst S 0 dX4_tollsNotDone_2 rfl ?_
  refine v_istore_n S hl [(3, .int 0), (2, .int 0), (0, .ref (ad t)), (1, .int p0)] rfl dX4_tollsNotDone_3 (by decide) rfl (fun ls hl => ?_)
  refine wl_X4_tollsNotDone_4 S hr hlk σ t p0 (fun x10 x11 H locs ls hl hG => ?_) 30 0 0 _ _ ls (lv_sub hl [2, 3, 1, 0] rfl) hG
  refine v_iload_n S hl 2 rfl rfl dX4_tollsNotDone_46 ?_
  exact v_iretR S hG hr hlk (Nat.le_of_ble_eq_true rfl) (Nat.le_of_ble_eq_true rfl) dX4_tollsNotDone_47
set_option maxHeartbeats 4000000 in
set_option maxRecDepth 100000 in
theorem met_X4_ofBell (l : Launch) (g : GT) (ad : Nat → Nat) (w : Bool) (b : Nat) (σ : Mem) (t : Nat) (p0 : Int32) (p1 : Int32) (rr : Int32) (h : fn_X4_ofBell σ t p0 p1 = some rr) : Met l yX4_ofBell (wsy yX4_ofBell cX4_ofBell 4 (some .int)) ({ frames := 2, cells := 0, slots := 0, locals := 43 } : Room) (va_Pc [.ref (ad t), .int p0, .int p1] (PB g ad σ b)) (va_Qi (fun (r' : Int32) (u : Mem) => r' = rr ∧ u = σ) (GW g ad) (AA g ad w b)) 0 0 (AA g ad w b) := by
  refine Met.ofW (cc := cX4_ofBell) (maxL := 4) (ret := (some .int)) (by decide) rfl ?_
  intro p e s m args below meth c s₁ B hml hv
  obtain ⟨rfl, hv⟩ := hv
  have S : CallFix p m c cX4_ofBell 4 s _ AL RX4 := ⟨B.exec, B.bytes, hml, findClass_of_methodNamed B.named, fun w h => atoms_spec (ws := wsy yX4_ofBell cX4_ofBell 4 (some .int)) B.pre w (List.mem_cons_of_mem _ h)⟩
  have hr := B.returns
  have hlk := B.notSynchronized
  have hG : GA g ad σ w b s s.heap [] := GA_start hv
  have hl := lv_entry ([.ref (ad t), .int p0, .int p1]) (n := 4) (Nat.le_of_ble_eq_true rfl)
  rw [lg_entry_eq]
  generalize (lg_sl ([.ref (ad t), .int p0, .int p1]) ++ List.replicate (4 - (lg_sl ([.ref (ad t), .int p0, .int p1])).length) Slot.unset).toArray = ls at hl ⊢
  have hl : lv_has ls 4 [(0, .ref (ad t)), (1, .int p0), (2, .int p1)] := hl
  revert h
  unfold fn_X4_ofBell
  refine v_aload_n S hl 0 rfl rfl dX4_ofBell_0 ?_
  refine gr_4_0 S hG q66 dX4_ofBell_1 (fun r1 => ?_)
  refine v_iload_n S hl 1 rfl rfl dX4_ofBell_4 ?_
  refine v_aald_9 S hG dX4_ofBell_5 (fun r2 => ?_)
  refine v_astore_n S hl [(3, .ref (ad r2)), (0, .ref (ad t)), (1, .int p0), (2, .int p1)] rfl dX4_ofBell_6 (by decide) rfl (fun ls hl => ?_)
  refine v_iload_n S hl 3 rfl rfl dX4_ofBell_7 ?_
  refine v_tcase (fun e3 => ?_) (fun c4 => ?_)
  · refine v_tin S 56 e3 dX4_ofBell_8 (by decide) (by decide) rfl (by decide) ?_
    refine v_aload_n S hl 0 rfl rfl dX4_ofBell_56 ?_
    refine gf_0_2 S hG q67 dX4_ofBell_57 ?_
    exact v_iretR S hG hr hlk (Nat.le_of_ble_eq_true rfl) (Nat.le_of_ble_eq_true rfl) dX4_ofBell_60
  refine v_tcase (fun e6 => ?_) (fun c7 => ?_)
  · refine v_tin S 61 e6 dX4_ofBell_8 (by decide) (by decide) rfl (by decide) ?_
    refine v_aload_n S hl 0 rfl rfl dX4_ofBell_61 ?_
    refine gr_0_0 S hG q68 dX4_ofBell_62 (fun r5 => ?_)
    refine gf_1_0 S hG q69 dX4_ofBell_65 ?_
    exact v_iretR S hG hr hlk (Nat.le_of_ble_eq_true rfl) (Nat.le_of_ble_eq_true rfl) dX4_ofBell_68
  refine v_tcase (fun e9 => ?_) (fun c10 => ?_)
  · refine v_tin S 69 e9 dX4_ofBell_8 (by decide) (by decide) rfl (by decide) ?_
    refine v_aload_n S hl 0 rfl rfl dX4_ofBell_69 ?_
    refine gr_0_1 S hG q70 dX4_ofBell_70 (fun r8 => ?_)
    refine gf_1_0 S hG q69 dX4_ofBell_73 ?_
    exact v_iretR S hG hr hlk (Nat.le_of_ble_eq_true rfl) (Nat.le_of_ble_eq_true rfl) dX4_ofBell_76
  refine v_tcase (fun e11 => ?_) (fun c12 => ?_)
  · refine v_tin S 77 e11 dX4_ofBell_8 (by decide) (by decide) rfl (by decide) ?_
    refine v_aload_n S hl 0 rfl rfl dX4_ofBell_77 ?_
    refine gf_0_3 S hG q71 dX4_ofBell_78 ?_
    exact v_iretR S hG hr hlk (Nat.le_of_ble_eq_true rfl) (Nat.le_of_ble_eq_true rfl) dX4_ofBell_81
  refine v_tcase (fun e13 => ?_) (fun c14 => ?_)
  · refine v_tin S 82 e13 dX4_ofBell_8 (by decide) (by decide) rfl (by decide) ?_
    refine v_aload_n S hl 0 rfl rfl dX4_ofBell_82 ?_
    refine gf_0_4 S hG q72 dX4_ofBell_83 ?_
    exact v_iretR S hG hr hlk (Nat.le_of_ble_eq_true rfl) (Nat.le_of_ble_eq_true rfl) dX4_ofBell_86
  refine v_tcase (fun e15 => ?_) (fun c16 => ?_)
  · refine v_tin S 87 e15 dX4_ofBell_8 (by decide) (by decide) rfl (by decide) ?_
    refine v_aload_n S hl 0 rfl rfl dX4_ofBell_87 ?_
    refine gf_0_5 S hG q73 dX4_ofBell_88 ?_
    exact v_iretR S hG hr hlk (Nat.le_of_ble_eq_true rfl) (Nat.le_of_ble_eq_true rfl) dX4_ofBell_91
  refine v_tcase (fun e17 => ?_) (fun c18 => ?_)
  · refine v_tin S 92 e17 dX4_ofBell_8 (by decide) (by decide) rfl (by decide) ?_
    refine v_aload_n S hl 0 rfl rfl dX4_ofBell_92 ?_
    refine gf_0_6 S hG q74 dX4_ofBell_93 ?_
    exact v_iretR S hG hr hlk (Nat.le_of_ble_eq_true rfl) (Nat.le_of_ble_eq_true rfl) dX4_ofBell_96
  refine v_tcase (fun e20 => ?_) (fun c21 => ?_)
  · refine v_tin S 97 e20 dX4_ofBell_8 (by decide) (by decide) rfl (by decide) ?_
    refine v_aload_n S hl 1 rfl rfl dX4_ofBell_97 ?_
    refine v_iload_n S hl 2 rfl rfl dX4_ofBell_98 ?_
    refine v_cV_iR S hG [.int p0] rfl rfl (by decide) (met_X4_tollsNotDone l g ad w b σ t p0) mw_X4_tollsNotDone q75 dX4_ofBell_99 rfl rfl hl.1 (Nat.le_of_ble_eq_true rfl) ⟨Nat.le_of_ble_eq_true rfl, Nat.le_of_ble_eq_true rfl⟩ rfl rfl ⟨Nat.le_of_ble_eq_true rfl, Nat.le_of_ble_eq_true rfl⟩ (fun r19 H locs hG => ?_)
    exact v_iretR S hG hr hlk (Nat.le_of_ble_eq_true rfl) (Nat.le_of_ble_eq_true rfl) dX4_ofBell_102
  refine v_tout S 103 (t_out 8 (fun k hk => match k, hk with | 0, _ => c4 | 1, _ => c7 | 2, _ => c10 | 3, _ => c12 | 4, _ => c14 | 5, _ => c16 | 6, _ => c18 | 7, _ => c21 | k + 8, hk => absurd hk (by omega)) (by decide)) dX4_ofBell_8 (by decide) ?_
  refine v_aload_n S hl 0 rfl rfl dX4_ofBell_103 ?_
  refine gf_0_7 S hG q80 dX4_ofBell_104 ?_
  exact v_iretR S hG hr hlk (Nat.le_of_ble_eq_true rfl) (Nat.le_of_ble_eq_true rfl) dX4_ofBell_107
set_option maxHeartbeats 4000000 in
set_option maxRecDepth 100000 in
theorem met_X4_addRinger (l : Launch) (g : GT) (ad : Nat → Nat) (_ : Bool) (b : Nat) (σ : Mem) (t : Nat) (p0 : Int32) (rr : Int32) (σr : Mem) (h : fn_X4_addRinger σ t p0 = some (rr, σr)) : Met l yX4_addRinger (wsy yX4_addRinger cX4_addRinger 3 (some .int)) ({ frames := 0, cells := 0, slots := 0, locals := 0 } : Room) (va_Pc [.ref (ad t), .int p0] (PB g ad σ b)) (va_Qi (fun (r' : Int32) (u : Mem) => r' = rr ∧ u = σr) (GW g ad) (AA g ad true b)) 0 0 (AA g ad true b) := by
  refine Met.ofW (cc := cX4_addRinger) (maxL := 3) (ret := (some .int)) (by decide) rfl ?_
  intro p e s m args below meth c s₁ B hml hv
  obtain ⟨rfl, hv⟩ := hv
  have S : CallFix p m c cX4_addRinger 3 s _ AL RX4 := ⟨B.exec, B.bytes, hml, findClass_of_methodNamed B.named, fun w h => atoms_spec (ws := wsy yX4_addRinger cX4_addRinger 3 (some .int)) B.pre w (List.mem_cons_of_mem _ h)⟩
  have hr := B.returns
  have hlk := B.notSynchronized
  have hG : GA g ad σ true b s s.heap [] := GA_start hv
  have hl := lv_entry ([.ref (ad t), .int p0]) (n := 3) (Nat.le_of_ble_eq_true rfl)
  rw [lg_entry_eq]
  generalize (lg_sl ([.ref (ad t), .int p0]) ++ List.replicate (3 - (lg_sl ([.ref (ad t), .int p0])).length) Slot.unset).toArray = ls at hl ⊢
  have hl : lv_has ls 3 [(0, .ref (ad t)), (1, .int p0)] := hl
  revert h
  unfold fn_X4_addRinger
  refine v_aload_n S hl 0 rfl rfl dX4_addRinger_0 ?_
  refine gf_4_4 S hG q85 dX4_addRinger_1 ?_
  refine v_nm (fun x1 => ?_)
  refine v_istore_n S hl [(2, .int x1), (0, .ref (ad t)), (1, .int p0)] rfl dX4_addRinger_4 (by decide) rfl (fun ls hl => ?_)
  refine v_iload_n S hl 0 rfl rfl dX4_addRinger_5 ?_
  refine v_aload_n S hl 1 rfl rfl dX4_addRinger_6 ?_
  refine gr_4_1 S hG q86 dX4_addRinger_7 (fun r2 => ?_)
  refine v_alen_10 S hG dX4_addRinger_10 ?_
  refine v_icmp_lt S 16 dX4_addRinger_11 (by decide) ?_ ?_
  · refine v_aload_n S hl 1 rfl rfl dX4_addRinger_16 ?_
    refine gr_4_1 S hG q86 dX4_addRinger_17 (fun r3 => ?_)
    refine v_iload_n S hl 0 rfl rfl dX4_addRinger_20 ?_
    refine v_aald_10 S hG dX4_addRinger_21 (fun r4 => ?_)
    refine v_iload_n S hl 2 rfl rfl dX4_addRinger_22 ?_
    refine pf_2_0 S hG q87 dX4_addRinger_23 (fun σ5 H locs hG => ?_)
    refine v_aload_n S hl 1 rfl rfl dX4_addRinger_26 ?_
    refine v_dup S dX4_addRinger_27 rfl ?_
    refine gf_4_4 S hG q85 dX4_addRinger_28 ?_
    refine v_iconst S 1 dX4_addRinger_31 rfl ?_
    refine v_iadd S dX4_addRinger_32 ?_
    refine pf_4_4 S hG q85 dX4_addRinger_33 (fun σ6 H locs hG => ?_)
    refine v_iload_n S hl 0 rfl rfl dX4_addRinger_36 ?_
    exact v_iretm S hG hr hlk (Nat.le_of_ble_eq_true rfl) (Nat.le_of_ble_eq_true rfl) dX4_addRinger_37
  · refine v_iconst S (-1) dX4_addRinger_14 rfl ?_
    exact v_iretm S hG hr hlk (Nat.le_of_ble_eq_true rfl) (Nat.le_of_ble_eq_true rfl) dX4_addRinger_15
set_option maxHeartbeats 4000000 in
set_option maxRecDepth 100000 in
theorem met_X4_emptyRope (l : Launch) (g : GT) (ad : Nat → Nat) (_ : Bool) (b : Nat) (σ : Mem) (t : Nat) (p0 : Nat) (σr : Mem) (h : fn_X4_emptyRope σ t p0 = some σr) : Met l yX4_emptyRope (wsy yX4_emptyRope cX4_emptyRope 2 none) ({ frames := 0, cells := 0, slots := 0, locals := 0 } : Room) (va_Pc [.ref (ad t), .ref (ad p0)] (PB g ad σ b)) (va_Qv (fun (u : Mem) => u = σr) (GW g ad) (AA g ad true b)) 0 0 (AA g ad true b) := by
  refine Met.ofW (cc := cX4_emptyRope) (maxL := 2) (ret := none) (by decide) rfl ?_
  intro p e s m args below meth c s₁ B hml hv
  obtain ⟨rfl, hv⟩ := hv
  have S : CallFix p m c cX4_emptyRope 2 s _ AL RX4 := ⟨B.exec, B.bytes, hml, findClass_of_methodNamed B.named, fun w h => atoms_spec (ws := wsy yX4_emptyRope cX4_emptyRope 2 none) B.pre w (List.mem_cons_of_mem _ h)⟩
  have hr := B.returns
  have hlk := B.notSynchronized
  have hG : GA g ad σ true b s s.heap [] := GA_start hv
  have hl := lv_entry ([.ref (ad t), .ref (ad p0)]) (n := 2) (Nat.le_of_ble_eq_true rfl)
  rw [lg_entry_eq]
  generalize (lg_sl ([.ref (ad t), .ref (ad p0)]) ++ List.replicate (2 - (lg_sl ([.ref (ad t), .ref (ad p0)])).length) Slot.unset).toArray = ls at hl ⊢
  have hl : lv_has ls 2 [(0, .ref (ad t)), (1, .ref (ad p0))] := hl
  revert h
  unfold fn_X4_emptyRope
  refine v_aload_n S hl 1 rfl rfl dX4_emptyRope_0 ?_
  refine gf_0_4 S hG q72 dX4_emptyRope_1 ?_
  refine v_if_lt S 31 dX4_emptyRope_4 (by decide) ?_ ?_
  · refine v_aload_n S hl 1 rfl rfl dX4_emptyRope_31 ?_
    refine v_iconst S (-1) dX4_emptyRope_32 rfl ?_
    refine pf_0_4 S hG q72 dX4_emptyRope_33 (fun σ1 H locs hG => ?_)
    exact v_vretm S hG hr hlk (Nat.le_of_ble_eq_true rfl) (Nat.le_of_ble_eq_true rfl) dX4_emptyRope_36
  · refine v_aload_n S hl 1 rfl rfl dX4_emptyRope_7 ?_
    refine gf_0_4 S hG q72 dX4_emptyRope_8 ?_
    refine v_aload_n S hl 0 rfl rfl dX4_emptyRope_11 ?_
    refine gf_4_4 S hG q85 dX4_emptyRope_12 ?_
    refine v_icmp_ge S 31 dX4_emptyRope_15 (by decide) ?_ ?_
    · refine v_aload_n S hl 1 rfl rfl dX4_emptyRope_31 ?_
      refine v_iconst S (-1) dX4_emptyRope_32 rfl ?_
      refine pf_0_4 S hG q72 dX4_emptyRope_33 (fun σ2 H locs hG => ?_)
      exact v_vretm S hG hr hlk (Nat.le_of_ble_eq_true rfl) (Nat.le_of_ble_eq_true rfl) dX4_emptyRope_36
    · refine v_aload_n S hl 0 rfl rfl dX4_emptyRope_18 ?_
      refine gr_4_1 S hG q86 dX4_emptyRope_19 (fun r3 => ?_)
      refine v_aload_n S hl 1 rfl rfl dX4_emptyRope_22 ?_
      refine gf_0_4 S hG q72 dX4_emptyRope_23 ?_
      refine v_aald_10 S hG dX4_emptyRope_26 (fun r4 => ?_)
      refine v_iconst S (-1) dX4_emptyRope_27 rfl ?_
      refine pf_2_2 S hG q94 dX4_emptyRope_28 (fun σ5 H locs hG => ?_)
      refine v_aload_n S hl 1 rfl rfl dX4_emptyRope_31 ?_
      refine v_iconst S (-1) dX4_emptyRope_32 rfl ?_
      refine pf_0_4 S hG q72 dX4_emptyRope_33 (fun σ6 H locs hG => ?_)
      exact v_vretm S hG hr hlk (Nat.le_of_ble_eq_true rfl) (Nat.le_of_ble_eq_true rfl) dX4_emptyRope_36
set_option maxHeartbeats 4000000 in
set_option maxRecDepth 100000 in
theorem met_X4_bringToRope (l : Launch) (g : GT) (ad : Nat → Nat) (_ : Bool) (b : Nat) (σ : Mem) (t : Nat) (p0 : Int32) (p1 : Int32) (σr : Mem) (h : fn_X4_bringToRope σ t p0 p1 = some σr) : Met l yX4_bringToRope (wsy yX4_bringToRope cX4_bringToRope 3 none) ({ frames := 1, cells := 0, slots := 0, locals := 21 } : Room) (va_Pc [.ref (ad t), .int p0, .int p1] (PB g ad σ b)) (va_Qv (fun (u : Mem) => u = σr) (GW g ad) (AA g ad true b)) 0 0 (AA g ad true b) := by
  refine Met.ofW (cc := cX4_bringToRope) (maxL := 3) (ret := none) (by decide) rfl ?_
  intro p e s m args below meth c s₁ B hml hv
  obtain ⟨rfl, hv⟩ := hv
  have S : CallFix p m c cX4_bringToRope 3 s _ AL RX4 := ⟨B.exec, B.bytes, hml, findClass_of_methodNamed B.named, fun w h => atoms_spec (ws := wsy yX4_bringToRope cX4_bringToRope 3 none) B.pre w (List.mem_cons_of_mem _ h)⟩
  have hr := B.returns
  have hlk := B.notSynchronized
  have hG : GA g ad σ true b s s.heap [] := GA_start hv
  have hl := lv_entry ([.ref (ad t), .int p0, .int p1]) (n := 3) (Nat.le_of_ble_eq_true rfl)
  rw [lg_entry_eq]
  generalize (lg_sl ([.ref (ad t), .int p0, .int p1]) ++ List.replicate (3 - (lg_sl ([.ref (ad t), .int p0, .int p1])).length) Slot.unset).toArray = ls at hl ⊢
  have hl : lv_has ls 3 [(0, .ref (ad t)), (1, .int p0), (2, .int p1)] := hl
  revert h
  unfold fn_X4_bringToRope
  refine v_aload_n S hl 0 rfl rfl dX4_bringToRope_0 ?_
  refine v_aload_n S hl 0 rfl rfl dX4_bringToRope_1 ?_
  refine gr_4_0 S hG q66 dX4_bringToRope_2 (fun r1 => ?_)
  refine v_iload_n S hl 1 rfl rfl dX4_bringToRope_5 ?_
  refine v_aald_9 S hG dX4_bringToRope_6 (fun r2 => ?_)
  refine v_cV_vm S hG [.ref (ad r2)] rfl rfl (by decide) (met_X4_emptyRope l g ad true b σ t r2) mw_X4_emptyRope q95 dX4_bringToRope_7 rfl rfl hl.1 (Nat.le_of_ble_eq_true rfl) ⟨Nat.le_of_ble_eq_true rfl, Nat.le_of_ble_eq_true rfl⟩ rfl rfl ⟨Nat.le_of_ble_eq_true rfl, Nat.le_of_ble_eq_true rfl⟩ (fun σ3 H locs hG => ?_)
  refine v_aload_n S hl 0 rfl rfl dX4_bringToRope_10 ?_
  refine gr_4_0 S hG q66 dX4_bringToRope_11 (fun r4 => ?_)
  refine v_iload_n S hl 1 rfl rfl dX4_bringToRope_14 ?_
  refine v_aald_9 S hG dX4_bringToRope_15 (fun r5 => ?_)
  refine v_iload_n S hl 2 rfl rfl dX4_bringToRope_16 ?_
  refine pf_0_4 S hG q72 dX4_bringToRope_17 (fun σ6 H locs hG => ?_)
  refine v_aload_n S hl 0 rfl rfl dX4_bringToRope_20 ?_
  refine gr_4_1 S hG q86 dX4_bringToRope_21 (fun r7 => ?_)
  refine v_iload_n S hl 2 rfl rfl dX4_bringToRope_24 ?_
  refine v_aald_10 S hG dX4_bringToRope_25 (fun r8 => ?_)
  refine v_iload_n S hl 1 rfl rfl dX4_bringToRope_26 ?_
  refine pf_2_2 S hG q94 dX4_bringToRope_27 (fun σ9 H locs hG => ?_)
  exact v_vretm S hG hr hlk (Nat.le_of_ble_eq_true rfl) (Nat.le_of_ble_eq_true rfl) dX4_bringToRope_30
set_option maxHeartbeats 4000000 in
set_option maxRecDepth 100000 in
theorem met_X4_addToll (l : Launch) (g : GT) (ad : Nat → Nat) (_ : Bool) (b : Nat) (σ : Mem) (t : Nat) (p0 : Int32) (p1 : Int32) (p2 : Int32) (p3 : Int32) (rr : Int32) (σr : Mem) (h : fn_X4_addToll σ t p0 p1 p2 p3 = some (rr, σr)) : Met l yX4_addToll (wsy yX4_addToll cX4_addToll 6 (some .int)) ({ frames := 1, cells := 0, slots := 0, locals := 24 } : Room) (va_Pc [.ref (ad t), .int p0, .int p1, .int p2, .int p3] (PB g ad σ b)) (va_Qi (fun (r' : Int32) (u : Mem) => r' = rr ∧ u = σr) (GW g ad) (AA g ad true b)) 0 0 (AA g ad true b) := by
  refine Met.ofW (cc := cX4_addToll) (maxL := 6) (ret := (some .int)) (by decide) rfl ?_
  intro p e s m args below meth c s₁ B hml hv
  obtain ⟨rfl, hv⟩ := hv
  have S : CallFix p m c cX4_addToll 6 s _ AL RX4 := ⟨B.exec, B.bytes, hml, findClass_of_methodNamed B.named, fun w h => atoms_spec (ws := wsy yX4_addToll cX4_addToll 6 (some .int)) B.pre w (List.mem_cons_of_mem _ h)⟩
  have hr := B.returns
  have hlk := B.notSynchronized
  have hG : GA g ad σ true b s s.heap [] := GA_start hv
  have hl := lv_entry ([.ref (ad t), .int p0, .int p1, .int p2, .int p3]) (n := 6) (Nat.le_of_ble_eq_true rfl)
  rw [lg_entry_eq]
  generalize (lg_sl ([.ref (ad t), .int p0, .int p1, .int p2, .int p3]) ++ List.replicate (6 - (lg_sl ([.ref (ad t), .int p0, .int p1, .int p2, .int p3])).length) Slot.unset).toArray = ls at hl ⊢
  have hl : lv_has ls 6 [(0, .ref (ad t)), (1, .int p0), (2, .int p1), (3, .int p2), (4, .int p3)] := hl
  revert h
  unfold fn_X4_addToll
  refine v_aload_n S hl 0 rfl rfl dX4_addToll_0 ?_
  refine gf_4_5 S hG q58 dX4_addToll_1 ?_
  refine v_nm (fun x1 => ?_)
  refine v_istore S hl [(5, .int x1), (0, .ref (ad t)), (1, .int p0), (2, .int p1), (3, .int p2), (4, .int p3)] dX4_addToll_4 (by decide) rfl (fun ls hl => ?_)
  refine v_iload S hl 0 rfl dX4_addToll_6 ?_
  refine v_aload_n S hl 1 rfl rfl dX4_addToll_8 ?_
  refine gr_4_2 S hG q59 dX4_addToll_9 (fun r2 => ?_)
  refine v_alen_11 S hG dX4_addToll_12 ?_
  refine v_icmp_lt S 18 dX4_addToll_13 (by decide) ?_ ?_
  · refine v_aload_n S hl 1 rfl rfl dX4_addToll_18 ?_
    refine gr_4_2 S hG q59 dX4_addToll_19 (fun r3 => ?_)
    refine v_iload S hl 0 rfl dX4_addToll_22 ?_
    refine v_aald_11 S hG dX4_addToll_24 (fun r4 => ?_)
    refine v_iload_n S hl 2 rfl rfl dX4_addToll_25 ?_
    refine v_iload_n S hl 3 rfl rfl dX4_addToll_26 ?_
    refine v_iload_n S hl 4 rfl rfl dX4_addToll_27 ?_
    refine v_iload S hl 5 rfl dX4_addToll_28 ?_
    refine v_cV_vm S hG [.int p0, .int p1, .int p2, .int p3] rfl rfl (by decide) (met_X3_begin l g ad true b σ r4 p0 p1 p2 p3) mw_X3_begin q124 dX4_addToll_30 rfl rfl hl.1 (Nat.le_of_ble_eq_true rfl) ⟨Nat.le_of_ble_eq_true rfl, Nat.le_of_ble_eq_true rfl⟩ rfl rfl ⟨Nat.le_of_ble_eq_true rfl, Nat.le_of_ble_eq_true rfl⟩ (fun σ5 H locs hG => ?_)
    refine v_aload_n S hl 1 rfl rfl dX4_addToll_33 ?_
    refine v_dup S dX4_addToll_34 rfl ?_
    refine gf_4_5 S hG q58 dX4_addToll_35 ?_
    refine v_iconst S 1 dX4_addToll_38 rfl ?_
    refine v_iadd S dX4_addToll_39 ?_
    refine pf_4_5 S hG q58 dX4_addToll_40 (fun σ6 H locs hG => ?_)
    refine v_aload_n S hl 1 rfl rfl dX4_addToll_43 ?_
    refine gr_4_0 S hG q66 dX4_addToll_44 (fun r7 => ?_)
    refine v_iload_n S hl 2 rfl rfl dX4_addToll_47 ?_
    refine v_aald_9 S hG dX4_addToll_48 (fun r8 => ?_)
    refine gf_0_5 S hG q73 dX4_addToll_49 ?_
    refine v_iconst S (-1) dX4_addToll_52 rfl ?_
    refine v_icmp_ne S 67 dX4_addToll_53 (by decide) ?_ ?_
    · refine v_iload S hl 0 rfl dX4_addToll_67 ?_
      exact v_iretm S hG hr hlk (Nat.le_of_ble_eq_true rfl) (Nat.le_of_ble_eq_true rfl) dX4_addToll_69
    · refine v_aload_n S hl 1 rfl rfl dX4_addToll_56 ?_
      refine gr_4_0 S hG q66 dX4_addToll_57 (fun r9 => ?_)
      refine v_iload_n S hl 2 rfl rfl dX4_addToll_60 ?_
      refine v_aald_9 S hG dX4_addToll_61 (fun r10 => ?_)
      refine v_iload S hl 0 rfl dX4_addToll_62 ?_
      refine pf_0_5 S hG q73 dX4_addToll_64 (fun σ11 H locs hG => ?_)
      refine v_iload S hl 0 rfl dX4_addToll_67 ?_
      exact v_iretm S hG hr hlk (Nat.le_of_ble_eq_true rfl) (Nat.le_of_ble_eq_true rfl) dX4_addToll_69
  · refine v_iconst S (-1) dX4_addToll_16 rfl ?_
    exact v_iretm S hG hr hlk (Nat.le_of_ble_eq_true rfl) (Nat.le_of_ble_eq_true rfl) dX4_addToll_17
set_option maxHeartbeats 4000000 in
set_option maxRecDepth 100000 in
theorem wl_X4_firstNotDone_2 {p : Program} {l : Launch} {e : Env} {s : State} {m : MethodId} {args : Array Value} {below : List Frame} {meth : Method} {c : Code} {g : GT} {ad : Nat → Nat} {w : Bool} {b : Nat} (S : CallFix p m c cX4_firstNotDone 3 s args AL RX4) (hr : meth.sig.returnType = some .int) (hlk : meth.locks = false) (σ : Mem) (a0 : Nat) (a1 : Int32) {rr : Int32} {K : Int32 → Option Int32} (kx : ∀ (y2 : Int32) (H : Heap) (locs : List Loc) (ls : Array Slot), lv_has ls 3 [(0, .ref (ad a0)), (1, .int a1), (2, .int y2)] → GA g ad σ w b s H locs → K y2 = some rr → W p l e ({ frames := 1, cells := 0, slots := 0, locals := 20 } : Room) s m args below meth c H locs 0 0 (MQ below (va_Qi (fun (r' : Int32) (u : Mem) => r' = rr ∧ u = σ) (GW g ad) (AA g ad w b)) args s 0 0 (AA g ad w b)) (F0 m 43 ls [])) : ∀ (fuel : Nat) (y2 : Int32) (H : Heap) (locs : List Loc) (ls : Array Slot), lv_has ls 3 [(0, .ref (ad a0)), (1, .int a1), (2, .int y2)] → GA g ad σ w b s H locs → lp_X4_firstNotDone_2 σ a0 a1 K fuel y2 = some rr → W p l e ({ frames := 1, cells := 0, slots := 0, locals := 20 } : Room) s m args below meth c H locs 0 0 (MQ below (va_Qi (fun (r' : Int32) (u : Mem) => r' = rr ∧ u = σ) (GW g ad) (AA g ad w b)) args s 0 0 (AA g ad w b)) (F0 m 2 ls []) := by
  intro fuel
  induction fuel with
  | zero =>
    intro y2 H locs ls hl hG h
    rw [lp_X4_firstNotDone_2.eq_1] at h
    cases h
  | succ fuel ih =>
    intro y2 H locs ls hl hG
    rw [lp_X4_firstNotDone_2.eq_2]
    refine v_iload_n S hl 2 rfl rfl dX4_firstNotDone_2 ?_
    refine v_aload_n S hl 0 rfl rfl dX4_firstNotDone_3 ?_
    refine gf_4_5 S hG q58 dX4_firstNotDone_4 ?_
    refine v_icmp_ge S 43 dX4_firstNotDone_7 (by decide) ?_ ?_
    · exact kx y2 _ _ ls (lv_sub hl [0, 1, 2] rfl) hG
    · refine v_aload_n S hl 0 rfl rfl dX4_firstNotDone_10 ?_
      refine gr_4_2 S hG q59 dX4_firstNotDone_11 (fun r1 => ?_)
      refine v_iload_n S hl 2 rfl rfl dX4_firstNotDone_14 ?_
      refine v_aald_11 S hG dX4_firstNotDone_15 (fun r2 => ?_)
      refine gf_3_1 S hG q60 dX4_firstNotDone_16 ?_
      refine v_iload_n S hl 1 rfl rfl dX4_firstNotDone_19 ?_
      refine v_icmp_ne S 37 dX4_firstNotDone_20 (by decide) ?_ ?_
      · refine v_iinc S hl 2 rfl dX4_firstNotDone_37 rfl (by decide) (fun z => [(2, .int z), (0, .ref (ad a0)), (1, .int a1)]) (fun _ => rfl) (fun x3 ls hl => ?_)
        refine v_goto S 2 dX4_firstNotDone_40 (by decide) ?_
        exact ih x3 _ _ ls (lv_sub hl [1, 2, 0] rfl) hG
      · refine v_aload_n S hl 0 rfl rfl dX4_firstNotDone_23 ?_
        refine gr_4_2 S hG q59 dX4_firstNotDone_24 (fun r4 => ?_)
        refine v_iload_n S hl 2 rfl rfl dX4_firstNotDone_27 ?_
        refine v_aald_11 S hG dX4_firstNotDone_28 (fun r5 => ?_)
        refine v_cV_iR S hG [] rfl rfl (by decide) (met_X3_isDone l g ad w b σ r5) mw_X3_isDone q61 dX4_firstNotDone_29 rfl rfl hl.1 (Nat.le_of_ble_eq_true rfl) ⟨Nat.le_of_ble_eq_true rfl, Nat.le_of_ble_eq_true rfl⟩ rfl rfl ⟨Nat.le_of_ble_eq_true rfl, Nat.le_of_ble_eq_true rfl⟩ (fun r6 H locs hG => ?_)
        refine v_if_ne S 37 dX4_firstNotDone_32 (by decide) ?_ ?_
        · refine v_iinc S hl 2 rfl dX4_firstNotDone_37 rfl (by decide) (fun z => [(2, .int z), (0, .ref (ad a0)), (1, .int a1)]) (fun _ => rfl) (fun x7 ls hl => ?_)
          refine v_goto S 2 dX4_firstNotDone_40 (by decide) ?_
          exact ih x7 _ _ ls (lv_sub hl [1, 2, 0] rfl) hG
        · refine v_iload_n S hl 2 rfl rfl dX4_firstNotDone_35 ?_
          exact v_iretR S hG hr hlk (Nat.le_of_ble_eq_true rfl) (Nat.le_of_ble_eq_true rfl) dX4_firstNotDone_36
set_option maxHeartbeats 4000000 in
set_option maxRecDepth 100000 in
theorem met_X4_firstNotDone (l : Launch) (g : GT) (ad : Nat → Nat) (w : Bool) (b : Nat) (σ : Mem) (t : Nat) (p0 : Int32) (rr : Int32) (h : fn_X4_firstNotDone σ t p0 = some rr) : Met l yX4_firstNotDone (wsy yX4_firstNotDone cX4_firstNotDone 3 (some .int)) ({ frames := 1, cells := 0, slots := 0, locals := 20 } : Room) (va_Pc [.ref (ad t), .int p0] (PB g ad σ b)) (va_Qi (fun (r' : Int32) (u : Mem) => r' = rr ∧ u = σ) (GW g ad) (AA g ad w b)) 0 0 (AA g ad w b) := by
  refine Met.ofW (cc := cX4_firstNotDone) (maxL := 3) (ret := (some .int)) (by decide) rfl ?_
  intro p e s m args below meth c s₁ B hml hv
  obtain ⟨rfl, hv⟩ := hv
  have S : CallFix p m c cX4_firstNotDone 3 s _ AL RX4 := ⟨B.exec, B.bytes, hml, findClass_of_methodNamed B.named, fun w h => atoms_spec (ws := wsy yX4_firstNotDone cX4_firstNotDone 3 (some .int)) B.pre w (List.mem_cons_of_mem _ h)⟩
  have hr := B.returns
  have hlk := B.notSynchronized
  have hG : GA g ad σ w b s s.heap [] := GA_start hv
  have hl := lv_entry ([.ref (ad t), .int p0]) (n := 3) (Nat.le_of_ble_eq_true rfl)
  rw [lg_entry_eq]
  generalize (lg_sl ([.ref (ad t), .int p0]) ++ List.replicate (3 - (lg_sl ([.ref (ad t), .int p0])).length) Slot.unset).toArray = ls at hl ⊢
  have hl : lv_has ls 3 [(0, .ref (ad t)), (1, .int p0)] := hl
  revert h
  unfold fn_X4_firstNotDone
  refine v_iconst S 0 dX4_firstNotDone_0 rfl ?_
  refine v_istore_n S hl [(2, .int 0), (0, .ref (ad t)), (1, .int p0)] rfl dX4_firstNotDone_1 (by decide) rfl (fun ls hl => ?_)
  refine wl_X4_firstNotDone_2 S hr hlk σ t p0 (fun x8 H locs ls hl hG => ?_) 30 0 _ _ ls (lv_sub hl [1, 2, 0] rfl) hG
  refine v_iconst S (-1) dX4_firstNotDone_43 rfl ?_
  exact v_iretR S hG hr hlk (Nat.le_of_ble_eq_true rfl) (Nat.le_of_ble_eq_true rfl) dX4_firstNotDone_44
set_option maxHeartbeats 4000000 in
set_option maxRecDepth 100000 in
theorem met_X4_endToll (l : Launch) (g : GT) (ad : Nat → Nat) (_ : Bool) (b : Nat) (σ : Mem) (t : Nat) (p0 : Int32) (σr : Mem) (h : fn_X4_endToll σ t p0 = some σr) : Met l yX4_endToll (wsy yX4_endToll cX4_endToll 4 none) ({ frames := 2, cells := 0, slots := 0, locals := 42 } : Room) (va_Pc [.ref (ad t), .int p0] (PB g ad σ b)) (va_Qv (fun (u : Mem) => u = σr) (GW g ad) (AA g ad true b)) 0 0 (AA g ad true b) := by
  refine Met.ofW (cc := cX4_endToll) (maxL := 4) (ret := none) (by decide) rfl ?_
  intro p e s m args below meth c s₁ B hml hv
  obtain ⟨rfl, hv⟩ := hv
  have S : CallFix p m c cX4_endToll 4 s _ AL RX4 := ⟨B.exec, B.bytes, hml, findClass_of_methodNamed B.named, fun w h => atoms_spec (ws := wsy yX4_endToll cX4_endToll 4 none) B.pre w (List.mem_cons_of_mem _ h)⟩
  have hr := B.returns
  have hlk := B.notSynchronized
  have hG : GA g ad σ true b s s.heap [] := GA_start hv
  have hl := lv_entry ([.ref (ad t), .int p0]) (n := 4) (Nat.le_of_ble_eq_true rfl)
  rw [lg_entry_eq]
  generalize (lg_sl ([.ref (ad t), .int p0]) ++ List.replicate (4 - (lg_sl ([.ref (ad t), .int p0])).length) Slot.unset).toArray = ls at hl ⊢
  have hl : lv_has ls 4 [(0, .ref (ad t)), (1, .int p0)] := hl
  revert h
  unfold fn_X4_endToll
  refine v_aload_n S hl 0 rfl rfl dX4_endToll_0 ?_
  refine gr_4_2 S hG q59 dX4_endToll_1 (fun r1 => ?_)
  refine v_iload_n S hl 1 rfl rfl dX4_endToll_4 ?_
  refine v_aald_11 S hG dX4_endToll_5 (fun r2 => ?_)
  refine v_astore_n S hl [(2, .ref (ad r2)), (0, .ref (ad t)), (1, .int p0)] rfl dX4_endToll_6 (by decide) rfl (fun ls hl => ?_)
  refine v_aload_n S hl 0 rfl rfl dX4_endToll_7 ?_
  refine v_aload_n S hl 1 rfl rfl dX4_endToll_8 ?_
  refine gf_4_3 S hG q136 dX4_endToll_9 ?_
  refine pf_3_7 S hG q137 dX4_endToll_12 (fun σ3 H locs hG => ?_)
  refine v_aload_n S hl 1 rfl rfl dX4_endToll_15 ?_
  refine gr_4_0 S hG q66 dX4_endToll_16 (fun r4 => ?_)
  refine v_aload_n S hl 0 rfl rfl dX4_endToll_19 ?_
  refine gf_3_1 S hG q60 dX4_endToll_20 ?_
  refine v_aald_9 S hG dX4_endToll_23 (fun r5 => ?_)
  refine v_astore_n S hl [(3, .ref (ad r5)), (2, .ref (ad r2)), (0, .ref (ad t)), (1, .int p0)] rfl dX4_endToll_24 (by decide) rfl (fun ls hl => ?_)
  refine v_aload_n S hl 0 rfl rfl dX4_endToll_25 ?_
  refine gf_0_5 S hG q73 dX4_endToll_26 ?_
  refine v_iload_n S hl 3 rfl rfl dX4_endToll_29 ?_
  refine v_icmp_ne S 50 dX4_endToll_30 (by decide) ?_ ?_
  · refine v_aload_n S hl 0 rfl rfl dX4_endToll_50 ?_
    refine gf_0_5 S hG q73 dX4_endToll_51 ?_
    refine v_iconst S (-1) dX4_endToll_54 rfl ?_
    refine v_icmp_ne S 63 dX4_endToll_55 (by decide) ?_ ?_
    · exact v_vretm S hG hr hlk (Nat.le_of_ble_eq_true rfl) (Nat.le_of_ble_eq_true rfl) dX4_endToll_63
    · refine v_aload_n S hl 2 rfl rfl dX4_endToll_58 ?_
      refine v_aload_n S hl 0 rfl rfl dX4_endToll_59 ?_
      refine v_cV_vm S hG [.ref (ad r5)] rfl rfl (by decide) (met_X4_emptyRope l g ad true b σ3 t r5) mw_X4_emptyRope q95 dX4_endToll_60 rfl rfl hl.1 (Nat.le_of_ble_eq_true rfl) ⟨Nat.le_of_ble_eq_true rfl, Nat.le_of_ble_eq_true rfl⟩ rfl rfl ⟨Nat.le_of_ble_eq_true rfl, Nat.le_of_ble_eq_true rfl⟩ (fun σ6 H locs hG => ?_)
      exact v_vretm S hG hr hlk (Nat.le_of_ble_eq_true rfl) (Nat.le_of_ble_eq_true rfl) dX4_endToll_63
  · refine v_aload_n S hl 0 rfl rfl dX4_endToll_33 ?_
    refine v_iconst S 0 dX4_endToll_34 rfl ?_
    refine pf_0_6 S hG q74 dX4_endToll_35 (fun σ7 H locs hG => ?_)
    refine v_aload_n S hl 0 rfl rfl dX4_endToll_38 ?_
    refine v_aload_n S hl 2 rfl rfl dX4_endToll_39 ?_
    refine v_aload_n S hl 1 rfl rfl dX4_endToll_40 ?_
    refine gf_3_1 S hG q60 dX4_endToll_41 ?_
    refine v_cV_iR S hG [.int (σ7 r2 1)] rfl rfl (by decide) (met_X4_firstNotDone l g ad true b σ7 t (σ7 r2 1)) mw_X4_firstNotDone q138 dX4_endToll_44 rfl rfl hl.1 (Nat.le_of_ble_eq_true rfl) ⟨Nat.le_of_ble_eq_true rfl, Nat.le_of_ble_eq_true rfl⟩ rfl rfl ⟨Nat.le_of_ble_eq_true rfl, Nat.le_of_ble_eq_true rfl⟩ (fun r8 H locs hG => ?_)
    refine pf_0_5 S hG q73 dX4_endToll_47 (fun σ9 H locs hG => ?_)
    refine v_aload_n S hl 0 rfl rfl dX4_endToll_50 ?_
    refine gf_0_5 S hG q73 dX4_endToll_51 ?_
    refine v_iconst S (-1) dX4_endToll_54 rfl ?_
    refine v_icmp_ne S 63 dX4_endToll_55 (by decide) ?_ ?_
    · exact v_vretm S hG hr hlk (Nat.le_of_ble_eq_true rfl) (Nat.le_of_ble_eq_true rfl) dX4_endToll_63
    · refine v_aload_n S hl 2 rfl rfl dX4_endToll_58 ?_
      refine v_aload_n S hl 0 rfl rfl dX4_endToll_59 ?_
      refine v_cV_vm S hG [.ref (ad r5)] rfl rfl (by decide) (met_X4_emptyRope l g ad true b σ9 t r5) mw_X4_emptyRope q95 dX4_endToll_60 rfl rfl hl.1 (Nat.le_of_ble_eq_true rfl) ⟨Nat.le_of_ble_eq_true rfl, Nat.le_of_ble_eq_true rfl⟩ rfl rfl ⟨Nat.le_of_ble_eq_true rfl, Nat.le_of_ble_eq_true rfl⟩ (fun σ10 H locs hG => ?_)
      exact v_vretm S hG hr hlk (Nat.le_of_ble_eq_true rfl) (Nat.le_of_ble_eq_true rfl) dX4_endToll_63
set_option maxHeartbeats 4000000 in
set_option maxRecDepth 100000 in
theorem wl_X4_ringersAtRopes_4 {p : Program} {l : Launch} {e : Env} {s : State} {m : MethodId} {args : Array Value} {below : List Frame} {meth : Method} {c : Code} {g : GT} {ad : Nat → Nat} {w : Bool} {b : Nat} (S : CallFix p m c cX4_ringersAtRopes 3 s args AL RX4) (hr : meth.sig.returnType = some .int) (hlk : meth.locks = false) (σ : Mem) (a0 : Nat) {rr : Int32} {K : Int32 → Int32 → Option Int32} (kx : ∀ (y1 : Int32) (y2 : Int32) (H : Heap) (locs : List Loc) (ls : Array Slot), lv_has ls 3 [(0, .ref (ad a0)), (1, .int y1), (2, .int y2)] → GA g ad σ w b s H locs → K y1 y2 = some rr → W p l e ({ frames := 1, cells := 0, slots := 0, locals := 20 } : Room) s m args below meth c H locs 0 0 (MQ below (va_Qi (fun (r' : Int32) (u : Mem) => r' = rr ∧ u = σ) (GW g ad) (AA g ad w b)) args s 0 0 (AA g ad w b)) (F0 m 38 ls [])) : ∀ (fuel : Nat) (y1 : Int32) (y2 : Int32) (H : Heap) (locs : List Loc) (ls : Array Slot), lv_has ls 3 [(0, .ref (ad a0)), (1, .int y1), (2, .int y2)] → GA g ad σ w b s H locs → lp_X4_ringersAtRopes_4 σ a0 K fuel y1 y2 = some rr → W p l e ({ frames := 1, cells := 0, slots := 0, locals := 20 } : Room) s m args below meth c H locs 0 0 (MQ below (va_Qi (fun (r' : Int32) (u : Mem) => r' = rr ∧ u = σ) (GW g ad) (AA g ad w b)) args s 0 0 (AA g ad w b)) (F0 m 4 ls []) := by
  intro fuel
  induction fuel with
  | zero =>
    intro y1 y2 H locs ls hl hG h
    rw [lp_X4_ringersAtRopes_4.eq_1] at h
    cases h
  | succ fuel ih =>
    intro y1 y2 H locs ls hl hG
    rw [lp_X4_ringersAtRopes_4.eq_2]
    refine v_iload_n S hl 2 rfl rfl dX4_ringersAtRopes_4 ?_
    refine v_aload_n S hl 0 rfl rfl dX4_ringersAtRopes_5 ?_
    refine gf_4_4 S hG q85 dX4_ringersAtRopes_6 ?_
    refine v_icmp_ge S 38 dX4_ringersAtRopes_9 (by decide) ?_ ?_
    · exact kx y1 y2 _ _ ls (lv_sub hl [0, 1, 2] rfl) hG
    · refine v_iload_n S hl 1 rfl rfl dX4_ringersAtRopes_12 ?_
      refine v_aload_n S hl 0 rfl rfl dX4_ringersAtRopes_13 ?_
      refine gr_4_1 S hG q86 dX4_ringersAtRopes_14 (fun r1 => ?_)
      refine v_iload_n S hl 2 rfl rfl dX4_ringersAtRopes_17 ?_
      refine v_aald_10 S hG dX4_ringersAtRopes_18 (fun r2 => ?_)
      refine v_cV_iR S hG [] rfl rfl (by decide) (met_X2_rests l g ad w b σ r2) mw_X2_rests q176 dX4_ringersAtRopes_19 rfl rfl hl.1 (Nat.le_of_ble_eq_true rfl) ⟨Nat.le_of_ble_eq_true rfl, Nat.le_of_ble_eq_true rfl⟩ rfl rfl ⟨Nat.le_of_ble_eq_true rfl, Nat.le_of_ble_eq_true rfl⟩ (fun r3 H locs hG => ?_)
      refine v_if_eq S 29 dX4_ringersAtRopes_22 (by decide) ?_ ?_
      · refine v_iconst S 1 dX4_ringersAtRopes_29 rfl ?_
        refine v_iadd S dX4_ringersAtRopes_30 ?_
        refine v_nm (fun x4 => ?_)
        refine v_istore_n S hl [(1, .int x4), (0, .ref (ad a0)), (2, .int y2)] rfl dX4_ringersAtRopes_31 (by decide) rfl (fun ls hl => ?_)
        refine v_iinc S hl 2 rfl dX4_ringersAtRopes_32 rfl (by decide) (fun z => [(2, .int z), (1, .int x4), (0, .ref (ad a0))]) (fun _ => rfl) (fun x5 ls hl => ?_)
        refine v_goto S 4 dX4_ringersAtRopes_35 (by decide) ?_
        exact ih x4 x5 _ _ ls (lv_sub hl [2, 1, 0] rfl) hG
      · refine v_iconst S 0 dX4_ringersAtRopes_25 rfl ?_
        refine v_goto S 30 dX4_ringersAtRopes_26 (by decide) ?_
        refine v_iadd S dX4_ringersAtRopes_30 ?_
        refine v_nm (fun x6 => ?_)
        refine v_istore_n S hl [(1, .int x6), (0, .ref (ad a0)), (2, .int y2)] rfl dX4_ringersAtRopes_31 (by decide) rfl (fun ls hl => ?_)
        refine v_iinc S hl 2 rfl dX4_ringersAtRopes_32 rfl (by decide) (fun z => [(2, .int z), (1, .int x6), (0, .ref (ad a0))]) (fun _ => rfl) (fun x7 ls hl => ?_)
        refine v_goto S 4 dX4_ringersAtRopes_35 (by decide) ?_
        exact ih x6 x7 _ _ ls (lv_sub hl [2, 1, 0] rfl) hG
set_option maxHeartbeats 4000000 in
set_option maxRecDepth 100000 in
theorem met_X4_ringersAtRopes (l : Launch) (g : GT) (ad : Nat → Nat) (w : Bool) (b : Nat) (σ : Mem) (t : Nat) (rr : Int32) (h : fn_X4_ringersAtRopes σ t = some rr) : Met l yX4_ringersAtRopes (wsy yX4_ringersAtRopes cX4_ringersAtRopes 3 (some .int)) ({ frames := 1, cells := 0, slots := 0, locals := 20 } : Room) (va_Pc [.ref (ad t)] (PB g ad σ b)) (va_Qi (fun (r' : Int32) (u : Mem) => r' = rr ∧ u = σ) (GW g ad) (AA g ad w b)) 0 0 (AA g ad w b) := by
  refine Met.ofW (cc := cX4_ringersAtRopes) (maxL := 3) (ret := (some .int)) (by decide) rfl ?_
  intro p e s m args below meth c s₁ B hml hv
  obtain ⟨rfl, hv⟩ := hv
  have S : CallFix p m c cX4_ringersAtRopes 3 s _ AL RX4 := ⟨B.exec, B.bytes, hml, findClass_of_methodNamed B.named, fun w h => atoms_spec (ws := wsy yX4_ringersAtRopes cX4_ringersAtRopes 3 (some .int)) B.pre w (List.mem_cons_of_mem _ h)⟩
  have hr := B.returns
  have hlk := B.notSynchronized
  have hG : GA g ad σ w b s s.heap [] := GA_start hv
  have hl := lv_entry ([.ref (ad t)]) (n := 3) (Nat.le_of_ble_eq_true rfl)
  rw [lg_entry_eq]
  generalize (lg_sl ([.ref (ad t)]) ++ List.replicate (3 - (lg_sl ([.ref (ad t)])).length) Slot.unset).toArray = ls at hl ⊢
  have hl : lv_has ls 3 [(0, .ref (ad t))] := hl
  revert h
  unfold fn_X4_ringersAtRopes
  refine v_iconst S 0 dX4_ringersAtRopes_0 rfl ?_
  refine v_istore_n S hl [(1, .int 0), (0, .ref (ad t))] rfl dX4_ringersAtRopes_1 (by decide) rfl (fun ls hl => ?_)
  refine v_iconst S 0 dX4_ringersAtRopes_2 rfl ?_
  refine v_istore_n S hl [(2, .int 0), (1, .int 0), (0, .ref (ad t))] rfl dX4_ringersAtRopes_3 (by decide) rfl (fun ls hl => ?_)
  refine wl_X4_ringersAtRopes_4 S hr hlk σ t (fun x8 x9 H locs ls hl hG => ?_) 30 0 0 _ _ ls (lv_sub hl [2, 1, 0] rfl) hG
  refine v_iload_n S hl 1 rfl rfl dX4_ringersAtRopes_38 ?_
  exact v_iretR S hG hr hlk (Nat.le_of_ble_eq_true rfl) (Nat.le_of_ble_eq_true rfl) dX4_ringersAtRopes_39
set_option maxHeartbeats 4000000 in
set_option maxRecDepth 100000 in
theorem wl_X4_tollsDone_4 {p : Program} {l : Launch} {e : Env} {s : State} {m : MethodId} {args : Array Value} {below : List Frame} {meth : Method} {c : Code} {g : GT} {ad : Nat → Nat} {w : Bool} {b : Nat} (S : CallFix p m c cX4_tollsDone 3 s args AL RX4) (hr : meth.sig.returnType = some .int) (hlk : meth.locks = false) (σ : Mem) (a0 : Nat) {rr : Int32} {K : Int32 → Int32 → Option Int32} (kx : ∀ (y1 : Int32) (y2 : Int32) (H : Heap) (locs : List Loc) (ls : Array Slot), lv_has ls 3 [(0, .ref (ad a0)), (1, .int y1), (2, .int y2)] → GA g ad σ w b s H locs → K y1 y2 = some rr → W p l e ({ frames := 1, cells := 0, slots := 0, locals := 20 } : Room) s m args below meth c H locs 0 0 (MQ below (va_Qi (fun (r' : Int32) (u : Mem) => r' = rr ∧ u = σ) (GW g ad) (AA g ad w b)) args s 0 0 (AA g ad w b)) (F0 m 38 ls [])) : ∀ (fuel : Nat) (y1 : Int32) (y2 : Int32) (H : Heap) (locs : List Loc) (ls : Array Slot), lv_has ls 3 [(0, .ref (ad a0)), (1, .int y1), (2, .int y2)] → GA g ad σ w b s H locs → lp_X4_tollsDone_4 σ a0 K fuel y1 y2 = some rr → W p l e ({ frames := 1, cells := 0, slots := 0, locals := 20 } : Room) s m args below meth c H locs 0 0 (MQ below (va_Qi (fun (r' : Int32) (u : Mem) => r' = rr ∧ u = σ) (GW g ad) (AA g ad w b)) args s 0 0 (AA g ad w b)) (F0 m 4 ls []) := by
  intro fuel
  induction fuel with
  | zero =>
    intro y1 y2 H locs ls hl hG h
    rw [lp_X4_tollsDone_4.eq_1] at h
    cases h
  | succ fuel ih =>
    intro y1 y2 H locs ls hl hG
    rw [lp_X4_tollsDone_4.eq_2]
    refine v_iload_n S hl 2 rfl rfl dX4_tollsDone_4 ?_
    refine v_aload_n S hl 0 rfl rfl dX4_tollsDone_5 ?_
    refine gf_4_5 S hG q58 dX4_tollsDone_6 ?_
    refine v_icmp_ge S 38 dX4_tollsDone_9 (by decide) ?_ ?_
    · exact kx y1 y2 _ _ ls (lv_sub hl [0, 1, 2] rfl) hG
    · refine v_iload_n S hl 1 rfl rfl dX4_tollsDone_12 ?_
      refine v_aload_n S hl 0 rfl rfl dX4_tollsDone_13 ?_
      refine gr_4_2 S hG q59 dX4_tollsDone_14 (fun r1 => ?_)
      refine v_iload_n S hl 2 rfl rfl dX4_tollsDone_17 ?_
      refine v_aald_11 S hG dX4_tollsDone_18 (fun r2 => ?_)
      refine v_cV_iR S hG [] rfl rfl (by decide) (met_X3_isDone l g ad w b σ r2) mw_X3_isDone q61 dX4_tollsDone_19 rfl rfl hl.1 (Nat.le_of_ble_eq_true rfl) ⟨Nat.le_of_ble_eq_true rfl, Nat.le_of_ble_eq_true rfl⟩ rfl rfl ⟨Nat.le_of_ble_eq_true rfl, Nat.le_of_ble_eq_true rfl⟩ (fun r3 H locs hG => ?_)
      refine v_if_eq S 29 dX4_tollsDone_22 (by decide) ?_ ?_
      · refine v_iconst S 0 dX4_tollsDone_29 rfl ?_
        refine v_iadd S dX4_tollsDone_30 ?_
        refine v_nm (fun x4 => ?_)
        refine v_istore_n S hl [(1, .int x4), (0, .ref (ad a0)), (2, .int y2)] rfl dX4_tollsDone_31 (by decide) rfl (fun ls hl => ?_)
        refine v_iinc S hl 2 rfl dX4_tollsDone_32 rfl (by decide) (fun z => [(2, .int z), (1, .int x4), (0, .ref (ad a0))]) (fun _ => rfl) (fun x5 ls hl => ?_)
        refine v_goto S 4 dX4_tollsDone_35 (by decide) ?_
        exact ih x4 x5 _ _ ls (lv_sub hl [2, 1, 0] rfl) hG
      · refine v_iconst S 1 dX4_tollsDone_25 rfl ?_
        refine v_goto S 30 dX4_tollsDone_26 (by decide) ?_
        refine v_iadd S dX4_tollsDone_30 ?_
        refine v_nm (fun x6 => ?_)
        refine v_istore_n S hl [(1, .int x6), (0, .ref (ad a0)), (2, .int y2)] rfl dX4_tollsDone_31 (by decide) rfl (fun ls hl => ?_)
        refine v_iinc S hl 2 rfl dX4_tollsDone_32 rfl (by decide) (fun z => [(2, .int z), (1, .int x6), (0, .ref (ad a0))]) (fun _ => rfl) (fun x7 ls hl => ?_)
        refine v_goto S 4 dX4_tollsDone_35 (by decide) ?_
        exact ih x6 x7 _ _ ls (lv_sub hl [2, 1, 0] rfl) hG
set_option maxHeartbeats 4000000 in
set_option maxRecDepth 100000 in
theorem met_X4_tollsDone (l : Launch) (g : GT) (ad : Nat → Nat) (w : Bool) (b : Nat) (σ : Mem) (t : Nat) (rr : Int32) (h : fn_X4_tollsDone σ t = some rr) : Met l yX4_tollsDone (wsy yX4_tollsDone cX4_tollsDone 3 (some .int)) ({ frames := 1, cells := 0, slots := 0, locals := 20 } : Room) (va_Pc [.ref (ad t)] (PB g ad σ b)) (va_Qi (fun (r' : Int32) (u : Mem) => r' = rr ∧ u = σ) (GW g ad) (AA g ad w b)) 0 0 (AA g ad w b) := by
  refine Met.ofW (cc := cX4_tollsDone) (maxL := 3) (ret := (some .int)) (by decide) rfl ?_
  intro p e s m args below meth c s₁ B hml hv
  obtain ⟨rfl, hv⟩ := hv
  have S : CallFix p m c cX4_tollsDone 3 s _ AL RX4 := ⟨B.exec, B.bytes, hml, findClass_of_methodNamed B.named, fun w h => atoms_spec (ws := wsy yX4_tollsDone cX4_tollsDone 3 (some .int)) B.pre w (List.mem_cons_of_mem _ h)⟩
  have hr := B.returns
  have hlk := B.notSynchronized
  have hG : GA g ad σ w b s s.heap [] := GA_start hv
  have hl := lv_entry ([.ref (ad t)]) (n := 3) (Nat.le_of_ble_eq_true rfl)
  rw [lg_entry_eq]
  generalize (lg_sl ([.ref (ad t)]) ++ List.replicate (3 - (lg_sl ([.ref (ad t)])).length) Slot.unset).toArray = ls at hl ⊢
  have hl : lv_has ls 3 [(0, .ref (ad t))] := hl
  revert h
  unfold fn_X4_tollsDone
  refine v_iconst S 0 dX4_tollsDone_0 rfl ?_
  refine v_istore_n S hl [(1, .int 0), (0, .ref (ad t))] rfl dX4_tollsDone_1 (by decide) rfl (fun ls hl => ?_)
  refine v_iconst S 0 dX4_tollsDone_2 rfl ?_
  refine v_istore_n S hl [(2, .int 0), (1, .int 0), (0, .ref (ad t))] rfl dX4_tollsDone_3 (by decide) rfl (fun ls hl => ?_)
  refine wl_X4_tollsDone_4 S hr hlk σ t (fun x8 x9 H locs ls hl hG => ?_) 30 0 0 _ _ ls (lv_sub hl [2, 1, 0] rfl) hG
  refine v_iload_n S hl 1 rfl rfl dX4_tollsDone_38 ?_
  exact v_iretR S hG hr hlk (Nat.le_of_ble_eq_true rfl) (Nat.le_of_ble_eq_true rfl) dX4_tollsDone_39
set_option maxHeartbeats 4000000 in
set_option maxRecDepth 100000 in
theorem wl_X4_strokesInAll_4 {p : Program} {l : Launch} {e : Env} {s : State} {m : MethodId} {args : Array Value} {below : List Frame} {meth : Method} {c : Code} {g : GT} {ad : Nat → Nat} {w : Bool} {b : Nat} (S : CallFix p m c cX4_strokesInAll 3 s args AL RX4) (hr : meth.sig.returnType = some .int) (hlk : meth.locks = false) (σ : Mem) (a0 : Nat) {rr : Int32} {K : Int32 → Int32 → Option Int32} (kx : ∀ (y1 : Int32) (y2 : Int32) (H : Heap) (locs : List Loc) (ls : Array Slot), lv_has ls 3 [(0, .ref (ad a0)), (1, .int y1), (2, .int y2)] → GA g ad σ w b s H locs → K y1 y2 = some rr → W p l e ({ frames := 0, cells := 0, slots := 0, locals := 0 } : Room) s m args below meth c H locs 0 0 (MQ below (va_Qi (fun (r' : Int32) (u : Mem) => r' = rr ∧ u = σ) (GW g ad) (AA g ad w b)) args s 0 0 (AA g ad w b)) (F0 m 27 ls [])) : ∀ (fuel : Nat) (y1 : Int32) (y2 : Int32) (H : Heap) (locs : List Loc) (ls : Array Slot), lv_has ls 3 [(0, .ref (ad a0)), (1, .int y1), (2, .int y2)] → GA g ad σ w b s H locs → lp_X4_strokesInAll_4 σ a0 K fuel y1 y2 = some rr → W p l e ({ frames := 0, cells := 0, slots := 0, locals := 0 } : Room) s m args below meth c H locs 0 0 (MQ below (va_Qi (fun (r' : Int32) (u : Mem) => r' = rr ∧ u = σ) (GW g ad) (AA g ad w b)) args s 0 0 (AA g ad w b)) (F0 m 4 ls []) := by
  intro fuel
  induction fuel with
  | zero =>
    intro y1 y2 H locs ls hl hG h
    rw [lp_X4_strokesInAll_4.eq_1] at h
    cases h
  | succ fuel ih =>
    intro y1 y2 H locs ls hl hG
    rw [lp_X4_strokesInAll_4.eq_2]
    refine v_iload_n S hl 2 rfl rfl dX4_strokesInAll_4 ?_
    refine v_iconst S 4 dX4_strokesInAll_5 rfl ?_
    refine v_icmp_ge S 27 dX4_strokesInAll_6 (by decide) ?_ ?_
    · exact kx y1 y2 _ _ ls (lv_sub hl [0, 1, 2] rfl) hG
    · refine v_iload_n S hl 1 rfl rfl dX4_strokesInAll_9 ?_
      refine v_aload_n S hl 0 rfl rfl dX4_strokesInAll_10 ?_
      refine gr_4_0 S hG q66 dX4_strokesInAll_11 (fun r1 => ?_)
      refine v_iload_n S hl 2 rfl rfl dX4_strokesInAll_14 ?_
      refine v_aald_9 S hG dX4_strokesInAll_15 (fun r2 => ?_)
      refine gf_0_7 S hG q80 dX4_strokesInAll_16 ?_
      refine v_iadd S dX4_strokesInAll_19 ?_
      refine v_nm (fun x3 => ?_)
      refine v_istore_n S hl [(1, .int x3), (0, .ref (ad a0)), (2, .int y2)] rfl dX4_strokesInAll_20 (by decide) rfl (fun ls hl => ?_)
      refine v_iinc S hl 2 rfl dX4_strokesInAll_21 rfl (by decide) (fun z => [(2, .int z), (1, .int x3), (0, .ref (ad a0))]) (fun _ => rfl) (fun x4 ls hl => ?_)
      refine v_goto S 4 dX4_strokesInAll_24 (by decide) ?_
      exact ih x3 x4 _ _ ls (lv_sub hl [2, 1, 0] rfl) hG
set_option maxHeartbeats 4000000 in
set_option maxRecDepth 100000 in
theorem met_X4_strokesInAll (l : Launch) (g : GT) (ad : Nat → Nat) (w : Bool) (b : Nat) (σ : Mem) (t : Nat) (rr : Int32) (h : fn_X4_strokesInAll σ t = some rr) : Met l yX4_strokesInAll (wsy yX4_strokesInAll cX4_strokesInAll 3 (some .int)) ({ frames := 0, cells := 0, slots := 0, locals := 0 } : Room) (va_Pc [.ref (ad t)] (PB g ad σ b)) (va_Qi (fun (r' : Int32) (u : Mem) => r' = rr ∧ u = σ) (GW g ad) (AA g ad w b)) 0 0 (AA g ad w b) := by
  refine Met.ofW (cc := cX4_strokesInAll) (maxL := 3) (ret := (some .int)) (by decide) rfl ?_
  intro p e s m args below meth c s₁ B hml hv
  obtain ⟨rfl, hv⟩ := hv
  have S : CallFix p m c cX4_strokesInAll 3 s _ AL RX4 := ⟨B.exec, B.bytes, hml, findClass_of_methodNamed B.named, fun w h => atoms_spec (ws := wsy yX4_strokesInAll cX4_strokesInAll 3 (some .int)) B.pre w (List.mem_cons_of_mem _ h)⟩
  have hr := B.returns
  have hlk := B.notSynchronized
  have hG : GA g ad σ w b s s.heap [] := GA_start hv
  have hl := lv_entry ([.ref (ad t)]) (n := 3) (Nat.le_of_ble_eq_true rfl)
  rw [lg_entry_eq]
  generalize (lg_sl ([.ref (ad t)]) ++ List.replicate (3 - (lg_sl ([.ref (ad t)])).length) Slot.unset).toArray = ls at hl ⊢
  have hl : lv_has ls 3 [(0, .ref (ad t))] := hl
  revert h
  unfold fn_X4_strokesInAll
  refine v_iconst S 0 dX4_strokesInAll_0 rfl ?_
  refine v_istore_n S hl [(1, .int 0), (0, .ref (ad t))] rfl dX4_strokesInAll_1 (by decide) rfl (fun ls hl => ?_)
  refine v_iconst S 0 dX4_strokesInAll_2 rfl ?_
  refine v_istore_n S hl [(2, .int 0), (1, .int 0), (0, .ref (ad t))] rfl dX4_strokesInAll_3 (by decide) rfl (fun ls hl => ?_)
  refine wl_X4_strokesInAll_4 S hr hlk σ t (fun x5 x6 H locs ls hl hG => ?_) 30 0 0 _ _ ls (lv_sub hl [2, 1, 0] rfl) hG
  refine v_iload_n S hl 1 rfl rfl dX4_strokesInAll_27 ?_
  exact v_iretR S hG hr hlk (Nat.le_of_ble_eq_true rfl) (Nat.le_of_ble_eq_true rfl) dX4_strokesInAll_28
set_option maxHeartbeats 4000000 in
set_option maxRecDepth 100000 in
theorem wl_X4_loudInAll_4 {p : Program} {l : Launch} {e : Env} {s : State} {m : MethodId} {args : Array Value} {below : List Frame} {meth : Method} {c : Code} {g : GT} {ad : Nat → Nat} {w : Bool} {b : Nat} (S : CallFix p m c cX4_loudInAll 3 s args AL RX4) (hr : meth.sig.returnType = some .int) (hlk : meth.locks = false) (σ : Mem) (a0 : Nat) {rr : Int32} {K : Int32 → Int32 → Option Int32} (kx : ∀ (y1 : Int32) (y2 : Int32) (H : Heap) (locs : List Loc) (ls : Array Slot), lv_has ls 3 [(0, .ref (ad a0)), (1, .int y1), (2, .int y2)] → GA g ad σ w b s H locs → K y1 y2 = some rr → W p l e ({ frames := 0, cells := 0, slots := 0, locals := 0 } : Room) s m args below meth c H locs 0 0 (MQ below (va_Qi (fun (r' : Int32) (u : Mem) => r' = rr ∧ u = σ) (GW g ad) (AA g ad w b)) args s 0 0 (AA g ad w b)) (F0 m 30 ls [])) : ∀ (fuel : Nat) (y1 : Int32) (y2 : Int32) (H : Heap) (locs : List Loc) (ls : Array Slot), lv_has ls 3 [(0, .ref (ad a0)), (1, .int y1), (2, .int y2)] → GA g ad σ w b s H locs → lp_X4_loudInAll_4 σ a0 K fuel y1 y2 = some rr → W p l e ({ frames := 0, cells := 0, slots := 0, locals := 0 } : Room) s m args below meth c H locs 0 0 (MQ below (va_Qi (fun (r' : Int32) (u : Mem) => r' = rr ∧ u = σ) (GW g ad) (AA g ad w b)) args s 0 0 (AA g ad w b)) (F0 m 4 ls []) := by
  intro fuel
  induction fuel with
  | zero =>
    intro y1 y2 H locs ls hl hG h
    rw [lp_X4_loudInAll_4.eq_1] at h
    cases h
  | succ fuel ih =>
    intro y1 y2 H locs ls hl hG
    rw [lp_X4_loudInAll_4.eq_2]
    refine v_iload_n S hl 2 rfl rfl dX4_loudInAll_4 ?_
    refine v_aload_n S hl 0 rfl rfl dX4_loudInAll_5 ?_
    refine gf_4_5 S hG q58 dX4_loudInAll_6 ?_
    refine v_icmp_ge S 30 dX4_loudInAll_9 (by decide) ?_ ?_
    · exact kx y1 y2 _ _ ls (lv_sub hl [0, 1, 2] rfl) hG
    · refine v_iload_n S hl 1 rfl rfl dX4_loudInAll_12 ?_
      refine v_aload_n S hl 0 rfl rfl dX4_loudInAll_13 ?_
      refine gr_4_2 S hG q59 dX4_loudInAll_14 (fun r1 => ?_)
      refine v_iload_n S hl 2 rfl rfl dX4_loudInAll_17 ?_
      refine v_aald_11 S hG dX4_loudInAll_18 (fun r2 => ?_)
      refine gf_3_6 S hG q177 dX4_loudInAll_19 ?_
      refine v_iadd S dX4_loudInAll_22 ?_
      refine v_nm (fun x3 => ?_)
      refine v_istore_n S hl [(1, .int x3), (0, .ref (ad a0)), (2, .int y2)] rfl dX4_loudInAll_23 (by decide) rfl (fun ls hl => ?_)
      refine v_iinc S hl 2 rfl dX4_loudInAll_24 rfl (by decide) (fun z => [(2, .int z), (1, .int x3), (0, .ref (ad a0))]) (fun _ => rfl) (fun x4 ls hl => ?_)
      refine v_goto S 4 dX4_loudInAll_27 (by decide) ?_
      exact ih x3 x4 _ _ ls (lv_sub hl [2, 1, 0] rfl) hG
set_option maxHeartbeats 4000000 in
set_option maxRecDepth 100000 in
theorem met_X4_loudInAll (l : Launch) (g : GT) (ad : Nat → Nat) (w : Bool) (b : Nat) (σ : Mem) (t : Nat) (rr : Int32) (h : fn_X4_loudInAll σ t = some rr) : Met l yX4_loudInAll (wsy yX4_loudInAll cX4_loudInAll 3 (some .int)) ({ frames := 0, cells := 0, slots := 0, locals := 0 } : Room) (va_Pc [.ref (ad t)] (PB g ad σ b)) (va_Qi (fun (r' : Int32) (u : Mem) => r' = rr ∧ u = σ) (GW g ad) (AA g ad w b)) 0 0 (AA g ad w b) := by
  refine Met.ofW (cc := cX4_loudInAll) (maxL := 3) (ret := (some .int)) (by decide) rfl ?_
  intro p e s m args below meth c s₁ B hml hv
  obtain ⟨rfl, hv⟩ := hv
  have S : CallFix p m c cX4_loudInAll 3 s _ AL RX4 := ⟨B.exec, B.bytes, hml, findClass_of_methodNamed B.named, fun w h => atoms_spec (ws := wsy yX4_loudInAll cX4_loudInAll 3 (some .int)) B.pre w (List.mem_cons_of_mem _ h)⟩
  have hr := B.returns
  have hlk := B.notSynchronized
  have hG : GA g ad σ w b s s.heap [] := GA_start hv
  have hl := lv_entry ([.ref (ad t)]) (n := 3) (Nat.le_of_ble_eq_true rfl)
  rw [lg_entry_eq]
  generalize (lg_sl ([.ref (ad t)]) ++ List.replicate (3 - (lg_sl ([.ref (ad t)])).length) Slot.unset).toArray = ls at hl ⊢
  have hl : lv_has ls 3 [(0, .ref (ad t))] := hl
  revert h
  unfold fn_X4_loudInAll
  refine v_iconst S 0 dX4_loudInAll_0 rfl ?_
  refine v_istore_n S hl [(1, .int 0), (0, .ref (ad t))] rfl dX4_loudInAll_1 (by decide) rfl (fun ls hl => ?_)
  refine v_iconst S 0 dX4_loudInAll_2 rfl ?_
  refine v_istore_n S hl [(2, .int 0), (1, .int 0), (0, .ref (ad t))] rfl dX4_loudInAll_3 (by decide) rfl (fun ls hl => ?_)
  refine wl_X4_loudInAll_4 S hr hlk σ t (fun x5 x6 H locs ls hl hG => ?_) 30 0 0 _ _ ls (lv_sub hl [2, 1, 0] rfl) hG
  refine v_iload_n S hl 1 rfl rfl dX4_loudInAll_30 ?_
  exact v_iretR S hG hr hlk (Nat.le_of_ble_eq_true rfl) (Nat.le_of_ble_eq_true rfl) dX4_loudInAll_31
set_option maxHeartbeats 4000000 in
set_option maxRecDepth 100000 in
theorem wl_X4_leathersOnBells_11 {p : Program} {l : Launch} {e : Env} {s : State} {m : MethodId} {args : Array Value} {below : List Frame} {meth : Method} {c : Code} {g : GT} {ad : Nat → Nat} {w : Bool} {b : Nat} (S : CallFix p m c cX4_leathersOnBells 4 s args AL RX4) (hr : meth.sig.returnType = some .int) (hlk : meth.locks = false) (σ : Mem) (a0 : Nat) (a2 : Int32) {rr : Int32} {K : Int32 → Int32 → Option Int32} (kx : ∀ (y1 : Int32) (y3 : Int32) (H : Heap) (locs : List Loc) (ls : Array Slot), lv_has ls 4 [(0, .ref (ad a0)), (1, .int y1), (2, .int a2), (3, .int y3)] → GA g ad σ w b s H locs → K y1 y3 = some rr → W p l e ({ frames := 1, cells := 0, slots := 0, locals := 21 } : Room) s m args below meth c H locs 0 0 (MQ below (va_Qi (fun (r' : Int32) (u : Mem) => r' = rr ∧ u = σ) (GW g ad) (AA g ad w b)) args s 0 0 (AA g ad w b)) (F0 m 46 ls [])) : ∀ (fuel : Nat) (y1 : Int32) (y3 : Int32) (H : Heap) (locs : List Loc) (ls : Array Slot), lv_has ls 4 [(0, .ref (ad a0)), (1, .int y1), (2, .int a2), (3, .int y3)] → GA g ad σ w b s H locs → lp_X4_leathersOnBells_11 σ a0 a2 K fuel y1 y3 = some rr → W p l e ({ frames := 1, cells := 0, slots := 0, locals := 21 } : Room) s m args below meth c H locs 0 0 (MQ below (va_Qi (fun (r' : Int32) (u : Mem) => r' = rr ∧ u = σ) (GW g ad) (AA g ad w b)) args s 0 0 (AA g ad w b)) (F0 m 11 ls []) := by
  intro fuel
  induction fuel with
  | zero =>
    intro y1 y3 H locs ls hl hG h
    rw [lp_X4_leathersOnBells_11.eq_1] at h
    cases h
  | succ fuel ih =>
    intro y1 y3 H locs ls hl hG
    rw [lp_X4_leathersOnBells_11.eq_2]
    refine v_iload_n S hl 3 rfl rfl dX4_leathersOnBells_11 ?_
    refine v_iconst S 2 dX4_leathersOnBells_12 rfl ?_
    refine v_icmp_ge S 46 dX4_leathersOnBells_13 (by decide) ?_ ?_
    · exact kx y1 y3 _ _ ls (lv_sub hl [0, 1, 2, 3] rfl) hG
    · refine v_iload_n S hl 1 rfl rfl dX4_leathersOnBells_16 ?_
      refine v_aload_n S hl 0 rfl rfl dX4_leathersOnBells_17 ?_
      refine gr_4_0 S hG q66 dX4_leathersOnBells_18 (fun r1 => ?_)
      refine v_iload_n S hl 2 rfl rfl dX4_leathersOnBells_21 ?_
      refine v_aald_9 S hG dX4_leathersOnBells_22 (fun r2 => ?_)
      refine v_iload_n S hl 3 rfl rfl dX4_leathersOnBells_23 ?_
      refine v_cV_rR S hG [.int y3] rfl rfl (by decide) (met_X0_leather l g ad w b σ r2 y3) mw_X0_leather q178 dX4_leathersOnBells_24 rfl rfl hl.1 (Nat.le_of_ble_eq_true rfl) ⟨Nat.le_of_ble_eq_true rfl, Nat.le_of_ble_eq_true rfl⟩ rfl rfl ⟨Nat.le_of_ble_eq_true rfl, Nat.le_of_ble_eq_true rfl⟩ (fun r3 H locs hG => ?_)
      refine gf_1_0 S hG q69 dX4_leathersOnBells_27 ?_
      refine v_if_le S 37 dX4_leathersOnBells_30 (by decide) ?_ ?_
      · refine v_iconst S 0 dX4_leathersOnBells_37 rfl ?_
        refine v_iadd S dX4_leathersOnBells_38 ?_
        refine v_nm (fun x4 => ?_)
        refine v_istore_n S hl [(1, .int x4), (0, .ref (ad a0)), (2, .int a2), (3, .int y3)] rfl dX4_leathersOnBells_39 (by decide) rfl (fun ls hl => ?_)
        refine v_iinc S hl 3 rfl dX4_leathersOnBells_40 rfl (by decide) (fun z => [(3, .int z), (1, .int x4), (0, .ref (ad a0)), (2, .int a2)]) (fun _ => rfl) (fun x5 ls hl => ?_)
        refine v_goto S 11 dX4_leathersOnBells_43 (by decide) ?_
        exact ih x4 x5 _ _ ls (lv_sub hl [2, 1, 3, 0] rfl) hG
      · refine v_iconst S 1 dX4_leathersOnBells_33 rfl ?_
        refine v_goto S 38 dX4_leathersOnBells_34 (by decide) ?_
        refine v_iadd S dX4_leathersOnBells_38 ?_
        refine v_nm (fun x6 => ?_)
        refine v_istore_n S hl [(1, .int x6), (0, .ref (ad a0)), (2, .int a2), (3, .int y3)] rfl dX4_leathersOnBells_39 (by decide) rfl (fun ls hl => ?_)
        refine v_iinc S hl 3 rfl dX4_leathersOnBells_40 rfl (by decide) (fun z => [(3, .int z), (1, .int x6), (0, .ref (ad a0)), (2, .int a2)]) (fun _ => rfl) (fun x7 ls hl => ?_)
        refine v_goto S 11 dX4_leathersOnBells_43 (by decide) ?_
        exact ih x6 x7 _ _ ls (lv_sub hl [2, 1, 3, 0] rfl) hG
set_option maxHeartbeats 4000000 in
set_option maxRecDepth 100000 in
theorem wl_X4_leathersOnBells_4 {p : Program} {l : Launch} {e : Env} {s : State} {m : MethodId} {args : Array Value} {below : List Frame} {meth : Method} {c : Code} {g : GT} {ad : Nat → Nat} {w : Bool} {b : Nat} (S : CallFix p m c cX4_leathersOnBells 4 s args AL RX4) (hr : meth.sig.returnType = some .int) (hlk : meth.locks = false) (σ : Mem) (a0 : Nat) {rr : Int32} {K : Int32 → Int32 → Option Int32} (kx : ∀ (y1 : Int32) (y2 : Int32) (H : Heap) (locs : List Loc) (ls : Array Slot), lv_has ls 4 [(0, .ref (ad a0)), (1, .int y1), (2, .int y2)] → GA g ad σ w b s H locs → K y1 y2 = some rr → W p l e ({ frames := 1, cells := 0, slots := 0, locals := 21 } : Room) s m args below meth c H locs 0 0 (MQ below (va_Qi (fun (r' : Int32) (u : Mem) => r' = rr ∧ u = σ) (GW g ad) (AA g ad w b)) args s 0 0 (AA g ad w b)) (F0 m 52 ls [])) : ∀ (fuel : Nat) (y1 : Int32) (y2 : Int32) (H : Heap) (locs : List Loc) (ls : Array Slot), lv_has ls 4 [(0, .ref (ad a0)), (1, .int y1), (2, .int y2)] → GA g ad σ w b s H locs → lp_X4_leathersOnBells_4 σ a0 K fuel y1 y2 = some rr → W p l e ({ frames := 1, cells := 0, slots := 0, locals := 21 } : Room) s m args below meth c H locs 0 0 (MQ below (va_Qi (fun (r' : Int32) (u : Mem) => r' = rr ∧ u = σ) (GW g ad) (AA g ad w b)) args s 0 0 (AA g ad w b)) (F0 m 4 ls []) := by
  intro fuel
  induction fuel with
  | zero =>
    intro y1 y2 H locs ls hl hG h
    rw [lp_X4_leathersOnBells_4.eq_1] at h
    cases h
  | succ fuel ih =>
    intro y1 y2 H locs ls hl hG
    rw [lp_X4_leathersOnBells_4.eq_2]
    refine v_iload_n S hl 2 rfl rfl dX4_leathersOnBells_4 ?_
    refine v_iconst S 4 dX4_leathersOnBells_5 rfl ?_
    refine v_icmp_ge S 52 dX4_leathersOnBells_6 (by decide) ?_ ?_
    · exact kx y1 y2 _ _ ls (lv_sub hl [0, 1, 2] rfl) hG
    · refine v_iconst S 0 dX4_leathersOnBells_9 rfl ?_
      refine v_istore_n S hl [(3, .int 0), (0, .ref (ad a0)), (1, .int y1), (2, .int y2)] rfl dX4_leathersOnBells_10 (by decide) rfl (fun ls hl => ?_)
      refine wl_X4_leathersOnBells_11 S hr hlk σ a0 y2 (fun x8 x9 H locs ls hl hG => ?_) 30 y1 0 _ _ ls (lv_sub hl [1, 2, 3, 0] rfl) hG
      refine v_iinc S hl 2 rfl dX4_leathersOnBells_46 rfl (by decide) (fun z => [(2, .int z), (0, .ref (ad a0)), (1, .int x8), (3, .int x9)]) (fun _ => rfl) (fun x10 ls hl => ?_)
      refine v_goto S 4 dX4_leathersOnBells_49 (by decide) ?_
      exact ih x8 x10 _ _ ls (lv_sub hl [1, 2, 0] rfl) hG
set_option maxHeartbeats 4000000 in
set_option maxRecDepth 100000 in
theorem met_X4_leathersOnBells (l : Launch) (g : GT) (ad : Nat → Nat) (w : Bool) (b : Nat) (σ : Mem) (t : Nat) (rr : Int32) (h : fn_X4_leathersOnBells σ t = some rr) : Met l yX4_leathersOnBells (wsy yX4_leathersOnBells cX4_leathersOnBells 4 (some .int)) ({ frames := 1, cells := 0, slots := 0, locals := 21 } : Room) (va_Pc [.ref (ad t)] (PB g ad σ b)) (va_Qi (fun (r' : Int32) (u : Mem) => r' = rr ∧ u = σ) (GW g ad) (AA g ad w b)) 0 0 (AA g ad w b) := by
  refine Met.ofW (cc := cX4_leathersOnBells) (maxL := 4) (ret := (some .int)) (by decide) rfl ?_
  intro p e s m args below meth c s₁ B hml hv
  obtain ⟨rfl, hv⟩ := hv
  have S : CallFix p m c cX4_leathersOnBells 4 s _ AL RX4 := ⟨B.exec, B.bytes, hml, findClass_of_methodNamed B.named, fun w h => atoms_spec (ws := wsy yX4_leathersOnBells cX4_leathersOnBells 4 (some .int)) B.pre w (List.mem_cons_of_mem _ h)⟩
  have hr := B.returns
  have hlk := B.notSynchronized
  have hG : GA g ad σ w b s s.heap [] := GA_start hv
  have hl := lv_entry ([.ref (ad t)]) (n := 4) (Nat.le_of_ble_eq_true rfl)
  rw [lg_entry_eq]
  generalize (lg_sl ([.ref (ad t)]) ++ List.replicate (4 - (lg_sl ([.ref (ad t)])).length) Slot.unset).toArray = ls at hl ⊢
  have hl : lv_has ls 4 [(0, .ref (ad t))] := hl
  revert h
  unfold fn_X4_leathersOnBells
  refine v_iconst S 0 dX4_leathersOnBells_0 rfl ?_
  refine v_istore_n S hl [(1, .int 0), (0, .ref (ad t))] rfl dX4_leathersOnBells_1 (by decide) rfl (fun ls hl => ?_)
  refine v_iconst S 0 dX4_leathersOnBells_2 rfl ?_
  refine v_istore_n S hl [(2, .int 0), (1, .int 0), (0, .ref (ad t))] rfl dX4_leathersOnBells_3 (by decide) rfl (fun ls hl => ?_)
  refine wl_X4_leathersOnBells_4 S hr hlk σ t (fun x11 x12 H locs ls hl hG => ?_) 30 0 0 _ _ ls (lv_sub hl [2, 1, 0] rfl) hG
  refine v_iload_n S hl 1 rfl rfl dX4_leathersOnBells_52 ?_
  exact v_iretR S hG hr hlk (Nat.le_of_ble_eq_true rfl) (Nat.le_of_ble_eq_true rfl) dX4_leathersOnBells_53
set_option maxHeartbeats 4000000 in
set_option maxRecDepth 100000 in
theorem met_X4_inAll (l : Launch) (g : GT) (ad : Nat → Nat) (w : Bool) (b : Nat) (σ : Mem) (t : Nat) (p0 : Int32) (rr : Int32) (h : fn_X4_inAll σ t p0 = some rr) : Met l yX4_inAll (wsy yX4_inAll cX4_inAll 2 (some .int)) ({ frames := 2, cells := 0, slots := 0, locals := 44 } : Room) (va_Pc [.ref (ad t), .int p0] (PB g ad σ b)) (va_Qi (fun (r' : Int32) (u : Mem) => r' = rr ∧ u = σ) (GW g ad) (AA g ad w b)) 0 0 (AA g ad w b) := by
  refine Met.ofW (cc := cX4_inAll) (maxL := 2) (ret := (some .int)) (by decide) rfl ?_
  intro p e s m args below meth c s₁ B hml hv
  obtain ⟨rfl, hv⟩ := hv
  have S : CallFix p m c cX4_inAll 2 s _ AL RX4 := ⟨B.exec, B.bytes, hml, findClass_of_methodNamed B.named, fun w h => atoms_spec (ws := wsy yX4_inAll cX4_inAll 2 (some .int)) B.pre w (List.mem_cons_of_mem _ h)⟩
  have hr := B.returns
  have hlk := B.notSynchronized
  have hG : GA g ad σ w b s s.heap [] := GA_start hv
  have hl := lv_entry ([.ref (ad t), .int p0]) (n := 2) (Nat.le_of_ble_eq_true rfl)
  rw [lg_entry_eq]
  generalize (lg_sl ([.ref (ad t), .int p0]) ++ List.replicate (2 - (lg_sl ([.ref (ad t), .int p0])).length) Slot.unset).toArray = ls at hl ⊢
  have hl : lv_has ls 2 [(0, .ref (ad t)), (1, .int p0)] := hl
  revert h
  unfold fn_X4_inAll
  refine v_iload_n S hl 1 rfl rfl dX4_inAll_0 ?_
  refine v_tcase (fun e1 => ?_) (fun c2 => ?_)
  · refine v_tin S 48 e1 dX4_inAll_1 (by decide) (by decide) rfl (by decide) ?_
    refine v_aload_n S hl 0 rfl rfl dX4_inAll_48 ?_
    refine gf_4_3 S hG q136 dX4_inAll_49 ?_
    exact v_iretR S hG hr hlk (Nat.le_of_ble_eq_true rfl) (Nat.le_of_ble_eq_true rfl) dX4_inAll_52
  refine v_tcase (fun e3 => ?_) (fun c4 => ?_)
  · refine v_tin S 53 e3 dX4_inAll_1 (by decide) (by decide) rfl (by decide) ?_
    refine v_aload_n S hl 0 rfl rfl dX4_inAll_53 ?_
    refine gf_4_4 S hG q85 dX4_inAll_54 ?_
    exact v_iretR S hG hr hlk (Nat.le_of_ble_eq_true rfl) (Nat.le_of_ble_eq_true rfl) dX4_inAll_57
  refine v_tcase (fun e6 => ?_) (fun c7 => ?_)
  · refine v_tin S 58 e6 dX4_inAll_1 (by decide) (by decide) rfl (by decide) ?_
    refine v_aload_n S hl 0 rfl rfl dX4_inAll_58 ?_
    refine v_cV_iR S hG [] rfl rfl (by decide) (met_X4_ringersAtRopes l g ad w b σ t) mw_X4_ringersAtRopes q179 dX4_inAll_59 rfl rfl hl.1 (Nat.le_of_ble_eq_true rfl) ⟨Nat.le_of_ble_eq_true rfl, Nat.le_of_ble_eq_true rfl⟩ rfl rfl ⟨Nat.le_of_ble_eq_true rfl, Nat.le_of_ble_eq_true rfl⟩ (fun r5 H locs hG => ?_)
    exact v_iretR S hG hr hlk (Nat.le_of_ble_eq_true rfl) (Nat.le_of_ble_eq_true rfl) dX4_inAll_62
  refine v_tcase (fun e8 => ?_) (fun c9 => ?_)
  · refine v_tin S 63 e8 dX4_inAll_1 (by decide) (by decide) rfl (by decide) ?_
    refine v_aload_n S hl 0 rfl rfl dX4_inAll_63 ?_
    refine gf_4_5 S hG q58 dX4_inAll_64 ?_
    exact v_iretR S hG hr hlk (Nat.le_of_ble_eq_true rfl) (Nat.le_of_ble_eq_true rfl) dX4_inAll_67
  refine v_tcase (fun e11 => ?_) (fun c12 => ?_)
  · refine v_tin S 68 e11 dX4_inAll_1 (by decide) (by decide) rfl (by decide) ?_
    refine v_aload_n S hl 0 rfl rfl dX4_inAll_68 ?_
    refine v_cV_iR S hG [] rfl rfl (by decide) (met_X4_tollsDone l g ad w b σ t) mw_X4_tollsDone q183 dX4_inAll_69 rfl rfl hl.1 (Nat.le_of_ble_eq_true rfl) ⟨Nat.le_of_ble_eq_true rfl, Nat.le_of_ble_eq_true rfl⟩ rfl rfl ⟨Nat.le_of_ble_eq_true rfl, Nat.le_of_ble_eq_true rfl⟩ (fun r10 H locs hG => ?_)
    exact v_iretR S hG hr hlk (Nat.le_of_ble_eq_true rfl) (Nat.le_of_ble_eq_true rfl) dX4_inAll_72
  refine v_tcase (fun e14 => ?_) (fun c15 => ?_)
  · refine v_tin S 73 e14 dX4_inAll_1 (by decide) (by decide) rfl (by decide) ?_
    refine v_aload_n S hl 0 rfl rfl dX4_inAll_73 ?_
    refine v_cV_iR S hG [] rfl rfl (by decide) (met_X4_strokesInAll l g ad w b σ t) mw_X4_strokesInAll q187 dX4_inAll_74 rfl rfl hl.1 (Nat.le_of_ble_eq_true rfl) ⟨Nat.le_of_ble_eq_true rfl, Nat.le_of_ble_eq_true rfl⟩ rfl rfl ⟨Nat.le_of_ble_eq_true rfl, Nat.le_of_ble_eq_true rfl⟩ (fun r13 H locs hG => ?_)
    exact v_iretR S hG hr hlk (Nat.le_of_ble_eq_true rfl) (Nat.le_of_ble_eq_true rfl) dX4_inAll_77
  refine v_tcase (fun e17 => ?_) (fun c18 => ?_)
  · refine v_tin S 78 e17 dX4_inAll_1 (by decide) (by decide) rfl (by decide) ?_
    refine v_aload_n S hl 0 rfl rfl dX4_inAll_78 ?_
    refine v_cV_iR S hG [] rfl rfl (by decide) (met_X4_loudInAll l g ad w b σ t) mw_X4_loudInAll q191 dX4_inAll_79 rfl rfl hl.1 (Nat.le_of_ble_eq_true rfl) ⟨Nat.le_of_ble_eq_true rfl, Nat.le_of_ble_eq_true rfl⟩ rfl rfl ⟨Nat.le_of_ble_eq_true rfl, Nat.le_of_ble_eq_true rfl⟩ (fun r16 H locs hG => ?_)
    exact v_iretR S hG hr hlk (Nat.le_of_ble_eq_true rfl) (Nat.le_of_ble_eq_true rfl) dX4_inAll_82
  refine v_tcase (fun e19 => ?_) (fun c20 => ?_)
  · refine v_tin S 83 e19 dX4_inAll_1 (by decide) (by decide) rfl (by decide) ?_
    refine v_aload_n S hl 0 rfl rfl dX4_inAll_83 ?_
    refine gf_4_6 S hG q195 dX4_inAll_84 ?_
    exact v_iretR S hG hr hlk (Nat.le_of_ble_eq_true rfl) (Nat.le_of_ble_eq_true rfl) dX4_inAll_87
  refine v_tout S 88 (t_out 8 (fun k hk => match k, hk with | 0, _ => c2 | 1, _ => c4 | 2, _ => c7 | 3, _ => c9 | 4, _ => c12 | 5, _ => c15 | 6, _ => c18 | 7, _ => c20 | k + 8, hk => absurd hk (by omega)) (by decide)) dX4_inAll_1 (by decide) ?_
  refine v_aload_n S hl 0 rfl rfl dX4_inAll_88 ?_
  refine v_cV_iR S hG [] rfl rfl (by decide) (met_X4_leathersOnBells l g ad w b σ t) mw_X4_leathersOnBells q196 dX4_inAll_89 rfl rfl hl.1 (Nat.le_of_ble_eq_true rfl) ⟨Nat.le_of_ble_eq_true rfl, Nat.le_of_ble_eq_true rfl⟩ rfl rfl ⟨Nat.le_of_ble_eq_true rfl, Nat.le_of_ble_eq_true rfl⟩ (fun r21 H locs hG => ?_)
  exact v_iretR S hG hr hlk (Nat.le_of_ble_eq_true rfl) (Nat.le_of_ble_eq_true rfl) dX4_inAll_92
set_option maxHeartbeats 4000000 in
set_option maxRecDepth 100000 in
theorem met_X4_isToll (l : Launch) (g : GT) (ad : Nat → Nat) (w : Bool) (b : Nat) (σ : Mem) (t : Nat) (p0 : Int32) (rr : Int32) (h : fn_X4_isToll σ t p0 = some rr) : Met l yX4_isToll (wsy yX4_isToll cX4_isToll 2 (some .boolean)) ({ frames := 0, cells := 0, slots := 0, locals := 0 } : Room) (va_Pc [.ref (ad t), .int p0] (PB g ad σ b)) (va_Qi (fun (r' : Int32) (u : Mem) => r' = rr ∧ u = σ) (GW g ad) (AA g ad w b)) 0 0 (AA g ad w b) := by
  refine Met.ofW (cc := cX4_isToll) (maxL := 2) (ret := (some .boolean)) (by decide) rfl ?_
  intro p e s m args below meth c s₁ B hml hv
  obtain ⟨rfl, hv⟩ := hv
  have S : CallFix p m c cX4_isToll 2 s _ AL RX4 := ⟨B.exec, B.bytes, hml, findClass_of_methodNamed B.named, fun w h => atoms_spec (ws := wsy yX4_isToll cX4_isToll 2 (some .boolean)) B.pre w (List.mem_cons_of_mem _ h)⟩
  have hr := B.returns
  have hlk := B.notSynchronized
  have hG : GA g ad σ w b s s.heap [] := GA_start hv
  have hl := lv_entry ([.ref (ad t), .int p0]) (n := 2) (Nat.le_of_ble_eq_true rfl)
  rw [lg_entry_eq]
  generalize (lg_sl ([.ref (ad t), .int p0]) ++ List.replicate (2 - (lg_sl ([.ref (ad t), .int p0])).length) Slot.unset).toArray = ls at hl ⊢
  have hl : lv_has ls 2 [(0, .ref (ad t)), (1, .int p0)] := hl
  revert h
  unfold fn_X4_isToll
  refine v_iload_n S hl 1 rfl rfl dX4_isToll_0 ?_
  refine v_if_lt S 16 dX4_isToll_1 (by decide) ?_ ?_
  · refine v_iconst S 0 dX4_isToll_16 rfl ?_
    exact v_zretR S hG hr hlk rfl (Nat.le_of_ble_eq_true rfl) (Nat.le_of_ble_eq_true rfl) dX4_isToll_17
  · refine v_iload_n S hl 1 rfl rfl dX4_isToll_4 ?_
    refine v_aload_n S hl 0 rfl rfl dX4_isToll_5 ?_
    refine gf_4_5 S hG q58 dX4_isToll_6 ?_
    refine v_icmp_ge S 16 dX4_isToll_9 (by decide) ?_ ?_
    · refine v_iconst S 0 dX4_isToll_16 rfl ?_
      exact v_zretR S hG hr hlk rfl (Nat.le_of_ble_eq_true rfl) (Nat.le_of_ble_eq_true rfl) dX4_isToll_17
    · refine v_iconst S 1 dX4_isToll_12 rfl ?_
      refine v_goto S 17 dX4_isToll_13 (by decide) ?_
      exact v_zretR S hG hr hlk rfl (Nat.le_of_ble_eq_true rfl) (Nat.le_of_ble_eq_true rfl) dX4_isToll_17
set_option maxHeartbeats 4000000 in
set_option maxRecDepth 100000 in
theorem met_X4_isRinger (l : Launch) (g : GT) (ad : Nat → Nat) (w : Bool) (b : Nat) (σ : Mem) (t : Nat) (p0 : Int32) (rr : Int32) (h : fn_X4_isRinger σ t p0 = some rr) : Met l yX4_isRinger (wsy yX4_isRinger cX4_isRinger 2 (some .boolean)) ({ frames := 0, cells := 0, slots := 0, locals := 0 } : Room) (va_Pc [.ref (ad t), .int p0] (PB g ad σ b)) (va_Qi (fun (r' : Int32) (u : Mem) => r' = rr ∧ u = σ) (GW g ad) (AA g ad w b)) 0 0 (AA g ad w b) := by
  refine Met.ofW (cc := cX4_isRinger) (maxL := 2) (ret := (some .boolean)) (by decide) rfl ?_
  intro p e s m args below meth c s₁ B hml hv
  obtain ⟨rfl, hv⟩ := hv
  have S : CallFix p m c cX4_isRinger 2 s _ AL RX4 := ⟨B.exec, B.bytes, hml, findClass_of_methodNamed B.named, fun w h => atoms_spec (ws := wsy yX4_isRinger cX4_isRinger 2 (some .boolean)) B.pre w (List.mem_cons_of_mem _ h)⟩
  have hr := B.returns
  have hlk := B.notSynchronized
  have hG : GA g ad σ w b s s.heap [] := GA_start hv
  have hl := lv_entry ([.ref (ad t), .int p0]) (n := 2) (Nat.le_of_ble_eq_true rfl)
  rw [lg_entry_eq]
  generalize (lg_sl ([.ref (ad t), .int p0]) ++ List.replicate (2 - (lg_sl ([.ref (ad t), .int p0])).length) Slot.unset).toArray = ls at hl ⊢
  have hl : lv_has ls 2 [(0, .ref (ad t)), (1, .int p0)] := hl
  revert h
  unfold fn_X4_isRinger
  refine v_iload_n S hl 1 rfl rfl dX4_isRinger_0 ?_
  refine v_if_lt S 16 dX4_isRinger_1 (by decide) ?_ ?_
  · refine v_iconst S 0 dX4_isRinger_16 rfl ?_
    exact v_zretR S hG hr hlk rfl (Nat.le_of_ble_eq_true rfl) (Nat.le_of_ble_eq_true rfl) dX4_isRinger_17
  · refine v_iload_n S hl 1 rfl rfl dX4_isRinger_4 ?_
    refine v_aload_n S hl 0 rfl rfl dX4_isRinger_5 ?_
    refine gf_4_4 S hG q85 dX4_isRinger_6 ?_
    refine v_icmp_ge S 16 dX4_isRinger_9 (by decide) ?_ ?_
    · refine v_iconst S 0 dX4_isRinger_16 rfl ?_
      exact v_zretR S hG hr hlk rfl (Nat.le_of_ble_eq_true rfl) (Nat.le_of_ble_eq_true rfl) dX4_isRinger_17
    · refine v_iconst S 1 dX4_isRinger_12 rfl ?_
      refine v_goto S 17 dX4_isRinger_13 (by decide) ?_
      exact v_zretR S hG hr hlk rfl (Nat.le_of_ble_eq_true rfl) (Nat.le_of_ble_eq_true rfl) dX4_isRinger_17
set_option maxHeartbeats 4000000 in
set_option maxRecDepth 100000 in
theorem wl_X4_leastTiredAtRest_7 {p : Program} {l : Launch} {e : Env} {s : State} {m : MethodId} {args : Array Value} {below : List Frame} {meth : Method} {c : Code} {g : GT} {ad : Nat → Nat} {w : Bool} {b : Nat} (S : CallFix p m c cX4_leastTiredAtRest 7 s args AL RX4) (hr : meth.sig.returnType = some .int) (hlk : meth.locks = false) (σ : Mem) (a0 : Nat) (a1 : Int32) {rr : Int32} {K : Int32 → Int32 → Int32 → Option Int32} (kx : ∀ (y2 : Int32) (y3 : Int32) (y4 : Int32) (H : Heap) (locs : List Loc) (ls : Array Slot), lv_has ls 7 [(0, .ref (ad a0)), (1, .int a1), (2, .int y2), (3, .int y3), (4, .int y4)] → GA g ad σ w b s H locs → K y2 y3 y4 = some rr → W p l e ({ frames := 1, cells := 0, slots := 0, locals := 21 } : Room) s m args below meth c H locs 0 0 (MQ below (va_Qi (fun (r' : Int32) (u : Mem) => r' = rr ∧ u = σ) (GW g ad) (AA g ad w b)) args s 0 0 (AA g ad w b)) (F0 m 83 ls [])) : ∀ (fuel : Nat) (y2 : Int32) (y3 : Int32) (y4 : Int32) (H : Heap) (locs : List Loc) (ls : Array Slot), lv_has ls 7 [(0, .ref (ad a0)), (1, .int a1), (2, .int y2), (3, .int y3), (4, .int y4)] → GA g ad σ w b s H locs → lp_X4_leastTiredAtRest_7 σ a0 a1 K fuel y2 y3 y4 = some rr → W p l e ({ frames := 1, cells := 0, slots := 0, locals := 21 } : Room) s m args below meth c H locs 0 0 (MQ below (va_Qi (fun (r' : Int32) (u : Mem) => r' = rr ∧ u = σ) (GW g ad) (AA g ad w b)) args s 0 0 (AA g ad w b)) (F0 m 7 ls []) := by
  intro fuel
  induction fuel with
  | zero =>
    intro y2 y3 y4 H locs ls hl hG h
    rw [lp_X4_leastTiredAtRest_7.eq_1] at h
    cases h
  | succ fuel ih =>
    intro y2 y3 y4 H locs ls hl hG
    rw [lp_X4_leastTiredAtRest_7.eq_2]
    refine v_iload S hl 4 rfl dX4_leastTiredAtRest_7 ?_
    refine v_aload_n S hl 0 rfl rfl dX4_leastTiredAtRest_9 ?_
    refine gf_4_4 S hG q85 dX4_leastTiredAtRest_10 ?_
    refine v_icmp_ge S 83 dX4_leastTiredAtRest_13 (by decide) ?_ ?_
    · exact kx y2 y3 y4 _ _ ls (lv_sub hl [0, 1, 2, 3, 4] rfl) hG
    · refine v_aload_n S hl 0 rfl rfl dX4_leastTiredAtRest_16 ?_
      refine gr_4_1 S hG q86 dX4_leastTiredAtRest_17 (fun r1 => ?_)
      refine v_iload S hl 4 rfl dX4_leastTiredAtRest_20 ?_
      refine v_aald_10 S hG dX4_leastTiredAtRest_22 (fun r2 => ?_)
      refine v_astore S hl [(5, .ref (ad r2)), (0, .ref (ad a0)), (1, .int a1), (2, .int y2), (3, .int y3), (4, .int y4)] dX4_leastTiredAtRest_23 (by decide) rfl (fun ls hl => ?_)
      refine v_aload S hl 0 rfl dX4_leastTiredAtRest_25 ?_
      refine v_cV_iR S hG [] rfl rfl (by decide) (met_X2_rests l g ad w b σ r2) mw_X2_rests q176 dX4_leastTiredAtRest_27 rfl rfl hl.1 (Nat.le_of_ble_eq_true rfl) ⟨Nat.le_of_ble_eq_true rfl, Nat.le_of_ble_eq_true rfl⟩ rfl rfl ⟨Nat.le_of_ble_eq_true rfl, Nat.le_of_ble_eq_true rfl⟩ (fun r3 H locs hG => ?_)
      refine v_if_eq S 46 dX4_leastTiredAtRest_30 (by decide) ?_ ?_
      · refine v_iconst S 0 dX4_leastTiredAtRest_46 rfl ?_
        refine v_istore S hl [(6, .int 0), (5, .ref (ad r2)), (0, .ref (ad a0)), (1, .int a1), (2, .int y2), (3, .int y3), (4, .int y4)] dX4_leastTiredAtRest_47 (by decide) rfl (fun ls hl => ?_)
        refine v_iload S hl 0 rfl dX4_leastTiredAtRest_49 ?_
        refine v_if_eq_t S 77 (by decide) dX4_leastTiredAtRest_51 (by decide) ?_
        refine v_iinc S hl 6 rfl dX4_leastTiredAtRest_77 rfl (by decide) (fun z => [(4, .int z), (6, .int 0), (5, .ref (ad r2)), (0, .ref (ad a0)), (1, .int a1), (2, .int y2), (3, .int y3)]) (fun _ => rfl) (fun x4 ls hl => ?_)
        refine v_goto S 7 dX4_leastTiredAtRest_80 (by decide) ?_
        exact ih y2 y3 x4 _ _ ls (lv_sub hl [3, 4, 5, 6, 0] rfl) hG
      · refine v_aload S hl 0 rfl dX4_leastTiredAtRest_33 ?_
        refine v_iload_n S hl 2 rfl rfl dX4_leastTiredAtRest_35 ?_
        refine v_cV_iR S hG [.int a1] rfl rfl (by decide) (met_X2_canPull l g ad w b σ r2 a1) mw_X2_canPull q204 dX4_leastTiredAtRest_36 rfl rfl hl.1 (Nat.le_of_ble_eq_true rfl) ⟨Nat.le_of_ble_eq_true rfl, Nat.le_of_ble_eq_true rfl⟩ rfl rfl ⟨Nat.le_of_ble_eq_true rfl, Nat.le_of_ble_eq_true rfl⟩ (fun r5 H locs hG => ?_)
        refine v_if_eq S 46 dX4_leastTiredAtRest_39 (by decide) ?_ ?_
        · refine v_iconst S 0 dX4_leastTiredAtRest_46 rfl ?_
          refine v_istore S hl [(6, .int 0), (5, .ref (ad r2)), (0, .ref (ad a0)), (1, .int a1), (2, .int y2), (3, .int y3), (4, .int y4)] dX4_leastTiredAtRest_47 (by decide) rfl (fun ls hl => ?_)
          refine v_iload S hl 0 rfl dX4_leastTiredAtRest_49 ?_
          refine v_if_eq_t S 77 (by decide) dX4_leastTiredAtRest_51 (by decide) ?_
          refine v_iinc S hl 6 rfl dX4_leastTiredAtRest_77 rfl (by decide) (fun z => [(4, .int z), (6, .int 0), (5, .ref (ad r2)), (0, .ref (ad a0)), (1, .int a1), (2, .int y2), (3, .int y3)]) (fun _ => rfl) (fun x6 ls hl => ?_)
          refine v_goto S 7 dX4_leastTiredAtRest_80 (by decide) ?_
          exact ih y2 y3 x6 _ _ ls (lv_sub hl [3, 4, 5, 6, 0] rfl) hG
        · refine v_iconst S 1 dX4_leastTiredAtRest_42 rfl ?_
          refine v_goto S 47 dX4_leastTiredAtRest_43 (by decide) ?_
          refine v_istore S hl [(6, .int 1), (5, .ref (ad r2)), (0, .ref (ad a0)), (1, .int a1), (2, .int y2), (3, .int y3), (4, .int y4)] dX4_leastTiredAtRest_47 (by decide) rfl (fun ls hl => ?_)
          refine v_iload S hl 0 rfl dX4_leastTiredAtRest_49 ?_
          refine v_if_eq_f S 77 (by decide) dX4_leastTiredAtRest_51 (by decide) ?_
          refine v_iload_n S hl 4 rfl rfl dX4_leastTiredAtRest_54 ?_
          refine v_iconst S (-1) dX4_leastTiredAtRest_55 rfl ?_
          refine v_icmp_eq S 68 dX4_leastTiredAtRest_56 (by decide) ?_ ?_
          · refine v_iload S hl 6 rfl dX4_leastTiredAtRest_68 ?_
            refine v_istore_n S hl [(2, .int y4), (6, .int 1), (5, .ref (ad r2)), (0, .ref (ad a0)), (1, .int a1), (3, .int y3), (4, .int y4)] rfl dX4_leastTiredAtRest_70 (by decide) rfl (fun ls hl => ?_)
            refine v_aload S hl 2 rfl dX4_leastTiredAtRest_71 ?_
            refine gf_2_1 S hG q208 dX4_leastTiredAtRest_73 ?_
            refine v_nm (fun x7 => ?_)
            refine v_istore_n S hl [(3, .int x7), (2, .int y4), (6, .int 1), (5, .ref (ad r2)), (0, .ref (ad a0)), (1, .int a1), (4, .int y4)] rfl dX4_leastTiredAtRest_76 (by decide) rfl (fun ls hl => ?_)
            refine v_iinc S hl 6 rfl dX4_leastTiredAtRest_77 rfl (by decide) (fun z => [(4, .int z), (3, .int x7), (2, .int y4), (6, .int 1), (5, .ref (ad r2)), (0, .ref (ad a0)), (1, .int a1)]) (fun _ => rfl) (fun x8 ls hl => ?_)
            refine v_goto S 7 dX4_leastTiredAtRest_80 (by decide) ?_
            exact ih y4 x7 x8 _ _ ls (lv_sub hl [5, 6, 2, 1, 0] rfl) hG
          · refine v_aload S hl 1 rfl dX4_leastTiredAtRest_59 ?_
            refine gf_2_1 S hG q208 dX4_leastTiredAtRest_61 ?_
            refine v_iload_n S hl 5 rfl rfl dX4_leastTiredAtRest_64 ?_
            refine v_icmp_ge S 77 dX4_leastTiredAtRest_65 (by decide) ?_ ?_
            · refine v_iinc S hl 6 rfl dX4_leastTiredAtRest_77 rfl (by decide) (fun z => [(4, .int z), (6, .int 1), (5, .ref (ad r2)), (0, .ref (ad a0)), (1, .int a1), (2, .int y2), (3, .int y3)]) (fun _ => rfl) (fun x9 ls hl => ?_)
              refine v_goto S 7 dX4_leastTiredAtRest_80 (by decide) ?_
              exact ih y2 y3 x9 _ _ ls (lv_sub hl [3, 4, 5, 6, 0] rfl) hG
            · refine v_iload S hl 6 rfl dX4_leastTiredAtRest_68 ?_
              refine v_istore_n S hl [(2, .int y4), (6, .int 1), (5, .ref (ad r2)), (0, .ref (ad a0)), (1, .int a1), (3, .int y3), (4, .int y4)] rfl dX4_leastTiredAtRest_70 (by decide) rfl (fun ls hl => ?_)
              refine v_aload S hl 2 rfl dX4_leastTiredAtRest_71 ?_
              refine gf_2_1 S hG q208 dX4_leastTiredAtRest_73 ?_
              refine v_nm (fun x10 => ?_)
              refine v_istore_n S hl [(3, .int x10), (2, .int y4), (6, .int 1), (5, .ref (ad r2)), (0, .ref (ad a0)), (1, .int a1), (4, .int y4)] rfl dX4_leastTiredAtRest_76 (by decide) rfl (fun ls hl => ?_)
              refine v_iinc S hl 6 rfl dX4_leastTiredAtRest_77 rfl (by decide) (fun z => [(4, .int z), (3, .int x10), (2, .int y4), (6, .int 1), (5, .ref (ad r2)), (0, .ref (ad a0)), (1, .int a1)]) (fun _ => rfl) (fun x11 ls hl => ?_)
              refine v_goto S 7 dX4_leastTiredAtRest_80 (by decide) ?_
              exact ih y4 x10 x11 _ _ ls (lv_sub hl [5, 6, 2, 1, 0] rfl) hG
set_option maxHeartbeats 4000000 in
set_option maxRecDepth 100000 in
theorem met_X4_leastTiredAtRest (l : Launch) (g : GT) (ad : Nat → Nat) (w : Bool) (b : Nat) (σ : Mem) (t : Nat) (p0 : Int32) (rr : Int32) (h : fn_X4_leastTiredAtRest σ t p0 = some rr) : Met l yX4_leastTiredAtRest (wsy yX4_leastTiredAtRest cX4_leastTiredAtRest 7 (some .int)) ({ frames := 1, cells := 0, slots := 0, locals := 21 } : Room) (va_Pc [.ref (ad t), .int p0] (PB g ad σ b)) (va_Qi (fun (r' : Int32) (u : Mem) => r' = rr ∧ u = σ) (GW g ad) (AA g ad w b)) 0 0 (AA g ad w b) := by
  refine Met.ofW (cc := cX4_leastTiredAtRest) (maxL := 7) (ret := (some .int)) (by decide) rfl ?_
  intro p e s m args below meth c s₁ B hml hv
  obtain ⟨rfl, hv⟩ := hv
  have S : CallFix p m c cX4_leastTiredAtRest 7 s _ AL RX4 := ⟨B.exec, B.bytes, hml, findClass_of_methodNamed B.named, fun w h => atoms_spec (ws := wsy yX4_leastTiredAtRest cX4_leastTiredAtRest 7 (some .int)) B.pre w (List.mem_cons_of_mem _ h)⟩
  have hr := B.returns
  have hlk := B.notSynchronized
  have hG : GA g ad σ w b s s.heap [] := GA_start hv
  have hl := lv_entry ([.ref (ad t), .int p0]) (n := 7) (Nat.le_of_ble_eq_true rfl)
  rw [lg_entry_eq]
  generalize (lg_sl ([.ref (ad t), .int p0]) ++ List.replicate (7 - (lg_sl ([.ref (ad t), .int p0])).length) Slot.unset).toArray = ls at hl ⊢
  have hl : lv_has ls 7 [(0, .ref (ad t)), (1, .int p0)] := hl
  revert h
  unfold fn_X4_leastTiredAtRest
  refine v_iconst S (-1) dX4_leastTiredAtRest_0 rfl ?_
  refine v_istore_n S hl [(2, .int (-1)), (0, .ref (ad t)), (1, .int p0)] rfl dX4_leastTiredAtRest_1 (by decide) rfl (fun ls hl => ?_)
  refine v_iconst S 0 dX4_leastTiredAtRest_2 rfl ?_
  refine v_istore_n S hl [(3, .int 0), (2, .int (-1)), (0, .ref (ad t)), (1, .int p0)] rfl dX4_leastTiredAtRest_3 (by decide) rfl (fun ls hl => ?_)
  refine v_iconst S 0 dX4_leastTiredAtRest_4 rfl ?_
  refine v_istore S hl [(4, .int 0), (3, .int 0), (2, .int (-1)), (0, .ref (ad t)), (1, .int p0)] dX4_leastTiredAtRest_5 (by decide) rfl (fun ls hl => ?_)
  refine wl_X4_leastTiredAtRest_7 S hr hlk σ t p0 (fun x12 x13 x14 H locs ls hl hG => ?_) 30 (-1) 0 0 _ _ ls (lv_sub hl [3, 4, 2, 1, 0] rfl) hG
  refine v_iload_n S hl 2 rfl rfl dX4_leastTiredAtRest_83 ?_
  exact v_iretR S hG hr hlk (Nat.le_of_ble_eq_true rfl) (Nat.le_of_ble_eq_true rfl) dX4_leastTiredAtRest_84
set_option maxHeartbeats 4000000 in
set_option maxRecDepth 100000 in
theorem met_X4_findPuller (l : Launch) (g : GT) (ad : Nat → Nat) (_ : Bool) (b : Nat) (σ : Mem) (t : Nat) (p0 : Int32) (rr : Int32) (σr : Mem) (h : fn_X4_findPuller σ t p0 = some (rr, σr)) : Met l yX4_findPuller (wsy yX4_findPuller cX4_findPuller 4 (some .int)) ({ frames := 2, cells := 0, slots := 0, locals := 47 } : Room) (va_Pc [.ref (ad t), .int p0] (PB g ad σ b)) (va_Qi (fun (r' : Int32) (u : Mem) => r' = rr ∧ u = σr) (GW g ad) (AA g ad true b)) 0 0 (AA g ad true b) := by
  refine Met.ofW (cc := cX4_findPuller) (maxL := 4) (ret := (some .int)) (by decide) rfl ?_
  intro p e s m args below meth c s₁ B hml hv
  obtain ⟨rfl, hv⟩ := hv
  have S : CallFix p m c cX4_findPuller 4 s _ AL RX4 := ⟨B.exec, B.bytes, hml, findClass_of_methodNamed B.named, fun w h => atoms_spec (ws := wsy yX4_findPuller cX4_findPuller 4 (some .int)) B.pre w (List.mem_cons_of_mem _ h)⟩
  have hr := B.returns
  have hlk := B.notSynchronized
  have hG : GA g ad σ true b s s.heap [] := GA_start hv
  have hl := lv_entry ([.ref (ad t), .int p0]) (n := 4) (Nat.le_of_ble_eq_true rfl)
  rw [lg_entry_eq]
  generalize (lg_sl ([.ref (ad t), .int p0]) ++ List.replicate (4 - (lg_sl ([.ref (ad t), .int p0])).length) Slot.unset).toArray = ls at hl ⊢
  have hl : lv_has ls 4 [(0, .ref (ad t)), (1, .int p0)] := hl
  revert h
  unfold fn_X4_findPuller
  refine v_aload_n S hl 0 rfl rfl dX4_findPuller_0 ?_
  refine gr_4_0 S hG q66 dX4_findPuller_1 (fun r1 => ?_)
  refine v_iload_n S hl 1 rfl rfl dX4_findPuller_4 ?_
  refine v_aald_9 S hG dX4_findPuller_5 (fun r2 => ?_)
  refine v_astore_n S hl [(2, .ref (ad r2)), (0, .ref (ad t)), (1, .int p0)] rfl dX4_findPuller_6 (by decide) rfl (fun ls hl => ?_)
  refine v_aload_n S hl 1 rfl rfl dX4_findPuller_7 ?_
  refine v_aload_n S hl 0 rfl rfl dX4_findPuller_8 ?_
  refine gf_0_4 S hG q72 dX4_findPuller_9 ?_
  refine v_cV_iR S hG [.int (σ r2 4)] rfl rfl (by decide) (met_X4_isRinger l g ad true b σ t (σ r2 4)) mw_X4_isRinger q209 dX4_findPuller_12 rfl rfl hl.1 (Nat.le_of_ble_eq_true rfl) ⟨Nat.le_of_ble_eq_true rfl, Nat.le_of_ble_eq_true rfl⟩ rfl rfl ⟨Nat.le_of_ble_eq_true rfl, Nat.le_of_ble_eq_true rfl⟩ (fun r3 H locs hG => ?_)
  refine v_if_eq S 42 dX4_findPuller_15 (by decide) ?_ ?_
  · refine v_aload_n S hl 1 rfl rfl dX4_findPuller_42 ?_
    refine v_aload_n S hl 0 rfl rfl dX4_findPuller_43 ?_
    refine gf_0_2 S hG q67 dX4_findPuller_44 ?_
    refine v_cV_iR S hG [.int (σ r2 2)] rfl rfl (by decide) (met_X4_leastTiredAtRest l g ad true b σ t (σ r2 2)) mw_X4_leastTiredAtRest q213 dX4_findPuller_47 rfl rfl hl.1 (Nat.le_of_ble_eq_true rfl) ⟨Nat.le_of_ble_eq_true rfl, Nat.le_of_ble_eq_true rfl⟩ rfl rfl ⟨Nat.le_of_ble_eq_true rfl, Nat.le_of_ble_eq_true rfl⟩ (fun r4 H locs hG => ?_)
    refine v_istore_n S hl [(3, .int r4), (2, .ref (ad r2)), (0, .ref (ad t)), (1, .int p0)] rfl dX4_findPuller_50 (by decide) rfl (fun ls hl => ?_)
    refine v_aload_n S hl 2 rfl rfl dX4_findPuller_51 ?_
    refine v_iload_n S hl 0 rfl rfl dX4_findPuller_52 ?_
    refine v_cV_iR S hG [.int r4] rfl rfl (by decide) (met_X4_isRinger l g ad true b σ t r4) mw_X4_isRinger q209 dX4_findPuller_53 rfl rfl hl.1 (Nat.le_of_ble_eq_true rfl) ⟨Nat.le_of_ble_eq_true rfl, Nat.le_of_ble_eq_true rfl⟩ rfl rfl ⟨Nat.le_of_ble_eq_true rfl, Nat.le_of_ble_eq_true rfl⟩ (fun r5 H locs hG => ?_)
    refine v_if_eq S 80 dX4_findPuller_56 (by decide) ?_ ?_
    · refine v_iload_n S hl 0 rfl rfl dX4_findPuller_80 ?_
      exact v_iretm S hG hr hlk (Nat.le_of_ble_eq_true rfl) (Nat.le_of_ble_eq_true rfl) dX4_findPuller_81
    · refine v_aload_n S hl 2 rfl rfl dX4_findPuller_59 ?_
      refine v_iload_n S hl 3 rfl rfl dX4_findPuller_60 ?_
      refine v_iload_n S hl 0 rfl rfl dX4_findPuller_61 ?_
      refine v_cV_vm S hG [.int p0, .int r4] rfl rfl (by decide) (met_X4_bringToRope l g ad true b σ t p0 r4) mw_X4_bringToRope q217 dX4_findPuller_62 rfl rfl hl.1 (Nat.le_of_ble_eq_true rfl) ⟨Nat.le_of_ble_eq_true rfl, Nat.le_of_ble_eq_true rfl⟩ rfl rfl ⟨Nat.le_of_ble_eq_true rfl, Nat.le_of_ble_eq_true rfl⟩ (fun σ6 H locs hG => ?_)
      refine v_aload_n S hl 2 rfl rfl dX4_findPuller_65 ?_
      refine gr_4_1 S hG q86 dX4_findPuller_66 (fun r7 => ?_)
      refine v_iload_n S hl 0 rfl rfl dX4_findPuller_69 ?_
      refine v_aald_10 S hG dX4_findPuller_70 (fun r8 => ?_)
      refine v_dup S dX4_findPuller_71 rfl ?_
      refine gf_2_4 S hG q218 dX4_findPuller_72 ?_
      refine v_iconst S 1 dX4_findPuller_75 rfl ?_
      refine v_iadd S dX4_findPuller_76 ?_
      refine pf_2_4 S hG q218 dX4_findPuller_77 (fun σ9 H locs hG => ?_)
      refine v_iload_n S hl 0 rfl rfl dX4_findPuller_80 ?_
      exact v_iretm S hG hr hlk (Nat.le_of_ble_eq_true rfl) (Nat.le_of_ble_eq_true rfl) dX4_findPuller_81
  · refine v_aload_n S hl 1 rfl rfl dX4_findPuller_18 ?_
    refine gr_4_1 S hG q86 dX4_findPuller_19 (fun r10 => ?_)
    refine v_aload_n S hl 0 rfl rfl dX4_findPuller_22 ?_
    refine gf_0_4 S hG q72 dX4_findPuller_23 ?_
    refine v_aald_10 S hG dX4_findPuller_26 (fun r11 => ?_)
    refine v_aload_n S hl 0 rfl rfl dX4_findPuller_27 ?_
    refine gf_0_2 S hG q67 dX4_findPuller_28 ?_
    refine v_cV_iR S hG [.int (σ r2 2)] rfl rfl (by decide) (met_X2_canPull l g ad true b σ r11 (σ r2 2)) mw_X2_canPull q204 dX4_findPuller_31 rfl rfl hl.1 (Nat.le_of_ble_eq_true rfl) ⟨Nat.le_of_ble_eq_true rfl, Nat.le_of_ble_eq_true rfl⟩ rfl rfl ⟨Nat.le_of_ble_eq_true rfl, Nat.le_of_ble_eq_true rfl⟩ (fun r12 H locs hG => ?_)
    refine v_if_eq S 42 dX4_findPuller_34 (by decide) ?_ ?_
    · refine v_aload_n S hl 1 rfl rfl dX4_findPuller_42 ?_
      refine v_aload_n S hl 0 rfl rfl dX4_findPuller_43 ?_
      refine gf_0_2 S hG q67 dX4_findPuller_44 ?_
      refine v_cV_iR S hG [.int (σ r2 2)] rfl rfl (by decide) (met_X4_leastTiredAtRest l g ad true b σ t (σ r2 2)) mw_X4_leastTiredAtRest q213 dX4_findPuller_47 rfl rfl hl.1 (Nat.le_of_ble_eq_true rfl) ⟨Nat.le_of_ble_eq_true rfl, Nat.le_of_ble_eq_true rfl⟩ rfl rfl ⟨Nat.le_of_ble_eq_true rfl, Nat.le_of_ble_eq_true rfl⟩ (fun r13 H locs hG => ?_)
      refine v_istore_n S hl [(3, .int r13), (2, .ref (ad r2)), (0, .ref (ad t)), (1, .int p0)] rfl dX4_findPuller_50 (by decide) rfl (fun ls hl => ?_)
      refine v_aload_n S hl 2 rfl rfl dX4_findPuller_51 ?_
      refine v_iload_n S hl 0 rfl rfl dX4_findPuller_52 ?_
      refine v_cV_iR S hG [.int r13] rfl rfl (by decide) (met_X4_isRinger l g ad true b σ t r13) mw_X4_isRinger q209 dX4_findPuller_53 rfl rfl hl.1 (Nat.le_of_ble_eq_true rfl) ⟨Nat.le_of_ble_eq_true rfl, Nat.le_of_ble_eq_true rfl⟩ rfl rfl ⟨Nat.le_of_ble_eq_true rfl, Nat.le_of_ble_eq_true rfl⟩ (fun r14 H locs hG => ?_)
      refine v_if_eq S 80 dX4_findPuller_56 (by decide) ?_ ?_
      · refine v_iload_n S hl 0 rfl rfl dX4_findPuller_80 ?_
        exact v_iretm S hG hr hlk (Nat.le_of_ble_eq_true rfl) (Nat.le_of_ble_eq_true rfl) dX4_findPuller_81
      · refine v_aload_n S hl 2 rfl rfl dX4_findPuller_59 ?_
        refine v_iload_n S hl 3 rfl rfl dX4_findPuller_60 ?_
        refine v_iload_n S hl 0 rfl rfl dX4_findPuller_61 ?_
        refine v_cV_vm S hG [.int p0, .int r13] rfl rfl (by decide) (met_X4_bringToRope l g ad true b σ t p0 r13) mw_X4_bringToRope q217 dX4_findPuller_62 rfl rfl hl.1 (Nat.le_of_ble_eq_true rfl) ⟨Nat.le_of_ble_eq_true rfl, Nat.le_of_ble_eq_true rfl⟩ rfl rfl ⟨Nat.le_of_ble_eq_true rfl, Nat.le_of_ble_eq_true rfl⟩ (fun σ15 H locs hG => ?_)
        refine v_aload_n S hl 2 rfl rfl dX4_findPuller_65 ?_
        refine gr_4_1 S hG q86 dX4_findPuller_66 (fun r16 => ?_)
        refine v_iload_n S hl 0 rfl rfl dX4_findPuller_69 ?_
        refine v_aald_10 S hG dX4_findPuller_70 (fun r17 => ?_)
        refine v_dup S dX4_findPuller_71 rfl ?_
        refine gf_2_4 S hG q218 dX4_findPuller_72 ?_
        refine v_iconst S 1 dX4_findPuller_75 rfl ?_
        refine v_iadd S dX4_findPuller_76 ?_
        refine pf_2_4 S hG q218 dX4_findPuller_77 (fun σ18 H locs hG => ?_)
        refine v_iload_n S hl 0 rfl rfl dX4_findPuller_80 ?_
        exact v_iretm S hG hr hlk (Nat.le_of_ble_eq_true rfl) (Nat.le_of_ble_eq_true rfl) dX4_findPuller_81
    · refine v_aload_n S hl 0 rfl rfl dX4_findPuller_37 ?_
      refine gf_0_4 S hG q72 dX4_findPuller_38 ?_
      exact v_iretm S hG hr hlk (Nat.le_of_ble_eq_true rfl) (Nat.le_of_ble_eq_true rfl) dX4_findPuller_41
set_option maxHeartbeats 4000000 in
set_option maxRecDepth 100000 in
theorem met_X4_goOn (l : Launch) (g : GT) (ad : Nat → Nat) (_ : Bool) (b : Nat) (σ : Mem) (t : Nat) (p0 : Int32) (rr : Int32) (σr : Mem) (h : fn_X4_goOn σ t p0 = some (rr, σr)) : Met l yX4_goOn (wsy yX4_goOn cX4_goOn 3 (some .int)) ({ frames := 3, cells := 0, slots := 0, locals := 70 } : Room) (va_Pc [.ref (ad t), .int p0] (PB g ad σ b)) (va_Qi (fun (r' : Int32) (u : Mem) => r' = rr ∧ u = σr) (GW g ad) (AA g ad true b)) 0 0 (AA g ad true b) := by
  refine Met.ofW (cc := cX4_goOn) (maxL := 3) (ret := (some .int)) (by decide) rfl ?_
  intro p e s m args below meth c s₁ B hml hv
  obtain ⟨rfl, hv⟩ := hv
  have S : CallFix p m c cX4_goOn 3 s _ AL RX4 := ⟨B.exec, B.bytes, hml, findClass_of_methodNamed B.named, fun w h => atoms_spec (ws := wsy yX4_goOn cX4_goOn 3 (some .int)) B.pre w (List.mem_cons_of_mem _ h)⟩
  have hr := B.returns
  have hlk := B.notSynchronized
  have hG : GA g ad σ true b s s.heap [] := GA_start hv
  have hl := lv_entry ([.ref (ad t), .int p0]) (n := 3) (Nat.le_of_ble_eq_true rfl)
  rw [lg_entry_eq]
  generalize (lg_sl ([.ref (ad t), .int p0]) ++ List.replicate (3 - (lg_sl ([.ref (ad t), .int p0])).length) Slot.unset).toArray = ls at hl ⊢
  have hl : lv_has ls 3 [(0, .ref (ad t)), (1, .int p0)] := hl
  revert h
  unfold fn_X4_goOn
  refine v_aload_n S hl 0 rfl rfl dX4_goOn_0 ?_
  refine gr_4_0 S hG q66 dX4_goOn_1 (fun r1 => ?_)
  refine v_iload_n S hl 1 rfl rfl dX4_goOn_4 ?_
  refine v_aald_9 S hG dX4_goOn_5 (fun r2 => ?_)
  refine v_astore_n S hl [(2, .ref (ad r2)), (0, .ref (ad t)), (1, .int p0)] rfl dX4_goOn_6 (by decide) rfl (fun ls hl => ?_)
  refine v_aload_n S hl 1 rfl rfl dX4_goOn_7 ?_
  refine v_aload_n S hl 0 rfl rfl dX4_goOn_8 ?_
  refine gf_0_5 S hG q73 dX4_goOn_9 ?_
  refine v_cV_iR S hG [.int (σ r2 5)] rfl rfl (by decide) (met_X4_isToll l g ad true b σ t (σ r2 5)) mw_X4_isToll q219 dX4_goOn_12 rfl rfl hl.1 (Nat.le_of_ble_eq_true rfl) ⟨Nat.le_of_ble_eq_true rfl, Nat.le_of_ble_eq_true rfl⟩ rfl rfl ⟨Nat.le_of_ble_eq_true rfl, Nat.le_of_ble_eq_true rfl⟩ (fun r3 H locs hG => ?_)
  refine v_if_ne S 20 dX4_goOn_15 (by decide) ?_ ?_
  · refine v_aload_n S hl 0 rfl rfl dX4_goOn_20 ?_
    refine gf_0_6 S hG q74 dX4_goOn_21 ?_
    refine v_if_le S 39 dX4_goOn_24 (by decide) ?_ ?_
    · refine v_aload_n S hl 1 rfl rfl dX4_goOn_39 ?_
      refine v_iload_n S hl 2 rfl rfl dX4_goOn_40 ?_
      refine v_cV_im S hG [.int p0] rfl rfl (by decide) (met_X4_findPuller l g ad true b σ t p0) mw_X4_findPuller q223 dX4_goOn_41 rfl rfl hl.1 (Nat.le_of_ble_eq_true rfl) ⟨Nat.le_of_ble_eq_true rfl, Nat.le_of_ble_eq_true rfl⟩ rfl rfl ⟨Nat.le_of_ble_eq_true rfl, Nat.le_of_ble_eq_true rfl⟩ (fun r4 σ5 H locs hG => ?_)
      exact v_iretm S hG hr hlk (Nat.le_of_ble_eq_true rfl) (Nat.le_of_ble_eq_true rfl) dX4_goOn_44
    · refine v_aload_n S hl 0 rfl rfl dX4_goOn_27 ?_
      refine v_dup S dX4_goOn_28 rfl ?_
      refine gf_0_6 S hG q74 dX4_goOn_29 ?_
      refine v_iconst S 1 dX4_goOn_32 rfl ?_
      refine v_isub S dX4_goOn_33 ?_
      refine pf_0_6 S hG q74 dX4_goOn_34 (fun σ6 H locs hG => ?_)
      refine v_iconst S (-1) dX4_goOn_37 rfl ?_
      exact v_iretm S hG hr hlk (Nat.le_of_ble_eq_true rfl) (Nat.le_of_ble_eq_true rfl) dX4_goOn_38
  · refine v_iconst S (-1) dX4_goOn_18 rfl ?_
    exact v_iretm S hG hr hlk (Nat.le_of_ble_eq_true rfl) (Nat.le_of_ble_eq_true rfl) dX4_goOn_19
set_option maxHeartbeats 4000000 in
set_option maxRecDepth 100000 in
theorem met_X4_strike (l : Launch) (g : GT) (ad : Nat → Nat) (_ : Bool) (b : Nat) (σ : Mem) (t : Nat) (p0 : Nat) (p1 : Nat) (σr : Mem) (h : fn_X4_strike σ t p0 p1 = some σr) : Met l yX4_strike (wsy yX4_strike cX4_strike 6 none) ({ frames := 3, cells := 0, slots := 0, locals := 65 } : Room) (va_Pc [.ref (ad t), .ref (ad p0), .ref (ad p1)] (PB g ad σ b)) (va_Qv (fun (u : Mem) => u = σr) (GW g ad) (AA g ad true b)) 0 0 (AA g ad true b) := by
  refine Met.ofW (cc := cX4_strike) (maxL := 6) (ret := none) (by decide) rfl ?_
  intro p e s m args below meth c s₁ B hml hv
  obtain ⟨rfl, hv⟩ := hv
  have S : CallFix p m c cX4_strike 6 s _ AL RX4 := ⟨B.exec, B.bytes, hml, findClass_of_methodNamed B.named, fun w h => atoms_spec (ws := wsy yX4_strike cX4_strike 6 none) B.pre w (List.mem_cons_of_mem _ h)⟩
  have hr := B.returns
  have hlk := B.notSynchronized
  have hG : GA g ad σ true b s s.heap [] := GA_start hv
  have hl := lv_entry ([.ref (ad t), .ref (ad p0), .ref (ad p1)]) (n := 6) (Nat.le_of_ble_eq_true rfl)
  rw [lg_entry_eq]
  generalize (lg_sl ([.ref (ad t), .ref (ad p0), .ref (ad p1)]) ++ List.replicate (6 - (lg_sl ([.ref (ad t), .ref (ad p0), .ref (ad p1)])).length) Slot.unset).toArray = ls at hl ⊢
  have hl : lv_has ls 6 [(0, .ref (ad t)), (1, .ref (ad p0)), (2, .ref (ad p1))] := hl
  revert h
  unfold fn_X4_strike
  refine v_aload_n S hl 1 rfl rfl dX4_strike_0 ?_
  refine gf_0_5 S hG q73 dX4_strike_1 ?_
  refine v_nm (fun x1 => ?_)
  refine v_istore_n S hl [(3, .int x1), (0, .ref (ad t)), (1, .ref (ad p0)), (2, .ref (ad p1))] rfl dX4_strike_4 (by decide) rfl (fun ls hl => ?_)
  refine v_aload_n S hl 1 rfl rfl dX4_strike_5 ?_
  refine gr_4_2 S hG q59 dX4_strike_6 (fun r2 => ?_)
  refine v_iload_n S hl 0 rfl rfl dX4_strike_9 ?_
  refine v_aald_11 S hG dX4_strike_10 (fun r3 => ?_)
  refine v_astore S hl [(4, .ref (ad r3)), (3, .int x1), (0, .ref (ad t)), (1, .ref (ad p0)), (2, .ref (ad p1))] dX4_strike_11 (by decide) rfl (fun ls hl => ?_)
  refine v_aload_n S hl 4 rfl rfl dX4_strike_13 ?_
  refine v_aload_n S hl 3 rfl rfl dX4_strike_14 ?_
  refine gf_0_2 S hG q67 dX4_strike_15 ?_
  refine v_cV_vm S hG [.int (σ p0 2)] rfl rfl (by decide) (met_X2_pull l g ad true b σ p1 (σ p0 2)) mw_X2_pull q230 dX4_strike_18 rfl rfl hl.1 (Nat.le_of_ble_eq_true rfl) ⟨Nat.le_of_ble_eq_true rfl, Nat.le_of_ble_eq_true rfl⟩ rfl rfl ⟨Nat.le_of_ble_eq_true rfl, Nat.le_of_ble_eq_true rfl⟩ (fun σ4 H locs hG => ?_)
  refine v_aload_n S hl 3 rfl rfl dX4_strike_21 ?_
  refine v_aload_n S hl 3 rfl rfl dX4_strike_22 ?_
  refine gf_0_3 S hG q71 dX4_strike_23 ?_
  refine v_cV_rR S hG [.int (σ4 p0 3)] rfl rfl (by decide) (met_X0_leather l g ad true b σ4 p0 (σ4 p0 3)) mw_X0_leather q178 dX4_strike_26 rfl rfl hl.1 (Nat.le_of_ble_eq_true rfl) ⟨Nat.le_of_ble_eq_true rfl, Nat.le_of_ble_eq_true rfl⟩ rfl rfl ⟨Nat.le_of_ble_eq_true rfl, Nat.le_of_ble_eq_true rfl⟩ (fun r5 H locs hG => ?_)
  refine v_astore S hl [(5, .ref (ad r5)), (4, .ref (ad r3)), (3, .int x1), (0, .ref (ad t)), (1, .ref (ad p0)), (2, .ref (ad p1))] dX4_strike_29 (by decide) rfl (fun ls hl => ?_)
  refine v_aload S hl 1 rfl dX4_strike_31 ?_
  refine v_aload S hl 0 rfl dX4_strike_33 ?_
  refine gf_1_0 S hG q69 dX4_strike_35 ?_
  refine v_if_ne S 45 dX4_strike_38 (by decide) ?_ ?_
  · refine v_iconst S 0 dX4_strike_45 rfl ?_
    refine v_aload S hl 0 rfl dX4_strike_46 ?_
    refine v_aload_n S hl 4 rfl rfl dX4_strike_48 ?_
    refine gf_0_2 S hG q67 dX4_strike_49 ?_
    refine v_cV_iR S hG [.int (σ4 p0 2)] rfl rfl (by decide) (met_X1_reach l g ad true b σ4 r5 (σ4 p0 2)) mw_X1_reach q234 dX4_strike_52 rfl rfl hl.1 (Nat.le_of_ble_eq_true rfl) ⟨Nat.le_of_ble_eq_true rfl, Nat.le_of_ble_eq_true rfl⟩ rfl rfl ⟨Nat.le_of_ble_eq_true rfl, Nat.le_of_ble_eq_true rfl⟩ (fun r6 H locs hG => ?_)
    refine v_cV_vm S hG [.int 0, .int r6] rfl rfl (by decide) (met_X3_sound l g ad true b σ4 r3 0 r6) mw_X3_sound q238 dX4_strike_55 rfl rfl hl.1 (Nat.le_of_ble_eq_true rfl) ⟨Nat.le_of_ble_eq_true rfl, Nat.le_of_ble_eq_true rfl⟩ rfl rfl ⟨Nat.le_of_ble_eq_true rfl, Nat.le_of_ble_eq_true rfl⟩ (fun σ7 H locs hG => ?_)
    refine v_aload S hl 0 rfl dX4_strike_58 ?_
    refine v_aload_n S hl 4 rfl rfl dX4_strike_60 ?_
    refine gf_0_2 S hG q67 dX4_strike_61 ?_
    refine v_cV_vm S hG [.int (σ7 p0 2)] rfl rfl (by decide) (met_X1_wear l g ad true b σ7 r5 (σ7 p0 2)) mw_X1_wear q242 dX4_strike_64 rfl rfl hl.1 (Nat.le_of_ble_eq_true rfl) ⟨Nat.le_of_ble_eq_true rfl, Nat.le_of_ble_eq_true rfl⟩ rfl rfl ⟨Nat.le_of_ble_eq_true rfl, Nat.le_of_ble_eq_true rfl⟩ (fun σ8 H locs hG => ?_)
    refine v_aload_n S hl 4 rfl rfl dX4_strike_67 ?_
    refine v_cV_vm S hG [] rfl rfl (by decide) (met_X0_turn l g ad true b σ8 p0) mw_X0_turn q246 dX4_strike_68 rfl rfl hl.1 (Nat.le_of_ble_eq_true rfl) ⟨Nat.le_of_ble_eq_true rfl, Nat.le_of_ble_eq_true rfl⟩ rfl rfl ⟨Nat.le_of_ble_eq_true rfl, Nat.le_of_ble_eq_true rfl⟩ (fun σ9 H locs hG => ?_)
    refine v_aload S hl 1 rfl dX4_strike_71 ?_
    refine gf_3_5 S hG q250 dX4_strike_73 ?_
    refine v_aload S hl 1 rfl dX4_strike_76 ?_
    refine v_cV_iR S hG [] rfl rfl (by decide) (met_X3_strokesDue l g ad true b σ9 r3) mw_X3_strokesDue q251 dX4_strike_78 rfl rfl hl.1 (Nat.le_of_ble_eq_true rfl) ⟨Nat.le_of_ble_eq_true rfl, Nat.le_of_ble_eq_true rfl⟩ rfl rfl ⟨Nat.le_of_ble_eq_true rfl, Nat.le_of_ble_eq_true rfl⟩ (fun r10 H locs hG => ?_)
    refine v_icmp_lt S 92 dX4_strike_81 (by decide) ?_ ?_
    · refine v_aload_n S hl 4 rfl rfl dX4_strike_92 ?_
      refine v_aload S hl 1 rfl dX4_strike_93 ?_
      refine v_cV_iR S hG [] rfl rfl (by decide) (met_X3_pauseNow l g ad true b σ9 r3) mw_X3_pauseNow q252 dX4_strike_95 rfl rfl hl.1 (Nat.le_of_ble_eq_true rfl) ⟨Nat.le_of_ble_eq_true rfl, Nat.le_of_ble_eq_true rfl⟩ rfl rfl ⟨Nat.le_of_ble_eq_true rfl, Nat.le_of_ble_eq_true rfl⟩ (fun r11 H locs hG => ?_)
      refine pf_0_6 S hG q74 dX4_strike_98 (fun σ12 H locs hG => ?_)
      exact v_vretm S hG hr hlk (Nat.le_of_ble_eq_true rfl) (Nat.le_of_ble_eq_true rfl) dX4_strike_101
    · refine v_aload_n S hl 3 rfl rfl dX4_strike_84 ?_
      refine v_iload_n S hl 2 rfl rfl dX4_strike_85 ?_
      refine v_cV_vm S hG [.int x1] rfl rfl (by decide) (met_X4_endToll l g ad true b σ9 t x1) mw_X4_endToll q256 dX4_strike_86 rfl rfl hl.1 (Nat.le_of_ble_eq_true rfl) ⟨Nat.le_of_ble_eq_true rfl, Nat.le_of_ble_eq_true rfl⟩ rfl rfl ⟨Nat.le_of_ble_eq_true rfl, Nat.le_of_ble_eq_true rfl⟩ (fun σ13 H locs hG => ?_)
      refine v_goto S 101 dX4_strike_89 (by decide) ?_
      exact v_vretm S hG hr hlk (Nat.le_of_ble_eq_true rfl) (Nat.le_of_ble_eq_true rfl) dX4_strike_101
  · refine v_iconst S 1 dX4_strike_41 rfl ?_
    refine v_goto S 46 dX4_strike_42 (by decide) ?_
    refine v_aload S hl 0 rfl dX4_strike_46 ?_
    refine v_aload_n S hl 4 rfl rfl dX4_strike_48 ?_
    refine gf_0_2 S hG q67 dX4_strike_49 ?_
    refine v_cV_iR S hG [.int (σ4 p0 2)] rfl rfl (by decide) (met_X1_reach l g ad true b σ4 r5 (σ4 p0 2)) mw_X1_reach q234 dX4_strike_52 rfl rfl hl.1 (Nat.le_of_ble_eq_true rfl) ⟨Nat.le_of_ble_eq_true rfl, Nat.le_of_ble_eq_true rfl⟩ rfl rfl ⟨Nat.le_of_ble_eq_true rfl, Nat.le_of_ble_eq_true rfl⟩ (fun r14 H locs hG => ?_)
    refine v_cV_vm S hG [.int 1, .int r14] rfl rfl (by decide) (met_X3_sound l g ad true b σ4 r3 1 r14) mw_X3_sound q238 dX4_strike_55 rfl rfl hl.1 (Nat.le_of_ble_eq_true rfl) ⟨Nat.le_of_ble_eq_true rfl, Nat.le_of_ble_eq_true rfl⟩ rfl rfl ⟨Nat.le_of_ble_eq_true rfl, Nat.le_of_ble_eq_true rfl⟩ (fun σ15 H locs hG => ?_)
    refine v_aload S hl 0 rfl dX4_strike_58 ?_
    refine v_aload_n S hl 4 rfl rfl dX4_strike_60 ?_
    refine gf_0_2 S hG q67 dX4_strike_61 ?_
    refine v_cV_vm S hG [.int (σ15 p0 2)] rfl rfl (by decide) (met_X1_wear l g ad true b σ15 r5 (σ15 p0 2)) mw_X1_wear q242 dX4_strike_64 rfl rfl hl.1 (Nat.le_of_ble_eq_true rfl) ⟨Nat.le_of_ble_eq_true rfl, Nat.le_of_ble_eq_true rfl⟩ rfl rfl ⟨Nat.le_of_ble_eq_true rfl, Nat.le_of_ble_eq_true rfl⟩ (fun σ16 H locs hG => ?_)
    refine v_aload_n S hl 4 rfl rfl dX4_strike_67 ?_
    refine v_cV_vm S hG [] rfl rfl (by decide) (met_X0_turn l g ad true b σ16 p0) mw_X0_turn q246 dX4_strike_68 rfl rfl hl.1 (Nat.le_of_ble_eq_true rfl) ⟨Nat.le_of_ble_eq_true rfl, Nat.le_of_ble_eq_true rfl⟩ rfl rfl ⟨Nat.le_of_ble_eq_true rfl, Nat.le_of_ble_eq_true rfl⟩ (fun σ17 H locs hG => ?_)
    refine v_aload S hl 1 rfl dX4_strike_71 ?_
    refine gf_3_5 S hG q250 dX4_strike_73 ?_
    refine v_aload S hl 1 rfl dX4_strike_76 ?_
    refine v_cV_iR S hG [] rfl rfl (by decide) (met_X3_strokesDue l g ad true b σ17 r3) mw_X3_strokesDue q251 dX4_strike_78 rfl rfl hl.1 (Nat.le_of_ble_eq_true rfl) ⟨Nat.le_of_ble_eq_true rfl, Nat.le_of_ble_eq_true rfl⟩ rfl rfl ⟨Nat.le_of_ble_eq_true rfl, Nat.le_of_ble_eq_true rfl⟩ (fun r18 H locs hG => ?_)
    refine v_icmp_lt S 92 dX4_strike_81 (by decide) ?_ ?_
    · refine v_aload_n S hl 4 rfl rfl dX4_strike_92 ?_
      refine v_aload S hl 1 rfl dX4_strike_93 ?_
      refine v_cV_iR S hG [] rfl rfl (by decide) (met_X3_pauseNow l g ad true b σ17 r3) mw_X3_pauseNow q252 dX4_strike_95 rfl rfl hl.1 (Nat.le_of_ble_eq_true rfl) ⟨Nat.le_of_ble_eq_true rfl, Nat.le_of_ble_eq_true rfl⟩ rfl rfl ⟨Nat.le_of_ble_eq_true rfl, Nat.le_of_ble_eq_true rfl⟩ (fun r19 H locs hG => ?_)
      refine pf_0_6 S hG q74 dX4_strike_98 (fun σ20 H locs hG => ?_)
      exact v_vretm S hG hr hlk (Nat.le_of_ble_eq_true rfl) (Nat.le_of_ble_eq_true rfl) dX4_strike_101
    · refine v_aload_n S hl 3 rfl rfl dX4_strike_84 ?_
      refine v_iload_n S hl 2 rfl rfl dX4_strike_85 ?_
      refine v_cV_vm S hG [.int x1] rfl rfl (by decide) (met_X4_endToll l g ad true b σ17 t x1) mw_X4_endToll q256 dX4_strike_86 rfl rfl hl.1 (Nat.le_of_ble_eq_true rfl) ⟨Nat.le_of_ble_eq_true rfl, Nat.le_of_ble_eq_true rfl⟩ rfl rfl ⟨Nat.le_of_ble_eq_true rfl, Nat.le_of_ble_eq_true rfl⟩ (fun σ21 H locs hG => ?_)
      refine v_goto S 101 dX4_strike_89 (by decide) ?_
      exact v_vretm S hG hr hlk (Nat.le_of_ble_eq_true rfl) (Nat.le_of_ble_eq_true rfl) dX4_strike_101
set_option maxHeartbeats 4000000 in
set_option maxRecDepth 100000 in
theorem wl_X4_passMinute_4 {p : Program} {l : Launch} {e : Env} {s : State} {m : MethodId} {args : Array Value} {below : List Frame} {meth : Method} {c : Code} {g : GT} {ad : Nat → Nat} {b : Nat} (S : CallFix p m c cX4_passMinute 4 s args AL RX4) (hr : meth.sig.returnType = some .int) (hlk : meth.locks = false) (a0 : Nat) {rr : Int32} {σr : Mem} {K : Int32 → Int32 → Mem → Option (Int32 × Mem)} (kx : ∀ (y1 : Int32) (y2 : Int32) (σ : Mem) (H : Heap) (locs : List Loc) (ls : Array Slot), lv_has ls 4 [(0, .ref (ad a0)), (1, .int y1), (2, .int y2)] → GA g ad σ true b s H locs → K y1 y2 σ = some (rr, σr) → W p l e ({ frames := 4, cells := 0, slots := 0, locals := 92 } : Room) s m args below meth c H locs 0 0 (MQ below (va_Qi (fun (r' : Int32) (u : Mem) => r' = rr ∧ u = σr) (GW g ad) (AA g ad true b)) args s 0 0 (AA g ad true b)) (F0 m 48 ls [])) : ∀ (fuel : Nat) (y1 : Int32) (y2 : Int32) (σ : Mem) (H : Heap) (locs : List Loc) (ls : Array Slot), lv_has ls 4 [(0, .ref (ad a0)), (1, .int y1), (2, .int y2)] → GA g ad σ true b s H locs → lp_X4_passMinute_4 a0 K fuel y1 y2 σ = some (rr, σr) → W p l e ({ frames := 4, cells := 0, slots := 0, locals := 92 } : Room) s m args below meth c H locs 0 0 (MQ below (va_Qi (fun (r' : Int32) (u : Mem) => r' = rr ∧ u = σr) (GW g ad) (AA g ad true b)) args s 0 0 (AA g ad true b)) (F0 m 4 ls []) := by
  intro fuel
  induction fuel with
  | zero =>
    intro y1 y2 σ H locs ls hl hG h
    rw [lp_X4_passMinute_4.eq_1] at h
    cases h
  | succ fuel ih =>
    intro y1 y2 σ H locs ls hl hG
    rw [lp_X4_passMinute_4.eq_2]
    refine v_iload_n S hl 2 rfl rfl dX4_passMinute_4 ?_
    refine v_iconst S 4 dX4_passMinute_5 rfl ?_
    refine v_icmp_ge S 48 dX4_passMinute_6 (by decide) ?_ ?_
    · exact kx y1 y2 σ _ _ ls (lv_sub hl [0, 1, 2] rfl) hG
    · refine v_aload_n S hl 0 rfl rfl dX4_passMinute_9 ?_
      refine v_iload_n S hl 2 rfl rfl dX4_passMinute_10 ?_
      refine v_cV_im S hG [.int y2] rfl rfl (by decide) (met_X4_goOn l g ad true b σ a0 y2) mw_X4_goOn q259 dX4_passMinute_11 rfl rfl hl.1 (Nat.le_of_ble_eq_true rfl) ⟨Nat.le_of_ble_eq_true rfl, Nat.le_of_ble_eq_true rfl⟩ rfl rfl ⟨Nat.le_of_ble_eq_true rfl, Nat.le_of_ble_eq_true rfl⟩ (fun r1 σ2 H locs hG => ?_)
      refine v_istore_n S hl [(3, .int r1), (0, .ref (ad a0)), (1, .int y1), (2, .int y2)] rfl dX4_passMinute_14 (by decide) rfl (fun ls hl => ?_)
      refine v_aload_n S hl 1 rfl rfl dX4_passMinute_15 ?_
      refine v_iload_n S hl 0 rfl rfl dX4_passMinute_16 ?_
      refine v_cV_iR S hG [.int r1] rfl rfl (by decide) (met_X4_isRinger l g ad true b σ2 a0 r1) mw_X4_isRinger q209 dX4_passMinute_17 rfl rfl hl.1 (Nat.le_of_ble_eq_true rfl) ⟨Nat.le_of_ble_eq_true rfl, Nat.le_of_ble_eq_true rfl⟩ rfl rfl ⟨Nat.le_of_ble_eq_true rfl, Nat.le_of_ble_eq_true rfl⟩ (fun r3 H locs hG => ?_)
      refine v_if_eq S 42 dX4_passMinute_20 (by decide) ?_ ?_
      · refine v_iinc S hl 3 rfl dX4_passMinute_42 rfl (by decide) (fun z => [(2, .int z), (3, .int r1), (0, .ref (ad a0)), (1, .int y1)]) (fun _ => rfl) (fun x4 ls hl => ?_)
        refine v_goto S 4 dX4_passMinute_45 (by decide) ?_
        exact ih y1 x4 σ2 _ _ ls (lv_sub hl [2, 3, 0] rfl) hG
      · refine v_aload_n S hl 1 rfl rfl dX4_passMinute_23 ?_
        refine v_aload_n S hl 1 rfl rfl dX4_passMinute_24 ?_
        refine gr_4_0 S hG q66 dX4_passMinute_25 (fun r5 => ?_)
        refine v_iload_n S hl 3 rfl rfl dX4_passMinute_28 ?_
        refine v_aald_9 S hG dX4_passMinute_29 (fun r6 => ?_)
        refine v_aload_n S hl 1 rfl rfl dX4_passMinute_30 ?_
        refine gr_4_1 S hG q86 dX4_passMinute_31 (fun r7 => ?_)
        refine v_iload_n S hl 0 rfl rfl dX4_passMinute_34 ?_
        refine v_aald_10 S hG dX4_passMinute_35 (fun r8 => ?_)
        refine v_cV_vm S hG [.ref (ad r6), .ref (ad r8)] rfl rfl (by decide) (met_X4_strike l g ad true b σ2 a0 r6 r8) mw_X4_strike q263 dX4_passMinute_36 rfl rfl hl.1 (Nat.le_of_ble_eq_true rfl) ⟨Nat.le_of_ble_eq_true rfl, Nat.le_of_ble_eq_true rfl⟩ rfl rfl ⟨Nat.le_of_ble_eq_true rfl, Nat.le_of_ble_eq_true rfl⟩ (fun σ9 H locs hG => ?_)
        refine v_iinc S hl 2 rfl dX4_passMinute_39 rfl (by decide) (fun z => [(1, .int z), (3, .int r1), (0, .ref (ad a0)), (2, .int y2)]) (fun _ => rfl) (fun x10 ls hl => ?_)
        refine v_iinc S hl 3 rfl dX4_passMinute_42 rfl (by decide) (fun z => [(2, .int z), (1, .int x10), (3, .int r1), (0, .ref (ad a0))]) (fun _ => rfl) (fun x11 ls hl => ?_)
        refine v_goto S 4 dX4_passMinute_45 (by decide) ?_
        exact ih x10 x11 σ9 _ _ ls (lv_sub hl [3, 1, 0] rfl) hG
set_option maxHeartbeats 4000000 in
set_option maxRecDepth 100000 in
theorem wl_X4_passMinute_50 {p : Program} {l : Launch} {e : Env} {s : State} {m : MethodId} {args : Array Value} {below : List Frame} {meth : Method} {c : Code} {g : GT} {ad : Nat → Nat} {b : Nat} (S : CallFix p m c cX4_passMinute 4 s args AL RX4) (hr : meth.sig.returnType = some .int) (hlk : meth.locks = false) (a0 : Nat) (a1 : Int32) {rr : Int32} {σr : Mem} {K : Int32 → Mem → Option (Int32 × Mem)} (kx : ∀ (y2 : Int32) (σ : Mem) (H : Heap) (locs : List Loc) (ls : Array Slot), lv_has ls 4 [(0, .ref (ad a0)), (1, .int a1), (2, .int y2)] → GA g ad σ true b s H locs → K y2 σ = some (rr, σr) → W p l e ({ frames := 4, cells := 0, slots := 0, locals := 92 } : Room) s m args below meth c H locs 0 0 (MQ below (va_Qi (fun (r' : Int32) (u : Mem) => r' = rr ∧ u = σr) (GW g ad) (AA g ad true b)) args s 0 0 (AA g ad true b)) (F0 m 73 ls [])) : ∀ (fuel : Nat) (y2 : Int32) (σ : Mem) (H : Heap) (locs : List Loc) (ls : Array Slot), lv_has ls 4 [(0, .ref (ad a0)), (1, .int a1), (2, .int y2)] → GA g ad σ true b s H locs → lp_X4_passMinute_50 a0 a1 K fuel y2 σ = some (rr, σr) → W p l e ({ frames := 4, cells := 0, slots := 0, locals := 92 } : Room) s m args below meth c H locs 0 0 (MQ below (va_Qi (fun (r' : Int32) (u : Mem) => r' = rr ∧ u = σr) (GW g ad) (AA g ad true b)) args s 0 0 (AA g ad true b)) (F0 m 50 ls []) := by
  intro fuel
  induction fuel with
  | zero =>
    intro y2 σ H locs ls hl hG h
    rw [lp_X4_passMinute_50.eq_1] at h
    cases h
  | succ fuel ih =>
    intro y2 σ H locs ls hl hG
    rw [lp_X4_passMinute_50.eq_2]
    refine v_iload_n S hl 2 rfl rfl dX4_passMinute_50 ?_
    refine v_aload_n S hl 0 rfl rfl dX4_passMinute_51 ?_
    refine gf_4_4 S hG q85 dX4_passMinute_52 ?_
    refine v_icmp_ge S 73 dX4_passMinute_55 (by decide) ?_ ?_
    · exact kx y2 σ _ _ ls (lv_sub hl [0, 1, 2] rfl) hG
    · refine v_aload_n S hl 0 rfl rfl dX4_passMinute_58 ?_
      refine gr_4_1 S hG q86 dX4_passMinute_59 (fun r15 => ?_)
      refine v_iload_n S hl 2 rfl rfl dX4_passMinute_62 ?_
      refine v_aald_10 S hG dX4_passMinute_63 (fun r16 => ?_)
      refine v_cV_vm S hG [] rfl rfl (by decide) (met_X2_restIfFree l g ad true b σ r16) mw_X2_restIfFree q267 dX4_passMinute_64 rfl rfl hl.1 (Nat.le_of_ble_eq_true rfl) ⟨Nat.le_of_ble_eq_true rfl, Nat.le_of_ble_eq_true rfl⟩ rfl rfl ⟨Nat.le_of_ble_eq_true rfl, Nat.le_of_ble_eq_true rfl⟩ (fun σ17 H locs hG => ?_)
      refine v_iinc S hl 2 rfl dX4_passMinute_67 rfl (by decide) (fun z => [(2, .int z), (0, .ref (ad a0)), (1, .int a1)]) (fun _ => rfl) (fun x18 ls hl => ?_)
      refine v_goto S 50 dX4_passMinute_70 (by decide) ?_
      exact ih x18 σ17 _ _ ls (lv_sub hl [1, 2, 0] rfl) hG
set_option maxHeartbeats 4000000 in
set_option maxRecDepth 100000 in
theorem met_X4_passMinute (l : Launch) (g : GT) (ad : Nat → Nat) (_ : Bool) (b : Nat) (σ : Mem) (t : Nat) (rr : Int32) (σr : Mem) (h : fn_X4_passMinute σ t = some (rr, σr)) : Met l yX4_passMinute (wsy yX4_passMinute cX4_passMinute 4 (some .int)) ({ frames := 4, cells := 0, slots := 0, locals := 92 } : Room) (va_Pc [.ref (ad t)] (PB g ad σ b)) (va_Qi (fun (r' : Int32) (u : Mem) => r' = rr ∧ u = σr) (GW g ad) (AA g ad true b)) 0 0 (AA g ad true b) := by
  refine Met.ofW (cc := cX4_passMinute) (maxL := 4) (ret := (some .int)) (by decide) rfl ?_
  intro p e s m args below meth c s₁ B hml hv
  obtain ⟨rfl, hv⟩ := hv
  have S : CallFix p m c cX4_passMinute 4 s _ AL RX4 := ⟨B.exec, B.bytes, hml, findClass_of_methodNamed B.named, fun w h => atoms_spec (ws := wsy yX4_passMinute cX4_passMinute 4 (some .int)) B.pre w (List.mem_cons_of_mem _ h)⟩
  have hr := B.returns
  have hlk := B.notSynchronized
  have hG : GA g ad σ true b s s.heap [] := GA_start hv
  have hl := lv_entry ([.ref (ad t)]) (n := 4) (Nat.le_of_ble_eq_true rfl)
  rw [lg_entry_eq]
  generalize (lg_sl ([.ref (ad t)]) ++ List.replicate (4 - (lg_sl ([.ref (ad t)])).length) Slot.unset).toArray = ls at hl ⊢
  have hl : lv_has ls 4 [(0, .ref (ad t))] := hl
  revert h
  unfold fn_X4_passMinute
  refine v_iconst S 0 dX4_passMinute_0 rfl ?_
  refine v_istore_n S hl [(1, .int 0), (0, .ref (ad t))] rfl dX4_passMinute_1 (by decide) rfl (fun ls hl => ?_)
  refine v_iconst S 0 dX4_passMinute_2 rfl ?_
  refine v_istore_n S hl [(2, .int 0), (1, .int 0), (0, .ref (ad t))] rfl dX4_passMinute_3 (by decide) rfl (fun ls hl => ?_)
  refine wl_X4_passMinute_4 S hr hlk t (fun x12 x13 σ14 H locs ls hl hG => ?_) 30 0 0 σ _ _ ls (lv_sub hl [2, 1, 0] rfl) hG
  refine v_iconst S 0 dX4_passMinute_48 rfl ?_
  refine v_istore_n S hl [(2, .int 0), (0, .ref (ad t)), (1, .int x12)] rfl dX4_passMinute_49 (by decide) rfl (fun ls hl => ?_)
  refine wl_X4_passMinute_50 S hr hlk t x12 (fun x19 σ20 H locs ls hl hG => ?_) 30 0 σ14 _ _ ls (lv_sub hl [1, 2, 0] rfl) hG
  refine v_aload_n S hl 0 rfl rfl dX4_passMinute_73 ?_
  refine v_dup S dX4_passMinute_74 rfl ?_
  refine gf_4_3 S hG q136 dX4_passMinute_75 ?_
  refine v_iconst S 1 dX4_passMinute_78 rfl ?_
  refine v_iadd S dX4_passMinute_79 ?_
  refine pf_4_3 S hG q136 dX4_passMinute_80 (fun σ21 H locs hG => ?_)
  refine v_iload_n S hl 1 rfl rfl dX4_passMinute_83 ?_
  exact v_iretm S hG hr hlk (Nat.le_of_ble_eq_true rfl) (Nat.le_of_ble_eq_true rfl) dX4_passMinute_84
set_option maxHeartbeats 4000000 in
set_option maxRecDepth 100000 in
theorem wl_X4_passMinutes_4 {p : Program} {l : Launch} {e : Env} {s : State} {m : MethodId} {args : Array Value} {below : List Frame} {meth : Method} {c : Code} {g : GT} {ad : Nat → Nat} {b : Nat} (S : CallFix p m c cX4_passMinutes 4 s args AL RX4) (hr : meth.sig.returnType = some .int) (hlk : meth.locks = false) (a0 : Nat) (a1 : Int32) {rr : Int32} {σr : Mem} {K : Int32 → Int32 → Mem → Option (Int32 × Mem)} (kx : ∀ (y2 : Int32) (y3 : Int32) (σ : Mem) (H : Heap) (locs : List Loc) (ls : Array Slot), lv_has ls 4 [(0, .ref (ad a0)), (1, .int a1), (2, .int y2), (3, .int y3)] → GA g ad σ true b s H locs → K y2 y3 σ = some (rr, σr) → W p l e ({ frames := 5, cells := 0, slots := 0, locals := 115 } : Room) s m args below meth c H locs 0 0 (MQ below (va_Qi (fun (r' : Int32) (u : Mem) => r' = rr ∧ u = σr) (GW g ad) (AA g ad true b)) args s 0 0 (AA g ad true b)) (F0 m 22 ls [])) : ∀ (fuel : Nat) (y2 : Int32) (y3 : Int32) (σ : Mem) (H : Heap) (locs : List Loc) (ls : Array Slot), lv_has ls 4 [(0, .ref (ad a0)), (1, .int a1), (2, .int y2), (3, .int y3)] → GA g ad σ true b s H locs → lp_X4_passMinutes_4 a0 a1 K fuel y2 y3 σ = some (rr, σr) → W p l e ({ frames := 5, cells := 0, slots := 0, locals := 115 } : Room) s m args below meth c H locs 0 0 (MQ below (va_Qi (fun (r' : Int32) (u : Mem) => r' = rr ∧ u = σr) (GW g ad) (AA g ad true b)) args s 0 0 (AA g ad true b)) (F0 m 4 ls []) := by
  intro fuel
  induction fuel with
  | zero =>
    intro y2 y3 σ H locs ls hl hG h
    rw [lp_X4_passMinutes_4.eq_1] at h
    cases h
  | succ fuel ih =>
    intro y2 y3 σ H locs ls hl hG
    rw [lp_X4_passMinutes_4.eq_2]
    refine v_iload_n S hl 3 rfl rfl dX4_passMinutes_4 ?_
    refine v_iload_n S hl 1 rfl rfl dX4_passMinutes_5 ?_
    refine v_icmp_ge S 22 dX4_passMinutes_6 (by decide) ?_ ?_
    · exact kx y2 y3 σ _ _ ls (lv_sub hl [0, 1, 2, 3] rfl) hG
    · refine v_iload_n S hl 2 rfl rfl dX4_passMinutes_9 ?_
      refine v_aload_n S hl 0 rfl rfl dX4_passMinutes_10 ?_
      refine v_cV_im S hG [] rfl rfl (by decide) (met_X4_passMinute l g ad true b σ a0) mw_X4_passMinute q271 dX4_passMinutes_11 rfl rfl hl.1 (Nat.le_of_ble_eq_true rfl) ⟨Nat.le_of_ble_eq_true rfl, Nat.le_of_ble_eq_true rfl⟩ rfl rfl ⟨Nat.le_of_ble_eq_true rfl, Nat.le_of_ble_eq_true rfl⟩ (fun r1 σ2 H locs hG => ?_)
      refine v_iadd S dX4_passMinutes_14 ?_
      refine v_nm (fun x3 => ?_)
      refine v_istore_n S hl [(2, .int x3), (0, .ref (ad a0)), (1, .int a1), (3, .int y3)] rfl dX4_passMinutes_15 (by decide) rfl (fun ls hl => ?_)
      refine v_iinc S hl 3 rfl dX4_passMinutes_16 rfl (by decide) (fun z => [(3, .int z), (2, .int x3), (0, .ref (ad a0)), (1, .int a1)]) (fun _ => rfl) (fun x4 ls hl => ?_)
      refine v_goto S 4 dX4_passMinutes_19 (by decide) ?_
      exact ih x3 x4 σ2 _ _ ls (lv_sub hl [2, 3, 1, 0] rfl) hG
set_option maxHeartbeats 4000000 in
set_option maxRecDepth 100000 in
theorem met_X4_passMinutes (l : Launch) (g : GT) (ad : Nat → Nat) (_ : Bool) (b : Nat) (σ : Mem) (t : Nat) (p0 : Int32) (rr : Int32) (σr : Mem) (h : fn_X4_passMinutes σ t p0 = some (rr, σr)) : Met l yX4_passMinutes (wsy yX4_passMinutes cX4_passMinutes 4 (some .int)) ({ frames := 5, cells := 0, slots := 0, locals := 115 } : Room) (va_Pc [.ref (ad t), .int p0] (PB g ad σ b)) (va_Qi (fun (r' : Int32) (u : Mem) => r' = rr ∧ u = σr) (GW g ad) (AA g ad true b)) 0 0 (AA g ad true b) := by
  refine Met.ofW (cc := cX4_passMinutes) (maxL := 4) (ret := (some .int)) (by decide) rfl ?_
  intro p e s m args below meth c s₁ B hml hv
  obtain ⟨rfl, hv⟩ := hv
  have S : CallFix p m c cX4_passMinutes 4 s _ AL RX4 := ⟨B.exec, B.bytes, hml, findClass_of_methodNamed B.named, fun w h => atoms_spec (ws := wsy yX4_passMinutes cX4_passMinutes 4 (some .int)) B.pre w (List.mem_cons_of_mem _ h)⟩
  have hr := B.returns
  have hlk := B.notSynchronized
  have hG : GA g ad σ true b s s.heap [] := GA_start hv
  have hl := lv_entry ([.ref (ad t), .int p0]) (n := 4) (Nat.le_of_ble_eq_true rfl)
  rw [lg_entry_eq]
  generalize (lg_sl ([.ref (ad t), .int p0]) ++ List.replicate (4 - (lg_sl ([.ref (ad t), .int p0])).length) Slot.unset).toArray = ls at hl ⊢
  have hl : lv_has ls 4 [(0, .ref (ad t)), (1, .int p0)] := hl
  revert h
  unfold fn_X4_passMinutes
  refine v_iconst S 0 dX4_passMinutes_0 rfl ?_
  refine v_istore_n S hl [(2, .int 0), (0, .ref (ad t)), (1, .int p0)] rfl dX4_passMinutes_1 (by decide) rfl (fun ls hl => ?_)
  refine v_iconst S 0 dX4_passMinutes_2 rfl ?_
  refine v_istore_n S hl [(3, .int 0), (2, .int 0), (0, .ref (ad t)), (1, .int p0)] rfl dX4_passMinutes_3 (by decide) rfl (fun ls hl => ?_)
  refine wl_X4_passMinutes_4 S hr hlk t p0 (fun x5 x6 σ7 H locs ls hl hG => ?_) 242 0 0 σ _ _ ls (lv_sub hl [2, 3, 1, 0] rfl) hG
  refine v_iload_n S hl 2 rfl rfl dX4_passMinutes_22 ?_
  exact v_iretm S hG hr hlk (Nat.le_of_ble_eq_true rfl) (Nat.le_of_ble_eq_true rfl) dX4_passMinutes_23
set_option maxHeartbeats 4000000 in
set_option maxRecDepth 100000 in
theorem wl_X4_becomeLike_2 {p : Program} {l : Launch} {e : Env} {s : State} {m : MethodId} {args : Array Value} {below : List Frame} {meth : Method} {c : Code} {g : GT} {ad : Nat → Nat} {b : Nat} (S : CallFix p m c cX4_becomeLike 3 s args AL RX4) (hr : meth.sig.returnType = none) (hlk : meth.locks = false) (a0 : Nat) (a1 : Nat) {σr : Mem} {K : Int32 → Mem → Option Mem} (kx : ∀ (y2 : Int32) (σ : Mem) (H : Heap) (locs : List Loc) (ls : Array Slot), lv_has ls 3 [(0, .ref (ad a0)), (1, .ref (ad a1)), (2, .int y2)] → GA g ad σ true b s H locs → K y2 σ = some σr → W p l e ({ frames := 2, cells := 0, slots := 0, locals := 42 } : Room) s m args below meth c H locs 0 0 (MQ below (va_Qv (fun (u : Mem) => u = σr) (GW g ad) (AA g ad true b)) args s 0 0 (AA g ad true b)) (F0 m 28 ls [])) : ∀ (fuel : Nat) (y2 : Int32) (σ : Mem) (H : Heap) (locs : List Loc) (ls : Array Slot), lv_has ls 3 [(0, .ref (ad a0)), (1, .ref (ad a1)), (2, .int y2)] → GA g ad σ true b s H locs → lp_X4_becomeLike_2 a0 a1 K fuel y2 σ = some σr → W p l e ({ frames := 2, cells := 0, slots := 0, locals := 42 } : Room) s m args below meth c H locs 0 0 (MQ below (va_Qv (fun (u : Mem) => u = σr) (GW g ad) (AA g ad true b)) args s 0 0 (AA g ad true b)) (F0 m 2 ls []) := by
  intro fuel
  induction fuel with
  | zero =>
    intro y2 σ H locs ls hl hG h
    rw [lp_X4_becomeLike_2.eq_1] at h
    cases h
  | succ fuel ih =>
    intro y2 σ H locs ls hl hG
    rw [lp_X4_becomeLike_2.eq_2]
    refine v_iload_n S hl 2 rfl rfl dX4_becomeLike_2 ?_
    refine v_iconst S 4 dX4_becomeLike_3 rfl ?_
    refine v_icmp_ge S 28 dX4_becomeLike_4 (by decide) ?_ ?_
    · exact kx y2 σ _ _ ls (lv_sub hl [0, 1, 2] rfl) hG
    · refine v_aload_n S hl 0 rfl rfl dX4_becomeLike_7 ?_
      refine gr_4_0 S hG q66 dX4_becomeLike_8 (fun r1 => ?_)
      refine v_iload_n S hl 2 rfl rfl dX4_becomeLike_11 ?_
      refine v_aald_9 S hG dX4_becomeLike_12 (fun r2 => ?_)
      refine v_aload_n S hl 1 rfl rfl dX4_becomeLike_13 ?_
      refine gr_4_0 S hG q66 dX4_becomeLike_14 (fun r3 => ?_)
      refine v_iload_n S hl 2 rfl rfl dX4_becomeLike_17 ?_
      refine v_aald_9 S hG dX4_becomeLike_18 (fun r4 => ?_)
      refine v_cV_vm S hG [.ref (ad r4)] rfl rfl (by decide) (met_X0_becomeLike l g ad true b σ r2 r4) mw_X0_becomeLike q286 dX4_becomeLike_19 rfl rfl hl.1 (Nat.le_of_ble_eq_true rfl) ⟨Nat.le_of_ble_eq_true rfl, Nat.le_of_ble_eq_true rfl⟩ rfl rfl ⟨Nat.le_of_ble_eq_true rfl, Nat.le_of_ble_eq_true rfl⟩ (fun σ5 H locs hG => ?_)
      refine v_iinc S hl 2 rfl dX4_becomeLike_22 rfl (by decide) (fun z => [(2, .int z), (0, .ref (ad a0)), (1, .ref (ad a1))]) (fun _ => rfl) (fun x6 ls hl => ?_)
      refine v_goto S 2 dX4_becomeLike_25 (by decide) ?_
      exact ih x6 σ5 _ _ ls (lv_sub hl [1, 2, 0] rfl) hG
set_option maxHeartbeats 4000000 in
set_option maxRecDepth 100000 in
theorem wl_X4_becomeLike_30 {p : Program} {l : Launch} {e : Env} {s : State} {m : MethodId} {args : Array Value} {below : List Frame} {meth : Method} {c : Code} {g : GT} {ad : Nat → Nat} {b : Nat} (S : CallFix p m c cX4_becomeLike 3 s args AL RX4) (hr : meth.sig.returnType = none) (hlk : meth.locks = false) (a0 : Nat) (a1 : Nat) {σr : Mem} {K : Int32 → Mem → Option Mem} (kx : ∀ (y2 : Int32) (σ : Mem) (H : Heap) (locs : List Loc) (ls : Array Slot), lv_has ls 3 [(0, .ref (ad a0)), (1, .ref (ad a1)), (2, .int y2)] → GA g ad σ true b s H locs → K y2 σ = some σr → W p l e ({ frames := 2, cells := 0, slots := 0, locals := 42 } : Room) s m args below meth c H locs 0 0 (MQ below (va_Qv (fun (u : Mem) => u = σr) (GW g ad) (AA g ad true b)) args s 0 0 (AA g ad true b)) (F0 m 59 ls [])) : ∀ (fuel : Nat) (y2 : Int32) (σ : Mem) (H : Heap) (locs : List Loc) (ls : Array Slot), lv_has ls 3 [(0, .ref (ad a0)), (1, .ref (ad a1)), (2, .int y2)] → GA g ad σ true b s H locs → lp_X4_becomeLike_30 a0 a1 K fuel y2 σ = some σr → W p l e ({ frames := 2, cells := 0, slots := 0, locals := 42 } : Room) s m args below meth c H locs 0 0 (MQ below (va_Qv (fun (u : Mem) => u = σr) (GW g ad) (AA g ad true b)) args s 0 0 (AA g ad true b)) (F0 m 30 ls []) := by
  intro fuel
  induction fuel with
  | zero =>
    intro y2 σ H locs ls hl hG h
    rw [lp_X4_becomeLike_30.eq_1] at h
    cases h
  | succ fuel ih =>
    intro y2 σ H locs ls hl hG
    rw [lp_X4_becomeLike_30.eq_2]
    refine v_iload_n S hl 2 rfl rfl dX4_becomeLike_30 ?_
    refine v_aload_n S hl 1 rfl rfl dX4_becomeLike_31 ?_
    refine gf_4_4 S hG q85 dX4_becomeLike_32 ?_
    refine v_icmp_ge S 59 dX4_becomeLike_35 (by decide) ?_ ?_
    · exact kx y2 σ _ _ ls (lv_sub hl [0, 1, 2] rfl) hG
    · refine v_aload_n S hl 0 rfl rfl dX4_becomeLike_38 ?_
      refine gr_4_1 S hG q86 dX4_becomeLike_39 (fun r9 => ?_)
      refine v_iload_n S hl 2 rfl rfl dX4_becomeLike_42 ?_
      refine v_aald_10 S hG dX4_becomeLike_43 (fun r10 => ?_)
      refine v_aload_n S hl 1 rfl rfl dX4_becomeLike_44 ?_
      refine gr_4_1 S hG q86 dX4_becomeLike_45 (fun r11 => ?_)
      refine v_iload_n S hl 2 rfl rfl dX4_becomeLike_48 ?_
      refine v_aald_10 S hG dX4_becomeLike_49 (fun r12 => ?_)
      refine v_cV_vm S hG [.ref (ad r12)] rfl rfl (by decide) (met_X2_becomeLike l g ad true b σ r10 r12) mw_X2_becomeLike q290 dX4_becomeLike_50 rfl rfl hl.1 (Nat.le_of_ble_eq_true rfl) ⟨Nat.le_of_ble_eq_true rfl, Nat.le_of_ble_eq_true rfl⟩ rfl rfl ⟨Nat.le_of_ble_eq_true rfl, Nat.le_of_ble_eq_true rfl⟩ (fun σ13 H locs hG => ?_)
      refine v_iinc S hl 2 rfl dX4_becomeLike_53 rfl (by decide) (fun z => [(2, .int z), (0, .ref (ad a0)), (1, .ref (ad a1))]) (fun _ => rfl) (fun x14 ls hl => ?_)
      refine v_goto S 30 dX4_becomeLike_56 (by decide) ?_
      exact ih x14 σ13 _ _ ls (lv_sub hl [1, 2, 0] rfl) hG
set_option maxHeartbeats 4000000 in
set_option maxRecDepth 100000 in
theorem wl_X4_becomeLike_61 {p : Program} {l : Launch} {e : Env} {s : State} {m : MethodId} {args : Array Value} {below : List Frame} {meth : Method} {c : Code} {g : GT} {ad : Nat → Nat} {b : Nat} (S : CallFix p m c cX4_becomeLike 3 s args AL RX4) (hr : meth.sig.returnType = none) (hlk : meth.locks = false) (a0 : Nat) (a1 : Nat) {σr : Mem} {K : Int32 → Mem → Option Mem} (kx : ∀ (y2 : Int32) (σ : Mem) (H : Heap) (locs : List Loc) (ls : Array Slot), lv_has ls 3 [(0, .ref (ad a0)), (1, .ref (ad a1)), (2, .int y2)] → GA g ad σ true b s H locs → K y2 σ = some σr → W p l e ({ frames := 2, cells := 0, slots := 0, locals := 42 } : Room) s m args below meth c H locs 0 0 (MQ below (va_Qv (fun (u : Mem) => u = σr) (GW g ad) (AA g ad true b)) args s 0 0 (AA g ad true b)) (F0 m 90 ls [])) : ∀ (fuel : Nat) (y2 : Int32) (σ : Mem) (H : Heap) (locs : List Loc) (ls : Array Slot), lv_has ls 3 [(0, .ref (ad a0)), (1, .ref (ad a1)), (2, .int y2)] → GA g ad σ true b s H locs → lp_X4_becomeLike_61 a0 a1 K fuel y2 σ = some σr → W p l e ({ frames := 2, cells := 0, slots := 0, locals := 42 } : Room) s m args below meth c H locs 0 0 (MQ below (va_Qv (fun (u : Mem) => u = σr) (GW g ad) (AA g ad true b)) args s 0 0 (AA g ad true b)) (F0 m 61 ls []) := by
  intro fuel
  induction fuel with
  | zero =>
    intro y2 σ H locs ls hl hG h
    rw [lp_X4_becomeLike_61.eq_1] at h
    cases h
  | succ fuel ih =>
    intro y2 σ H locs ls hl hG
    rw [lp_X4_becomeLike_61.eq_2]
    refine v_iload_n S hl 2 rfl rfl dX4_becomeLike_61 ?_
    refine v_aload_n S hl 1 rfl rfl dX4_becomeLike_62 ?_
    refine gf_4_5 S hG q58 dX4_becomeLike_63 ?_
    refine v_icmp_ge S 90 dX4_becomeLike_66 (by decide) ?_ ?_
    · exact kx y2 σ _ _ ls (lv_sub hl [0, 1, 2] rfl) hG
    · refine v_aload_n S hl 0 rfl rfl dX4_becomeLike_69 ?_
      refine gr_4_2 S hG q59 dX4_becomeLike_70 (fun r17 => ?_)
      refine v_iload_n S hl 2 rfl rfl dX4_becomeLike_73 ?_
      refine v_aald_11 S hG dX4_becomeLike_74 (fun r18 => ?_)
      refine v_aload_n S hl 1 rfl rfl dX4_becomeLike_75 ?_
      refine gr_4_2 S hG q59 dX4_becomeLike_76 (fun r19 => ?_)
      refine v_iload_n S hl 2 rfl rfl dX4_becomeLike_79 ?_
      refine v_aald_11 S hG dX4_becomeLike_80 (fun r20 => ?_)
      refine v_cV_vm S hG [.ref (ad r20)] rfl rfl (by decide) (met_X3_becomeLike l g ad true b σ r18 r20) mw_X3_becomeLike q294 dX4_becomeLike_81 rfl rfl hl.1 (Nat.le_of_ble_eq_true rfl) ⟨Nat.le_of_ble_eq_true rfl, Nat.le_of_ble_eq_true rfl⟩ rfl rfl ⟨Nat.le_of_ble_eq_true rfl, Nat.le_of_ble_eq_true rfl⟩ (fun σ21 H locs hG => ?_)
      refine v_iinc S hl 2 rfl dX4_becomeLike_84 rfl (by decide) (fun z => [(2, .int z), (0, .ref (ad a0)), (1, .ref (ad a1))]) (fun _ => rfl) (fun x22 ls hl => ?_)
      refine v_goto S 61 dX4_becomeLike_87 (by decide) ?_
      exact ih x22 σ21 _ _ ls (lv_sub hl [1, 2, 0] rfl) hG
set_option maxHeartbeats 4000000 in
set_option maxRecDepth 100000 in
theorem met_X4_becomeLike (l : Launch) (g : GT) (ad : Nat → Nat) (_ : Bool) (b : Nat) (σ : Mem) (t : Nat) (p0 : Nat) (σr : Mem) (h : fn_X4_becomeLike σ t p0 = some σr) : Met l yX4_becomeLike (wsy yX4_becomeLike cX4_becomeLike 3 none) ({ frames := 2, cells := 0, slots := 0, locals := 42 } : Room) (va_Pc [.ref (ad t), .ref (ad p0)] (PB g ad σ b)) (va_Qv (fun (u : Mem) => u = σr) (GW g ad) (AA g ad true b)) 0 0 (AA g ad true b) := by
  refine Met.ofW (cc := cX4_becomeLike) (maxL := 3) (ret := none) (by decide) rfl ?_
  intro p e s m args below meth c s₁ B hml hv
  obtain ⟨rfl, hv⟩ := hv
  have S : CallFix p m c cX4_becomeLike 3 s _ AL RX4 := ⟨B.exec, B.bytes, hml, findClass_of_methodNamed B.named, fun w h => atoms_spec (ws := wsy yX4_becomeLike cX4_becomeLike 3 none) B.pre w (List.mem_cons_of_mem _ h)⟩
  have hr := B.returns
  have hlk := B.notSynchronized
  have hG : GA g ad σ true b s s.heap [] := GA_start hv
  have hl := lv_entry ([.ref (ad t), .ref (ad p0)]) (n := 3) (Nat.le_of_ble_eq_true rfl)
  rw [lg_entry_eq]
  generalize (lg_sl ([.ref (ad t), .ref (ad p0)]) ++ List.replicate (3 - (lg_sl ([.ref (ad t), .ref (ad p0)])).length) Slot.unset).toArray = ls at hl ⊢
  have hl : lv_has ls 3 [(0, .ref (ad t)), (1, .ref (ad p0))] := hl
  revert h
  unfold fn_X4_becomeLike
  refine v_iconst S 0 dX4_becomeLike_0 rfl ?_
  refine v_istore_n S hl [(2, .int 0), (0, .ref (ad t)), (1, .ref (ad p0))] rfl dX4_becomeLike_1 (by decide) rfl (fun ls hl => ?_)
  refine wl_X4_becomeLike_2 S hr hlk t p0 (fun x7 σ8 H locs ls hl hG => ?_) 30 0 σ _ _ ls (lv_sub hl [1, 2, 0] rfl) hG
  refine v_iconst S 0 dX4_becomeLike_28 rfl ?_
  refine v_istore_n S hl [(2, .int 0), (0, .ref (ad t)), (1, .ref (ad p0))] rfl dX4_becomeLike_29 (by decide) rfl (fun ls hl => ?_)
  refine wl_X4_becomeLike_30 S hr hlk t p0 (fun x15 σ16 H locs ls hl hG => ?_) 30 0 σ8 _ _ ls (lv_sub hl [1, 2, 0] rfl) hG
  refine v_iconst S 0 dX4_becomeLike_59 rfl ?_
  refine v_istore_n S hl [(2, .int 0), (0, .ref (ad t)), (1, .ref (ad p0))] rfl dX4_becomeLike_60 (by decide) rfl (fun ls hl => ?_)
  refine wl_X4_becomeLike_61 S hr hlk t p0 (fun x23 σ24 H locs ls hl hG => ?_) 30 0 σ16 _ _ ls (lv_sub hl [1, 2, 0] rfl) hG
  refine v_aload_n S hl 0 rfl rfl dX4_becomeLike_90 ?_
  refine v_aload_n S hl 1 rfl rfl dX4_becomeLike_91 ?_
  refine gf_4_3 S hG q136 dX4_becomeLike_92 ?_
  refine pf_4_3 S hG q136 dX4_becomeLike_95 (fun σ25 H locs hG => ?_)
  refine v_aload_n S hl 0 rfl rfl dX4_becomeLike_98 ?_
  refine v_aload_n S hl 1 rfl rfl dX4_becomeLike_99 ?_
  refine gf_4_4 S hG q85 dX4_becomeLike_100 ?_
  refine pf_4_4 S hG q85 dX4_becomeLike_103 (fun σ26 H locs hG => ?_)
  refine v_aload_n S hl 0 rfl rfl dX4_becomeLike_106 ?_
  refine v_aload_n S hl 1 rfl rfl dX4_becomeLike_107 ?_
  refine gf_4_5 S hG q58 dX4_becomeLike_108 ?_
  refine pf_4_5 S hG q58 dX4_becomeLike_111 (fun σ27 H locs hG => ?_)
  refine v_aload_n S hl 0 rfl rfl dX4_becomeLike_114 ?_
  refine v_aload_n S hl 1 rfl rfl dX4_becomeLike_115 ?_
  refine gf_4_6 S hG q195 dX4_becomeLike_116 ?_
  refine pf_4_6 S hG q195 dX4_becomeLike_119 (fun σ28 H locs hG => ?_)
  exact v_vretm S hG hr hlk (Nat.le_of_ble_eq_true rfl) (Nat.le_of_ble_eq_true rfl) dX4_becomeLike_122
set_option maxHeartbeats 4000000 in
set_option maxRecDepth 100000 in
theorem wl_X4_passTillDone_20 {p : Program} {l : Launch} {e : Env} {s : State} {m : MethodId} {args : Array Value} {below : List Frame} {meth : Method} {c : Code} {g : GT} {ad : Nat → Nat} {b : Nat} (S : CallFix p m c cX4_passTillDone 5 s args AL RX4) (hr : meth.sig.returnType = some .int) (hlk : meth.locks = false) (a0 : Nat) (a2 : Int32) (a3 : Nat) {rr : Int32} {σr : Mem} {K : Int32 → Mem → Option (Int32 × Mem)} (kx : ∀ (y4 : Int32) (σ : Mem) (H : Heap) (locs : List Loc) (ls : Array Slot), lv_has ls 5 [(0, .ref (ad a0)), (2, .int a2), (3, .ref (ad a3)), (4, .int y4)] → GA g ad σ true b s H locs → K y4 σ = some (rr, σr) → W p l e ({ frames := 5, cells := 0, slots := 0, locals := 115 } : Room) s m args below meth c H locs 0 0 (MQ below (va_Qi (fun (r' : Int32) (u : Mem) => r' = rr ∧ u = σr) (GW g ad) (AA g ad true b)) args s 0 0 (AA g ad true b)) (F0 m 44 ls [])) : ∀ (fuel : Nat) (y4 : Int32) (σ : Mem) (H : Heap) (locs : List Loc) (ls : Array Slot), lv_has ls 5 [(0, .ref (ad a0)), (2, .int a2), (3, .ref (ad a3)), (4, .int y4)] → GA g ad σ true b s H locs → lp_X4_passTillDone_20 a0 a2 a3 K fuel y4 σ = some (rr, σr) → W p l e ({ frames := 5, cells := 0, slots := 0, locals := 115 } : Room) s m args below meth c H locs 0 0 (MQ below (va_Qi (fun (r' : Int32) (u : Mem) => r' = rr ∧ u = σr) (GW g ad) (AA g ad true b)) args s 0 0 (AA g ad true b)) (F0 m 20 ls []) := by
  intro fuel
  induction fuel with
  | zero =>
    intro y4 σ H locs ls hl hG h
    rw [lp_X4_passTillDone_20.eq_1] at h
    cases h
  | succ fuel ih =>
    intro y4 σ H locs ls hl hG
    rw [lp_X4_passTillDone_20.eq_2]
    refine v_aload_n S hl 2 rfl rfl dX4_passTillDone_20 ?_
    refine v_cV_iR S hG [] rfl rfl (by decide) (met_X3_isDone l g ad true b σ a3) mw_X3_isDone q61 dX4_passTillDone_21 rfl rfl hl.1 (Nat.le_of_ble_eq_true rfl) ⟨Nat.le_of_ble_eq_true rfl, Nat.le_of_ble_eq_true rfl⟩ rfl rfl ⟨Nat.le_of_ble_eq_true rfl, Nat.le_of_ble_eq_true rfl⟩ (fun r4 H locs hG => ?_)
    refine v_if_ne S 44 dX4_passTillDone_24 (by decide) ?_ ?_
    · exact kx y4 σ _ _ ls (lv_sub hl [0, 1, 2, 3] rfl) hG
    · refine v_iload S hl 3 rfl dX4_passTillDone_27 ?_
      refine v_iload_n S hl 1 rfl rfl dX4_passTillDone_29 ?_
      refine v_icmp_ge S 44 dX4_passTillDone_30 (by decide) ?_ ?_
      · exact kx y4 σ _ _ ls (lv_sub hl [0, 1, 2, 3] rfl) hG
      · refine v_aload_n S hl 0 rfl rfl dX4_passTillDone_33 ?_
        refine v_cV_im S hG [] rfl rfl (by decide) (met_X4_passMinute l g ad true b σ a0) mw_X4_passMinute q271 dX4_passTillDone_34 rfl rfl hl.1 (Nat.le_of_ble_eq_true rfl) ⟨Nat.le_of_ble_eq_true rfl, Nat.le_of_ble_eq_true rfl⟩ rfl rfl ⟨Nat.le_of_ble_eq_true rfl, Nat.le_of_ble_eq_true rfl⟩ (fun r5 σ6 H locs hG => ?_)
        refine v_pop S dX4_passTillDone_37 rfl ?_
        refine v_iinc S hl 3 rfl dX4_passTillDone_38 rfl (by decide) (fun z => [(4, .int z), (0, .ref (ad a0)), (2, .int a2), (3, .ref (ad a3))]) (fun _ => rfl) (fun x7 ls hl => ?_)
        refine v_goto S 20 dX4_passTillDone_41 (by decide) ?_
        exact ih x7 σ6 _ _ ls (lv_sub hl [1, 2, 3, 0] rfl) hG
set_option maxHeartbeats 4000000 in
set_option maxRecDepth 100000 in
theorem met_X4_passTillDone (l : Launch) (g : GT) (ad : Nat → Nat) (_ : Bool) (b : Nat) (σ : Mem) (t : Nat) (p0 : Int32) (p1 : Int32) (rr : Int32) (σr : Mem) (h : fn_X4_passTillDone σ t p0 p1 = some (rr, σr)) : Met l yX4_passTillDone (wsy yX4_passTillDone cX4_passTillDone 5 (some .int)) ({ frames := 5, cells := 0, slots := 0, locals := 115 } : Room) (va_Pc [.ref (ad t), .int p0, .int p1] (PB g ad σ b)) (va_Qi (fun (r' : Int32) (u : Mem) => r' = rr ∧ u = σr) (GW g ad) (AA g ad true b)) 0 0 (AA g ad true b) := by
  refine Met.ofW (cc := cX4_passTillDone) (maxL := 5) (ret := (some .int)) (by decide) rfl ?_
  intro p e s m args below meth c s₁ B hml hv
  obtain ⟨rfl, hv⟩ := hv
  have S : CallFix p m c cX4_passTillDone 5 s _ AL RX4 := ⟨B.exec, B.bytes, hml, findClass_of_methodNamed B.named, fun w h => atoms_spec (ws := wsy yX4_passTillDone cX4_passTillDone 5 (some .int)) B.pre w (List.mem_cons_of_mem _ h)⟩
  have hr := B.returns
  have hlk := B.notSynchronized
  have hG : GA g ad σ true b s s.heap [] := GA_start hv
  have hl := lv_entry ([.ref (ad t), .int p0, .int p1]) (n := 5) (Nat.le_of_ble_eq_true rfl)
  rw [lg_entry_eq]
  generalize (lg_sl ([.ref (ad t), .int p0, .int p1]) ++ List.replicate (5 - (lg_sl ([.ref (ad t), .int p0, .int p1])).length) Slot.unset).toArray = ls at hl ⊢
  have hl : lv_has ls 5 [(0, .ref (ad t)), (1, .int p0), (2, .int p1)] := hl
  revert h
  unfold fn_X4_passTillDone
  refine v_aload_n S hl 0 rfl rfl dX4_passTillDone_0 ?_
  refine v_iload_n S hl 1 rfl rfl dX4_passTillDone_1 ?_
  refine v_cV_iR S hG [.int p0] rfl rfl (by decide) (met_X4_isToll l g ad true b σ t p0) mw_X4_isToll q219 dX4_passTillDone_2 rfl rfl hl.1 (Nat.le_of_ble_eq_true rfl) ⟨Nat.le_of_ble_eq_true rfl, Nat.le_of_ble_eq_true rfl⟩ rfl rfl ⟨Nat.le_of_ble_eq_true rfl, Nat.le_of_ble_eq_true rfl⟩ (fun r1 H locs hG => ?_)
  refine v_if_ne S 10 dX4_passTillDone_5 (by decide) ?_ ?_
  · refine v_aload_n S hl 0 rfl rfl dX4_passTillDone_10 ?_
    refine gr_4_2 S hG q59 dX4_passTillDone_11 (fun r2 => ?_)
    refine v_iload_n S hl 1 rfl rfl dX4_passTillDone_14 ?_
    refine v_aald_11 S hG dX4_passTillDone_15 (fun r3 => ?_)
    refine v_astore_n S hl [(3, .ref (ad r3)), (0, .ref (ad t)), (1, .int p0), (2, .int p1)] rfl dX4_passTillDone_16 (by decide) rfl (fun ls hl => ?_)
    refine v_iconst S 0 dX4_passTillDone_17 rfl ?_
    refine v_istore S hl [(4, .int 0), (3, .ref (ad r3)), (0, .ref (ad t)), (1, .int p0), (2, .int p1)] dX4_passTillDone_18 (by decide) rfl (fun ls hl => ?_)
    refine wl_X4_passTillDone_20 S hr hlk t p1 r3 (fun x8 σ9 H locs ls hl hG => ?_) 602 0 σ _ _ ls (lv_sub hl [2, 4, 1, 0] rfl) hG
    refine v_aload_n S hl 2 rfl rfl dX4_passTillDone_44 ?_
    refine v_cV_iR S hG [] rfl rfl (by decide) (met_X3_isDone l g ad true b σ9 r3) mw_X3_isDone q61 dX4_passTillDone_45 rfl rfl hl.1 (Nat.le_of_ble_eq_true rfl) ⟨Nat.le_of_ble_eq_true rfl, Nat.le_of_ble_eq_true rfl⟩ rfl rfl ⟨Nat.le_of_ble_eq_true rfl, Nat.le_of_ble_eq_true rfl⟩ (fun r10 H locs hG => ?_)
    refine v_if_eq S 56 dX4_passTillDone_48 (by decide) ?_ ?_
    · refine v_iconst S (-1) dX4_passTillDone_56 rfl ?_
      exact v_iretm S hG hr hlk (Nat.le_of_ble_eq_true rfl) (Nat.le_of_ble_eq_true rfl) dX4_passTillDone_57
    · refine v_iload S hl 3 rfl dX4_passTillDone_51 ?_
      refine v_goto S 57 dX4_passTillDone_53 (by decide) ?_
      exact v_iretm S hG hr hlk (Nat.le_of_ble_eq_true rfl) (Nat.le_of_ble_eq_true rfl) dX4_passTillDone_57
  · refine v_iconst S (-1) dX4_passTillDone_8 rfl ?_
    exact v_iretm S hG hr hlk (Nat.le_of_ble_eq_true rfl) (Nat.le_of_ble_eq_true rfl) dX4_passTillDone_9
