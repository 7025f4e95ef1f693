def fn_X1_init (σ : Me) (t : Nat) : Option Me := (some σ)
set_option maxHeartbeats 4000000 in
set_option maxRecDepth 100000 in
theorem met_X1_init (l : Launch) (g : GT) (σ : Me) (t : Nat) (σr : Me) (h : fn_X1_init σ t = some σr) : Met l yX1_init (wsy yX1_init cX1_init 1 none) ({ frames := 1, cells := 0, slots := 0, locals := 20 } : Room) (va_Pc [.ref (bad g t)] (DP g σ)) (va_Qv (fun (u : Me) => u = σr) (DG g) (fun q => g.2.2.2 ≤ q)) 0 0 (fun q => g.2.2.2 ≤ q) := by
  refine Met.ofW (cc := cX1_init) (maxL := 1) (ret := none) (by decide) rfl ?_
  intro p e s m args below meth c s₁ B hml hv
  obtain ⟨rfl, hv⟩ := hv
  have S : CallFix p m c cX1_init 1 s _ AL RX1 := ⟨B.exec, B.bytes, hml, findClass_of_methodNamed B.named, fun w h => atoms_spec (ws := wsy yX1_init cX1_init 1 none) B.pre w (List.mem_cons_of_mem _ h)⟩
  have hr := B.returns
  have hlk := B.notSynchronized
  have hin : meth.name = "<init>" := (name_of_methodNamed B.named B.method).1
  have hb9 : g.2.2.2 ≤ s.heap.size := by rw [hv.1.2.2]; exact Nat.le_add_right _ _
  have hA : DA g σ s s.heap [] := DA_start hv
  have hl := lv_entry ([.ref (bad g t)]) (n := 1) (Nat.le_of_ble_eq_true rfl)
  rw [lg_entry_eq]
  generalize (lg_sl ([.ref (bad g t)]) ++ List.replicate (1 - (lg_sl ([.ref (bad g t)])).length) Slot.unset).toArray = ls at hl ⊢
  have hl : lv_has ls 1 [(0, .ref (bad g t))] := hl
  revert h
  unfold fn_X1_init
  refine v_aload_n S hl 0 rfl rfl dX1_init_0 ?_
  refine d_obj S q491 q492 q493 hl.1 (Nat.le_of_ble_eq_true rfl) (Nat.le_of_ble_eq_true rfl) dX1_init_1 ?_
  exact d_vret S hA hr hlk (show 0 ≤ 0 by omega) (show 0 ≤ 0 by omega) dX1_init_4
def fn_X2_init (σ : Me) (t : Nat) : Option Me := gd (dck σ t 2) (nm (dput σ t 2 (-1)) (fun σ1 => (some σ1)))
set_option maxHeartbeats 4000000 in
set_option maxRecDepth 100000 in
theorem met_X2_init (l : Launch) (g : GT) (σ : Me) (t : Nat) (σr : Me) (h : fn_X2_init σ t = some σr) : Met l yX2_init (wsy yX2_init cX2_init 1 none) ({ frames := 1, cells := 0, slots := 0, locals := 20 } : Room) (va_Pc [.ref (bad g t)] (DP g σ)) (va_Qv (fun (u : Me) => u = σr) (DG g) (fun q => g.2.2.2 ≤ q)) 0 0 (fun q => g.2.2.2 ≤ q) := by
  refine Met.ofW (cc := cX2_init) (maxL := 1) (ret := none) (by decide) rfl ?_
  intro p e s m args below meth c s₁ B hml hv
  obtain ⟨rfl, hv⟩ := hv
  have S : CallFix p m c cX2_init 1 s _ AL RX2 := ⟨B.exec, B.bytes, hml, findClass_of_methodNamed B.named, fun w h => atoms_spec (ws := wsy yX2_init cX2_init 1 none) B.pre w (List.mem_cons_of_mem _ h)⟩
  have hr := B.returns
  have hlk := B.notSynchronized
  have hin : meth.name = "<init>" := (name_of_methodNamed B.named B.method).1
  have hb9 : g.2.2.2 ≤ s.heap.size := by rw [hv.1.2.2]; exact Nat.le_add_right _ _
  have hA : DA g σ s s.heap [] := DA_start hv
  have hl := lv_entry ([.ref (bad g t)]) (n := 1) (Nat.le_of_ble_eq_true rfl)
  rw [lg_entry_eq]
  generalize (lg_sl ([.ref (bad g t)]) ++ List.replicate (1 - (lg_sl ([.ref (bad g t)])).length) Slot.unset).toArray = ls at hl ⊢
  have hl : lv_has ls 1 [(0, .ref (bad g t))] := hl
  revert h
  unfold fn_X2_init
  refine v_aload_n S hl 0 rfl rfl dX2_init_0 ?_
  refine d_obj S q494 q492 q493 hl.1 (Nat.le_of_ble_eq_true rfl) (Nat.le_of_ble_eq_true rfl) dX2_init_1 ?_
  refine v_aload_n S hl 0 rfl rfl dX2_init_4 ?_
  refine v_iconst S (-1) dX2_init_5 rfl ?_
  refine d_put_2_2 S hA q93 dX2_init_6 (fun σ1 H locs hA => ?_)
  exact d_vret S hA hr hlk (show 0 ≤ 0 by omega) (show 0 ≤ 0 by omega) dX2_init_9
def fn_X0_init (σ : Me) (t : Nat) (p0 : Int32) : Option Me := nm (dnew σ 1) (fun σ1 => b1 (fn_X1_init σ1 (dn σ)) (fun σ2 => gd (dck σ2 t 0) (nm (dputR σ2 t 0 (dn σ)) (fun σ3 => nm (dnew σ3 1) (fun σ4 => b1 (fn_X1_init σ4 (dn σ3)) (fun σ5 => gd (dck σ5 t 0) (nm (dputR σ5 t 1 (dn σ3)) (fun σ6 => gd (dck σ6 t 0) (nm (dput σ6 t 4 (-1)) (fun σ7 => gd (dck σ7 t 0) (nm (dput σ7 t 5 (-1)) (fun σ8 => gd (dck σ8 t 0) (nm (dput σ8 t 2 p0) (fun σ9 => (some σ9)))))))))))))))
set_option maxHeartbeats 4000000 in
set_option maxRecDepth 100000 in
theorem met_X0_init (l : Launch) (g : GT) (σ : Me) (t : Nat) (p0 : Int32) (σr : Me) (h : fn_X0_init σ t p0 = some σr) : Met l yX0_init (wsy yX0_init cX0_init 2 none) ({ frames := 2, cells := 2, slots := 4, locals := 40 } : Room) (va_Pc [.ref (bad g t), .int p0] (DP g σ)) (va_Qv (fun (u : Me) => u = σr) (DG g) (fun q => g.2.2.2 ≤ q)) 2 4 (fun q => g.2.2.2 ≤ q) := by
  refine Met.ofW (cc := cX0_init) (maxL := 2) (ret := none) (by decide) rfl ?_
  intro p e s m args below meth c s₁ B hml hv
  obtain ⟨rfl, hv⟩ := hv
  have S : CallFix p m c cX0_init 2 s _ AL RX0 := ⟨B.exec, B.bytes, hml, findClass_of_methodNamed B.named, fun w h => atoms_spec (ws := wsy yX0_init cX0_init 2 none) B.pre w (List.mem_cons_of_mem _ h)⟩
  have hr := B.returns
  have hlk := B.notSynchronized
  have hin : meth.name = "<init>" := (name_of_methodNamed B.named B.method).1
  have hb9 : g.2.2.2 ≤ s.heap.size := by rw [hv.1.2.2]; exact Nat.le_add_right _ _
  have hA : DA g σ s s.heap [] := DA_start hv
  have hl := lv_entry ([.ref (bad g t), .int p0]) (n := 2) (Nat.le_of_ble_eq_true rfl)
  rw [lg_entry_eq]
  generalize (lg_sl ([.ref (bad g t), .int p0]) ++ List.replicate (2 - (lg_sl ([.ref (bad g t), .int p0])).length) Slot.unset).toArray = ls at hl ⊢
  have hl : lv_has ls 2 [(0, .ref (bad g t)), (1, .int p0)] := hl
  revert h
  unfold fn_X0_init
  refine v_aload_n S hl 0 rfl rfl dX0_init_0 ?_
  refine d_obj S q495 q492 q493 hl.1 (Nat.le_of_ble_eq_true rfl) (Nat.le_of_ble_eq_true rfl) dX0_init_1 ?_
  refine v_aload_n S hl 0 rfl rfl dX0_init_4 ?_
  refine d_new_1 S hA hb9 q496 q497 q39 (show 0 + 1 ≤ 2 by omega) (show 0 + 2 ≤ 4 by omega) dX0_init_5 (fun σ1 H hA => ?_)
  refine v_dup S dX0_init_8 rfl ?_
  refine d_callN S hA [] (met_X1_init l g σ1 (dn σ)) mwi_X1_init rfl q498 dX0_init_9 rfl rfl hl.1 (Nat.le_of_ble_eq_true rfl) ⟨(Nat.le_of_ble_eq_true rfl), (Nat.le_of_ble_eq_true rfl)⟩ rfl rfl ⟨(show (0 + 1) + 0 ≤ 2 by omega), (show (0 + 2) + 0 ≤ 4 by omega)⟩ (fun σ2 H locs hA => ?_)
  refine d_put_0_0 S hA hin q28 dX0_init_12 (fun σ3 H locs hA => ?_)
  refine v_aload_n S hl 0 rfl rfl dX0_init_15 ?_
  refine d_new_1 S hA hb9 q496 q497 q39 (show ((0 + 1) + 0) + 1 ≤ 2 by omega) (show ((0 + 2) + 0) + 2 ≤ 4 by omega) dX0_init_16 (fun σ4 H hA => ?_)
  refine v_dup S dX0_init_19 rfl ?_
  refine d_callN S hA [] (met_X1_init l g σ4 (dn σ3)) mwi_X1_init rfl q498 dX0_init_20 rfl rfl hl.1 (Nat.le_of_ble_eq_true rfl) ⟨(Nat.le_of_ble_eq_true rfl), (Nat.le_of_ble_eq_true rfl)⟩ rfl rfl ⟨(show (((0 + 1) + 0) + 1) + 0 ≤ 2 by omega), (show (((0 + 2) + 0) + 2) + 0 ≤ 4 by omega)⟩ (fun σ5 H locs hA => ?_)
  refine d_put_0_1 S hA hin q27 dX0_init_23 (fun σ6 H locs hA => ?_)
  refine v_aload_n S hl 0 rfl rfl dX0_init_26 ?_
  refine v_iconst S (-1) dX0_init_27 rfl ?_
  refine d_put_0_4 S hA q283 dX0_init_28 (fun σ7 H locs hA => ?_)
  refine v_aload_n S hl 0 rfl rfl dX0_init_31 ?_
  refine v_iconst S (-1) dX0_init_32 rfl ?_
  refine d_put_0_5 S hA q284 dX0_init_33 (fun σ8 H locs hA => ?_)
  refine v_aload_n S hl 0 rfl rfl dX0_init_36 ?_
  refine v_iload_n S hl 1 rfl rfl dX0_init_37 ?_
  refine d_put_0_2 S hA q48 dX0_init_38 (fun σ9 H locs hA => ?_)
  exact d_vret S hA hr hlk (show ((((0 + 1) + 0) + 1) + 0) ≤ 2 by omega) (show ((((0 + 2) + 0) + 2) + 0) ≤ 4 by omega) dX0_init_41
def fn_X3_init (σ : Me) (t : Nat) (p0 : Int32) : Option Me := gd (dck σ t 3) (nm (dput σ t 7 (-1)) (fun σ1 => (if p0 = (0 : Int32) then nm (dnewA σ1 8 0) (fun σ2 => gd (dck σ2 t 3) (nm (dputR σ2 t 0 (dn σ1)) (fun σ3 => (some σ3)))) else nm (dnewA σ1 8 91) (fun σ4 => gd (dck σ4 t 3) (nm (dputR σ4 t 0 (dn σ1)) (fun σ5 => (some σ5)))))))
set_option maxHeartbeats 4000000 in
set_option maxRecDepth 100000 in
theorem met_X3_init (l : Launch) (g : GT) (σ : Me) (t : Nat) (p0 : Int32) (σr : Me) (h : fn_X3_init σ t p0 = some σr) : Met l yX3_init (wsy yX3_init cX3_init 2 none) ({ frames := 1, cells := 1, slots := 91, locals := 20 } : Room) (va_Pc [.ref (bad g t), .int p0] (DP g σ)) (va_Qv (fun (u : Me) => u = σr) (DG g) (fun q => g.2.2.2 ≤ q)) 1 91 (fun q => g.2.2.2 ≤ q) := by
  refine Met.ofW (cc := cX3_init) (maxL := 2) (ret := none) (by decide) rfl ?_
  intro p e s m args below meth c s₁ B hml hv
  obtain ⟨rfl, hv⟩ := hv
  have S : CallFix p m c cX3_init 2 s _ AL RX3 := ⟨B.exec, B.bytes, hml, findClass_of_methodNamed B.named, fun w h => atoms_spec (ws := wsy yX3_init cX3_init 2 none) B.pre w (List.mem_cons_of_mem _ h)⟩
  have hr := B.returns
  have hlk := B.notSynchronized
  have hin : meth.name = "<init>" := (name_of_methodNamed B.named B.method).1
  have hb9 : g.2.2.2 ≤ s.heap.size := by rw [hv.1.2.2]; exact Nat.le_add_right _ _
  have hA : DA g σ s s.heap [] := DA_start hv
  have hl := lv_entry ([.ref (bad g t), .int p0]) (n := 2) (Nat.le_of_ble_eq_true rfl)
  rw [lg_entry_eq]
  generalize (lg_sl ([.ref (bad g t), .int p0]) ++ List.replicate (2 - (lg_sl ([.ref (bad g t), .int p0])).length) Slot.unset).toArray = ls at hl ⊢
  have hl : lv_has ls 2 [(0, .ref (bad g t)), (1, .int p0)] := hl
  revert h
  unfold fn_X3_init
  refine v_aload_n S hl 0 rfl rfl dX3_init_0 ?_
  refine d_obj S q501 q492 q493 hl.1 (Nat.le_of_ble_eq_true rfl) (Nat.le_of_ble_eq_true rfl) dX3_init_1 ?_
  refine v_aload_n S hl 0 rfl rfl dX3_init_4 ?_
  refine v_iconst S (-1) dX3_init_5 rfl ?_
  refine d_put_3_7 S hA q57 dX3_init_6 (fun σ1 H locs hA => ?_)
  refine v_aload_n S hl 0 rfl rfl dX3_init_9 ?_
  refine v_iload_n S hl 1 rfl rfl dX3_init_10 ?_
  refine v_if_eq S 19 dX3_init_11 (by decide) ?_ ?_
  · refine v_iconst S 0 dX3_init_19 rfl ?_
    refine d_newI S hA hb9 (n := 0) q366 dX3_init_20 (by decide) rfl (Nat.le_of_ble_eq_true rfl) (show 0 + 1 ≤ 1 by omega) (show 0 + 0 ≤ 91 by omega) (fun σ2 H hA => ?_)
    refine d_put_3_0 S hA hin q171 dX3_init_22 (fun σ3 H locs hA => ?_)
    exact d_vret S hA hr hlk (show (0 + 1) ≤ 1 by omega) (show (0 + 0) ≤ 91 by omega) dX3_init_25
  · refine v_bipush S 91 dX3_init_14 (by decide) ?_
    refine v_goto S 20 dX3_init_16 (by decide) ?_
    refine d_newI S hA hb9 (n := 91) q366 dX3_init_20 (by decide) rfl (Nat.le_of_ble_eq_true rfl) (show 0 + 1 ≤ 1 by omega) (show 0 + 91 ≤ 91 by omega) (fun σ4 H hA => ?_)
    refine d_put_3_0 S hA hin q171 dX3_init_22 (fun σ5 H locs hA => ?_)
    exact d_vret S hA hr hlk (show (0 + 1) ≤ 1 by omega) (show (0 + 91) ≤ 91 by omega) dX3_init_25
def lp_X4_init_14 (a0 : Nat) (a1 : Int32) (K : Int32 → Me → Option Me) : Nat → Int32 → Me → Option Me
  | 0, _, _ => none
  | fuel + 1, y2, σ => (if 4 ≤ y2 then (K y2 σ) else gd (dck σ a0 4) (b1 (dr σ a0 0) (fun r3 => nm (dnew σ 0) (fun σ4 => b1 (fn_X0_init σ4 (dn σ) (y2 + 3)) (fun σ5 => gd (dia σ5 r3 9 y2 && dck σ5 (dn σ) 0) (nm (dputR σ5 r3 (Int32.toNatClampNeg y2) (dn σ)) (fun σ6 => nm (y2 + 1) (fun x7 => (lp_X4_init_14 a0 a1 K fuel x7 σ6)))))))))
def lp_X4_init_52 (a0 : Nat) (a1 : Int32) (K : Int32 → Me → Option Me) : Nat → Int32 → Me → Option Me
  | 0, _, _ => none
  | fuel + 1, y2, σ => (if 12 ≤ y2 then (K y2 σ) else gd (dck σ a0 4) (b1 (dr σ a0 1) (fun r12 => nm (dnew σ 2) (fun σ13 => b1 (fn_X2_init σ13 (dn σ)) (fun σ14 => gd (dia σ14 r12 10 y2 && dck σ14 (dn σ) 2) (nm (dputR σ14 r12 (Int32.toNatClampNeg y2) (dn σ)) (fun σ15 => nm (y2 + 1) (fun x16 => (lp_X4_init_52 a0 a1 K fuel x16 σ15)))))))))
def lp_X4_init_88 (a0 : Nat) (a1 : Int32) (K : Int32 → Me → Option Me) : Nat → Int32 → Me → Option Me
  | 0, _, _ => none
  | fuel + 1, y2, σ => (if 20 < y2 then (K y2 σ) else gd (dck σ a0 4) (b1 (dr σ a0 2) (fun r21 => nm (dnew σ 3) (fun σ22 => b1 (fn_X3_init σ22 (dn σ) a1) (fun σ23 => gd (dia σ23 r21 11 y2 && dck σ23 (dn σ) 3) (nm (dputR σ23 r21 (Int32.toNatClampNeg y2) (dn σ)) (fun σ24 => nm (y2 + 1) (fun x25 => (lp_X4_init_88 a0 a1 K fuel x25 σ24)))))))))
def fn_X4_init (σ : Me) (t : Nat) (p0 : Int32) : Option Me := nm (dnewA σ 9 4) (fun σ1 => gd (dck σ1 t 4) (nm (dputR σ1 t 0 (dn σ)) (fun σ2 => (lp_X4_init_14 t p0 (fun x8 σ9 => nm (dnewA σ9 10 12) (fun σ10 => gd (dck σ10 t 4) (nm (dputR σ10 t 1 (dn σ9)) (fun σ11 => (lp_X4_init_52 t p0 (fun x17 σ18 => nm (dnewA σ18 11 21) (fun σ19 => gd (dck σ19 t 4) (nm (dputR σ19 t 2 (dn σ18)) (fun σ20 => (lp_X4_init_88 t p0 (fun x26 σ27 => gd (dck σ27 t 4) (nm (dput σ27 t 6 20) (fun σ28 => (some σ28)))) 22 0 σ20))))) 13 0 σ11))))) 5 0 σ2))))
set_option maxHeartbeats 4000000 in
set_option maxRecDepth 100000 in
theorem wl_X4_init_14 {p : Program} {l : Launch} {e : Env} {s : State} {m : MethodId} {args : Array Value} {below : List Frame} {meth : Method} {c : Code} {g : GT} (S : CallFix p m c cX4_init 3 s args AL RX4) (hr : meth.sig.returnType = none) (hlk : meth.locks = false) (hb9 : g.2.2.2 ≤ s.heap.size) (a0 : Nat) (a1 : Int32) (cb sb : Nat) (hcb : cb + 5 * 3 ≤ 75) (hsb : sb + 5 * 12 ≤ 2340) {σr : Me} {K : Int32 → Me → Option Me} (kx : ∀ (y2 : Int32) (σ : Me) (H : Heap) (locs : List Loc) (ls : Array Slot), lv_has ls 3 [(0, .ref (bad g a0)), (1, .int a1), (2, .int y2)] → DA g σ s H locs → K y2 σ = some σr → W p l e ({ frames := 3, cells := 75, slots := 2340, locals := 61 } : Room) s m args below meth c H locs (cb + 5 * 3) (sb + 5 * 12) (MQ below (va_Qv (fun (u : Me) => u = σr) (DG g) (fun q => g.2.2.2 ≤ q)) args s 75 2340 (fun q => g.2.2.2 ≤ q)) (F0 m 41 ls [])) : ∀ (fuel : Nat) (hfu : fuel ≤ 5) (y2 : Int32) (σ : Me) (H : Heap) (locs : List Loc) (ls : Array Slot), lv_has ls 3 [(0, .ref (bad g a0)), (1, .int a1), (2, .int y2)] → DA g σ s H locs → lp_X4_init_14 a0 a1 K fuel y2 σ = some σr → W p l e ({ frames := 3, cells := 75, slots := 2340, locals := 61 } : Room) s m args below meth c H locs (cb + (5 - fuel) * 3) (sb + (5 - fuel) * 12) (MQ below (va_Qv (fun (u : Me) => u = σr) (DG g) (fun q => g.2.2.2 ≤ q)) args s 75 2340 (fun q => g.2.2.2 ≤ q)) (F0 m 14 ls []) := by
  intro fuel
  induction fuel with
  | zero =>
    intro hfu y2 σ H locs ls hl hA h
    rw [lp_X4_init_14.eq_1] at h
    cases h
  | succ fuel ih =>
    intro hfu y2 σ H locs ls hl hA
    rw [lp_X4_init_14.eq_2]
    refine v_iload_n S hl 2 rfl rfl dX4_init_14 ?_
    refine v_iconst S 4 dX4_init_15 rfl ?_
    refine v_icmp_ge S 41 dX4_init_16 (by decide) ?_ ?_
    · refine v_widen (k := cb + 5 * 3) (n := sb + 5 * 12) (by omega) (by omega) ?_
      exact kx y2 σ _ _ ls (lv_sub hl [0, 1, 2] rfl) hA
    · refine v_aload_n S hl 0 rfl rfl dX4_init_19 ?_
      refine d_gr_4_0 S hA q66 dX4_init_20 (fun r3 => ?_)
      refine v_iload_n S hl 2 rfl rfl dX4_init_23 ?_
      refine d_new_0 S hA hb9 q503 q504 q33 (show (cb + (5 - (fuel + 1)) * 3) + 1 ≤ 75 by omega) (show (sb + (5 - (fuel + 1)) * 12) + 8 ≤ 2340 by omega) dX4_init_24 (fun σ4 H hA => ?_)
      refine v_dup S dX4_init_27 rfl ?_
      refine v_iload_n S hl 2 rfl rfl dX4_init_28 ?_
      refine v_iconst S 3 dX4_init_29 rfl ?_
      refine v_iadd S dX4_init_30 ?_
      refine d_callI S hA [.int (y2 + 3)] (met_X0_init l g σ4 (dn σ) (y2 + 3)) mwi_X0_init rfl q505 dX4_init_31 rfl rfl hl.1 (Nat.le_of_ble_eq_true rfl) ⟨(Nat.le_of_ble_eq_true rfl), (Nat.le_of_ble_eq_true rfl)⟩ rfl rfl ⟨(show ((cb + (5 - (fuel + 1)) * 3) + 1) + 2 ≤ 75 by omega), (show ((sb + (5 - (fuel + 1)) * 12) + 8) + 4 ≤ 2340 by omega)⟩ (fun σ5 H locs hA => ?_)
      refine d_aast_9 S hA dX4_init_34 (fun σ6 H locs hA => ?_)
      refine v_iinc S hl 2 rfl dX4_init_35 rfl (by decide) (fun z => [(2, .int z), (0, .ref (bad g a0)), (1, .int a1)]) (fun _ => rfl) (fun x7 ls hl => ?_)
      refine v_goto S 14 dX4_init_38 (by decide) ?_
      refine v_widen (k := cb + (5 - fuel) * 3) (n := sb + (5 - fuel) * 12) (by omega) (by omega) ?_
      exact ih (by omega) x7 σ6 _ _ ls (lv_sub hl [1, 2, 0] rfl) hA
set_option maxHeartbeats 4000000 in
set_option maxRecDepth 100000 in
theorem wl_X4_init_52 {p : Program} {l : Launch} {e : Env} {s : State} {m : MethodId} {args : Array Value} {below : List Frame} {meth : Method} {c : Code} {g : GT} (S : CallFix p m c cX4_init 3 s args AL RX4) (hr : meth.sig.returnType = none) (hlk : meth.locks = false) (hb9 : g.2.2.2 ≤ s.heap.size) (a0 : Nat) (a1 : Int32) (cb sb : Nat) (hcb : cb + 13 * 1 ≤ 75) (hsb : sb + 13 * 5 ≤ 2340) {σr : Me} {K : Int32 → Me → Option Me} (kx : ∀ (y2 : Int32) (σ : Me) (H : Heap) (locs : List Loc) (ls : Array Slot), lv_has ls 3 [(0, .ref (bad g a0)), (1, .int a1), (2, .int y2)] → DA g σ s H locs → K y2 σ = some σr → W p l e ({ frames := 3, cells := 75, slots := 2340, locals := 61 } : Room) s m args below meth c H locs (cb + 13 * 1) (sb + 13 * 5) (MQ below (va_Qv (fun (u : Me) => u = σr) (DG g) (fun q => g.2.2.2 ≤ q)) args s 75 2340 (fun q => g.2.2.2 ≤ q)) (F0 m 77 ls [])) : ∀ (fuel : Nat) (hfu : fuel ≤ 13) (y2 : Int32) (σ : Me) (H : Heap) (locs : List Loc) (ls : Array Slot), lv_has ls 3 [(0, .ref (bad g a0)), (1, .int a1), (2, .int y2)] → DA g σ s H locs → lp_X4_init_52 a0 a1 K fuel y2 σ = some σr → W p l e ({ frames := 3, cells := 75, slots := 2340, locals := 61 } : Room) s m args below meth c H locs (cb + (13 - fuel) * 1) (sb + (13 - fuel) * 5) (MQ below (va_Qv (fun (u : Me) => u = σr) (DG g) (fun q => g.2.2.2 ≤ q)) args s 75 2340 (fun q => g.2.2.2 ≤ q)) (F0 m 52 ls []) := by
  intro fuel
  induction fuel with
  | zero =>
    intro hfu y2 σ H locs ls hl hA h
    rw [lp_X4_init_52.eq_1] at h
    cases h
  | succ fuel ih =>
    intro hfu y2 σ H locs ls hl hA
    rw [lp_X4_init_52.eq_2]
    refine v_iload_n S hl 2 rfl rfl dX4_init_52 ?_
    refine v_bipush S 12 dX4_init_53 (by decide) ?_
    refine v_icmp_ge S 77 dX4_init_55 (by decide) ?_ ?_
    · refine v_widen (k := cb + 13 * 1) (n := sb + 13 * 5) (by omega) (by omega) ?_
      exact kx y2 σ _ _ ls (lv_sub hl [0, 1, 2] rfl) hA
    · refine v_aload_n S hl 0 rfl rfl dX4_init_58 ?_
      refine d_gr_4_1 S hA q86 dX4_init_59 (fun r12 => ?_)
      refine v_iload_n S hl 2 rfl rfl dX4_init_62 ?_
      refine d_new_2 S hA hb9 q508 q509 q102 (show (cb + (13 - (fuel + 1)) * 1) + 1 ≤ 75 by omega) (show (sb + (13 - (fuel + 1)) * 5) + 5 ≤ 2340 by omega) dX4_init_63 (fun σ13 H hA => ?_)
      refine v_dup S dX4_init_66 rfl ?_
      refine d_callN S hA [] (met_X2_init l g σ13 (dn σ)) mwi_X2_init rfl q510 dX4_init_67 rfl rfl hl.1 (Nat.le_of_ble_eq_true rfl) ⟨(Nat.le_of_ble_eq_true rfl), (Nat.le_of_ble_eq_true rfl)⟩ rfl rfl ⟨(show ((cb + (13 - (fuel + 1)) * 1) + 1) + 0 ≤ 75 by omega), (show ((sb + (13 - (fuel + 1)) * 5) + 5) + 0 ≤ 2340 by omega)⟩ (fun σ14 H locs hA => ?_)
      refine d_aast_10 S hA dX4_init_70 (fun σ15 H locs hA => ?_)
      refine v_iinc S hl 2 rfl dX4_init_71 rfl (by decide) (fun z => [(2, .int z), (0, .ref (bad g a0)), (1, .int a1)]) (fun _ => rfl) (fun x16 ls hl => ?_)
      refine v_goto S 52 dX4_init_74 (by decide) ?_
      refine v_widen (k := cb + (13 - fuel) * 1) (n := sb + (13 - fuel) * 5) (by omega) (by omega) ?_
      exact ih (by omega) x16 σ15 _ _ ls (lv_sub hl [1, 2, 0] rfl) hA
set_option maxHeartbeats 4000000 in
set_option maxRecDepth 100000 in
theorem wl_X4_init_88 {p : Program} {l : Launch} {e : Env} {s : State} {m : MethodId} {args : Array Value} {below : List Frame} {meth : Method} {c : Code} {g : GT} (S : CallFix p m c cX4_init 3 s args AL RX4) (hr : meth.sig.returnType = none) (hlk : meth.locks = false) (hb9 : g.2.2.2 ≤ s.heap.size) (a0 : Nat) (a1 : Int32) (cb sb : Nat) (hcb : cb + 22 * 2 ≤ 75) (hsb : sb + 22 * 99 ≤ 2340) {σr : Me} {K : Int32 → Me → Option Me} (kx : ∀ (y2 : Int32) (σ : Me) (H : Heap) (locs : List Loc) (ls : Array Slot), lv_has ls 3 [(0, .ref (bad g a0)), (1, .int a1), (2, .int y2)] → DA g σ s H locs → K y2 σ = some σr → W p l e ({ frames := 3, cells := 75, slots := 2340, locals := 61 } : Room) s m args below meth c H locs (cb + 22 * 2) (sb + 22 * 99) (MQ below (va_Qv (fun (u : Me) => u = σr) (DG g) (fun q => g.2.2.2 ≤ q)) args s 75 2340 (fun q => g.2.2.2 ≤ q)) (F0 m 114 ls [])) : ∀ (fuel : Nat) (hfu : fuel ≤ 22) (y2 : Int32) (σ : Me) (H : Heap) (locs : List Loc) (ls : Array Slot), lv_has ls 3 [(0, .ref (bad g a0)), (1, .int a1), (2, .int y2)] → DA g σ s H locs → lp_X4_init_88 a0 a1 K fuel y2 σ = some σr → W p l e ({ frames := 3, cells := 75, slots := 2340, locals := 61 } : Room) s m args below meth c H locs (cb + (22 - fuel) * 2) (sb + (22 - fuel) * 99) (MQ below (va_Qv (fun (u : Me) => u = σr) (DG g) (fun q => g.2.2.2 ≤ q)) args s 75 2340 (fun q => g.2.2.2 ≤ q)) (F0 m 88 ls []) := by
  intro fuel
  induction fuel with
  | zero =>
    intro hfu y2 σ H locs ls hl hA h
    rw [lp_X4_init_88.eq_1] at h
    cases h
  | succ fuel ih =>
    intro hfu y2 σ H locs ls hl hA
    rw [lp_X4_init_88.eq_2]
    refine v_iload_n S hl 2 rfl rfl dX4_init_88 ?_
    refine v_bipush S 20 dX4_init_89 (by decide) ?_
    refine v_icmp_gt S 114 dX4_init_91 (by decide) ?_ ?_
    · refine v_widen (k := cb + 22 * 2) (n := sb + 22 * 99) (by omega) (by omega) ?_
      exact kx y2 σ _ _ ls (lv_sub hl [0, 1, 2] rfl) hA
    · refine v_aload_n S hl 0 rfl rfl dX4_init_94 ?_
      refine d_gr_4_2 S hA q59 dX4_init_95 (fun r21 => ?_)
      refine v_iload_n S hl 2 rfl rfl dX4_init_98 ?_
      refine d_new_3 S hA hb9 q513 q514 q63 (show (cb + (22 - (fuel + 1)) * 2) + 1 ≤ 75 by omega) (show (sb + (22 - (fuel + 1)) * 99) + 8 ≤ 2340 by omega) dX4_init_99 (fun σ22 H hA => ?_)
      refine v_dup S dX4_init_102 rfl ?_
      refine v_iload_n S hl 1 rfl rfl dX4_init_103 ?_
      refine d_callI S hA [.int a1] (met_X3_init l g σ22 (dn σ) a1) mwi_X3_init rfl q515 dX4_init_104 rfl rfl hl.1 (Nat.le_of_ble_eq_true rfl) ⟨(Nat.le_of_ble_eq_true rfl), (Nat.le_of_ble_eq_true rfl)⟩ rfl rfl ⟨(show ((cb + (22 - (fuel + 1)) * 2) + 1) + 1 ≤ 75 by omega), (show ((sb + (22 - (fuel + 1)) * 99) + 8) + 91 ≤ 2340 by omega)⟩ (fun σ23 H locs hA => ?_)
      refine d_aast_11 S hA dX4_init_107 (fun σ24 H locs hA => ?_)
      refine v_iinc S hl 2 rfl dX4_init_108 rfl (by decide) (fun z => [(2, .int z), (0, .ref (bad g a0)), (1, .int a1)]) (fun _ => rfl) (fun x25 ls hl => ?_)
      refine v_goto S 88 dX4_init_111 (by decide) ?_
      refine v_widen (k := cb + (22 - fuel) * 2) (n := sb + (22 - fuel) * 99) (by omega) (by omega) ?_
      exact ih (by omega) x25 σ24 _ _ ls (lv_sub hl [1, 2, 0] rfl) hA
set_option maxHeartbeats 4000000 in
set_option maxRecDepth 100000 in
theorem met_X4_init (l : Launch) (g : GT) (σ : Me) (t : Nat) (p0 : Int32) (σr : Me) (h : fn_X4_init σ t p0 = some σr) : Met l yX4_init (wsy yX4_init cX4_init 3 none) ({ frames := 3, cells := 75, slots := 2340, locals := 61 } : Room) (va_Pc [.ref (bad g t), .int p0] (DP g σ)) (va_Qv (fun (u : Me) => u = σr) (DG g) (fun q => g.2.2.2 ≤ q)) 75 2340 (fun q => g.2.2.2 ≤ q) := by
  refine Met.ofW (cc := cX4_init) (maxL := 3) (ret := none) (by decide) rfl ?_
  intro p e s m args below meth c s₁ B hml hv
  obtain ⟨rfl, hv⟩ := hv
  have S : CallFix p m c cX4_init 3 s _ AL RX4 := ⟨B.exec, B.bytes, hml, findClass_of_methodNamed B.named, fun w h => atoms_spec (ws := wsy yX4_init cX4_init 3 none) B.pre w (List.mem_cons_of_mem _ h)⟩
  have hr := B.returns
  have hlk := B.notSynchronized
  have hin : meth.name = "<init>" := (name_of_methodNamed B.named B.method).1
  have hb9 : g.2.2.2 ≤ s.heap.size := by rw [hv.1.2.2]; exact Nat.le_add_right _ _
  have hA : DA g σ s s.heap [] := DA_start hv
  have hl := lv_entry ([.ref (bad g t), .int p0]) (n := 3) (Nat.le_of_ble_eq_true rfl)
  rw [lg_entry_eq]
  generalize (lg_sl ([.ref (bad g t), .int p0]) ++ List.replicate (3 - (lg_sl ([.ref (bad g t), .int p0])).length) Slot.unset).toArray = ls at hl ⊢
  have hl : lv_has ls 3 [(0, .ref (bad g t)), (1, .int p0)] := hl
  revert h
  unfold fn_X4_init
  refine v_aload_n S hl 0 rfl rfl dX4_init_0 ?_
  refine d_obj S q502 q492 q493 hl.1 (Nat.le_of_ble_eq_true rfl) (Nat.le_of_ble_eq_true rfl) dX4_init_1 ?_
  refine v_aload_n S hl 0 rfl rfl dX4_init_4 ?_
  refine v_iconst S 4 dX4_init_5 rfl ?_
  refine d_newQ_9 S hA hb9 (n := 4) q503 dX4_init_6 (by decide) rfl (Nat.le_of_ble_eq_true rfl) (show 0 + 1 ≤ 75 by omega) (show 0 + 4 ≤ 2340 by omega) (fun σ1 H hA => ?_)
  refine d_put_4_0 S hA hin q66 dX4_init_9 (fun σ2 H locs hA => ?_)
  refine v_iconst S 0 dX4_init_12 rfl ?_
  refine v_istore_n S hl [(2, .int 0), (0, .ref (bad g t)), (1, .int p0)] rfl dX4_init_13 (by decide) rfl (fun ls hl => ?_)
  refine v_widen (k := (0 + 1) + (5 - 5) * 3) (n := (0 + 4) + (5 - 5) * 12) (by omega) (by omega) ?_
  refine wl_X4_init_14 S hr hlk hb9 t p0 ((0 + 1)) ((0 + 4)) (show (0 + 1) + 5 * 3 ≤ 75 by omega) (show (0 + 4) + 5 * 12 ≤ 2340 by omega) (fun x8 σ9 H locs ls hl hA => ?_) 5 (Nat.le_refl _) 0 σ2 _ _ ls (lv_sub hl [1, 2, 0] rfl) hA
  refine v_aload_n S hl 0 rfl rfl dX4_init_41 ?_
  refine v_bipush S 12 dX4_init_42 (by decide) ?_
  refine d_newQ_10 S hA hb9 (n := 12) q508 dX4_init_44 (by decide) rfl (Nat.le_of_ble_eq_true rfl) (show ((0 + 1) + 5 * 3) + 1 ≤ 75 by omega) (show ((0 + 4) + 5 * 12) + 12 ≤ 2340 by omega) (fun σ10 H hA => ?_)
  refine d_put_4_1 S hA hin q86 dX4_init_47 (fun σ11 H locs hA => ?_)
  refine v_iconst S 0 dX4_init_50 rfl ?_
  refine v_istore_n S hl [(2, .int 0), (0, .ref (bad g t)), (1, .int p0)] rfl dX4_init_51 (by decide) rfl (fun ls hl => ?_)
  refine v_widen (k := (((0 + 1) + 5 * 3) + 1) + (13 - 13) * 1) (n := (((0 + 4) + 5 * 12) + 12) + (13 - 13) * 5) (by omega) (by omega) ?_
  refine wl_X4_init_52 S hr hlk hb9 t p0 ((((0 + 1) + 5 * 3) + 1)) ((((0 + 4) + 5 * 12) + 12)) (show (((0 + 1) + 5 * 3) + 1) + 13 * 1 ≤ 75 by omega) (show (((0 + 4) + 5 * 12) + 12) + 13 * 5 ≤ 2340 by omega) (fun x17 σ18 H locs ls hl hA => ?_) 13 (Nat.le_refl _) 0 σ11 _ _ ls (lv_sub hl [1, 2, 0] rfl) hA
  refine v_aload_n S hl 0 rfl rfl dX4_init_77 ?_
  refine v_bipush S 21 dX4_init_78 (by decide) ?_
  refine d_newQ_11 S hA hb9 (n := 21) q513 dX4_init_80 (by decide) rfl (Nat.le_of_ble_eq_true rfl) (show ((((0 + 1) + 5 * 3) + 1) + 13 * 1) + 1 ≤ 75 by omega) (show ((((0 + 4) + 5 * 12) + 12) + 13 * 5) + 21 ≤ 2340 by omega) (fun σ19 H hA => ?_)
  refine d_put_4_2 S hA hin q59 dX4_init_83 (fun σ20 H locs hA => ?_)
  refine v_iconst S 0 dX4_init_86 rfl ?_
  refine v_istore_n S hl [(2, .int 0), (0, .ref (bad g t)), (1, .int p0)] rfl dX4_init_87 (by decide) rfl (fun ls hl => ?_)
  refine v_widen (k := (((((0 + 1) + 5 * 3) + 1) + 13 * 1) + 1) + (22 - 22) * 2) (n := (((((0 + 4) + 5 * 12) + 12) + 13 * 5) + 21) + (22 - 22) * 99) (by omega) (by omega) ?_
  refine wl_X4_init_88 S hr hlk hb9 t p0 ((((((0 + 1) + 5 * 3) + 1) + 13 * 1) + 1)) ((((((0 + 4) + 5 * 12) + 12) + 13 * 5) + 21)) (show (((((0 + 1) + 5 * 3) + 1) + 13 * 1) + 1) + 22 * 2 ≤ 75 by omega) (show (((((0 + 4) + 5 * 12) + 12) + 13 * 5) + 21) + 22 * 99 ≤ 2340 by omega) (fun x26 σ27 H locs ls hl hA => ?_) 22 (Nat.le_refl _) 0 σ20 _ _ ls (lv_sub hl [1, 2, 0] rfl) hA
  refine v_aload_n S hl 0 rfl rfl dX4_init_114 ?_
  refine v_bipush S 20 dX4_init_115 (by decide) ?_
  refine d_put_4_6 S hA q195 dX4_init_117 (fun σ28 H locs hA => ?_)
  exact d_vret S hA hr hlk (show ((((((0 + 1) + 5 * 3) + 1) + 13 * 1) + 1) + 22 * 2) ≤ 75 by omega) (show ((((((0 + 4) + 5 * 12) + 12) + 13 * 5) + 21) + 22 * 99) ≤ 2340 by omega) dX4_init_120
def fn_X5_init (σ : Me) (t : Nat) : Option Me := nm (dnew σ 4) (fun σ1 => b1 (fn_X4_init σ1 (dn σ) 1) (fun σ2 => gd (dck σ2 t 5) (nm (dputR σ2 t 0 (dn σ)) (fun σ3 => nm (dnew σ3 4) (fun σ4 => b1 (fn_X4_init σ4 (dn σ3) 0) (fun σ5 => gd (dck σ5 t 5) (nm (dputR σ5 t 1 (dn σ3)) (fun σ6 => (some σ6)))))))))
set_option maxHeartbeats 4000000 in
set_option maxRecDepth 100000 in
theorem met_X5_init (l : Launch) (g : GT) (σ : Me) (t : Nat) (σr : Me) (h : fn_X5_init σ t = some σr) : Met l yX5_init (wsy yX5_init cX5_init 1 none) ({ frames := 4, cells := 152, slots := 4694, locals := 83 } : Room) (va_Pc [.ref (bad g t)] (DP g σ)) (va_Qv (fun (u : Me) => u = σr) (DG g) (fun q => g.2.2.2 ≤ q)) 152 4694 (fun q => g.2.2.2 ≤ q) := by
  refine Met.ofW (cc := cX5_init) (maxL := 1) (ret := none) (by decide) rfl ?_
  intro p e s m args below meth c s₁ B hml hv
  obtain ⟨rfl, hv⟩ := hv
  have S : CallFix p m c cX5_init 1 s _ AL RX5 := ⟨B.exec, B.bytes, hml, findClass_of_methodNamed B.named, fun w h => atoms_spec (ws := wsy yX5_init cX5_init 1 none) B.pre w (List.mem_cons_of_mem _ h)⟩
  have hr := B.returns
  have hlk := B.notSynchronized
  have hin : meth.name = "<init>" := (name_of_methodNamed B.named B.method).1
  have hb9 : g.2.2.2 ≤ s.heap.size := by rw [hv.1.2.2]; exact Nat.le_add_right _ _
  have hA : DA g σ s s.heap [] := DA_start hv
  have hl := lv_entry ([.ref (bad g t)]) (n := 1) (Nat.le_of_ble_eq_true rfl)
  rw [lg_entry_eq]
  generalize (lg_sl ([.ref (bad g t)]) ++ List.replicate (1 - (lg_sl ([.ref (bad g t)])).length) Slot.unset).toArray = ls at hl ⊢
  have hl : lv_has ls 1 [(0, .ref (bad g t))] := hl
  revert h
  unfold fn_X5_init
  refine v_aload_n S hl 0 rfl rfl dX5_init_0 ?_
  refine d_obj S q518 q492 q493 hl.1 (Nat.le_of_ble_eq_true rfl) (Nat.le_of_ble_eq_true rfl) dX5_init_1 ?_
  refine v_aload_n S hl 0 rfl rfl dX5_init_4 ?_
  refine d_new_4 S hA hb9 q519 q520 q77 (show 0 + 1 ≤ 152 by omega) (show 0 + 7 ≤ 4694 by omega) dX5_init_5 (fun σ1 H hA => ?_)
  refine v_dup S dX5_init_8 rfl ?_
  refine v_iconst S 1 dX5_init_9 rfl ?_
  refine d_callI S hA [.int 1] (met_X4_init l g σ1 (dn σ) 1) mwi_X4_init rfl q521 dX5_init_10 rfl rfl hl.1 (Nat.le_of_ble_eq_true rfl) ⟨(Nat.le_of_ble_eq_true rfl), (Nat.le_of_ble_eq_true rfl)⟩ rfl rfl ⟨(show (0 + 1) + 75 ≤ 152 by omega), (show (0 + 7) + 2340 ≤ 4694 by omega)⟩ (fun σ2 H locs hA => ?_)
  refine d_put_5_0 S hA hin q24 dX5_init_13 (fun σ3 H locs hA => ?_)
  refine v_aload_n S hl 0 rfl rfl dX5_init_16 ?_
  refine d_new_4 S hA hb9 q519 q520 q77 (show ((0 + 1) + 75) + 1 ≤ 152 by omega) (show ((0 + 7) + 2340) + 7 ≤ 4694 by omega) dX5_init_17 (fun σ4 H hA => ?_)
  refine v_dup S dX5_init_20 rfl ?_
  refine v_iconst S 0 dX5_init_21 rfl ?_
  refine d_callI S hA [.int 0] (met_X4_init l g σ4 (dn σ3) 0) mwi_X4_init rfl q521 dX5_init_22 rfl rfl hl.1 (Nat.le_of_ble_eq_true rfl) ⟨(Nat.le_of_ble_eq_true rfl), (Nat.le_of_ble_eq_true rfl)⟩ rfl rfl ⟨(show (((0 + 1) + 75) + 1) + 75 ≤ 152 by omega), (show (((0 + 7) + 2340) + 7) + 2340 ≤ 4694 by omega)⟩ (fun σ5 H locs hA => ?_)
  refine d_put_5_1 S hA hin q298 dX5_init_25 (fun σ6 H locs hA => ?_)
  exact d_vret S hA hr hlk (show ((((0 + 1) + 75) + 1) + 75) ≤ 152 by omega) (show ((((0 + 7) + 2340) + 7) + 2340) ≤ 4694 by omega) dX5_init_28
def lp_X6_init_116 (a0 : Nat) (K : Int32 → Me → Option Me) : Nat → Int32 → Me → Option Me
  | 0, _, _ => none
  | fuel + 1, y2, σ => (if 4 ≤ y2 then (K y2 σ) else gd (dck σ a0 6) (b1 (dr σ a0 3) (fun r29 => gd (dia σ r29 8 y2) (nm (dput σ r29 (Int32.toNatClampNeg y2) (3 + y2)) (fun σ30 => gd (dck σ30 a0 6) (b1 (dr σ30 a0 7) (fun r31 => gd (dia σ30 r31 8 y2) (nm (dput σ30 r31 (Int32.toNatClampNeg y2) (-1)) (fun σ32 => nm (y2 + 1) (fun x33 => (lp_X6_init_116 a0 K fuel x33 σ32)))))))))))
def fn_X6_init (σ : Me) (t : Nat) (p0 : Nat) : Option Me := gd (dck σ t 6) (nm (dputR σ t 16 p0) (fun σ1 => gd (dck σ1 t 6) (nm (dput σ1 t 1 20) (fun σ2 => nm (dnewA σ2 8 4) (fun σ3 => gd (dck σ3 t 6) (nm (dputR σ3 t 3 (dn σ2)) (fun σ4 => nm (dnewA σ4 8 8) (fun σ5 => gd (dck σ5 t 6) (nm (dputR σ5 t 4 (dn σ4)) (fun σ6 => nm (dnewA σ6 8 8) (fun σ7 => gd (dck σ7 t 6) (nm (dputR σ7 t 5 (dn σ6)) (fun σ8 => nm (dnewA σ8 8 4) (fun σ9 => gd (dck σ9 t 6) (nm (dputR σ9 t 6 (dn σ8)) (fun σ10 => nm (dnewA σ10 8 4) (fun σ11 => gd (dck σ11 t 6) (nm (dputR σ11 t 7 (dn σ10)) (fun σ12 => nm (dnewA σ12 8 4) (fun σ13 => gd (dck σ13 t 6) (nm (dputR σ13 t 8 (dn σ12)) (fun σ14 => nm (dnewA σ14 8 4) (fun σ15 => gd (dck σ15 t 6) (nm (dputR σ15 t 9 (dn σ14)) (fun σ16 => nm (dnewA σ16 8 12) (fun σ17 => gd (dck σ17 t 6) (nm (dputR σ17 t 10 (dn σ16)) (fun σ18 => nm (dnewA σ18 8 12) (fun σ19 => gd (dck σ19 t 6) (nm (dputR σ19 t 11 (dn σ18)) (fun σ20 => nm (dnewA σ20 8 12) (fun σ21 => gd (dck σ21 t 6) (nm (dputR σ21 t 12 (dn σ20)) (fun σ22 => nm (dnewA σ22 8 21) (fun σ23 => gd (dck σ23 t 6) (nm (dputR σ23 t 13 (dn σ22)) (fun σ24 => nm (dnewA σ24 8 21) (fun σ25 => gd (dck σ25 t 6) (nm (dputR σ25 t 14 (dn σ24)) (fun σ26 => nm (dnewA σ26 8 21) (fun σ27 => gd (dck σ27 t 6) (nm (dputR σ27 t 15 (dn σ26)) (fun σ28 => (lp_X6_init_116 t (fun x34 σ35 => (some σ35)) 5 0 σ28))))))))))))))))))))))))))))))))))))))))))))
set_option maxHeartbeats 4000000 in
set_option maxRecDepth 100000 in
theorem wl_X6_init_116 {p : Program} {l : Launch} {e : Env} {s : State} {m : MethodId} {args : Array Value} {below : List Frame} {meth : Method} {c : Code} {g : GT} (S : CallFix p m c cX6_init 3 s args AL RX6) (hr : meth.sig.returnType = none) (hlk : meth.locks = false) (hb9 : g.2.2.2 ≤ s.heap.size) (a0 : Nat) (cb sb : Nat) (hcb : cb + 5 * 0 ≤ 13) (hsb : sb + 5 * 0 ≤ 135) {σr : Me} {K : Int32 → Me → Option Me} (kx : ∀ (y2 : Int32) (σ : Me) (H : Heap) (locs : List Loc) (ls : Array Slot), lv_has ls 3 [(0, .ref (bad g a0)), (2, .int y2)] → DA g σ s H locs → K y2 σ = some σr → W p l e ({ frames := 1, cells := 13, slots := 135, locals := 20 } : Room) s m args below meth c H locs (cb + 5 * 0) (sb + 5 * 0) (MQ below (va_Qv (fun (u : Me) => u = σr) (DG g) (fun q => g.2.2.2 ≤ q)) args s 13 135 (fun q => g.2.2.2 ≤ q)) (F0 m 143 ls [])) : ∀ (fuel : Nat) (hfu : fuel ≤ 5) (y2 : Int32) (σ : Me) (H : Heap) (locs : List Loc) (ls : Array Slot), lv_has ls 3 [(0, .ref (bad g a0)), (2, .int y2)] → DA g σ s H locs → lp_X6_init_116 a0 K fuel y2 σ = some σr → W p l e ({ frames := 1, cells := 13, slots := 135, locals := 20 } : Room) s m args below meth c H locs (cb + (5 - fuel) * 0) (sb + (5 - fuel) * 0) (MQ below (va_Qv (fun (u : Me) => u = σr) (DG g) (fun q => g.2.2.2 ≤ q)) args s 13 135 (fun q => g.2.2.2 ≤ q)) (F0 m 116 ls []) := by
  intro fuel
  induction fuel with
  | zero =>
    intro hfu y2 σ H locs ls hl hA h
    rw [lp_X6_init_116.eq_1] at h
    cases h
  | succ fuel ih =>
    intro hfu y2 σ H locs ls hl hA
    rw [lp_X6_init_116.eq_2]
    refine v_iload_n S hl 1 rfl rfl dX6_init_116 ?_
    refine v_iconst S 4 dX6_init_117 rfl ?_
    refine v_icmp_ge S 143 dX6_init_118 (by decide) ?_ ?_
    · refine v_widen (k := cb + 5 * 0) (n := sb + 5 * 0) (by omega) (by omega) ?_
      exact kx y2 σ _ _ ls (lv_sub hl [0, 1] rfl) hA
    · refine v_aload_n S hl 0 rfl rfl dX6_init_121 ?_
      refine d_gr_6_3 S hA q445 dX6_init_122 (fun r29 => ?_)
      refine v_iload_n S hl 1 rfl rfl dX6_init_125 ?_
      refine v_iconst S 3 dX6_init_126 rfl ?_
      refine v_iload_n S hl 1 rfl rfl dX6_init_127 ?_
      refine v_iadd S dX6_init_128 ?_
      refine d_iast S hA dX6_init_129 (fun σ30 H locs hA => ?_)
      refine v_aload_n S hl 0 rfl rfl dX6_init_130 ?_
      refine d_gr_6_7 S hA q380 dX6_init_131 (fun r31 => ?_)
      refine v_iload_n S hl 1 rfl rfl dX6_init_134 ?_
      refine v_iconst S (-1) dX6_init_135 rfl ?_
      refine d_iast S hA dX6_init_136 (fun σ32 H locs hA => ?_)
      refine v_iinc S hl 1 rfl dX6_init_137 rfl (by decide) (fun z => [(2, .int z), (0, .ref (bad g a0))]) (fun _ => rfl) (fun x33 ls hl => ?_)
      refine v_goto S 116 dX6_init_140 (by decide) ?_
      refine v_widen (k := cb + (5 - fuel) * 0) (n := sb + (5 - fuel) * 0) (by omega) (by omega) ?_
      exact ih (by omega) x33 σ32 _ _ ls (lv_sub hl [1, 0] rfl) hA
set_option maxHeartbeats 4000000 in
set_option maxRecDepth 100000 in
theorem met_X6_init (l : Launch) (g : GT) (σ : Me) (t : Nat) (p0 : Nat) (σr : Me) (h : fn_X6_init σ t p0 = some σr) : Met l yX6_init (wsy yX6_init cX6_init 3 none) ({ frames := 1, cells := 13, slots := 135, locals := 20 } : Room) (va_Pc [.ref (bad g t), .ref (bad g p0)] (DP g σ)) (va_Qv (fun (u : Me) => u = σr) (DG g) (fun q => g.2.2.2 ≤ q)) 13 135 (fun q => g.2.2.2 ≤ q) := by
  refine Met.ofW (cc := cX6_init) (maxL := 3) (ret := none) (by decide) rfl ?_
  intro p e s m args below meth c s₁ B hml hv
  obtain ⟨rfl, hv⟩ := hv
  have S : CallFix p m c cX6_init 3 s _ AL RX6 := ⟨B.exec, B.bytes, hml, findClass_of_methodNamed B.named, fun w h => atoms_spec (ws := wsy yX6_init cX6_init 3 none) B.pre w (List.mem_cons_of_mem _ h)⟩
  have hr := B.returns
  have hlk := B.notSynchronized
  have hin : meth.name = "<init>" := (name_of_methodNamed B.named B.method).1
  have hb9 : g.2.2.2 ≤ s.heap.size := by rw [hv.1.2.2]; exact Nat.le_add_right _ _
  have hA : DA g σ s s.heap [] := DA_start hv
  have hl := lv_entry ([.ref (bad g t), .ref (bad g p0)]) (n := 3) (Nat.le_of_ble_eq_true rfl)
  rw [lg_entry_eq]
  generalize (lg_sl ([.ref (bad g t), .ref (bad g p0)]) ++ List.replicate (3 - (lg_sl ([.ref (bad g t), .ref (bad g p0)])).length) Slot.unset).toArray = ls at hl ⊢
  have hl : lv_has ls 3 [(0, .ref (bad g t)), (1, .ref (bad g p0))] := hl
  revert h
  unfold fn_X6_init
  refine v_aload_n S hl 0 rfl rfl dX6_init_0 ?_
  refine v_aload_n S hl 1 rfl rfl dX6_init_1 ?_
  refine d_put_6_16 S hA hin q361 dX6_init_2 (fun σ1 H locs hA => ?_)
  refine v_aload_n S hl 0 rfl rfl dX6_init_5 ?_
  refine d_obj S q524 q492 q493 hl.1 (Nat.le_of_ble_eq_true rfl) (Nat.le_of_ble_eq_true rfl) dX6_init_6 ?_
  refine v_aload_n S hl 0 rfl rfl dX6_init_9 ?_
  refine v_bipush S 20 dX6_init_10 (by decide) ?_
  refine d_put_6_1 S hA q438 dX6_init_12 (fun σ2 H locs hA => ?_)
  refine v_aload_n S hl 0 rfl rfl dX6_init_15 ?_
  refine v_iconst S 4 dX6_init_16 rfl ?_
  refine d_newI S hA hb9 (n := 4) q366 dX6_init_17 (by decide) rfl (Nat.le_of_ble_eq_true rfl) (show 0 + 1 ≤ 13 by omega) (show 0 + 4 ≤ 135 by omega) (fun σ3 H hA => ?_)
  refine d_put_6_3 S hA hin q445 dX6_init_19 (fun σ4 H locs hA => ?_)
  refine v_aload_n S hl 0 rfl rfl dX6_init_22 ?_
  refine v_bipush S 8 dX6_init_23 (by decide) ?_
  refine d_newI S hA hb9 (n := 8) q366 dX6_init_25 (by decide) rfl (Nat.le_of_ble_eq_true rfl) (show (0 + 1) + 1 ≤ 13 by omega) (show (0 + 4) + 8 ≤ 135 by omega) (fun σ5 H hA => ?_)
  refine d_put_6_4 S hA hin q342 dX6_init_27 (fun σ6 H locs hA => ?_)
  refine v_aload_n S hl 0 rfl rfl dX6_init_30 ?_
  refine v_bipush S 8 dX6_init_31 (by decide) ?_
  refine d_newI S hA hb9 (n := 8) q366 dX6_init_33 (by decide) rfl (Nat.le_of_ble_eq_true rfl) (show ((0 + 1) + 1) + 1 ≤ 13 by omega) (show ((0 + 4) + 8) + 8 ≤ 135 by omega) (fun σ7 H hA => ?_)
  refine d_put_6_5 S hA hin q343 dX6_init_35 (fun σ8 H locs hA => ?_)
  refine v_aload_n S hl 0 rfl rfl dX6_init_38 ?_
  refine v_iconst S 4 dX6_init_39 rfl ?_
  refine d_newI S hA hb9 (n := 4) q366 dX6_init_40 (by decide) rfl (Nat.le_of_ble_eq_true rfl) (show (((0 + 1) + 1) + 1) + 1 ≤ 13 by omega) (show (((0 + 4) + 8) + 8) + 4 ≤ 135 by omega) (fun σ9 H hA => ?_)
  refine d_put_6_6 S hA hin q453 dX6_init_42 (fun σ10 H locs hA => ?_)
  refine v_aload_n S hl 0 rfl rfl dX6_init_45 ?_
  refine v_iconst S 4 dX6_init_46 rfl ?_
  refine d_newI S hA hb9 (n := 4) q366 dX6_init_47 (by decide) rfl (Nat.le_of_ble_eq_true rfl) (show ((((0 + 1) + 1) + 1) + 1) + 1 ≤ 13 by omega) (show ((((0 + 4) + 8) + 8) + 4) + 4 ≤ 135 by omega) (fun σ11 H hA => ?_)
  refine d_put_6_7 S hA hin q380 dX6_init_49 (fun σ12 H locs hA => ?_)
  refine v_aload_n S hl 0 rfl rfl dX6_init_52 ?_
  refine v_iconst S 4 dX6_init_53 rfl ?_
  refine d_newI S hA hb9 (n := 4) q366 dX6_init_54 (by decide) rfl (Nat.le_of_ble_eq_true rfl) (show (((((0 + 1) + 1) + 1) + 1) + 1) + 1 ≤ 13 by omega) (show (((((0 + 4) + 8) + 8) + 4) + 4) + 4 ≤ 135 by omega) (fun σ13 H hA => ?_)
  refine d_put_6_8 S hA hin q412 dX6_init_56 (fun σ14 H locs hA => ?_)
  refine v_aload_n S hl 0 rfl rfl dX6_init_59 ?_
  refine v_iconst S 4 dX6_init_60 rfl ?_
  refine d_newI S hA hb9 (n := 4) q366 dX6_init_61 (by decide) rfl (Nat.le_of_ble_eq_true rfl) (show ((((((0 + 1) + 1) + 1) + 1) + 1) + 1) + 1 ≤ 13 by omega) (show ((((((0 + 4) + 8) + 8) + 4) + 4) + 4) + 4 ≤ 135 by omega) (fun σ15 H hA => ?_)
  refine d_put_6_9 S hA hin q439 dX6_init_63 (fun σ16 H locs hA => ?_)
  refine v_aload_n S hl 0 rfl rfl dX6_init_66 ?_
  refine v_bipush S 12 dX6_init_67 (by decide) ?_
  refine d_newI S hA hb9 (n := 12) q366 dX6_init_69 (by decide) rfl (Nat.le_of_ble_eq_true rfl) (show (((((((0 + 1) + 1) + 1) + 1) + 1) + 1) + 1) + 1 ≤ 13 by omega) (show (((((((0 + 4) + 8) + 8) + 4) + 4) + 4) + 4) + 12 ≤ 135 by omega) (fun σ17 H hA => ?_)
  refine d_put_6_10 S hA hin q444 dX6_init_71 (fun σ18 H locs hA => ?_)
  refine v_aload_n S hl 0 rfl rfl dX6_init_74 ?_
  refine v_bipush S 12 dX6_init_75 (by decide) ?_
  refine d_newI S hA hb9 (n := 12) q366 dX6_init_77 (by decide) rfl (Nat.le_of_ble_eq_true rfl) (show ((((((((0 + 1) + 1) + 1) + 1) + 1) + 1) + 1) + 1) + 1 ≤ 13 by omega) (show ((((((((0 + 4) + 8) + 8) + 4) + 4) + 4) + 4) + 12) + 12 ≤ 135 by omega) (fun σ19 H hA => ?_)
  refine d_put_6_11 S hA hin q454 dX6_init_79 (fun σ20 H locs hA => ?_)
  refine v_aload_n S hl 0 rfl rfl dX6_init_82 ?_
  refine v_bipush S 12 dX6_init_83 (by decide) ?_
  refine d_newI S hA hb9 (n := 12) q366 dX6_init_85 (by decide) rfl (Nat.le_of_ble_eq_true rfl) (show (((((((((0 + 1) + 1) + 1) + 1) + 1) + 1) + 1) + 1) + 1) + 1 ≤ 13 by omega) (show (((((((((0 + 4) + 8) + 8) + 4) + 4) + 4) + 4) + 12) + 12) + 12 ≤ 135 by omega) (fun σ21 H hA => ?_)
  refine d_put_6_12 S hA hin q452 dX6_init_87 (fun σ22 H locs hA => ?_)
  refine v_aload_n S hl 0 rfl rfl dX6_init_90 ?_
  refine v_bipush S 21 dX6_init_91 (by decide) ?_
  refine d_newI S hA hb9 (n := 21) q366 dX6_init_93 (by decide) rfl (Nat.le_of_ble_eq_true rfl) (show ((((((((((0 + 1) + 1) + 1) + 1) + 1) + 1) + 1) + 1) + 1) + 1) + 1 ≤ 13 by omega) (show ((((((((((0 + 4) + 8) + 8) + 4) + 4) + 4) + 4) + 12) + 12) + 12) + 21 ≤ 135 by omega) (fun σ23 H hA => ?_)
  refine d_put_6_13 S hA hin q397 dX6_init_95 (fun σ24 H locs hA => ?_)
  refine v_aload_n S hl 0 rfl rfl dX6_init_98 ?_
  refine v_bipush S 21 dX6_init_99 (by decide) ?_
  refine d_newI S hA hb9 (n := 21) q366 dX6_init_101 (by decide) rfl (Nat.le_of_ble_eq_true rfl) (show (((((((((((0 + 1) + 1) + 1) + 1) + 1) + 1) + 1) + 1) + 1) + 1) + 1) + 1 ≤ 13 by omega) (show (((((((((((0 + 4) + 8) + 8) + 4) + 4) + 4) + 4) + 12) + 12) + 12) + 21) + 21 ≤ 135 by omega) (fun σ25 H hA => ?_)
  refine d_put_6_14 S hA hin q398 dX6_init_103 (fun σ26 H locs hA => ?_)
  refine v_aload_n S hl 0 rfl rfl dX6_init_106 ?_
  refine v_bipush S 21 dX6_init_107 (by decide) ?_
  refine d_newI S hA hb9 (n := 21) q366 dX6_init_109 (by decide) rfl (Nat.le_of_ble_eq_true rfl) (show ((((((((((((0 + 1) + 1) + 1) + 1) + 1) + 1) + 1) + 1) + 1) + 1) + 1) + 1) + 1 ≤ 13 by omega) (show ((((((((((((0 + 4) + 8) + 8) + 4) + 4) + 4) + 4) + 12) + 12) + 12) + 21) + 21) + 21 ≤ 135 by omega) (fun σ27 H hA => ?_)
  refine d_put_6_15 S hA hin q363 dX6_init_111 (fun σ28 H locs hA => ?_)
  refine v_iconst S 0 dX6_init_114 rfl ?_
  refine v_istore_n S hl [(2, .int 0), (0, .ref (bad g t)), (1, .ref (bad g p0))] rfl dX6_init_115 (by decide) rfl (fun ls hl => ?_)
  refine v_widen (k := (((((((((((((0 + 1) + 1) + 1) + 1) + 1) + 1) + 1) + 1) + 1) + 1) + 1) + 1) + 1) + (5 - 5) * 0) (n := (((((((((((((0 + 4) + 8) + 8) + 4) + 4) + 4) + 4) + 12) + 12) + 12) + 21) + 21) + 21) + (5 - 5) * 0) (by omega) (by omega) ?_
  refine wl_X6_init_116 S hr hlk hb9 t ((((((((((((((0 + 1) + 1) + 1) + 1) + 1) + 1) + 1) + 1) + 1) + 1) + 1) + 1) + 1)) ((((((((((((((0 + 4) + 8) + 8) + 4) + 4) + 4) + 4) + 12) + 12) + 12) + 21) + 21) + 21)) (show (((((((((((((0 + 1) + 1) + 1) + 1) + 1) + 1) + 1) + 1) + 1) + 1) + 1) + 1) + 1) + 5 * 0 ≤ 13 by omega) (show (((((((((((((0 + 4) + 8) + 8) + 4) + 4) + 4) + 4) + 12) + 12) + 12) + 21) + 21) + 21) + 5 * 0 ≤ 135 by omega) (fun x34 σ35 H locs ls hl hA => ?_) 5 (Nat.le_refl _) 0 σ28 _ _ ls (lv_sub hl [1, 0] rfl) hA
  exact d_vret S hA hr hlk (show ((((((((((((((0 + 1) + 1) + 1) + 1) + 1) + 1) + 1) + 1) + 1) + 1) + 1) + 1) + 1) + 5 * 0) ≤ 13 by omega) (show ((((((((((((((0 + 4) + 8) + 8) + 4) + 4) + 4) + 4) + 12) + 12) + 12) + 21) + 21) + 21) + 5 * 0) ≤ 135 by omega) dX6_init_143
def fn_X7_init (σ : Me) (t : Nat) : Option Me := nm (dnewA σ 8 12) (fun σ1 => gd (dck σ1 t 7) (nm (dputR σ1 t 2 (dn σ)) (fun σ2 => nm (dnewA σ2 8 21) (fun σ3 => gd (dck σ3 t 7) (nm (dputR σ3 t 4 (dn σ2)) (fun σ4 => nm (dnewA σ4 8 21) (fun σ5 => gd (dck σ5 t 7) (nm (dputR σ5 t 5 (dn σ4)) (fun σ6 => nm (dnewA σ6 8 21) (fun σ7 => gd (dck σ7 t 7) (nm (dputR σ7 t 6 (dn σ6)) (fun σ8 => nm (dnewA σ8 8 21) (fun σ9 => gd (dck σ9 t 7) (nm (dputR σ9 t 7 (dn σ8)) (fun σ10 => nm (dnewA σ10 8 1911) (fun σ11 => gd (dck σ11 t 7) (nm (dputR σ11 t 8 (dn σ10)) (fun σ12 => nm (dnew σ12 6) (fun σ13 => b1 (fn_X6_init σ13 (dn σ12) t) (fun σ14 => gd (dck σ14 t 7) (nm (dputR σ14 t 9 (dn σ12)) (fun σ15 => nm (dnew σ15 6) (fun σ16 => b1 (fn_X6_init σ16 (dn σ15) t) (fun σ17 => gd (dck σ17 t 7) (nm (dputR σ17 t 10 (dn σ15)) (fun σ18 => (some σ18)))))))))))))))))))))))))))
set_option maxHeartbeats 4000000 in
set_option maxRecDepth 100000 in
theorem met_X7_init (l : Launch) (g : GT) (σ : Me) (t : Nat) (σr : Me) (h : fn_X7_init σ t = some σr) : Met l yX7_init (wsy yX7_init cX7_init 1 none) ({ frames := 2, cells := 34, slots := 2311, locals := 42 } : Room) (va_Pc [.ref (bad g t)] (DP g σ)) (va_Qv (fun (u : Me) => u = σr) (DG g) (fun q => g.2.2.2 ≤ q)) 34 2311 (fun q => g.2.2.2 ≤ q) := by
  refine Met.ofW (cc := cX7_init) (maxL := 1) (ret := none) (by decide) rfl ?_
  intro p e s m args below meth c s₁ B hml hv
  obtain ⟨rfl, hv⟩ := hv
  have S : CallFix p m c cX7_init 1 s _ AL RX7 := ⟨B.exec, B.bytes, hml, findClass_of_methodNamed B.named, fun w h => atoms_spec (ws := wsy yX7_init cX7_init 1 none) B.pre w (List.mem_cons_of_mem _ h)⟩
  have hr := B.returns
  have hlk := B.notSynchronized
  have hin : meth.name = "<init>" := (name_of_methodNamed B.named B.method).1
  have hb9 : g.2.2.2 ≤ s.heap.size := by rw [hv.1.2.2]; exact Nat.le_add_right _ _
  have hA : DA g σ s s.heap [] := DA_start hv
  have hl := lv_entry ([.ref (bad g t)]) (n := 1) (Nat.le_of_ble_eq_true rfl)
  rw [lg_entry_eq]
  generalize (lg_sl ([.ref (bad g t)]) ++ List.replicate (1 - (lg_sl ([.ref (bad g t)])).length) Slot.unset).toArray = ls at hl ⊢
  have hl : lv_has ls 1 [(0, .ref (bad g t))] := hl
  revert h
  unfold fn_X7_init
  refine v_aload_n S hl 0 rfl rfl dX7_init_0 ?_
  refine d_obj S q525 q492 q493 hl.1 (Nat.le_of_ble_eq_true rfl) (Nat.le_of_ble_eq_true rfl) dX7_init_1 ?_
  refine v_aload_n S hl 0 rfl rfl dX7_init_4 ?_
  refine v_bipush S 12 dX7_init_5 (by decide) ?_
  refine d_newI S hA hb9 (n := 12) q366 dX7_init_7 (by decide) rfl (Nat.le_of_ble_eq_true rfl) (show 0 + 1 ≤ 34 by omega) (show 0 + 12 ≤ 2311 by omega) (fun σ1 H hA => ?_)
  refine d_put_7_2 S hA hin q379 dX7_init_9 (fun σ2 H locs hA => ?_)
  refine v_aload_n S hl 0 rfl rfl dX7_init_12 ?_
  refine v_bipush S 21 dX7_init_13 (by decide) ?_
  refine d_newI S hA hb9 (n := 21) q366 dX7_init_15 (by decide) rfl (Nat.le_of_ble_eq_true rfl) (show (0 + 1) + 1 ≤ 34 by omega) (show (0 + 12) + 21 ≤ 2311 by omega) (fun σ3 H hA => ?_)
  refine d_put_7_4 S hA hin q364 dX7_init_17 (fun σ4 H locs hA => ?_)
  refine v_aload_n S hl 0 rfl rfl dX7_init_20 ?_
  refine v_bipush S 21 dX7_init_21 (by decide) ?_
  refine d_newI S hA hb9 (n := 21) q366 dX7_init_23 (by decide) rfl (Nat.le_of_ble_eq_true rfl) (show ((0 + 1) + 1) + 1 ≤ 34 by omega) (show ((0 + 12) + 21) + 21 ≤ 2311 by omega) (fun σ5 H hA => ?_)
  refine d_put_7_5 S hA hin q327 dX7_init_25 (fun σ6 H locs hA => ?_)
  refine v_aload_n S hl 0 rfl rfl dX7_init_28 ?_
  refine v_bipush S 21 dX7_init_29 (by decide) ?_
  refine d_newI S hA hb9 (n := 21) q366 dX7_init_31 (by decide) rfl (Nat.le_of_ble_eq_true rfl) (show (((0 + 1) + 1) + 1) + 1 ≤ 34 by omega) (show (((0 + 12) + 21) + 21) + 21 ≤ 2311 by omega) (fun σ7 H hA => ?_)
  refine d_put_7_6 S hA hin q332 dX7_init_33 (fun σ8 H locs hA => ?_)
  refine v_aload_n S hl 0 rfl rfl dX7_init_36 ?_
  refine v_bipush S 21 dX7_init_37 (by decide) ?_
  refine d_newI S hA hb9 (n := 21) q366 dX7_init_39 (by decide) rfl (Nat.le_of_ble_eq_true rfl) (show ((((0 + 1) + 1) + 1) + 1) + 1 ≤ 34 by omega) (show ((((0 + 12) + 21) + 21) + 21) + 21 ≤ 2311 by omega) (fun σ9 H hA => ?_)
  refine d_put_7_7 S hA hin q396 dX7_init_41 (fun σ10 H locs hA => ?_)
  refine v_aload_n S hl 0 rfl rfl dX7_init_44 ?_
  refine v_sipush S 1911 dX7_init_45 (by decide) ?_
  refine d_newI S hA hb9 (n := 1911) q366 dX7_init_48 (by decide) rfl (Nat.le_of_ble_eq_true rfl) (show (((((0 + 1) + 1) + 1) + 1) + 1) + 1 ≤ 34 by omega) (show (((((0 + 12) + 21) + 21) + 21) + 21) + 1911 ≤ 2311 by omega) (fun σ11 H hA => ?_)
  refine d_put_7_8 S hA hin q432 dX7_init_50 (fun σ12 H locs hA => ?_)
  refine v_aload_n S hl 0 rfl rfl dX7_init_53 ?_
  refine d_new_6 S hA hb9 q526 q527 q350 (show ((((((0 + 1) + 1) + 1) + 1) + 1) + 1) + 1 ≤ 34 by omega) (show ((((((0 + 12) + 21) + 21) + 21) + 21) + 1911) + 17 ≤ 2311 by omega) dX7_init_54 (fun σ13 H hA => ?_)
  refine v_dup S dX7_init_57 rfl ?_
  refine v_aload_n S hl 0 rfl rfl dX7_init_58 ?_
  refine d_callI S hA [.ref (bad g t)] (met_X6_init l g σ13 (dn σ12) t) mwi_X6_init rfl q528 dX7_init_59 rfl rfl hl.1 (Nat.le_of_ble_eq_true rfl) ⟨(Nat.le_of_ble_eq_true rfl), (Nat.le_of_ble_eq_true rfl)⟩ rfl rfl ⟨(show (((((((0 + 1) + 1) + 1) + 1) + 1) + 1) + 1) + 13 ≤ 34 by omega), (show (((((((0 + 12) + 21) + 21) + 21) + 21) + 1911) + 17) + 135 ≤ 2311 by omega)⟩ (fun σ14 H locs hA => ?_)
  refine d_put_7_9 S hA hin q336 dX7_init_62 (fun σ15 H locs hA => ?_)
  refine v_aload_n S hl 0 rfl rfl dX7_init_65 ?_
  refine d_new_6 S hA hb9 q526 q527 q350 (show ((((((((0 + 1) + 1) + 1) + 1) + 1) + 1) + 1) + 13) + 1 ≤ 34 by omega) (show ((((((((0 + 12) + 21) + 21) + 21) + 21) + 1911) + 17) + 135) + 17 ≤ 2311 by omega) dX7_init_66 (fun σ16 H hA => ?_)
  refine v_dup S dX7_init_69 rfl ?_
  refine v_aload_n S hl 0 rfl rfl dX7_init_70 ?_
  refine d_callI S hA [.ref (bad g t)] (met_X6_init l g σ16 (dn σ15) t) mwi_X6_init rfl q528 dX7_init_71 rfl rfl hl.1 (Nat.le_of_ble_eq_true rfl) ⟨(Nat.le_of_ble_eq_true rfl), (Nat.le_of_ble_eq_true rfl)⟩ rfl rfl ⟨(show (((((((((0 + 1) + 1) + 1) + 1) + 1) + 1) + 1) + 13) + 1) + 13 ≤ 34 by omega), (show (((((((((0 + 12) + 21) + 21) + 21) + 21) + 1911) + 17) + 135) + 17) + 135 ≤ 2311 by omega)⟩ (fun σ17 H locs hA => ?_)
  refine d_put_7_10 S hA hin q475 dX7_init_74 (fun σ18 H locs hA => ?_)
  exact d_vret S hA hr hlk (show ((((((((((0 + 1) + 1) + 1) + 1) + 1) + 1) + 1) + 13) + 1) + 13) ≤ 34 by omega) (show ((((((((((0 + 12) + 21) + 21) + 21) + 21) + 1911) + 17) + 135) + 17) + 135) ≤ 2311 by omega) dX7_init_77
