set_option maxHeartbeats 4000000 in
set_option maxRecDepth 100000 in
theorem met_X0_leather (l : Launch) (g : GT) (ad : Nat → Nat) (w : Bool) (b : Nat) (σ : Mem) (t : Nat) (p0 : Int32) (rr : Nat) (h : fn_X0_leather σ t p0 = some rr) : Met l yX0_leather (wsy yX0_leather cX0_leather 2 (some (.object "MuffledTolls$Leather"))) ({ frames := 0, cells := 0, slots := 0, locals := 0 } : Room) (va_Pc [.ref (ad t), .int p0] (PB g ad σ b)) (va_Qr (fun (u : Mem) => u = σ) (fun u a t => a = ad rr ∧ GW g ad u t) (AA g ad w b)) 0 0 (AA g ad w b) := by
  refine Met.ofW (cc := cX0_leather) (maxL := 2) (ret := (some (.object "MuffledTolls$Leather"))) (by decide) rfl ?_
  intro p e s m args below meth c s₁ B hml hv
  obtain ⟨rfl, hv⟩ := hv
  have S : CallFix p m c cX0_leather 2 s _ AL RX0 := ⟨B.exec, B.bytes, hml, findClass_of_methodNamed B.named, fun w h => atoms_spec (ws := wsy yX0_leather cX0_leather 2 (some (.object "MuffledTolls$Leather"))) B.pre w (List.mem_cons_of_mem _ h)⟩
  have hr := B.returns
  have hlk := B.notSynchronized
  have hG : GA g ad σ w b s s.heap [] := GA_start hv
  have hl := lv_entry ([.ref (ad t), .int p0]) (n := 2) (Nat.le_of_ble_eq_true rfl)
  rw [lg_entry_eq]
  generalize (lg_sl ([.ref (ad t), .int p0]) ++ List.replicate (2 - (lg_sl ([.ref (ad t), .int p0])).length) Slot.unset).toArray = ls at hl ⊢
  have hl : lv_has ls 2 [(0, .ref (ad t)), (1, .int p0)] := hl
  revert h
  unfold fn_X0_leather
  refine v_iload_n S hl 1 rfl rfl dX0_leather_0 ?_
  refine v_if_ne S 11 dX0_leather_1 (by decide) ?_ ?_
  · refine v_aload_n S hl 0 rfl rfl dX0_leather_11 ?_
    refine gr_0_1 S hG q27 dX0_leather_12 (fun r1 => ?_)
    exact v_rretR S hG hr (Or.inl ⟨_, rfl⟩) hlk (Nat.le_of_ble_eq_true rfl) (Nat.le_of_ble_eq_true rfl) dX0_leather_15
  · refine v_aload_n S hl 0 rfl rfl dX0_leather_4 ?_
    refine gr_0_0 S hG q28 dX0_leather_5 (fun r2 => ?_)
    refine v_goto S 15 dX0_leather_8 (by decide) ?_
    exact v_rretR S hG hr (Or.inl ⟨_, rfl⟩) hlk (Nat.le_of_ble_eq_true rfl) (Nat.le_of_ble_eq_true rfl) dX0_leather_15
set_option maxHeartbeats 4000000 in
set_option maxRecDepth 100000 in
theorem met_X1_renew (l : Launch) (g : GT) (ad : Nat → Nat) (_ : Bool) (b : Nat) (σ : Mem) (t : Nat) (p0 : Int32) (σr : Mem) (h : fn_X1_renew σ t p0 = some σr) : Met l yX1_renew (wsy yX1_renew cX1_renew 2 none) ({ frames := 0, cells := 0, slots := 0, locals := 0 } : Room) (va_Pc [.ref (ad t), .int p0] (PB g ad σ b)) (va_Qv (fun (u : Mem) => u = σr) (GW g ad) (AA g ad true b)) 0 0 (AA g ad true b) := by
  refine Met.ofW (cc := cX1_renew) (maxL := 2) (ret := none) (by decide) rfl ?_
  intro p e s m args below meth c s₁ B hml hv
  obtain ⟨rfl, hv⟩ := hv
  have S : CallFix p m c cX1_renew 2 s _ AL RX1 := ⟨B.exec, B.bytes, hml, findClass_of_methodNamed B.named, fun w h => atoms_spec (ws := wsy yX1_renew cX1_renew 2 none) B.pre w (List.mem_cons_of_mem _ h)⟩
  have hr := B.returns
  have hlk := B.notSynchronized
  have hG : GA g ad σ true b s s.heap [] := GA_start hv
  have hl := lv_entry ([.ref (ad t), .int p0]) (n := 2) (Nat.le_of_ble_eq_true rfl)
  rw [lg_entry_eq]
  generalize (lg_sl ([.ref (ad t), .int p0]) ++ List.replicate (2 - (lg_sl ([.ref (ad t), .int p0])).length) Slot.unset).toArray = ls at hl ⊢
  have hl : lv_has ls 2 [(0, .ref (ad t)), (1, .int p0)] := hl
  revert h
  unfold fn_X1_renew
  refine v_aload_n S hl 0 rfl rfl dX1_renew_0 ?_
  refine v_iload_n S hl 1 rfl rfl dX1_renew_1 ?_
  refine pf_1_0 S hG q29 dX1_renew_2 (fun σ1 H locs hG => ?_)
  refine v_aload_n S hl 0 rfl rfl dX1_renew_5 ?_
  refine v_iconst S 0 dX1_renew_6 rfl ?_
  refine pf_1_1 S hG q30 dX1_renew_7 (fun σ2 H locs hG => ?_)
  exact v_vretm S hG hr hlk (Nat.le_of_ble_eq_true rfl) (Nat.le_of_ble_eq_true rfl) dX1_renew_10
set_option maxHeartbeats 4000000 in
set_option maxRecDepth 100000 in
theorem met_X1_strokesLeft (l : Launch) (g : GT) (ad : Nat → Nat) (w : Bool) (b : Nat) (σ : Mem) (t : Nat) (p0 : Int32) (rr : Int32) (h : fn_X1_strokesLeft σ t p0 = some rr) : Met l yX1_strokesLeft (wsy yX1_strokesLeft cX1_strokesLeft 2 (some .int)) ({ frames := 0, cells := 0, slots := 0, locals := 0 } : Room) (va_Pc [.ref (ad t), .int p0] (PB g ad σ b)) (va_Qi (fun (r' : Int32) (u : Mem) => r' = rr ∧ u = σ) (GW g ad) (AA g ad w b)) 0 0 (AA g ad w b) := by
  refine Met.ofW (cc := cX1_strokesLeft) (maxL := 2) (ret := (some .int)) (by decide) rfl ?_
  intro p e s m args below meth c s₁ B hml hv
  obtain ⟨rfl, hv⟩ := hv
  have S : CallFix p m c cX1_strokesLeft 2 s _ AL RX1 := ⟨B.exec, B.bytes, hml, findClass_of_methodNamed B.named, fun w h => atoms_spec (ws := wsy yX1_strokesLeft cX1_strokesLeft 2 (some .int)) B.pre w (List.mem_cons_of_mem _ h)⟩
  have hr := B.returns
  have hlk := B.notSynchronized
  have hG : GA g ad σ w b s s.heap [] := GA_start hv
  have hl := lv_entry ([.ref (ad t), .int p0]) (n := 2) (Nat.le_of_ble_eq_true rfl)
  rw [lg_entry_eq]
  generalize (lg_sl ([.ref (ad t), .int p0]) ++ List.replicate (2 - (lg_sl ([.ref (ad t), .int p0])).length) Slot.unset).toArray = ls at hl ⊢
  have hl : lv_has ls 2 [(0, .ref (ad t)), (1, .int p0)] := hl
  revert h
  unfold fn_X1_strokesLeft
  refine v_aload_n S hl 0 rfl rfl dX1_strokesLeft_0 ?_
  refine gf_1_0 S hG q29 dX1_strokesLeft_1 ?_
  refine v_if_eq S 11 dX1_strokesLeft_4 (by decide) ?_ ?_
  · refine v_iconst S 0 dX1_strokesLeft_11 rfl ?_
    exact v_iretR S hG hr hlk (Nat.le_of_ble_eq_true rfl) (Nat.le_of_ble_eq_true rfl) dX1_strokesLeft_12
  · refine v_iload_n S hl 1 rfl rfl dX1_strokesLeft_7 ?_
    refine v_if_gt S 13 dX1_strokesLeft_8 (by decide) ?_ ?_
    · refine v_bipush S 10 dX1_strokesLeft_13 (by decide) ?_
      refine v_aload_n S hl 0 rfl rfl dX1_strokesLeft_15 ?_
      refine gf_1_0 S hG q29 dX1_strokesLeft_16 ?_
      refine v_imul S dX1_strokesLeft_19 ?_
      refine v_aload_n S hl 0 rfl rfl dX1_strokesLeft_20 ?_
      refine gf_1_1 S hG q30 dX1_strokesLeft_21 ?_
      refine v_isub S dX1_strokesLeft_24 ?_
      refine v_iload_n S hl 1 rfl rfl dX1_strokesLeft_25 ?_
      refine v_iadd S dX1_strokesLeft_26 ?_
      refine v_iconst S 1 dX1_strokesLeft_27 rfl ?_
      refine v_isub S dX1_strokesLeft_28 ?_
      refine v_iload_n S hl 1 rfl rfl dX1_strokesLeft_29 ?_
      refine v_idiv S dX1_strokesLeft_30 ?_
      exact v_iretR S hG hr hlk (Nat.le_of_ble_eq_true rfl) (Nat.le_of_ble_eq_true rfl) dX1_strokesLeft_31
    · refine v_iconst S 0 dX1_strokesLeft_11 rfl ?_
      exact v_iretR S hG hr hlk (Nat.le_of_ble_eq_true rfl) (Nat.le_of_ble_eq_true rfl) dX1_strokesLeft_12
set_option maxHeartbeats 4000000 in
set_option maxRecDepth 100000 in
theorem met_X0_strokesLeft (l : Launch) (g : GT) (ad : Nat → Nat) (w : Bool) (b : Nat) (σ : Mem) (t : Nat) (p0 : Int32) (rr : Int32) (h : fn_X0_strokesLeft σ t p0 = some rr) : Met l yX0_strokesLeft (wsy yX0_strokesLeft cX0_strokesLeft 2 (some .int)) ({ frames := 1, cells := 0, slots := 0, locals := 21 } : Room) (va_Pc [.ref (ad t), .int p0] (PB g ad σ b)) (va_Qi (fun (r' : Int32) (u : Mem) => r' = rr ∧ u = σ) (GW g ad) (AA g ad w b)) 0 0 (AA g ad w b) := by
  refine Met.ofW (cc := cX0_strokesLeft) (maxL := 2) (ret := (some .int)) (by decide) rfl ?_
  intro p e s m args below meth c s₁ B hml hv
  obtain ⟨rfl, hv⟩ := hv
  have S : CallFix p m c cX0_strokesLeft 2 s _ AL RX0 := ⟨B.exec, B.bytes, hml, findClass_of_methodNamed B.named, fun w h => atoms_spec (ws := wsy yX0_strokesLeft cX0_strokesLeft 2 (some .int)) B.pre w (List.mem_cons_of_mem _ h)⟩
  have hr := B.returns
  have hlk := B.notSynchronized
  have hG : GA g ad σ w b s s.heap [] := GA_start hv
  have hl := lv_entry ([.ref (ad t), .int p0]) (n := 2) (Nat.le_of_ble_eq_true rfl)
  rw [lg_entry_eq]
  generalize (lg_sl ([.ref (ad t), .int p0]) ++ List.replicate (2 - (lg_sl ([.ref (ad t), .int p0])).length) Slot.unset).toArray = ls at hl ⊢
  have hl : lv_has ls 2 [(0, .ref (ad t)), (1, .int p0)] := hl
  revert h
  unfold fn_X0_strokesLeft
  refine v_aload_n S hl 0 rfl rfl dX0_strokesLeft_0 ?_
  refine v_iload_n S hl 1 rfl rfl dX0_strokesLeft_1 ?_
  refine v_cV_rR S hG [.int p0] rfl rfl (by decide) (met_X0_leather l g ad w b σ t p0) mw_X0_leather q47 dX0_strokesLeft_2 rfl rfl hl.1 (Nat.le_of_ble_eq_true rfl) ⟨Nat.le_of_ble_eq_true rfl, Nat.le_of_ble_eq_true rfl⟩ rfl rfl ⟨Nat.le_of_ble_eq_true rfl, Nat.le_of_ble_eq_true rfl⟩ (fun r1 H locs hG => ?_)
  refine v_aload_n S hl 0 rfl rfl dX0_strokesLeft_5 ?_
  refine gf_0_2 S hG q48 dX0_strokesLeft_6 ?_
  refine v_cV_iR S hG [.int (σ t 2)] rfl rfl (by decide) (met_X1_strokesLeft l g ad w b σ r1 (σ t 2)) mw_X1_strokesLeft q49 dX0_strokesLeft_9 rfl rfl hl.1 (Nat.le_of_ble_eq_true rfl) ⟨Nat.le_of_ble_eq_true rfl, Nat.le_of_ble_eq_true rfl⟩ rfl rfl ⟨Nat.le_of_ble_eq_true rfl, Nat.le_of_ble_eq_true rfl⟩ (fun r2 H locs hG => ?_)
  exact v_iretR S hG hr hlk (Nat.le_of_ble_eq_true rfl) (Nat.le_of_ble_eq_true rfl) dX0_strokesLeft_12
set_option maxHeartbeats 4000000 in
set_option maxRecDepth 100000 in
theorem met_X3_isDone (l : Launch) (g : GT) (ad : Nat → Nat) (w : Bool) (b : Nat) (σ : Mem) (t : Nat) (rr : Int32) (h : fn_X3_isDone σ t = some rr) : Met l yX3_isDone (wsy yX3_isDone cX3_isDone 1 (some .boolean)) ({ frames := 0, cells := 0, slots := 0, locals := 0 } : Room) (va_Pc [.ref (ad t)] (PB g ad σ b)) (va_Qi (fun (r' : Int32) (u : Mem) => r' = rr ∧ u = σ) (GW g ad) (AA g ad w b)) 0 0 (AA g ad w b) := by
  refine Met.ofW (cc := cX3_isDone) (maxL := 1) (ret := (some .boolean)) (by decide) rfl ?_
  intro p e s m args below meth c s₁ B hml hv
  obtain ⟨rfl, hv⟩ := hv
  have S : CallFix p m c cX3_isDone 1 s _ AL RX3 := ⟨B.exec, B.bytes, hml, findClass_of_methodNamed B.named, fun w h => atoms_spec (ws := wsy yX3_isDone cX3_isDone 1 (some .boolean)) B.pre w (List.mem_cons_of_mem _ h)⟩
  have hr := B.returns
  have hlk := B.notSynchronized
  have hG : GA g ad σ w b s s.heap [] := GA_start hv
  have hl := lv_entry ([.ref (ad t)]) (n := 1) (Nat.le_of_ble_eq_true rfl)
  rw [lg_entry_eq]
  generalize (lg_sl ([.ref (ad t)]) ++ List.replicate (1 - (lg_sl ([.ref (ad t)])).length) Slot.unset).toArray = ls at hl ⊢
  have hl : lv_has ls 1 [(0, .ref (ad t))] := hl
  revert h
  unfold fn_X3_isDone
  refine v_aload_n S hl 0 rfl rfl dX3_isDone_0 ?_
  refine gf_3_7 S hG q57 dX3_isDone_1 ?_
  refine v_if_lt S 11 dX3_isDone_4 (by decide) ?_ ?_
  · refine v_iconst S 0 dX3_isDone_11 rfl ?_
    exact v_zretR S hG hr hlk rfl (Nat.le_of_ble_eq_true rfl) (Nat.le_of_ble_eq_true rfl) dX3_isDone_12
  · refine v_iconst S 1 dX3_isDone_7 rfl ?_
    refine v_goto S 12 dX3_isDone_8 (by decide) ?_
    exact v_zretR S hG hr hlk rfl (Nat.le_of_ble_eq_true rfl) (Nat.le_of_ble_eq_true rfl) dX3_isDone_12
set_option maxHeartbeats 4000000 in
set_option maxRecDepth 100000 in
theorem met_X2_rests (l : Launch) (g : GT) (ad : Nat → Nat) (w : Bool) (b : Nat) (σ : Mem) (t : Nat) (rr : Int32) (h : fn_X2_rests σ t = some rr) : Met l yX2_rests (wsy yX2_rests cX2_rests 1 (some .boolean)) ({ frames := 0, cells := 0, slots := 0, locals := 0 } : Room) (va_Pc [.ref (ad t)] (PB g ad σ b)) (va_Qi (fun (r' : Int32) (u : Mem) => r' = rr ∧ u = σ) (GW g ad) (AA g ad w b)) 0 0 (AA g ad w b) := by
  refine Met.ofW (cc := cX2_rests) (maxL := 1) (ret := (some .boolean)) (by decide) rfl ?_
  intro p e s m args below meth c s₁ B hml hv
  obtain ⟨rfl, hv⟩ := hv
  have S : CallFix p m c cX2_rests 1 s _ AL RX2 := ⟨B.exec, B.bytes, hml, findClass_of_methodNamed B.named, fun w h => atoms_spec (ws := wsy yX2_rests cX2_rests 1 (some .boolean)) B.pre w (List.mem_cons_of_mem _ h)⟩
  have hr := B.returns
  have hlk := B.notSynchronized
  have hG : GA g ad σ w b s s.heap [] := GA_start hv
  have hl := lv_entry ([.ref (ad t)]) (n := 1) (Nat.le_of_ble_eq_true rfl)
  rw [lg_entry_eq]
  generalize (lg_sl ([.ref (ad t)]) ++ List.replicate (1 - (lg_sl ([.ref (ad t)])).length) Slot.unset).toArray = ls at hl ⊢
  have hl : lv_has ls 1 [(0, .ref (ad t))] := hl
  revert h
  unfold fn_X2_rests
  refine v_aload_n S hl 0 rfl rfl dX2_rests_0 ?_
  refine gf_2_2 S hG q93 dX2_rests_1 ?_
  refine v_iconst S (-1) dX2_rests_4 rfl ?_
  refine v_icmp_ne S 12 dX2_rests_5 (by decide) ?_ ?_
  · refine v_iconst S 0 dX2_rests_12 rfl ?_
    exact v_zretR S hG hr hlk rfl (Nat.le_of_ble_eq_true rfl) (Nat.le_of_ble_eq_true rfl) dX2_rests_13
  · refine v_iconst S 1 dX2_rests_8 rfl ?_
    refine v_goto S 13 dX2_rests_9 (by decide) ?_
    exact v_zretR S hG hr hlk rfl (Nat.le_of_ble_eq_true rfl) (Nat.le_of_ble_eq_true rfl) dX2_rests_13
set_option maxHeartbeats 4000000 in
set_option maxRecDepth 100000 in
theorem met_X2_fact (l : Launch) (g : GT) (ad : Nat → Nat) (w : Bool) (b : Nat) (σ : Mem) (t : Nat) (p0 : Int32) (rr : Int32) (h : fn_X2_fact σ t p0 = some rr) : Met l yX2_fact (wsy yX2_fact cX2_fact 2 (some .int)) ({ frames := 0, cells := 0, slots := 0, locals := 0 } : Room) (va_Pc [.ref (ad t), .int p0] (PB g ad σ b)) (va_Qi (fun (r' : Int32) (u : Mem) => r' = rr ∧ u = σ) (GW g ad) (AA g ad w b)) 0 0 (AA g ad w b) := by
  refine Met.ofW (cc := cX2_fact) (maxL := 2) (ret := (some .int)) (by decide) rfl ?_
  intro p e s m args below meth c s₁ B hml hv
  obtain ⟨rfl, hv⟩ := hv
  have S : CallFix p m c cX2_fact 2 s _ AL RX2 := ⟨B.exec, B.bytes, hml, findClass_of_methodNamed B.named, fun w h => atoms_spec (ws := wsy yX2_fact cX2_fact 2 (some .int)) B.pre w (List.mem_cons_of_mem _ h)⟩
  have hr := B.returns
  have hlk := B.notSynchronized
  have hG : GA g ad σ w b s s.heap [] := GA_start hv
  have hl := lv_entry ([.ref (ad t), .int p0]) (n := 2) (Nat.le_of_ble_eq_true rfl)
  rw [lg_entry_eq]
  generalize (lg_sl ([.ref (ad t), .int p0]) ++ List.replicate (2 - (lg_sl ([.ref (ad t), .int p0])).length) Slot.unset).toArray = ls at hl ⊢
  have hl : lv_has ls 2 [(0, .ref (ad t)), (1, .int p0)] := hl
  revert h
  unfold fn_X2_fact
  refine v_iload_n S hl 1 rfl rfl dX2_fact_0 ?_
  refine v_tcase (fun e1 => ?_) (fun c2 => ?_)
  · refine v_tin S 32 e1 dX2_fact_1 (by decide) (by decide) rfl (by decide) ?_
    refine v_aload_n S hl 0 rfl rfl dX2_fact_32 ?_
    refine gf_2_0 S hG q110 dX2_fact_33 ?_
    exact v_iretR S hG hr hlk (Nat.le_of_ble_eq_true rfl) (Nat.le_of_ble_eq_true rfl) dX2_fact_36
  refine v_tcase (fun e3 => ?_) (fun c4 => ?_)
  · refine v_tin S 37 e3 dX2_fact_1 (by decide) (by decide) rfl (by decide) ?_
    refine v_aload_n S hl 0 rfl rfl dX2_fact_37 ?_
    refine gf_2_1 S hG q111 dX2_fact_38 ?_
    exact v_iretR S hG hr hlk (Nat.le_of_ble_eq_true rfl) (Nat.le_of_ble_eq_true rfl) dX2_fact_41
  refine v_tcase (fun e5 => ?_) (fun c6 => ?_)
  · refine v_tin S 42 e5 dX2_fact_1 (by decide) (by decide) rfl (by decide) ?_
    refine v_aload_n S hl 0 rfl rfl dX2_fact_42 ?_
    refine gf_2_2 S hG q93 dX2_fact_43 ?_
    exact v_iretR S hG hr hlk (Nat.le_of_ble_eq_true rfl) (Nat.le_of_ble_eq_true rfl) dX2_fact_46
  refine v_tcase (fun e7 => ?_) (fun c8 => ?_)
  · refine v_tin S 47 e7 dX2_fact_1 (by decide) (by decide) rfl (by decide) ?_
    refine v_aload_n S hl 0 rfl rfl dX2_fact_47 ?_
    refine gf_2_3 S hG q112 dX2_fact_48 ?_
    exact v_iretR S hG hr hlk (Nat.le_of_ble_eq_true rfl) (Nat.le_of_ble_eq_true rfl) dX2_fact_51
  refine v_tout S 52 (t_out 4 (fun k hk => match k, hk with | 0, _ => c2 | 1, _ => c4 | 2, _ => c6 | 3, _ => c8 | k + 4, hk => absurd hk (by omega)) (by decide)) dX2_fact_1 (by decide) ?_
  refine v_aload_n S hl 0 rfl rfl dX2_fact_52 ?_
  refine gf_2_4 S hG q113 dX2_fact_53 ?_
  exact v_iretR S hG hr hlk (Nat.le_of_ble_eq_true rfl) (Nat.le_of_ble_eq_true rfl) dX2_fact_56
set_option maxHeartbeats 4000000 in
set_option maxRecDepth 100000 in
theorem met_X3_begin (l : Launch) (g : GT) (ad : Nat → Nat) (_ : Bool) (b : Nat) (σ : Mem) (t : Nat) (p0 : Int32) (p1 : Int32) (p2 : Int32) (p3 : Int32) (σr : Mem) (h : fn_X3_begin σ t p0 p1 p2 p3 = some σr) : Met l yX3_begin (wsy yX3_begin cX3_begin 5 none) ({ frames := 0, cells := 0, slots := 0, locals := 0 } : Room) (va_Pc [.ref (ad t), .int p0, .int p1, .int p2, .int p3] (PB g ad σ b)) (va_Qv (fun (u : Mem) => u = σr) (GW g ad) (AA g ad true b)) 0 0 (AA g ad true b) := by
  refine Met.ofW (cc := cX3_begin) (maxL := 5) (ret := none) (by decide) rfl ?_
  intro p e s m args below meth c s₁ B hml hv
  obtain ⟨rfl, hv⟩ := hv
  have S : CallFix p m c cX3_begin 5 s _ AL RX3 := ⟨B.exec, B.bytes, hml, findClass_of_methodNamed B.named, fun w h => atoms_spec (ws := wsy yX3_begin cX3_begin 5 none) B.pre w (List.mem_cons_of_mem _ h)⟩
  have hr := B.returns
  have hlk := B.notSynchronized
  have hG : GA g ad σ true b s s.heap [] := GA_start hv
  have hl := lv_entry ([.ref (ad t), .int p0, .int p1, .int p2, .int p3]) (n := 5) (Nat.le_of_ble_eq_true rfl)
  rw [lg_entry_eq]
  generalize (lg_sl ([.ref (ad t), .int p0, .int p1, .int p2, .int p3]) ++ List.replicate (5 - (lg_sl ([.ref (ad t), .int p0, .int p1, .int p2, .int p3])).length) Slot.unset).toArray = ls at hl ⊢
  have hl : lv_has ls 5 [(0, .ref (ad t)), (1, .int p0), (2, .int p1), (3, .int p2), (4, .int p3)] := hl
  revert h
  unfold fn_X3_begin
  refine v_aload_n S hl 0 rfl rfl dX3_begin_0 ?_
  refine v_iload_n S hl 1 rfl rfl dX3_begin_1 ?_
  refine pf_3_1 S hG q118 dX3_begin_2 (fun σ1 H locs hG => ?_)
  refine v_aload_n S hl 0 rfl rfl dX3_begin_5 ?_
  refine v_iload_n S hl 2 rfl rfl dX3_begin_6 ?_
  refine pf_3_2 S hG q119 dX3_begin_7 (fun σ2 H locs hG => ?_)
  refine v_aload_n S hl 0 rfl rfl dX3_begin_10 ?_
  refine v_iload_n S hl 3 rfl rfl dX3_begin_11 ?_
  refine pf_3_3 S hG q120 dX3_begin_12 (fun σ3 H locs hG => ?_)
  refine v_aload_n S hl 0 rfl rfl dX3_begin_15 ?_
  refine v_iload S hl 4 rfl dX3_begin_16 ?_
  refine pf_3_4 S hG q121 dX3_begin_18 (fun σ4 H locs hG => ?_)
  refine v_aload_n S hl 0 rfl rfl dX3_begin_21 ?_
  refine v_iconst S 0 dX3_begin_22 rfl ?_
  refine pf_3_5 S hG q122 dX3_begin_23 (fun σ5 H locs hG => ?_)
  refine v_aload_n S hl 0 rfl rfl dX3_begin_26 ?_
  refine v_iconst S 0 dX3_begin_27 rfl ?_
  refine pf_3_6 S hG q123 dX3_begin_28 (fun σ6 H locs hG => ?_)
  refine v_aload_n S hl 0 rfl rfl dX3_begin_31 ?_
  refine v_iconst S (-1) dX3_begin_32 rfl ?_
  refine pf_3_7 S hG q57 dX3_begin_33 (fun σ7 H locs hG => ?_)
  exact v_vretm S hG hr hlk (Nat.le_of_ble_eq_true rfl) (Nat.le_of_ble_eq_true rfl) dX3_begin_36
set_option maxHeartbeats 4000000 in
set_option maxRecDepth 100000 in
theorem met_X3_tellers (l : Launch) (g : GT) (ad : Nat → Nat) (w : Bool) (b : Nat) (σ : Mem) (t : Nat) (rr : Int32) (h : fn_X3_tellers σ t = some rr) : Met l yX3_tellers (wsy yX3_tellers cX3_tellers 1 (some .int)) ({ frames := 0, cells := 0, slots := 0, locals := 0 } : Room) (va_Pc [.ref (ad t)] (PB g ad σ b)) (va_Qi (fun (r' : Int32) (u : Mem) => r' = rr ∧ u = σ) (GW g ad) (AA g ad w b)) 0 0 (AA g ad w b) := by
  refine Met.ofW (cc := cX3_tellers) (maxL := 1) (ret := (some .int)) (by decide) rfl ?_
  intro p e s m args below meth c s₁ B hml hv
  obtain ⟨rfl, hv⟩ := hv
  have S : CallFix p m c cX3_tellers 1 s _ AL RX3 := ⟨B.exec, B.bytes, hml, findClass_of_methodNamed B.named, fun w h => atoms_spec (ws := wsy yX3_tellers cX3_tellers 1 (some .int)) B.pre w (List.mem_cons_of_mem _ h)⟩
  have hr := B.returns
  have hlk := B.notSynchronized
  have hG : GA g ad σ w b s s.heap [] := GA_start hv
  have hl := lv_entry ([.ref (ad t)]) (n := 1) (Nat.le_of_ble_eq_true rfl)
  rw [lg_entry_eq]
  generalize (lg_sl ([.ref (ad t)]) ++ List.replicate (1 - (lg_sl ([.ref (ad t)])).length) Slot.unset).toArray = ls at hl ⊢
  have hl : lv_has ls 1 [(0, .ref (ad t))] := hl
  revert h
  unfold fn_X3_tellers
  refine v_iconst S 3 dX3_tellers_0 rfl ?_
  refine v_aload_n S hl 0 rfl rfl dX3_tellers_1 ?_
  refine gf_3_2 S hG q119 dX3_tellers_2 ?_
  refine v_iconst S 1 dX3_tellers_5 rfl ?_
  refine v_iadd S dX3_tellers_6 ?_
  refine v_imul S dX3_tellers_7 ?_
  exact v_iretR S hG hr hlk (Nat.le_of_ble_eq_true rfl) (Nat.le_of_ble_eq_true rfl) dX3_tellers_8
set_option maxHeartbeats 4000000 in
set_option maxRecDepth 100000 in
theorem met_X3_strokesDue (l : Launch) (g : GT) (ad : Nat → Nat) (w : Bool) (b : Nat) (σ : Mem) (t : Nat) (rr : Int32) (h : fn_X3_strokesDue σ t = some rr) : Met l yX3_strokesDue (wsy yX3_strokesDue cX3_strokesDue 1 (some .int)) ({ frames := 1, cells := 0, slots := 0, locals := 20 } : Room) (va_Pc [.ref (ad t)] (PB g ad σ b)) (va_Qi (fun (r' : Int32) (u : Mem) => r' = rr ∧ u = σ) (GW g ad) (AA g ad w b)) 0 0 (AA g ad w b) := by
  refine Met.ofW (cc := cX3_strokesDue) (maxL := 1) (ret := (some .int)) (by decide) rfl ?_
  intro p e s m args below meth c s₁ B hml hv
  obtain ⟨rfl, hv⟩ := hv
  have S : CallFix p m c cX3_strokesDue 1 s _ AL RX3 := ⟨B.exec, B.bytes, hml, findClass_of_methodNamed B.named, fun w h => atoms_spec (ws := wsy yX3_strokesDue cX3_strokesDue 1 (some .int)) B.pre w (List.mem_cons_of_mem _ h)⟩
  have hr := B.returns
  have hlk := B.notSynchronized
  have hG : GA g ad σ w b s s.heap [] := GA_start hv
  have hl := lv_entry ([.ref (ad t)]) (n := 1) (Nat.le_of_ble_eq_true rfl)
  rw [lg_entry_eq]
  generalize (lg_sl ([.ref (ad t)]) ++ List.replicate (1 - (lg_sl ([.ref (ad t)])).length) Slot.unset).toArray = ls at hl ⊢
  have hl : lv_has ls 1 [(0, .ref (ad t))] := hl
  revert h
  unfold fn_X3_strokesDue
  refine v_aload_n S hl 0 rfl rfl dX3_strokesDue_0 ?_
  refine v_cV_iR S hG [] rfl rfl (by decide) (met_X3_tellers l g ad w b σ t) mw_X3_tellers q142 dX3_strokesDue_1 rfl rfl hl.1 (Nat.le_of_ble_eq_true rfl) ⟨Nat.le_of_ble_eq_true rfl, Nat.le_of_ble_eq_true rfl⟩ rfl rfl ⟨Nat.le_of_ble_eq_true rfl, Nat.le_of_ble_eq_true rfl⟩ (fun r1 H locs hG => ?_)
  refine v_aload_n S hl 0 rfl rfl dX3_strokesDue_4 ?_
  refine gf_3_3 S hG q120 dX3_strokesDue_5 ?_
  refine v_iadd S dX3_strokesDue_8 ?_
  exact v_iretR S hG hr hlk (Nat.le_of_ble_eq_true rfl) (Nat.le_of_ble_eq_true rfl) dX3_strokesDue_9
set_option maxHeartbeats 4000000 in
set_option maxRecDepth 100000 in
theorem met_X3_years (l : Launch) (g : GT) (ad : Nat → Nat) (w : Bool) (b : Nat) (σ : Mem) (t : Nat) (rr : Int32) (h : fn_X3_years σ t = some rr) : Met l yX3_years (wsy yX3_years cX3_years 1 (some .int)) ({ frames := 1, cells := 0, slots := 0, locals := 21 } : Room) (va_Pc [.ref (ad t)] (PB g ad σ b)) (va_Qi (fun (r' : Int32) (u : Mem) => r' = rr ∧ u = σ) (GW g ad) (AA g ad w b)) 0 0 (AA g ad w b) := by
  refine Met.ofW (cc := cX3_years) (maxL := 1) (ret := (some .int)) (by decide) rfl ?_
  intro p e s m args below meth c s₁ B hml hv
  obtain ⟨rfl, hv⟩ := hv
  have S : CallFix p m c cX3_years 1 s _ AL RX3 := ⟨B.exec, B.bytes, hml, findClass_of_methodNamed B.named, fun w h => atoms_spec (ws := wsy yX3_years cX3_years 1 (some .int)) B.pre w (List.mem_cons_of_mem _ h)⟩
  have hr := B.returns
  have hlk := B.notSynchronized
  have hG : GA g ad σ w b s s.heap [] := GA_start hv
  have hl := lv_entry ([.ref (ad t)]) (n := 1) (Nat.le_of_ble_eq_true rfl)
  rw [lg_entry_eq]
  generalize (lg_sl ([.ref (ad t)]) ++ List.replicate (1 - (lg_sl ([.ref (ad t)])).length) Slot.unset).toArray = ls at hl ⊢
  have hl : lv_has ls 1 [(0, .ref (ad t))] := hl
  revert h
  unfold fn_X3_years
  refine v_iconst S 0 dX3_years_0 rfl ?_
  refine v_aload_n S hl 0 rfl rfl dX3_years_1 ?_
  refine gf_3_5 S hG q122 dX3_years_2 ?_
  refine v_aload_n S hl 0 rfl rfl dX3_years_5 ?_
  refine v_cV_iR S hG [] rfl rfl (by decide) (met_X3_tellers l g ad w b σ t) mw_X3_tellers q142 dX3_years_6 rfl rfl hl.1 (Nat.le_of_ble_eq_true rfl) ⟨Nat.le_of_ble_eq_true rfl, Nat.le_of_ble_eq_true rfl⟩ rfl rfl ⟨Nat.le_of_ble_eq_true rfl, Nat.le_of_ble_eq_true rfl⟩ (fun r1 H locs hG => ?_)
  refine v_isub S dX3_years_9 ?_
  refine v_mmax S q157 mw_max hl.1 (Nat.le_of_ble_eq_true rfl) (Nat.le_of_ble_eq_true rfl) (Nat.le_of_ble_eq_true rfl) (Nat.le_of_ble_eq_true rfl) dX3_years_10 ?_
  exact v_iretR S hG hr hlk (Nat.le_of_ble_eq_true rfl) (Nat.le_of_ble_eq_true rfl) dX3_years_13
set_option maxHeartbeats 4000000 in
set_option maxRecDepth 100000 in
theorem met_X3_state (l : Launch) (g : GT) (ad : Nat → Nat) (w : Bool) (b : Nat) (σ : Mem) (t : Nat) (rr : Int32) (h : fn_X3_state σ t = some rr) : Met l yX3_state (wsy yX3_state cX3_state 1 (some .int)) ({ frames := 1, cells := 0, slots := 0, locals := 20 } : Room) (va_Pc [.ref (ad t)] (PB g ad σ b)) (va_Qi (fun (r' : Int32) (u : Mem) => r' = rr ∧ u = σ) (GW g ad) (AA g ad w b)) 0 0 (AA g ad w b) := by
  refine Met.ofW (cc := cX3_state) (maxL := 1) (ret := (some .int)) (by decide) rfl ?_
  intro p e s m args below meth c s₁ B hml hv
  obtain ⟨rfl, hv⟩ := hv
  have S : CallFix p m c cX3_state 1 s _ AL RX3 := ⟨B.exec, B.bytes, hml, findClass_of_methodNamed B.named, fun w h => atoms_spec (ws := wsy yX3_state cX3_state 1 (some .int)) B.pre w (List.mem_cons_of_mem _ h)⟩
  have hr := B.returns
  have hlk := B.notSynchronized
  have hG : GA g ad σ w b s s.heap [] := GA_start hv
  have hl := lv_entry ([.ref (ad t)]) (n := 1) (Nat.le_of_ble_eq_true rfl)
  rw [lg_entry_eq]
  generalize (lg_sl ([.ref (ad t)]) ++ List.replicate (1 - (lg_sl ([.ref (ad t)])).length) Slot.unset).toArray = ls at hl ⊢
  have hl : lv_has ls 1 [(0, .ref (ad t))] := hl
  revert h
  unfold fn_X3_state
  refine v_aload_n S hl 0 rfl rfl dX3_state_0 ?_
  refine v_cV_iR S hG [] rfl rfl (by decide) (met_X3_isDone l g ad w b σ t) mw_X3_isDone q158 dX3_state_1 rfl rfl hl.1 (Nat.le_of_ble_eq_true rfl) ⟨Nat.le_of_ble_eq_true rfl, Nat.le_of_ble_eq_true rfl⟩ rfl rfl ⟨Nat.le_of_ble_eq_true rfl, Nat.le_of_ble_eq_true rfl⟩ (fun r1 H locs hG => ?_)
  refine v_if_eq S 9 dX3_state_4 (by decide) ?_ ?_
  · refine v_aload_n S hl 0 rfl rfl dX3_state_9 ?_
    refine gf_3_5 S hG q122 dX3_state_10 ?_
    refine v_if_le S 20 dX3_state_13 (by decide) ?_ ?_
    · refine v_iconst S 0 dX3_state_20 rfl ?_
      exact v_iretR S hG hr hlk (Nat.le_of_ble_eq_true rfl) (Nat.le_of_ble_eq_true rfl) dX3_state_21
    · refine v_iconst S 1 dX3_state_16 rfl ?_
      refine v_goto S 21 dX3_state_17 (by decide) ?_
      exact v_iretR S hG hr hlk (Nat.le_of_ble_eq_true rfl) (Nat.le_of_ble_eq_true rfl) dX3_state_21
  · refine v_iconst S 2 dX3_state_7 rfl ?_
    exact v_iretR S hG hr hlk (Nat.le_of_ble_eq_true rfl) (Nat.le_of_ble_eq_true rfl) dX3_state_8
set_option maxHeartbeats 4000000 in
set_option maxRecDepth 100000 in
theorem met_X3_fact (l : Launch) (g : GT) (ad : Nat → Nat) (w : Bool) (b : Nat) (σ : Mem) (t : Nat) (p0 : Int32) (rr : Int32) (h : fn_X3_fact σ t p0 = some rr) : Met l yX3_fact (wsy yX3_fact cX3_fact 2 (some .int)) ({ frames := 2, cells := 0, slots := 0, locals := 41 } : Room) (va_Pc [.ref (ad t), .int p0] (PB g ad σ b)) (va_Qi (fun (r' : Int32) (u : Mem) => r' = rr ∧ u = σ) (GW g ad) (AA g ad w b)) 0 0 (AA g ad w b) := by
  refine Met.ofW (cc := cX3_fact) (maxL := 2) (ret := (some .int)) (by decide) rfl ?_
  intro p e s m args below meth c s₁ B hml hv
  obtain ⟨rfl, hv⟩ := hv
  have S : CallFix p m c cX3_fact 2 s _ AL RX3 := ⟨B.exec, B.bytes, hml, findClass_of_methodNamed B.named, fun w h => atoms_spec (ws := wsy yX3_fact cX3_fact 2 (some .int)) B.pre w (List.mem_cons_of_mem _ h)⟩
  have hr := B.returns
  have hlk := B.notSynchronized
  have hG : GA g ad σ w b s s.heap [] := GA_start hv
  have hl := lv_entry ([.ref (ad t), .int p0]) (n := 2) (Nat.le_of_ble_eq_true rfl)
  rw [lg_entry_eq]
  generalize (lg_sl ([.ref (ad t), .int p0]) ++ List.replicate (2 - (lg_sl ([.ref (ad t), .int p0])).length) Slot.unset).toArray = ls at hl ⊢
  have hl : lv_has ls 2 [(0, .ref (ad t)), (1, .int p0)] := hl
  revert h
  unfold fn_X3_fact
  refine v_iload_n S hl 1 rfl rfl dX3_fact_0 ?_
  refine v_tcase (fun e1 => ?_) (fun c2 => ?_)
  · refine v_tin S 48 e1 dX3_fact_1 (by decide) (by decide) rfl (by decide) ?_
    refine v_aload_n S hl 0 rfl rfl dX3_fact_48 ?_
    refine gf_3_1 S hG q118 dX3_fact_49 ?_
    exact v_iretR S hG hr hlk (Nat.le_of_ble_eq_true rfl) (Nat.le_of_ble_eq_true rfl) dX3_fact_52
  refine v_tcase (fun e3 => ?_) (fun c4 => ?_)
  · refine v_tin S 53 e3 dX3_fact_1 (by decide) (by decide) rfl (by decide) ?_
    refine v_aload_n S hl 0 rfl rfl dX3_fact_53 ?_
    refine gf_3_2 S hG q119 dX3_fact_54 ?_
    exact v_iretR S hG hr hlk (Nat.le_of_ble_eq_true rfl) (Nat.le_of_ble_eq_true rfl) dX3_fact_57
  refine v_tcase (fun e5 => ?_) (fun c6 => ?_)
  · refine v_tin S 58 e5 dX3_fact_1 (by decide) (by decide) rfl (by decide) ?_
    refine v_aload_n S hl 0 rfl rfl dX3_fact_58 ?_
    refine gf_3_3 S hG q120 dX3_fact_59 ?_
    exact v_iretR S hG hr hlk (Nat.le_of_ble_eq_true rfl) (Nat.le_of_ble_eq_true rfl) dX3_fact_62
  refine v_tcase (fun e7 => ?_) (fun c8 => ?_)
  · refine v_tin S 63 e7 dX3_fact_1 (by decide) (by decide) rfl (by decide) ?_
    refine v_aload_n S hl 0 rfl rfl dX3_fact_63 ?_
    refine gf_3_4 S hG q121 dX3_fact_64 ?_
    exact v_iretR S hG hr hlk (Nat.le_of_ble_eq_true rfl) (Nat.le_of_ble_eq_true rfl) dX3_fact_67
  refine v_tcase (fun e9 => ?_) (fun c10 => ?_)
  · refine v_tin S 68 e9 dX3_fact_1 (by decide) (by decide) rfl (by decide) ?_
    refine v_aload_n S hl 0 rfl rfl dX3_fact_68 ?_
    refine gf_3_5 S hG q122 dX3_fact_69 ?_
    exact v_iretR S hG hr hlk (Nat.le_of_ble_eq_true rfl) (Nat.le_of_ble_eq_true rfl) dX3_fact_72
  refine v_tcase (fun e11 => ?_) (fun c12 => ?_)
  · refine v_tin S 73 e11 dX3_fact_1 (by decide) (by decide) rfl (by decide) ?_
    refine v_aload_n S hl 0 rfl rfl dX3_fact_73 ?_
    refine gf_3_6 S hG q123 dX3_fact_74 ?_
    exact v_iretR S hG hr hlk (Nat.le_of_ble_eq_true rfl) (Nat.le_of_ble_eq_true rfl) dX3_fact_77
  refine v_tcase (fun e14 => ?_) (fun c15 => ?_)
  · refine v_tin S 78 e14 dX3_fact_1 (by decide) (by decide) rfl (by decide) ?_
    refine v_aload_n S hl 0 rfl rfl dX3_fact_78 ?_
    refine v_cV_iR S hG [] rfl rfl (by decide) (met_X3_years l g ad w b σ t) mw_X3_years q159 dX3_fact_79 rfl rfl hl.1 (Nat.le_of_ble_eq_true rfl) ⟨Nat.le_of_ble_eq_true rfl, Nat.le_of_ble_eq_true rfl⟩ rfl rfl ⟨Nat.le_of_ble_eq_true rfl, Nat.le_of_ble_eq_true rfl⟩ (fun r13 H locs hG => ?_)
    exact v_iretR S hG hr hlk (Nat.le_of_ble_eq_true rfl) (Nat.le_of_ble_eq_true rfl) dX3_fact_82
  refine v_tcase (fun e17 => ?_) (fun c18 => ?_)
  · refine v_tin S 83 e17 dX3_fact_1 (by decide) (by decide) rfl (by decide) ?_
    refine v_aload_n S hl 0 rfl rfl dX3_fact_83 ?_
    refine v_cV_iR S hG [] rfl rfl (by decide) (met_X3_state l g ad w b σ t) mw_X3_state q163 dX3_fact_84 rfl rfl hl.1 (Nat.le_of_ble_eq_true rfl) ⟨Nat.le_of_ble_eq_true rfl, Nat.le_of_ble_eq_true rfl⟩ rfl rfl ⟨Nat.le_of_ble_eq_true rfl, Nat.le_of_ble_eq_true rfl⟩ (fun r16 H locs hG => ?_)
    exact v_iretR S hG hr hlk (Nat.le_of_ble_eq_true rfl) (Nat.le_of_ble_eq_true rfl) dX3_fact_87
  refine v_tout S 88 (t_out 8 (fun k hk => match k, hk with | 0, _ => c2 | 1, _ => c4 | 2, _ => c6 | 3, _ => c8 | 4, _ => c10 | 5, _ => c12 | 6, _ => c15 | 7, _ => c18 | k + 8, hk => absurd hk (by omega)) (by decide)) dX3_fact_1 (by decide) ?_
  refine v_aload_n S hl 0 rfl rfl dX3_fact_88 ?_
  refine gf_3_7 S hG q57 dX3_fact_89 ?_
  exact v_iretR S hG hr hlk (Nat.le_of_ble_eq_true rfl) (Nat.le_of_ble_eq_true rfl) dX3_fact_92
set_option maxHeartbeats 4000000 in
set_option maxRecDepth 100000 in
theorem wl_X3_yearsCounted_8 {p : Program} {l : Launch} {e : Env} {s : State} {m : MethodId} {args : Array Value} {below : List Frame} {meth : Method} {c : Code} {g : GT} {ad : Nat → Nat} {w : Bool} {b : Nat} (S : CallFix p m c cX3_yearsCounted 4 s args AL RX3) (hr : meth.sig.returnType = some .int) (hlk : meth.locks = false) (σ : Mem) (a0 : Nat) {rr : Int32} {K : Int32 → Int32 → Option Int32} (kx : ∀ (y2 : Int32) (y3 : Int32) (H : Heap) (locs : List Loc) (ls : Array Slot), lv_has ls 4 [(0, .ref (ad a0)), (2, .int y2), (3, .int y3)] → GA g ad σ w b s H locs → K y2 y3 = some rr → W p l e ({ frames := 1, cells := 0, slots := 0, locals := 21 } : Room) s m args below meth c H locs 0 0 (MQ below (va_Qi (fun (r' : Int32) (u : Mem) => r' = rr ∧ u = σ) (GW g ad) (AA g ad w b)) args s 0 0 (AA g ad w b)) (F0 m 32 ls [])) : ∀ (fuel : Nat) (y2 : Int32) (y3 : Int32) (H : Heap) (locs : List Loc) (ls : Array Slot), lv_has ls 4 [(0, .ref (ad a0)), (2, .int y2), (3, .int y3)] → GA g ad σ w b s H locs → lp_X3_yearsCounted_8 σ a0 K fuel y2 y3 = some rr → W p l e ({ frames := 1, cells := 0, slots := 0, locals := 21 } : Room) s m args below meth c H locs 0 0 (MQ below (va_Qi (fun (r' : Int32) (u : Mem) => r' = rr ∧ u = σ) (GW g ad) (AA g ad w b)) args s 0 0 (AA g ad w b)) (F0 m 8 ls []) := by
  intro fuel
  induction fuel with
  | zero =>
    intro y2 y3 H locs ls hl hG h
    rw [lp_X3_yearsCounted_8.eq_1] at h
    cases h
  | succ fuel ih =>
    intro y2 y3 H locs ls hl hG
    rw [lp_X3_yearsCounted_8.eq_2]
    refine v_iload_n S hl 2 rfl rfl dX3_yearsCounted_8 ?_
    refine v_aload_n S hl 0 rfl rfl dX3_yearsCounted_9 ?_
    refine gr_3_0 S hG q171 dX3_yearsCounted_10 (fun r2 => ?_)
    refine v_alen_8 S hG dX3_yearsCounted_13 ?_
    refine v_icmp_ge S 32 dX3_yearsCounted_14 (by decide) ?_ ?_
    · exact kx y2 y3 _ _ ls (lv_sub hl [0, 1, 2] rfl) hG
    · refine v_iload_n S hl 1 rfl rfl dX3_yearsCounted_17 ?_
      refine v_aload_n S hl 0 rfl rfl dX3_yearsCounted_18 ?_
      refine gr_3_0 S hG q171 dX3_yearsCounted_19 (fun r3 => ?_)
      refine v_iload_n S hl 2 rfl rfl dX3_yearsCounted_22 ?_
      refine v_iald S hG dX3_yearsCounted_23 ?_
      refine v_iadd S dX3_yearsCounted_24 ?_
      refine v_nm (fun x4 => ?_)
      refine v_istore_n S hl [(2, .int x4), (0, .ref (ad a0)), (3, .int y3)] rfl dX3_yearsCounted_25 (by decide) rfl (fun ls hl => ?_)
      refine v_iinc S hl 2 rfl dX3_yearsCounted_26 rfl (by decide) (fun z => [(3, .int z), (2, .int x4), (0, .ref (ad a0))]) (fun _ => rfl) (fun x5 ls hl => ?_)
      refine v_goto S 8 dX3_yearsCounted_29 (by decide) ?_
      exact ih x4 x5 _ _ ls (lv_sub hl [2, 1, 0] rfl) hG
set_option maxHeartbeats 4000000 in
set_option maxRecDepth 100000 in
theorem met_X3_yearsCounted (l : Launch) (g : GT) (ad : Nat → Nat) (w : Bool) (b : Nat) (σ : Mem) (t : Nat) (p0 : Int32) (rr : Int32) (h : fn_X3_yearsCounted σ t p0 = some rr) : Met l yX3_yearsCounted (wsy yX3_yearsCounted cX3_yearsCounted 4 (some .int)) ({ frames := 1, cells := 0, slots := 0, locals := 21 } : Room) (va_Pc [.ref (ad t), .int p0] (PB g ad σ b)) (va_Qi (fun (r' : Int32) (u : Mem) => r' = rr ∧ u = σ) (GW g ad) (AA g ad w b)) 0 0 (AA g ad w b) := by
  refine Met.ofW (cc := cX3_yearsCounted) (maxL := 4) (ret := (some .int)) (by decide) rfl ?_
  intro p e s m args below meth c s₁ B hml hv
  obtain ⟨rfl, hv⟩ := hv
  have S : CallFix p m c cX3_yearsCounted 4 s _ AL RX3 := ⟨B.exec, B.bytes, hml, findClass_of_methodNamed B.named, fun w h => atoms_spec (ws := wsy yX3_yearsCounted cX3_yearsCounted 4 (some .int)) B.pre w (List.mem_cons_of_mem _ h)⟩
  have hr := B.returns
  have hlk := B.notSynchronized
  have hG : GA g ad σ w b s s.heap [] := GA_start hv
  have hl := lv_entry ([.ref (ad t), .int p0]) (n := 4) (Nat.le_of_ble_eq_true rfl)
  rw [lg_entry_eq]
  generalize (lg_sl ([.ref (ad t), .int p0]) ++ List.replicate (4 - (lg_sl ([.ref (ad t), .int p0])).length) Slot.unset).toArray = ls at hl ⊢
  have hl : lv_has ls 4 [(0, .ref (ad t)), (1, .int p0)] := hl
  revert h
  unfold fn_X3_yearsCounted
  refine v_iconst S 0 dX3_yearsCounted_0 rfl ?_
  refine v_istore_n S hl [(2, .int 0), (0, .ref (ad t)), (1, .int p0)] rfl dX3_yearsCounted_1 (by decide) rfl (fun ls hl => ?_)
  refine v_iconst S 0 dX3_yearsCounted_2 rfl ?_
  refine v_iload_n S hl 2 rfl rfl dX3_yearsCounted_3 ?_
  refine v_mmax S q157 mw_max hl.1 (Nat.le_of_ble_eq_true rfl) (Nat.le_of_ble_eq_true rfl) (Nat.le_of_ble_eq_true rfl) (Nat.le_of_ble_eq_true rfl) dX3_yearsCounted_4 ?_
  refine v_nm (fun x1 => ?_)
  refine v_istore_n S hl [(3, .int x1), (2, .int 0), (0, .ref (ad t)), (1, .int p0)] rfl dX3_yearsCounted_7 (by decide) rfl (fun ls hl => ?_)
  refine wl_X3_yearsCounted_8 S hr hlk σ t (fun x6 x7 H locs ls hl hG => ?_) 93 0 x1 _ _ ls (lv_sub hl [2, 1, 0] rfl) hG
  refine v_iload_n S hl 1 rfl rfl dX3_yearsCounted_32 ?_
  exact v_iretR S hG hr hlk (Nat.le_of_ble_eq_true rfl) (Nat.le_of_ble_eq_true rfl) dX3_yearsCounted_33
set_option maxHeartbeats 4000000 in
set_option maxRecDepth 100000 in
theorem met_X2_canPull (l : Launch) (g : GT) (ad : Nat → Nat) (w : Bool) (b : Nat) (σ : Mem) (t : Nat) (p0 : Int32) (rr : Int32) (h : fn_X2_canPull σ t p0 = some rr) : Met l yX2_canPull (wsy yX2_canPull cX2_canPull 2 (some .boolean)) ({ frames := 0, cells := 0, slots := 0, locals := 0 } : Room) (va_Pc [.ref (ad t), .int p0] (PB g ad σ b)) (va_Qi (fun (r' : Int32) (u : Mem) => r' = rr ∧ u = σ) (GW g ad) (AA g ad w b)) 0 0 (AA g ad w b) := by
  refine Met.ofW (cc := cX2_canPull) (maxL := 2) (ret := (some .boolean)) (by decide) rfl ?_
  intro p e s m args below meth c s₁ B hml hv
  obtain ⟨rfl, hv⟩ := hv
  have S : CallFix p m c cX2_canPull 2 s _ AL RX2 := ⟨B.exec, B.bytes, hml, findClass_of_methodNamed B.named, fun w h => atoms_spec (ws := wsy yX2_canPull cX2_canPull 2 (some .boolean)) B.pre w (List.mem_cons_of_mem _ h)⟩
  have hr := B.returns
  have hlk := B.notSynchronized
  have hG : GA g ad σ w b s s.heap [] := GA_start hv
  have hl := lv_entry ([.ref (ad t), .int p0]) (n := 2) (Nat.le_of_ble_eq_true rfl)
  rw [lg_entry_eq]
  generalize (lg_sl ([.ref (ad t), .int p0]) ++ List.replicate (2 - (lg_sl ([.ref (ad t), .int p0])).length) Slot.unset).toArray = ls at hl ⊢
  have hl : lv_has ls 2 [(0, .ref (ad t)), (1, .int p0)] := hl
  revert h
  unfold fn_X2_canPull
  refine v_aload_n S hl 0 rfl rfl dX2_canPull_0 ?_
  refine gf_2_1 S hG q111 dX2_canPull_1 ?_
  refine v_iload_n S hl 1 rfl rfl dX2_canPull_4 ?_
  refine v_iadd S dX2_canPull_5 ?_
  refine v_bipush S 10 dX2_canPull_6 (by decide) ?_
  refine v_aload_n S hl 0 rfl rfl dX2_canPull_8 ?_
  refine gf_2_0 S hG q110 dX2_canPull_9 ?_
  refine v_imul S dX2_canPull_12 ?_
  refine v_icmp_gt S 20 dX2_canPull_13 (by decide) ?_ ?_
  · refine v_iconst S 0 dX2_canPull_20 rfl ?_
    exact v_zretR S hG hr hlk rfl (Nat.le_of_ble_eq_true rfl) (Nat.le_of_ble_eq_true rfl) dX2_canPull_21
  · refine v_iconst S 1 dX2_canPull_16 rfl ?_
    refine v_goto S 21 dX2_canPull_17 (by decide) ?_
    exact v_zretR S hG hr hlk rfl (Nat.le_of_ble_eq_true rfl) (Nat.le_of_ble_eq_true rfl) dX2_canPull_21
set_option maxHeartbeats 4000000 in
set_option maxRecDepth 100000 in
theorem met_X2_pull (l : Launch) (g : GT) (ad : Nat → Nat) (_ : Bool) (b : Nat) (σ : Mem) (t : Nat) (p0 : Int32) (σr : Mem) (h : fn_X2_pull σ t p0 = some σr) : Met l yX2_pull (wsy yX2_pull cX2_pull 2 none) ({ frames := 0, cells := 0, slots := 0, locals := 0 } : Room) (va_Pc [.ref (ad t), .int p0] (PB g ad σ b)) (va_Qv (fun (u : Mem) => u = σr) (GW g ad) (AA g ad true b)) 0 0 (AA g ad true b) := by
  refine Met.ofW (cc := cX2_pull) (maxL := 2) (ret := none) (by decide) rfl ?_
  intro p e s m args below meth c s₁ B hml hv
  obtain ⟨rfl, hv⟩ := hv
  have S : CallFix p m c cX2_pull 2 s _ AL RX2 := ⟨B.exec, B.bytes, hml, findClass_of_methodNamed B.named, fun w h => atoms_spec (ws := wsy yX2_pull cX2_pull 2 none) B.pre w (List.mem_cons_of_mem _ h)⟩
  have hr := B.returns
  have hlk := B.notSynchronized
  have hG : GA g ad σ true b s s.heap [] := GA_start hv
  have hl := lv_entry ([.ref (ad t), .int p0]) (n := 2) (Nat.le_of_ble_eq_true rfl)
  rw [lg_entry_eq]
  generalize (lg_sl ([.ref (ad t), .int p0]) ++ List.replicate (2 - (lg_sl ([.ref (ad t), .int p0])).length) Slot.unset).toArray = ls at hl ⊢
  have hl : lv_has ls 2 [(0, .ref (ad t)), (1, .int p0)] := hl
  revert h
  unfold fn_X2_pull
  refine v_aload_n S hl 0 rfl rfl dX2_pull_0 ?_
  refine v_dup S dX2_pull_1 rfl ?_
  refine gf_2_1 S hG q111 dX2_pull_2 ?_
  refine v_iload_n S hl 1 rfl rfl dX2_pull_5 ?_
  refine v_iadd S dX2_pull_6 ?_
  refine pf_2_1 S hG q111 dX2_pull_7 (fun σ1 H locs hG => ?_)
  refine v_aload_n S hl 0 rfl rfl dX2_pull_10 ?_
  refine v_dup S dX2_pull_11 rfl ?_
  refine gf_2_3 S hG q112 dX2_pull_12 ?_
  refine v_iconst S 1 dX2_pull_15 rfl ?_
  refine v_iadd S dX2_pull_16 ?_
  refine pf_2_3 S hG q112 dX2_pull_17 (fun σ2 H locs hG => ?_)
  exact v_vretm S hG hr hlk (Nat.le_of_ble_eq_true rfl) (Nat.le_of_ble_eq_true rfl) dX2_pull_20
set_option maxHeartbeats 4000000 in
set_option maxRecDepth 100000 in
theorem met_X1_reach (l : Launch) (g : GT) (ad : Nat → Nat) (w : Bool) (b : Nat) (σ : Mem) (t : Nat) (p0 : Int32) (rr : Int32) (h : fn_X1_reach σ t p0 = some rr) : Met l yX1_reach (wsy yX1_reach cX1_reach 2 (some .int)) ({ frames := 0, cells := 0, slots := 0, locals := 0 } : Room) (va_Pc [.ref (ad t), .int p0] (PB g ad σ b)) (va_Qi (fun (r' : Int32) (u : Mem) => r' = rr ∧ u = σ) (GW g ad) (AA g ad w b)) 0 0 (AA g ad w b) := by
  refine Met.ofW (cc := cX1_reach) (maxL := 2) (ret := (some .int)) (by decide) rfl ?_
  intro p e s m args below meth c s₁ B hml hv
  obtain ⟨rfl, hv⟩ := hv
  have S : CallFix p m c cX1_reach 2 s _ AL RX1 := ⟨B.exec, B.bytes, hml, findClass_of_methodNamed B.named, fun w h => atoms_spec (ws := wsy yX1_reach cX1_reach 2 (some .int)) B.pre w (List.mem_cons_of_mem _ h)⟩
  have hr := B.returns
  have hlk := B.notSynchronized
  have hG : GA g ad σ w b s s.heap [] := GA_start hv
  have hl := lv_entry ([.ref (ad t), .int p0]) (n := 2) (Nat.le_of_ble_eq_true rfl)
  rw [lg_entry_eq]
  generalize (lg_sl ([.ref (ad t), .int p0]) ++ List.replicate (2 - (lg_sl ([.ref (ad t), .int p0])).length) Slot.unset).toArray = ls at hl ⊢
  have hl : lv_has ls 2 [(0, .ref (ad t)), (1, .int p0)] := hl
  revert h
  unfold fn_X1_reach
  refine v_aload_n S hl 0 rfl rfl dX1_reach_0 ?_
  refine gf_1_0 S hG q29 dX1_reach_1 ?_
  refine v_if_le S 21 dX1_reach_4 (by decide) ?_ ?_
  · refine v_bipush S 10 dX1_reach_21 (by decide) ?_
    refine v_iload_n S hl 1 rfl rfl dX1_reach_23 ?_
    refine v_imul S dX1_reach_24 ?_
    exact v_iretR S hG hr hlk (Nat.le_of_ble_eq_true rfl) (Nat.le_of_ble_eq_true rfl) dX1_reach_25
  · refine v_bipush S 10 dX1_reach_7 (by decide) ?_
    refine v_iload_n S hl 1 rfl rfl dX1_reach_9 ?_
    refine v_imul S dX1_reach_10 ?_
    refine v_iconst S 1 dX1_reach_11 rfl ?_
    refine v_aload_n S hl 0 rfl rfl dX1_reach_12 ?_
    refine gf_1_0 S hG q29 dX1_reach_13 ?_
    refine v_iadd S dX1_reach_16 ?_
    refine v_idiv S dX1_reach_17 ?_
    refine v_goto S 25 dX1_reach_18 (by decide) ?_
    exact v_iretR S hG hr hlk (Nat.le_of_ble_eq_true rfl) (Nat.le_of_ble_eq_true rfl) dX1_reach_25
set_option maxHeartbeats 4000000 in
set_option maxRecDepth 100000 in
theorem met_X3_sound (l : Launch) (g : GT) (ad : Nat → Nat) (_ : Bool) (b : Nat) (σ : Mem) (t : Nat) (p0 : Int32) (p1 : Int32) (σr : Mem) (h : fn_X3_sound σ t p0 p1 = some σr) : Met l yX3_sound (wsy yX3_sound cX3_sound 3 none) ({ frames := 1, cells := 0, slots := 0, locals := 20 } : Room) (va_Pc [.ref (ad t), .int p0, .int p1] (PB g ad σ b)) (va_Qv (fun (u : Mem) => u = σr) (GW g ad) (AA g ad true b)) 0 0 (AA g ad true b) := by
  refine Met.ofW (cc := cX3_sound) (maxL := 3) (ret := none) (by decide) rfl ?_
  intro p e s m args below meth c s₁ B hml hv
  obtain ⟨rfl, hv⟩ := hv
  have S : CallFix p m c cX3_sound 3 s _ AL RX3 := ⟨B.exec, B.bytes, hml, findClass_of_methodNamed B.named, fun w h => atoms_spec (ws := wsy yX3_sound cX3_sound 3 none) B.pre w (List.mem_cons_of_mem _ h)⟩
  have hr := B.returns
  have hlk := B.notSynchronized
  have hG : GA g ad σ true b s s.heap [] := GA_start hv
  have hl := lv_entry ([.ref (ad t), .int p0, .int p1]) (n := 3) (Nat.le_of_ble_eq_true rfl)
  rw [lg_entry_eq]
  generalize (lg_sl ([.ref (ad t), .int p0, .int p1]) ++ List.replicate (3 - (lg_sl ([.ref (ad t), .int p0, .int p1])).length) Slot.unset).toArray = ls at hl ⊢
  have hl : lv_has ls 3 [(0, .ref (ad t)), (1, .int p0), (2, .int p1)] := hl
  revert h
  unfold fn_X3_sound
  refine v_aload_n S hl 0 rfl rfl dX3_sound_0 ?_
  refine v_dup S dX3_sound_1 rfl ?_
  refine gf_3_5 S hG q122 dX3_sound_2 ?_
  refine v_iconst S 1 dX3_sound_5 rfl ?_
  refine v_iadd S dX3_sound_6 ?_
  refine pf_3_5 S hG q122 dX3_sound_7 (fun σ1 H locs hG => ?_)
  refine v_iload_n S hl 1 rfl rfl dX3_sound_10 ?_
  refine v_if_eq S 24 dX3_sound_11 (by decide) ?_ ?_
  · refine v_aload_n S hl 0 rfl rfl dX3_sound_24 ?_
    refine gf_3_5 S hG q122 dX3_sound_25 ?_
    refine v_aload_n S hl 0 rfl rfl dX3_sound_28 ?_
    refine v_cV_iR S hG [] rfl rfl (by decide) (met_X3_tellers l g ad true b σ1 t) mw_X3_tellers q142 dX3_sound_29 rfl rfl hl.1 (Nat.le_of_ble_eq_true rfl) ⟨Nat.le_of_ble_eq_true rfl, Nat.le_of_ble_eq_true rfl⟩ rfl rfl ⟨Nat.le_of_ble_eq_true rfl, Nat.le_of_ble_eq_true rfl⟩ (fun r2 H locs hG => ?_)
    refine v_icmp_le S 58 dX3_sound_32 (by decide) ?_ ?_
    · exact v_vretm S hG hr hlk (Nat.le_of_ble_eq_true rfl) (Nat.le_of_ble_eq_true rfl) dX3_sound_58
    · refine v_iload_n S hl 2 rfl rfl dX3_sound_35 ?_
      refine v_if_lt S 58 dX3_sound_36 (by decide) ?_ ?_
      · exact v_vretm S hG hr hlk (Nat.le_of_ble_eq_true rfl) (Nat.le_of_ble_eq_true rfl) dX3_sound_58
      · refine v_iload_n S hl 2 rfl rfl dX3_sound_39 ?_
        refine v_aload_n S hl 0 rfl rfl dX3_sound_40 ?_
        refine gr_3_0 S hG q171 dX3_sound_41 (fun r3 => ?_)
        refine v_alen_8 S hG dX3_sound_44 ?_
        refine v_icmp_ge S 58 dX3_sound_45 (by decide) ?_ ?_
        · exact v_vretm S hG hr hlk (Nat.le_of_ble_eq_true rfl) (Nat.le_of_ble_eq_true rfl) dX3_sound_58
        · refine v_aload_n S hl 0 rfl rfl dX3_sound_48 ?_
          refine gr_3_0 S hG q171 dX3_sound_49 (fun r4 => ?_)
          refine v_iload_n S hl 2 rfl rfl dX3_sound_52 ?_
          refine v_dup2 S dX3_sound_53 rfl rfl ?_
          refine v_iald S hG dX3_sound_54 ?_
          refine v_iconst S 1 dX3_sound_55 rfl ?_
          refine v_iadd S dX3_sound_56 ?_
          refine v_iast S hG dX3_sound_57 (fun σ5 H locs hG => ?_)
          exact v_vretm S hG hr hlk (Nat.le_of_ble_eq_true rfl) (Nat.le_of_ble_eq_true rfl) dX3_sound_58
  · refine v_aload_n S hl 0 rfl rfl dX3_sound_14 ?_
    refine v_dup S dX3_sound_15 rfl ?_
    refine gf_3_6 S hG q123 dX3_sound_16 ?_
    refine v_iconst S 1 dX3_sound_19 rfl ?_
    refine v_iadd S dX3_sound_20 ?_
    refine pf_3_6 S hG q123 dX3_sound_21 (fun σ6 H locs hG => ?_)
    refine v_aload_n S hl 0 rfl rfl dX3_sound_24 ?_
    refine gf_3_5 S hG q122 dX3_sound_25 ?_
    refine v_aload_n S hl 0 rfl rfl dX3_sound_28 ?_
    refine v_cV_iR S hG [] rfl rfl (by decide) (met_X3_tellers l g ad true b σ6 t) mw_X3_tellers q142 dX3_sound_29 rfl rfl hl.1 (Nat.le_of_ble_eq_true rfl) ⟨Nat.le_of_ble_eq_true rfl, Nat.le_of_ble_eq_true rfl⟩ rfl rfl ⟨Nat.le_of_ble_eq_true rfl, Nat.le_of_ble_eq_true rfl⟩ (fun r7 H locs hG => ?_)
    refine v_icmp_le S 58 dX3_sound_32 (by decide) ?_ ?_
    · exact v_vretm S hG hr hlk (Nat.le_of_ble_eq_true rfl) (Nat.le_of_ble_eq_true rfl) dX3_sound_58
    · refine v_iload_n S hl 2 rfl rfl dX3_sound_35 ?_
      refine v_if_lt S 58 dX3_sound_36 (by decide) ?_ ?_
      · exact v_vretm S hG hr hlk (Nat.le_of_ble_eq_true rfl) (Nat.le_of_ble_eq_true rfl) dX3_sound_58
      · refine v_iload_n S hl 2 rfl rfl dX3_sound_39 ?_
        refine v_aload_n S hl 0 rfl rfl dX3_sound_40 ?_
        refine gr_3_0 S hG q171 dX3_sound_41 (fun r8 => ?_)
        refine v_alen_8 S hG dX3_sound_44 ?_
        refine v_icmp_ge S 58 dX3_sound_45 (by decide) ?_ ?_
        · exact v_vretm S hG hr hlk (Nat.le_of_ble_eq_true rfl) (Nat.le_of_ble_eq_true rfl) dX3_sound_58
        · refine v_aload_n S hl 0 rfl rfl dX3_sound_48 ?_
          refine gr_3_0 S hG q171 dX3_sound_49 (fun r9 => ?_)
          refine v_iload_n S hl 2 rfl rfl dX3_sound_52 ?_
          refine v_dup2 S dX3_sound_53 rfl rfl ?_
          refine v_iald S hG dX3_sound_54 ?_
          refine v_iconst S 1 dX3_sound_55 rfl ?_
          refine v_iadd S dX3_sound_56 ?_
          refine v_iast S hG dX3_sound_57 (fun σ10 H locs hG => ?_)
          exact v_vretm S hG hr hlk (Nat.le_of_ble_eq_true rfl) (Nat.le_of_ble_eq_true rfl) dX3_sound_58
set_option maxHeartbeats 4000000 in
set_option maxRecDepth 100000 in
theorem met_X1_wear (l : Launch) (g : GT) (ad : Nat → Nat) (_ : Bool) (b : Nat) (σ : Mem) (t : Nat) (p0 : Int32) (σr : Mem) (h : fn_X1_wear σ t p0 = some σr) : Met l yX1_wear (wsy yX1_wear cX1_wear 2 none) ({ frames := 1, cells := 0, slots := 0, locals := 21 } : Room) (va_Pc [.ref (ad t), .int p0] (PB g ad σ b)) (va_Qv (fun (u : Mem) => u = σr) (GW g ad) (AA g ad true b)) 0 0 (AA g ad true b) := by
  refine Met.ofW (cc := cX1_wear) (maxL := 2) (ret := none) (by decide) rfl ?_
  intro p e s m args below meth c s₁ B hml hv
  obtain ⟨rfl, hv⟩ := hv
  have S : CallFix p m c cX1_wear 2 s _ AL RX1 := ⟨B.exec, B.bytes, hml, findClass_of_methodNamed B.named, fun w h => atoms_spec (ws := wsy yX1_wear cX1_wear 2 none) B.pre w (List.mem_cons_of_mem _ h)⟩
  have hr := B.returns
  have hlk := B.notSynchronized
  have hG : GA g ad σ true b s s.heap [] := GA_start hv
  have hl := lv_entry ([.ref (ad t), .int p0]) (n := 2) (Nat.le_of_ble_eq_true rfl)
  rw [lg_entry_eq]
  generalize (lg_sl ([.ref (ad t), .int p0]) ++ List.replicate (2 - (lg_sl ([.ref (ad t), .int p0])).length) Slot.unset).toArray = ls at hl ⊢
  have hl : lv_has ls 2 [(0, .ref (ad t)), (1, .int p0)] := hl
  revert h
  unfold fn_X1_wear
  refine v_aload_n S hl 0 rfl rfl dX1_wear_0 ?_
  refine gf_1_0 S hG q29 dX1_wear_1 ?_
  refine v_if_ne S 8 dX1_wear_4 (by decide) ?_ ?_
  · refine v_aload_n S hl 0 rfl rfl dX1_wear_8 ?_
    refine v_dup S dX1_wear_9 rfl ?_
    refine gf_1_1 S hG q30 dX1_wear_10 ?_
    refine v_iload_n S hl 1 rfl rfl dX1_wear_13 ?_
    refine v_iadd S dX1_wear_14 ?_
    refine pf_1_1 S hG q30 dX1_wear_15 (fun σ1 H locs hG => ?_)
    refine v_aload_n S hl 0 rfl rfl dX1_wear_18 ?_
    refine gf_1_1 S hG q30 dX1_wear_19 ?_
    refine v_bipush S 10 dX1_wear_22 (by decide) ?_
    refine v_aload_n S hl 0 rfl rfl dX1_wear_24 ?_
    refine gf_1_0 S hG q29 dX1_wear_25 ?_
    refine v_imul S dX1_wear_28 ?_
    refine v_icmp_lt S 37 dX1_wear_29 (by decide) ?_ ?_
    · exact v_vretm S hG hr hlk (Nat.le_of_ble_eq_true rfl) (Nat.le_of_ble_eq_true rfl) dX1_wear_37
    · refine v_aload_n S hl 0 rfl rfl dX1_wear_32 ?_
      refine v_iconst S 0 dX1_wear_33 rfl ?_
      refine v_cV_vm S hG [.int 0] rfl rfl (by decide) (met_X1_renew l g ad true b σ1 t 0) mw_X1_renew q227 dX1_wear_34 rfl rfl hl.1 (Nat.le_of_ble_eq_true rfl) ⟨Nat.le_of_ble_eq_true rfl, Nat.le_of_ble_eq_true rfl⟩ rfl rfl ⟨Nat.le_of_ble_eq_true rfl, Nat.le_of_ble_eq_true rfl⟩ (fun σ2 H locs hG => ?_)
      exact v_vretm S hG hr hlk (Nat.le_of_ble_eq_true rfl) (Nat.le_of_ble_eq_true rfl) dX1_wear_37
  · exact v_vretm S hG hr hlk (Nat.le_of_ble_eq_true rfl) (Nat.le_of_ble_eq_true rfl) dX1_wear_7
set_option maxHeartbeats 4000000 in
set_option maxRecDepth 100000 in
theorem met_X0_turn (l : Launch) (g : GT) (ad : Nat → Nat) (_ : Bool) (b : Nat) (σ : Mem) (t : Nat) (σr : Mem) (h : fn_X0_turn σ t = some σr) : Met l yX0_turn (wsy yX0_turn cX0_turn 1 none) ({ frames := 0, cells := 0, slots := 0, locals := 0 } : Room) (va_Pc [.ref (ad t)] (PB g ad σ b)) (va_Qv (fun (u : Mem) => u = σr) (GW g ad) (AA g ad true b)) 0 0 (AA g ad true b) := by
  refine Met.ofW (cc := cX0_turn) (maxL := 1) (ret := none) (by decide) rfl ?_
  intro p e s m args below meth c s₁ B hml hv
  obtain ⟨rfl, hv⟩ := hv
  have S : CallFix p m c cX0_turn 1 s _ AL RX0 := ⟨B.exec, B.bytes, hml, findClass_of_methodNamed B.named, fun w h => atoms_spec (ws := wsy yX0_turn cX0_turn 1 none) B.pre w (List.mem_cons_of_mem _ h)⟩
  have hr := B.returns
  have hlk := B.notSynchronized
  have hG : GA g ad σ true b s s.heap [] := GA_start hv
  have hl := lv_entry ([.ref (ad t)]) (n := 1) (Nat.le_of_ble_eq_true rfl)
  rw [lg_entry_eq]
  generalize (lg_sl ([.ref (ad t)]) ++ List.replicate (1 - (lg_sl ([.ref (ad t)])).length) Slot.unset).toArray = ls at hl ⊢
  have hl : lv_has ls 1 [(0, .ref (ad t))] := hl
  revert h
  unfold fn_X0_turn
  refine v_aload_n S hl 0 rfl rfl dX0_turn_0 ?_
  refine v_iconst S 1 dX0_turn_1 rfl ?_
  refine v_aload_n S hl 0 rfl rfl dX0_turn_2 ?_
  refine gf_0_3 S hG q228 dX0_turn_3 ?_
  refine v_isub S dX0_turn_6 ?_
  refine pf_0_3 S hG q228 dX0_turn_7 (fun σ1 H locs hG => ?_)
  refine v_aload_n S hl 0 rfl rfl dX0_turn_10 ?_
  refine v_dup S dX0_turn_11 rfl ?_
  refine gf_0_7 S hG q229 dX0_turn_12 ?_
  refine v_iconst S 1 dX0_turn_15 rfl ?_
  refine v_iadd S dX0_turn_16 ?_
  refine pf_0_7 S hG q229 dX0_turn_17 (fun σ2 H locs hG => ?_)
  exact v_vretm S hG hr hlk (Nat.le_of_ble_eq_true rfl) (Nat.le_of_ble_eq_true rfl) dX0_turn_20
set_option maxHeartbeats 4000000 in
set_option maxRecDepth 100000 in
theorem met_X3_pauseNow (l : Launch) (g : GT) (ad : Nat → Nat) (w : Bool) (b : Nat) (σ : Mem) (t : Nat) (rr : Int32) (h : fn_X3_pauseNow σ t = some rr) : Met l yX3_pauseNow (wsy yX3_pauseNow cX3_pauseNow 3 (some .int)) ({ frames := 0, cells := 0, slots := 0, locals := 0 } : Room) (va_Pc [.ref (ad t)] (PB g ad σ b)) (va_Qi (fun (r' : Int32) (u : Mem) => r' = rr ∧ u = σ) (GW g ad) (AA g ad w b)) 0 0 (AA g ad w b) := by
  refine Met.ofW (cc := cX3_pauseNow) (maxL := 3) (ret := (some .int)) (by decide) rfl ?_
  intro p e s m args below meth c s₁ B hml hv
  obtain ⟨rfl, hv⟩ := hv
  have S : CallFix p m c cX3_pauseNow 3 s _ AL RX3 := ⟨B.exec, B.bytes, hml, findClass_of_methodNamed B.named, fun w h => atoms_spec (ws := wsy yX3_pauseNow cX3_pauseNow 3 (some .int)) B.pre w (List.mem_cons_of_mem _ h)⟩
  have hr := B.returns
  have hlk := B.notSynchronized
  have hG : GA g ad σ w b s s.heap [] := GA_start hv
  have hl := lv_entry ([.ref (ad t)]) (n := 3) (Nat.le_of_ble_eq_true rfl)
  rw [lg_entry_eq]
  generalize (lg_sl ([.ref (ad t)]) ++ List.replicate (3 - (lg_sl ([.ref (ad t)])).length) Slot.unset).toArray = ls at hl ⊢
  have hl : lv_has ls 3 [(0, .ref (ad t))] := hl
  revert h
  unfold fn_X3_pauseNow
  refine v_aload_n S hl 0 rfl rfl dX3_pauseNow_0 ?_
  refine gf_3_2 S hG q119 dX3_pauseNow_1 ?_
  refine v_iconst S 1 dX3_pauseNow_4 rfl ?_
  refine v_iadd S dX3_pauseNow_5 ?_
  refine v_nm (fun x1 => ?_)
  refine v_istore_n S hl [(1, .int x1), (0, .ref (ad t))] rfl dX3_pauseNow_6 (by decide) rfl (fun ls hl => ?_)
  refine v_aload_n S hl 1 rfl rfl dX3_pauseNow_7 ?_
  refine gf_3_5 S hG q122 dX3_pauseNow_8 ?_
  refine v_iload_n S hl 0 rfl rfl dX3_pauseNow_11 ?_
  refine v_icmp_eq S 35 dX3_pauseNow_12 (by decide) ?_ ?_
  · refine v_iconst S 1 dX3_pauseNow_35 rfl ?_
    refine v_goto S 40 dX3_pauseNow_36 (by decide) ?_
    refine v_istore_n S hl [(2, .int 1), (1, .int x1), (0, .ref (ad t))] rfl dX3_pauseNow_40 (by decide) rfl (fun ls hl => ?_)
    refine v_iload_n S hl 0 rfl rfl dX3_pauseNow_41 ?_
    refine v_if_eq_f S 59 (by decide) dX3_pauseNow_42 (by decide) ?_
    refine v_aload_n S hl 2 rfl rfl dX3_pauseNow_45 ?_
    refine gf_3_4 S hG q121 dX3_pauseNow_46 ?_
    refine v_iconst S 1 dX3_pauseNow_49 rfl ?_
    refine v_isub S dX3_pauseNow_50 ?_
    refine v_aload_n S hl 2 rfl rfl dX3_pauseNow_51 ?_
    refine gf_3_4 S hG q121 dX3_pauseNow_52 ?_
    refine v_iadd S dX3_pauseNow_55 ?_
    refine v_goto S 65 dX3_pauseNow_56 (by decide) ?_
    exact v_iretR S hG hr hlk (Nat.le_of_ble_eq_true rfl) (Nat.le_of_ble_eq_true rfl) dX3_pauseNow_65
  · refine v_aload_n S hl 1 rfl rfl dX3_pauseNow_15 ?_
    refine gf_3_5 S hG q122 dX3_pauseNow_16 ?_
    refine v_iconst S 2 dX3_pauseNow_19 rfl ?_
    refine v_iload_n S hl 0 rfl rfl dX3_pauseNow_20 ?_
    refine v_imul S dX3_pauseNow_21 ?_
    refine v_icmp_eq S 35 dX3_pauseNow_22 (by decide) ?_ ?_
    · refine v_iconst S 1 dX3_pauseNow_35 rfl ?_
      refine v_goto S 40 dX3_pauseNow_36 (by decide) ?_
      refine v_istore_n S hl [(2, .int 1), (1, .int x1), (0, .ref (ad t))] rfl dX3_pauseNow_40 (by decide) rfl (fun ls hl => ?_)
      refine v_iload_n S hl 0 rfl rfl dX3_pauseNow_41 ?_
      refine v_if_eq_f S 59 (by decide) dX3_pauseNow_42 (by decide) ?_
      refine v_aload_n S hl 2 rfl rfl dX3_pauseNow_45 ?_
      refine gf_3_4 S hG q121 dX3_pauseNow_46 ?_
      refine v_iconst S 1 dX3_pauseNow_49 rfl ?_
      refine v_isub S dX3_pauseNow_50 ?_
      refine v_aload_n S hl 2 rfl rfl dX3_pauseNow_51 ?_
      refine gf_3_4 S hG q121 dX3_pauseNow_52 ?_
      refine v_iadd S dX3_pauseNow_55 ?_
      refine v_goto S 65 dX3_pauseNow_56 (by decide) ?_
      exact v_iretR S hG hr hlk (Nat.le_of_ble_eq_true rfl) (Nat.le_of_ble_eq_true rfl) dX3_pauseNow_65
    · refine v_aload_n S hl 1 rfl rfl dX3_pauseNow_25 ?_
      refine gf_3_5 S hG q122 dX3_pauseNow_26 ?_
      refine v_iconst S 3 dX3_pauseNow_29 rfl ?_
      refine v_iload_n S hl 0 rfl rfl dX3_pauseNow_30 ?_
      refine v_imul S dX3_pauseNow_31 ?_
      refine v_icmp_ne S 39 dX3_pauseNow_32 (by decide) ?_ ?_
      · refine v_iconst S 0 dX3_pauseNow_39 rfl ?_
        refine v_istore_n S hl [(2, .int 0), (1, .int x1), (0, .ref (ad t))] rfl dX3_pauseNow_40 (by decide) rfl (fun ls hl => ?_)
        refine v_iload_n S hl 0 rfl rfl dX3_pauseNow_41 ?_
        refine v_if_eq_t S 59 (by decide) dX3_pauseNow_42 (by decide) ?_
        refine v_aload_n S hl 2 rfl rfl dX3_pauseNow_59 ?_
        refine gf_3_4 S hG q121 dX3_pauseNow_60 ?_
        refine v_iconst S 1 dX3_pauseNow_63 rfl ?_
        refine v_isub S dX3_pauseNow_64 ?_
        exact v_iretR S hG hr hlk (Nat.le_of_ble_eq_true rfl) (Nat.le_of_ble_eq_true rfl) dX3_pauseNow_65
      · refine v_iconst S 1 dX3_pauseNow_35 rfl ?_
        refine v_goto S 40 dX3_pauseNow_36 (by decide) ?_
        refine v_istore_n S hl [(2, .int 1), (1, .int x1), (0, .ref (ad t))] rfl dX3_pauseNow_40 (by decide) rfl (fun ls hl => ?_)
        refine v_iload_n S hl 0 rfl rfl dX3_pauseNow_41 ?_
        refine v_if_eq_f S 59 (by decide) dX3_pauseNow_42 (by decide) ?_
        refine v_aload_n S hl 2 rfl rfl dX3_pauseNow_45 ?_
        refine gf_3_4 S hG q121 dX3_pauseNow_46 ?_
        refine v_iconst S 1 dX3_pauseNow_49 rfl ?_
        refine v_isub S dX3_pauseNow_50 ?_
        refine v_aload_n S hl 2 rfl rfl dX3_pauseNow_51 ?_
        refine gf_3_4 S hG q121 dX3_pauseNow_52 ?_
        refine v_iadd S dX3_pauseNow_55 ?_
        refine v_goto S 65 dX3_pauseNow_56 (by decide) ?_
        exact v_iretR S hG hr hlk (Nat.le_of_ble_eq_true rfl) (Nat.le_of_ble_eq_true rfl) dX3_pauseNow_65
set_option maxHeartbeats 4000000 in
set_option maxRecDepth 100000 in
theorem met_X2_restIfFree (l : Launch) (g : GT) (ad : Nat → Nat) (_ : Bool) (b : Nat) (σ : Mem) (t : Nat) (σr : Mem) (h : fn_X2_restIfFree σ t = some σr) : Met l yX2_restIfFree (wsy yX2_restIfFree cX2_restIfFree 1 none) ({ frames := 1, cells := 0, slots := 0, locals := 21 } : Room) (va_Pc [.ref (ad t)] (PB g ad σ b)) (va_Qv (fun (u : Mem) => u = σr) (GW g ad) (AA g ad true b)) 0 0 (AA g ad true b) := by
  refine Met.ofW (cc := cX2_restIfFree) (maxL := 1) (ret := none) (by decide) rfl ?_
  intro p e s m args below meth c s₁ B hml hv
  obtain ⟨rfl, hv⟩ := hv
  have S : CallFix p m c cX2_restIfFree 1 s _ AL RX2 := ⟨B.exec, B.bytes, hml, findClass_of_methodNamed B.named, fun w h => atoms_spec (ws := wsy yX2_restIfFree cX2_restIfFree 1 none) B.pre w (List.mem_cons_of_mem _ h)⟩
  have hr := B.returns
  have hlk := B.notSynchronized
  have hG : GA g ad σ true b s s.heap [] := GA_start hv
  have hl := lv_entry ([.ref (ad t)]) (n := 1) (Nat.le_of_ble_eq_true rfl)
  rw [lg_entry_eq]
  generalize (lg_sl ([.ref (ad t)]) ++ List.replicate (1 - (lg_sl ([.ref (ad t)])).length) Slot.unset).toArray = ls at hl ⊢
  have hl : lv_has ls 1 [(0, .ref (ad t))] := hl
  revert h
  unfold fn_X2_restIfFree
  refine v_aload_n S hl 0 rfl rfl dX2_restIfFree_0 ?_
  refine v_cV_iR S hG [] rfl rfl (by decide) (met_X2_rests l g ad true b σ t) mw_X2_rests q257 dX2_restIfFree_1 rfl rfl hl.1 (Nat.le_of_ble_eq_true rfl) ⟨Nat.le_of_ble_eq_true rfl, Nat.le_of_ble_eq_true rfl⟩ rfl rfl ⟨Nat.le_of_ble_eq_true rfl, Nat.le_of_ble_eq_true rfl⟩ (fun r1 H locs hG => ?_)
  refine v_if_eq S 21 dX2_restIfFree_4 (by decide) ?_ ?_
  · exact v_vretm S hG hr hlk (Nat.le_of_ble_eq_true rfl) (Nat.le_of_ble_eq_true rfl) dX2_restIfFree_21
  · refine v_aload_n S hl 0 rfl rfl dX2_restIfFree_7 ?_
    refine v_iconst S 0 dX2_restIfFree_8 rfl ?_
    refine v_aload_n S hl 0 rfl rfl dX2_restIfFree_9 ?_
    refine gf_2_1 S hG q111 dX2_restIfFree_10 ?_
    refine v_iconst S 2 dX2_restIfFree_13 rfl ?_
    refine v_isub S dX2_restIfFree_14 ?_
    refine v_mmax S q258 mw_max hl.1 (Nat.le_of_ble_eq_true rfl) (Nat.le_of_ble_eq_true rfl) (Nat.le_of_ble_eq_true rfl) (Nat.le_of_ble_eq_true rfl) dX2_restIfFree_15 ?_
    refine pf_2_1 S hG q111 dX2_restIfFree_18 (fun σ2 H locs hG => ?_)
    exact v_vretm S hG hr hlk (Nat.le_of_ble_eq_true rfl) (Nat.le_of_ble_eq_true rfl) dX2_restIfFree_21
set_option maxHeartbeats 4000000 in
set_option maxRecDepth 100000 in
theorem met_X1_becomeLike (l : Launch) (g : GT) (ad : Nat → Nat) (_ : Bool) (b : Nat) (σ : Mem) (t : Nat) (p0 : Nat) (σr : Mem) (h : fn_X1_becomeLike σ t p0 = some σr) : Met l yX1_becomeLike (wsy yX1_becomeLike cX1_becomeLike 2 none) ({ frames := 0, cells := 0, slots := 0, locals := 0 } : Room) (va_Pc [.ref (ad t), .ref (ad p0)] (PB g ad σ b)) (va_Qv (fun (u : Mem) => u = σr) (GW g ad) (AA g ad true b)) 0 0 (AA g ad true b) := by
  refine Met.ofW (cc := cX1_becomeLike) (maxL := 2) (ret := none) (by decide) rfl ?_
  intro p e s m args below meth c s₁ B hml hv
  obtain ⟨rfl, hv⟩ := hv
  have S : CallFix p m c cX1_becomeLike 2 s _ AL RX1 := ⟨B.exec, B.bytes, hml, findClass_of_methodNamed B.named, fun w h => atoms_spec (ws := wsy yX1_becomeLike cX1_becomeLike 2 none) B.pre w (List.mem_cons_of_mem _ h)⟩
  have hr := B.returns
  have hlk := B.notSynchronized
  have hG : GA g ad σ true b s s.heap [] := GA_start hv
  have hl := lv_entry ([.ref (ad t), .ref (ad p0)]) (n := 2) (Nat.le_of_ble_eq_true rfl)
  rw [lg_entry_eq]
  generalize (lg_sl ([.ref (ad t), .ref (ad p0)]) ++ List.replicate (2 - (lg_sl ([.ref (ad t), .ref (ad p0)])).length) Slot.unset).toArray = ls at hl ⊢
  have hl : lv_has ls 2 [(0, .ref (ad t)), (1, .ref (ad p0))] := hl
  revert h
  unfold fn_X1_becomeLike
  refine v_aload_n S hl 0 rfl rfl dX1_becomeLike_0 ?_
  refine v_aload_n S hl 1 rfl rfl dX1_becomeLike_1 ?_
  refine gf_1_0 S hG q29 dX1_becomeLike_2 ?_
  refine pf_1_0 S hG q29 dX1_becomeLike_5 (fun σ1 H locs hG => ?_)
  refine v_aload_n S hl 0 rfl rfl dX1_becomeLike_8 ?_
  refine v_aload_n S hl 1 rfl rfl dX1_becomeLike_9 ?_
  refine gf_1_1 S hG q30 dX1_becomeLike_10 ?_
  refine pf_1_1 S hG q30 dX1_becomeLike_13 (fun σ2 H locs hG => ?_)
  exact v_vretm S hG hr hlk (Nat.le_of_ble_eq_true rfl) (Nat.le_of_ble_eq_true rfl) dX1_becomeLike_16
set_option maxHeartbeats 4000000 in
set_option maxRecDepth 100000 in
theorem met_X0_becomeLike (l : Launch) (g : GT) (ad : Nat → Nat) (_ : Bool) (b : Nat) (σ : Mem) (t : Nat) (p0 : Nat) (σr : Mem) (h : fn_X0_becomeLike σ t p0 = some σr) : Met l yX0_becomeLike (wsy yX0_becomeLike cX0_becomeLike 2 none) ({ frames := 1, cells := 0, slots := 0, locals := 21 } : Room) (va_Pc [.ref (ad t), .ref (ad p0)] (PB g ad σ b)) (va_Qv (fun (u : Mem) => u = σr) (GW g ad) (AA g ad true b)) 0 0 (AA g ad true b) := by
  refine Met.ofW (cc := cX0_becomeLike) (maxL := 2) (ret := none) (by decide) rfl ?_
  intro p e s m args below meth c s₁ B hml hv
  obtain ⟨rfl, hv⟩ := hv
  have S : CallFix p m c cX0_becomeLike 2 s _ AL RX0 := ⟨B.exec, B.bytes, hml, findClass_of_methodNamed B.named, fun w h => atoms_spec (ws := wsy yX0_becomeLike cX0_becomeLike 2 none) B.pre w (List.mem_cons_of_mem _ h)⟩
  have hr := B.returns
  have hlk := B.notSynchronized
  have hG : GA g ad σ true b s s.heap [] := GA_start hv
  have hl := lv_entry ([.ref (ad t), .ref (ad p0)]) (n := 2) (Nat.le_of_ble_eq_true rfl)
  rw [lg_entry_eq]
  generalize (lg_sl ([.ref (ad t), .ref (ad p0)]) ++ List.replicate (2 - (lg_sl ([.ref (ad t), .ref (ad p0)])).length) Slot.unset).toArray = ls at hl ⊢
  have hl : lv_has ls 2 [(0, .ref (ad t)), (1, .ref (ad p0))] := hl
  revert h
  unfold fn_X0_becomeLike
  refine v_aload_n S hl 0 rfl rfl dX0_becomeLike_0 ?_
  refine gr_0_0 S hG q28 dX0_becomeLike_1 (fun r1 => ?_)
  refine v_aload_n S hl 1 rfl rfl dX0_becomeLike_4 ?_
  refine gr_0_0 S hG q28 dX0_becomeLike_5 (fun r2 => ?_)
  refine v_cV_vm S hG [.ref (ad r2)] rfl rfl (by decide) (met_X1_becomeLike l g ad true b σ r1 r2) mw_X1_becomeLike q279 dX0_becomeLike_8 rfl rfl hl.1 (Nat.le_of_ble_eq_true rfl) ⟨Nat.le_of_ble_eq_true rfl, Nat.le_of_ble_eq_true rfl⟩ rfl rfl ⟨Nat.le_of_ble_eq_true rfl, Nat.le_of_ble_eq_true rfl⟩ (fun σ3 H locs hG => ?_)
  refine v_aload_n S hl 0 rfl rfl dX0_becomeLike_11 ?_
  refine gr_0_1 S hG q27 dX0_becomeLike_12 (fun r4 => ?_)
  refine v_aload_n S hl 1 rfl rfl dX0_becomeLike_15 ?_
  refine gr_0_1 S hG q27 dX0_becomeLike_16 (fun r5 => ?_)
  refine v_cV_vm S hG [.ref (ad r5)] rfl rfl (by decide) (met_X1_becomeLike l g ad true b σ3 r4 r5) mw_X1_becomeLike q279 dX0_becomeLike_19 rfl rfl hl.1 (Nat.le_of_ble_eq_true rfl) ⟨Nat.le_of_ble_eq_true rfl, Nat.le_of_ble_eq_true rfl⟩ rfl rfl ⟨Nat.le_of_ble_eq_true rfl, Nat.le_of_ble_eq_true rfl⟩ (fun σ6 H locs hG => ?_)
  refine v_aload_n S hl 0 rfl rfl dX0_becomeLike_22 ?_
  refine v_aload_n S hl 1 rfl rfl dX0_becomeLike_23 ?_
  refine gf_0_2 S hG q48 dX0_becomeLike_24 ?_
  refine pf_0_2 S hG q48 dX0_becomeLike_27 (fun σ7 H locs hG => ?_)
  refine v_aload_n S hl 0 rfl rfl dX0_becomeLike_30 ?_
  refine v_aload_n S hl 1 rfl rfl dX0_becomeLike_31 ?_
  refine gf_0_3 S hG q228 dX0_becomeLike_32 ?_
  refine pf_0_3 S hG q228 dX0_becomeLike_35 (fun σ8 H locs hG => ?_)
  refine v_aload_n S hl 0 rfl rfl dX0_becomeLike_38 ?_
  refine v_aload_n S hl 1 rfl rfl dX0_becomeLike_39 ?_
  refine gf_0_4 S hG q283 dX0_becomeLike_40 ?_
  refine pf_0_4 S hG q283 dX0_becomeLike_43 (fun σ9 H locs hG => ?_)
  refine v_aload_n S hl 0 rfl rfl dX0_becomeLike_46 ?_
  refine v_aload_n S hl 1 rfl rfl dX0_becomeLike_47 ?_
  refine gf_0_5 S hG q284 dX0_becomeLike_48 ?_
  refine pf_0_5 S hG q284 dX0_becomeLike_51 (fun σ10 H locs hG => ?_)
  refine v_aload_n S hl 0 rfl rfl dX0_becomeLike_54 ?_
  refine v_aload_n S hl 1 rfl rfl dX0_becomeLike_55 ?_
  refine gf_0_6 S hG q285 dX0_becomeLike_56 ?_
  refine pf_0_6 S hG q285 dX0_becomeLike_59 (fun σ11 H locs hG => ?_)
  refine v_aload_n S hl 0 rfl rfl dX0_becomeLike_62 ?_
  refine v_aload_n S hl 1 rfl rfl dX0_becomeLike_63 ?_
  refine gf_0_7 S hG q229 dX0_becomeLike_64 ?_
  refine pf_0_7 S hG q229 dX0_becomeLike_67 (fun σ12 H locs hG => ?_)
  exact v_vretm S hG hr hlk (Nat.le_of_ble_eq_true rfl) (Nat.le_of_ble_eq_true rfl) dX0_becomeLike_70
set_option maxHeartbeats 4000000 in
set_option maxRecDepth 100000 in
theorem met_X2_becomeLike (l : Launch) (g : GT) (ad : Nat → Nat) (_ : Bool) (b : Nat) (σ : Mem) (t : Nat) (p0 : Nat) (σr : Mem) (h : fn_X2_becomeLike σ t p0 = some σr) : Met l yX2_becomeLike (wsy yX2_becomeLike cX2_becomeLike 2 none) ({ frames := 0, cells := 0, slots := 0, locals := 0 } : Room) (va_Pc [.ref (ad t), .ref (ad p0)] (PB g ad σ b)) (va_Qv (fun (u : Mem) => u = σr) (GW g ad) (AA g ad true b)) 0 0 (AA g ad true b) := by
  refine Met.ofW (cc := cX2_becomeLike) (maxL := 2) (ret := none) (by decide) rfl ?_
  intro p e s m args below meth c s₁ B hml hv
  obtain ⟨rfl, hv⟩ := hv
  have S : CallFix p m c cX2_becomeLike 2 s _ AL RX2 := ⟨B.exec, B.bytes, hml, findClass_of_methodNamed B.named, fun w h => atoms_spec (ws := wsy yX2_becomeLike cX2_becomeLike 2 none) B.pre w (List.mem_cons_of_mem _ h)⟩
  have hr := B.returns
  have hlk := B.notSynchronized
  have hG : GA g ad σ true b s s.heap [] := GA_start hv
  have hl := lv_entry ([.ref (ad t), .ref (ad p0)]) (n := 2) (Nat.le_of_ble_eq_true rfl)
  rw [lg_entry_eq]
  generalize (lg_sl ([.ref (ad t), .ref (ad p0)]) ++ List.replicate (2 - (lg_sl ([.ref (ad t), .ref (ad p0)])).length) Slot.unset).toArray = ls at hl ⊢
  have hl : lv_has ls 2 [(0, .ref (ad t)), (1, .ref (ad p0))] := hl
  revert h
  unfold fn_X2_becomeLike
  refine v_aload_n S hl 0 rfl rfl dX2_becomeLike_0 ?_
  refine v_aload_n S hl 1 rfl rfl dX2_becomeLike_1 ?_
  refine gf_2_0 S hG q110 dX2_becomeLike_2 ?_
  refine pf_2_0 S hG q110 dX2_becomeLike_5 (fun σ1 H locs hG => ?_)
  refine v_aload_n S hl 0 rfl rfl dX2_becomeLike_8 ?_
  refine v_aload_n S hl 1 rfl rfl dX2_becomeLike_9 ?_
  refine gf_2_1 S hG q111 dX2_becomeLike_10 ?_
  refine pf_2_1 S hG q111 dX2_becomeLike_13 (fun σ2 H locs hG => ?_)
  refine v_aload_n S hl 0 rfl rfl dX2_becomeLike_16 ?_
  refine v_aload_n S hl 1 rfl rfl dX2_becomeLike_17 ?_
  refine gf_2_2 S hG q93 dX2_becomeLike_18 ?_
  refine pf_2_2 S hG q93 dX2_becomeLike_21 (fun σ3 H locs hG => ?_)
  refine v_aload_n S hl 0 rfl rfl dX2_becomeLike_24 ?_
  refine v_aload_n S hl 1 rfl rfl dX2_becomeLike_25 ?_
  refine gf_2_3 S hG q112 dX2_becomeLike_26 ?_
  refine pf_2_3 S hG q112 dX2_becomeLike_29 (fun σ4 H locs hG => ?_)
  refine v_aload_n S hl 0 rfl rfl dX2_becomeLike_32 ?_
  refine v_aload_n S hl 1 rfl rfl dX2_becomeLike_33 ?_
  refine gf_2_4 S hG q113 dX2_becomeLike_34 ?_
  refine pf_2_4 S hG q113 dX2_becomeLike_37 (fun σ5 H locs hG => ?_)
  exact v_vretm S hG hr hlk (Nat.le_of_ble_eq_true rfl) (Nat.le_of_ble_eq_true rfl) dX2_becomeLike_40
set_option maxHeartbeats 4000000 in
set_option maxRecDepth 100000 in
theorem met_X3_becomeLike (l : Launch) (g : GT) (ad : Nat → Nat) (_ : Bool) (b : Nat) (σ : Mem) (t : Nat) (p0 : Nat) (σr : Mem) (h : fn_X3_becomeLike σ t p0 = some σr) : Met l yX3_becomeLike (wsy yX3_becomeLike cX3_becomeLike 2 none) ({ frames := 0, cells := 0, slots := 0, locals := 0 } : Room) (va_Pc [.ref (ad t), .ref (ad p0)] (PB g ad σ b)) (va_Qv (fun (u : Mem) => u = σr) (GW g ad) (AA g ad true b)) 0 0 (AA g ad true b) := by
  refine Met.ofW (cc := cX3_becomeLike) (maxL := 2) (ret := none) (by decide) rfl ?_
  intro p e s m args below meth c s₁ B hml hv
  obtain ⟨rfl, hv⟩ := hv
  have S : CallFix p m c cX3_becomeLike 2 s _ AL RX3 := ⟨B.exec, B.bytes, hml, findClass_of_methodNamed B.named, fun w h => atoms_spec (ws := wsy yX3_becomeLike cX3_becomeLike 2 none) B.pre w (List.mem_cons_of_mem _ h)⟩
  have hr := B.returns
  have hlk := B.notSynchronized
  have hG : GA g ad σ true b s s.heap [] := GA_start hv
  have hl := lv_entry ([.ref (ad t), .ref (ad p0)]) (n := 2) (Nat.le_of_ble_eq_true rfl)
  rw [lg_entry_eq]
  generalize (lg_sl ([.ref (ad t), .ref (ad p0)]) ++ List.replicate (2 - (lg_sl ([.ref (ad t), .ref (ad p0)])).length) Slot.unset).toArray = ls at hl ⊢
  have hl : lv_has ls 2 [(0, .ref (ad t)), (1, .ref (ad p0))] := hl
  revert h
  unfold fn_X3_becomeLike
  refine v_aload_n S hl 0 rfl rfl dX3_becomeLike_0 ?_
  refine v_aload_n S hl 1 rfl rfl dX3_becomeLike_1 ?_
  refine gf_3_1 S hG q118 dX3_becomeLike_2 ?_
  refine pf_3_1 S hG q118 dX3_becomeLike_5 (fun σ1 H locs hG => ?_)
  refine v_aload_n S hl 0 rfl rfl dX3_becomeLike_8 ?_
  refine v_aload_n S hl 1 rfl rfl dX3_becomeLike_9 ?_
  refine gf_3_2 S hG q119 dX3_becomeLike_10 ?_
  refine pf_3_2 S hG q119 dX3_becomeLike_13 (fun σ2 H locs hG => ?_)
  refine v_aload_n S hl 0 rfl rfl dX3_becomeLike_16 ?_
  refine v_aload_n S hl 1 rfl rfl dX3_becomeLike_17 ?_
  refine gf_3_3 S hG q120 dX3_becomeLike_18 ?_
  refine pf_3_3 S hG q120 dX3_becomeLike_21 (fun σ3 H locs hG => ?_)
  refine v_aload_n S hl 0 rfl rfl dX3_becomeLike_24 ?_
  refine v_aload_n S hl 1 rfl rfl dX3_becomeLike_25 ?_
  refine gf_3_4 S hG q121 dX3_becomeLike_26 ?_
  refine pf_3_4 S hG q121 dX3_becomeLike_29 (fun σ4 H locs hG => ?_)
  refine v_aload_n S hl 0 rfl rfl dX3_becomeLike_32 ?_
  refine v_aload_n S hl 1 rfl rfl dX3_becomeLike_33 ?_
  refine gf_3_5 S hG q122 dX3_becomeLike_34 ?_
  refine pf_3_5 S hG q122 dX3_becomeLike_37 (fun σ5 H locs hG => ?_)
  refine v_aload_n S hl 0 rfl rfl dX3_becomeLike_40 ?_
  refine v_aload_n S hl 1 rfl rfl dX3_becomeLike_41 ?_
  refine gf_3_6 S hG q123 dX3_becomeLike_42 ?_
  refine pf_3_6 S hG q123 dX3_becomeLike_45 (fun σ6 H locs hG => ?_)
  refine v_aload_n S hl 0 rfl rfl dX3_becomeLike_48 ?_
  refine v_aload_n S hl 1 rfl rfl dX3_becomeLike_49 ?_
  refine gf_3_7 S hG q57 dX3_becomeLike_50 ?_
  refine pf_3_7 S hG q57 dX3_becomeLike_53 (fun σ7 H locs hG => ?_)
  exact v_vretm S hG hr hlk (Nat.le_of_ble_eq_true rfl) (Nat.le_of_ble_eq_true rfl) dX3_becomeLike_56
