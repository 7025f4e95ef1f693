def fn_X1_becomeLike (σ : Mem) (t : Nat) (p0 : Nat) : Option Mem := gd (ck p0 1) (gd (ck t 1) (nm (sI σ t 0 (σ p0 0)) (fun σ1 => gd (ck p0 1) (gd (ck t 1) (nm (sI σ1 t 1 (σ1 p0 1)) (fun σ2 => (some σ2)))))))
set_option maxHeartbeats 4000000 in
set_option maxRecDepth 100000 in
theorem met_X1_becomeLike (l : Launch) (g : GT) (ad : Nat → Nat) (_ : Bool) (b : Nat) (σ : Mem) (t : Nat) (p0 : Nat) (σr : Mem) (h : fn_X1_becomeLike σ t p0 = some σr) : Met l yX1_becomeLike (wsy yX1_becomeLike cX1_becomeLike 2 none) ({ frames := 0, cells := 0, slots := 0, locals := 0 } : Room) (va_Pc [.ref (ad t), .ref (ad p0)] (PB g ad σ b)) (va_Qv (fun (u : Mem) => u = σr) (GW g ad) (AA g ad true b)) 0 0 (AA g ad true b) := by
  refine Met.ofW (cc := cX1_becomeLike) (maxL := 2) (ret := none) (by decide) rfl ?_
  intro p e s m args below meth c s₁ B hml hv
  obtain ⟨rfl, hv⟩ := hv
  have S : CallFix p m c cX1_becomeLike 2 s _ AL RX1 := ⟨B.exec, B.bytes, hml, findClass_of_methodNamed B.named, fun w h => atoms_spec (ws := wsy yX1_becomeLike cX1_becomeLike 2 none) B.pre w (List.mem_cons_of_mem _ h)⟩
  have hr := B.returns
  have hlk := B.notSynchronized
  have hG : GA g ad σ true b s s.heap [] := GA_start hv
  have hl := lv_entry ([.ref (ad t), .ref (ad p0)]) (n := 2) (Nat.le_of_ble_eq_true rfl)
  rw [lg_entry_eq]
  generalize (lg_sl ([.ref (ad t), .ref (ad p0)]) ++ List.replicate (2 - (lg_sl ([.ref (ad t), .ref (ad p0)])).length) Slot.unset).toArray = ls at hl ⊢
  have hl : lv_has ls 2 [(0, .ref (ad t)), (1, .ref (ad p0))] := hl
  revert h
  unfold fn_X1_becomeLike
  refine v_aload_n S hl 0 rfl rfl dX1_becomeLike_0 ?_
  refine v_aload_n S hl 1 rfl rfl dX1_becomeLike_1 ?_
  refine gf_1_0 S hG q5 dX1_becomeLike_2 ?_
  refine pf_1_0 S hG q5 dX1_becomeLike_5 (fun σ1 H locs hG => ?_)
  refine v_aload_n S hl 0 rfl rfl dX1_becomeLike_8 ?_
  refine v_aload_n S hl 1 rfl rfl dX1_becomeLike_9 ?_
  refine gf_1_1 S hG q6 dX1_becomeLike_10 ?_
  refine pf_1_1 S hG q6 dX1_becomeLike_13 (fun σ2 H locs hG => ?_)
  exact v_vretm S hG hr hlk (Nat.le_of_ble_eq_true rfl) (Nat.le_of_ble_eq_true rfl) dX1_becomeLike_16
def fn_X1_renew (σ : Mem) (t : Nat) (p0 : Int32) : Option Mem := gd (ck t 1) (nm (sI σ t 0 p0) (fun σ1 => gd (ck t 1) (nm (sI σ1 t 1 0) (fun σ2 => (some σ2)))))
set_option maxHeartbeats 4000000 in
set_option maxRecDepth 100000 in
theorem met_X1_renew (l : Launch) (g : GT) (ad : Nat → Nat) (_ : Bool) (b : Nat) (σ : Mem) (t : Nat) (p0 : Int32) (σr : Mem) (h : fn_X1_renew σ t p0 = some σr) : Met l yX1_renew (wsy yX1_renew cX1_renew 2 none) ({ frames := 0, cells := 0, slots := 0, locals := 0 } : Room) (va_Pc [.ref (ad t), .int p0] (PB g ad σ b)) (va_Qv (fun (u : Mem) => u = σr) (GW g ad) (AA g ad true b)) 0 0 (AA g ad true b) := by
  refine Met.ofW (cc := cX1_renew) (maxL := 2) (ret := none) (by decide) rfl ?_
  intro p e s m args below meth c s₁ B hml hv
  obtain ⟨rfl, hv⟩ := hv
  have S : CallFix p m c cX1_renew 2 s _ AL RX1 := ⟨B.exec, B.bytes, hml, findClass_of_methodNamed B.named, fun w h => atoms_spec (ws := wsy yX1_renew cX1_renew 2 none) B.pre w (List.mem_cons_of_mem _ h)⟩
  have hr := B.returns
  have hlk := B.notSynchronized
  have hG : GA g ad σ true b s s.heap [] := GA_start hv
  have hl := lv_entry ([.ref (ad t), .int p0]) (n := 2) (Nat.le_of_ble_eq_true rfl)
  rw [lg_entry_eq]
  generalize (lg_sl ([.ref (ad t), .int p0]) ++ List.replicate (2 - (lg_sl ([.ref (ad t), .int p0])).length) Slot.unset).toArray = ls at hl ⊢
  have hl : lv_has ls 2 [(0, .ref (ad t)), (1, .int p0)] := hl
  revert h
  unfold fn_X1_renew
  refine v_aload_n S hl 0 rfl rfl dX1_renew_0 ?_
  refine v_iload_n S hl 1 rfl rfl dX1_renew_1 ?_
  refine pf_1_0 S hG q5 dX1_renew_2 (fun σ1 H locs hG => ?_)
  refine v_aload_n S hl 0 rfl rfl dX1_renew_5 ?_
  refine v_iconst S 0 dX1_renew_6 rfl ?_
  refine pf_1_1 S hG q6 dX1_renew_7 (fun σ2 H locs hG => ?_)
  exact v_vretm S hG hr hlk (Nat.le_of_ble_eq_true rfl) (Nat.le_of_ble_eq_true rfl) dX1_renew_10
def fn_X1_reach (σ : Mem) (t : Nat) (p0 : Int32) : Option Int32 := gd (ck t 1) ((if (σ t 0) ≤ (0 : Int32) then (some (10 * p0)) else gd (ck t 1) (gd (decide (¬ (1 + (σ t 0)) = (0 : Int32))) ((some ((10 * p0) / (1 + (σ t 0))))))))
set_option maxHeartbeats 4000000 in
set_option maxRecDepth 100000 in
theorem met_X1_reach (l : Launch) (g : GT) (ad : Nat → Nat) (w : Bool) (b : Nat) (σ : Mem) (t : Nat) (p0 : Int32) (rr : Int32) (h : fn_X1_reach σ t p0 = some rr) : Met l yX1_reach (wsy yX1_reach cX1_reach 2 (some .int)) ({ frames := 0, cells := 0, slots := 0, locals := 0 } : Room) (va_Pc [.ref (ad t), .int p0] (PB g ad σ b)) (va_Qi (fun (r' : Int32) (u : Mem) => r' = rr ∧ u = σ) (GW g ad) (AA g ad w b)) 0 0 (AA g ad w b) := by
  refine Met.ofW (cc := cX1_reach) (maxL := 2) (ret := (some .int)) (by decide) rfl ?_
  intro p e s m args below meth c s₁ B hml hv
  obtain ⟨rfl, hv⟩ := hv
  have S : CallFix p m c cX1_reach 2 s _ AL RX1 := ⟨B.exec, B.bytes, hml, findClass_of_methodNamed B.named, fun w h => atoms_spec (ws := wsy yX1_reach cX1_reach 2 (some .int)) B.pre w (List.mem_cons_of_mem _ h)⟩
  have hr := B.returns
  have hlk := B.notSynchronized
  have hG : GA g ad σ w b s s.heap [] := GA_start hv
  have hl := lv_entry ([.ref (ad t), .int p0]) (n := 2) (Nat.le_of_ble_eq_true rfl)
  rw [lg_entry_eq]
  generalize (lg_sl ([.ref (ad t), .int p0]) ++ List.replicate (2 - (lg_sl ([.ref (ad t), .int p0])).length) Slot.unset).toArray = ls at hl ⊢
  have hl : lv_has ls 2 [(0, .ref (ad t)), (1, .int p0)] := hl
  revert h
  unfold fn_X1_reach
  refine v_aload_n S hl 0 rfl rfl dX1_reach_0 ?_
  refine gf_1_0 S hG q5 dX1_reach_1 ?_
  refine v_if_le S 21 dX1_reach_4 (by decide) ?_ ?_
  · refine v_bipush S 10 dX1_reach_21 (by decide) ?_
    refine v_iload_n S hl 1 rfl rfl dX1_reach_23 ?_
    refine v_imul S dX1_reach_24 ?_
    exact v_iretR S hG hr hlk (Nat.le_of_ble_eq_true rfl) (Nat.le_of_ble_eq_true rfl) dX1_reach_25
  · refine v_bipush S 10 dX1_reach_7 (by decide) ?_
    refine v_iload_n S hl 1 rfl rfl dX1_reach_9 ?_
    refine v_imul S dX1_reach_10 ?_
    refine v_iconst S 1 dX1_reach_11 rfl ?_
    refine v_aload_n S hl 0 rfl rfl dX1_reach_12 ?_
    refine gf_1_0 S hG q5 dX1_reach_13 ?_
    refine v_iadd S dX1_reach_16 ?_
    refine v_idiv S dX1_reach_17 ?_
    refine v_goto S 25 dX1_reach_18 (by decide) ?_
    exact v_iretR S hG hr hlk (Nat.le_of_ble_eq_true rfl) (Nat.le_of_ble_eq_true rfl) dX1_reach_25
def fn_X1_wear (σ : Mem) (t : Nat) (p0 : Int32) : Option Mem := gd (ck t 1) ((if (σ t 0) = (0 : Int32) then (some σ) else gd (ck t 1) (gd (ck t 1) (nm (sI σ t 1 ((σ t 1) + p0)) (fun σ1 => gd (ck t 1) (gd (ck t 1) ((if (σ1 t 1) < (10 * (σ1 t 0)) then (some σ1) else gd (ck t 1) (b1 (fn_X1_renew σ1 t 0) (fun σ2 => (some σ2)))))))))))
set_option maxHeartbeats 4000000 in
set_option maxRecDepth 100000 in
theorem met_X1_wear (l : Launch) (g : GT) (ad : Nat → Nat) (_ : Bool) (b : Nat) (σ : Mem) (t : Nat) (p0 : Int32) (σr : Mem) (h : fn_X1_wear σ t p0 = some σr) : Met l yX1_wear (wsy yX1_wear cX1_wear 2 none) ({ frames := 1, cells := 0, slots := 0, locals := 21 } : Room) (va_Pc [.ref (ad t), .int p0] (PB g ad σ b)) (va_Qv (fun (u : Mem) => u = σr) (GW g ad) (AA g ad true b)) 0 0 (AA g ad true b) := by
  refine Met.ofW (cc := cX1_wear) (maxL := 2) (ret := none) (by decide) rfl ?_
  intro p e s m args below meth c s₁ B hml hv
  obtain ⟨rfl, hv⟩ := hv
  have S : CallFix p m c cX1_wear 2 s _ AL RX1 := ⟨B.exec, B.bytes, hml, findClass_of_methodNamed B.named, fun w h => atoms_spec (ws := wsy yX1_wear cX1_wear 2 none) B.pre w (List.mem_cons_of_mem _ h)⟩
  have hr := B.returns
  have hlk := B.notSynchronized
  have hG : GA g ad σ true b s s.heap [] := GA_start hv
  have hl := lv_entry ([.ref (ad t), .int p0]) (n := 2) (Nat.le_of_ble_eq_true rfl)
  rw [lg_entry_eq]
  generalize (lg_sl ([.ref (ad t), .int p0]) ++ List.replicate (2 - (lg_sl ([.ref (ad t), .int p0])).length) Slot.unset).toArray = ls at hl ⊢
  have hl : lv_has ls 2 [(0, .ref (ad t)), (1, .int p0)] := hl
  revert h
  unfold fn_X1_wear
  refine v_aload_n S hl 0 rfl rfl dX1_wear_0 ?_
  refine gf_1_0 S hG q5 dX1_wear_1 ?_
  refine v_if_ne S 8 dX1_wear_4 (by decide) ?_ ?_
  · refine v_aload_n S hl 0 rfl rfl dX1_wear_8 ?_
    refine v_dup S dX1_wear_9 rfl ?_
    refine gf_1_1 S hG q6 dX1_wear_10 ?_
    refine v_iload_n S hl 1 rfl rfl dX1_wear_13 ?_
    refine v_iadd S dX1_wear_14 ?_
    refine pf_1_1 S hG q6 dX1_wear_15 (fun σ1 H locs hG => ?_)
    refine v_aload_n S hl 0 rfl rfl dX1_wear_18 ?_
    refine gf_1_1 S hG q6 dX1_wear_19 ?_
    refine v_bipush S 10 dX1_wear_22 (by decide) ?_
    refine v_aload_n S hl 0 rfl rfl dX1_wear_24 ?_
    refine gf_1_0 S hG q5 dX1_wear_25 ?_
    refine v_imul S dX1_wear_28 ?_
    refine v_icmp_lt S 37 dX1_wear_29 (by decide) ?_ ?_
    · exact v_vretm S hG hr hlk (Nat.le_of_ble_eq_true rfl) (Nat.le_of_ble_eq_true rfl) dX1_wear_37
    · refine v_aload_n S hl 0 rfl rfl dX1_wear_32 ?_
      refine v_iconst S 0 dX1_wear_33 rfl ?_
      refine v_cV_vm S hG [.int 0] rfl rfl (by decide) (met_X1_renew l g ad true b σ1 t 0) mw_X1_renew q7 dX1_wear_34 rfl rfl hl.1 (Nat.le_of_ble_eq_true rfl) ⟨Nat.le_of_ble_eq_true rfl, Nat.le_of_ble_eq_true rfl⟩ rfl rfl ⟨Nat.le_of_ble_eq_true rfl, Nat.le_of_ble_eq_true rfl⟩ (fun σ2 H locs hG => ?_)
      exact v_vretm S hG hr hlk (Nat.le_of_ble_eq_true rfl) (Nat.le_of_ble_eq_true rfl) dX1_wear_37
  · exact v_vretm S hG hr hlk (Nat.le_of_ble_eq_true rfl) (Nat.le_of_ble_eq_true rfl) dX1_wear_7
def fn_X1_strokesLeft (σ : Mem) (t : Nat) (p0 : Int32) : Option Int32 := gd (ck t 1) ((if (σ t 0) = (0 : Int32) then (some 0) else (if (0 : Int32) < p0 then gd (ck t 1) (gd (ck t 1) (gd (decide (¬ p0 = (0 : Int32))) ((some (((((10 * (σ t 0)) - (σ t 1)) + p0) - 1) / p0))))) else (some 0))))
set_option maxHeartbeats 4000000 in
set_option maxRecDepth 100000 in
theorem met_X1_strokesLeft (l : Launch) (g : GT) (ad : Nat → Nat) (w : Bool) (b : Nat) (σ : Mem) (t : Nat) (p0 : Int32) (rr : Int32) (h : fn_X1_strokesLeft σ t p0 = some rr) : Met l yX1_strokesLeft (wsy yX1_strokesLeft cX1_strokesLeft 2 (some .int)) ({ frames := 0, cells := 0, slots := 0, locals := 0 } : Room) (va_Pc [.ref (ad t), .int p0] (PB g ad σ b)) (va_Qi (fun (r' : Int32) (u : Mem) => r' = rr ∧ u = σ) (GW g ad) (AA g ad w b)) 0 0 (AA g ad w b) := by
  refine Met.ofW (cc := cX1_strokesLeft) (maxL := 2) (ret := (some .int)) (by decide) rfl ?_
  intro p e s m args below meth c s₁ B hml hv
  obtain ⟨rfl, hv⟩ := hv
  have S : CallFix p m c cX1_strokesLeft 2 s _ AL RX1 := ⟨B.exec, B.bytes, hml, findClass_of_methodNamed B.named, fun w h => atoms_spec (ws := wsy yX1_strokesLeft cX1_strokesLeft 2 (some .int)) B.pre w (List.mem_cons_of_mem _ h)⟩
  have hr := B.returns
  have hlk := B.notSynchronized
  have hG : GA g ad σ w b s s.heap [] := GA_start hv
  have hl := lv_entry ([.ref (ad t), .int p0]) (n := 2) (Nat.le_of_ble_eq_true rfl)
  rw [lg_entry_eq]
  generalize (lg_sl ([.ref (ad t), .int p0]) ++ List.replicate (2 - (lg_sl ([.ref (ad t), .int p0])).length) Slot.unset).toArray = ls at hl ⊢
  have hl : lv_has ls 2 [(0, .ref (ad t)), (1, .int p0)] := hl
  revert h
  unfold fn_X1_strokesLeft
  refine v_aload_n S hl 0 rfl rfl dX1_strokesLeft_0 ?_
  refine gf_1_0 S hG q5 dX1_strokesLeft_1 ?_
  refine v_if_eq S 11 dX1_strokesLeft_4 (by decide) ?_ ?_
  · refine v_iconst S 0 dX1_strokesLeft_11 rfl ?_
    exact v_iretR S hG hr hlk (Nat.le_of_ble_eq_true rfl) (Nat.le_of_ble_eq_true rfl) dX1_strokesLeft_12
  · refine v_iload_n S hl 1 rfl rfl dX1_strokesLeft_7 ?_
    refine v_if_gt S 13 dX1_strokesLeft_8 (by decide) ?_ ?_
    · refine v_bipush S 10 dX1_strokesLeft_13 (by decide) ?_
      refine v_aload_n S hl 0 rfl rfl dX1_strokesLeft_15 ?_
      refine gf_1_0 S hG q5 dX1_strokesLeft_16 ?_
      refine v_imul S dX1_strokesLeft_19 ?_
      refine v_aload_n S hl 0 rfl rfl dX1_strokesLeft_20 ?_
      refine gf_1_1 S hG q6 dX1_strokesLeft_21 ?_
      refine v_isub S dX1_strokesLeft_24 ?_
      refine v_iload_n S hl 1 rfl rfl dX1_strokesLeft_25 ?_
      refine v_iadd S dX1_strokesLeft_26 ?_
      refine v_iconst S 1 dX1_strokesLeft_27 rfl ?_
      refine v_isub S dX1_strokesLeft_28 ?_
      refine v_iload_n S hl 1 rfl rfl dX1_strokesLeft_29 ?_
      refine v_idiv S dX1_strokesLeft_30 ?_
      exact v_iretR S hG hr hlk (Nat.le_of_ble_eq_true rfl) (Nat.le_of_ble_eq_true rfl) dX1_strokesLeft_31
    · refine v_iconst S 0 dX1_strokesLeft_11 rfl ?_
      exact v_iretR S hG hr hlk (Nat.le_of_ble_eq_true rfl) (Nat.le_of_ble_eq_true rfl) dX1_strokesLeft_12
def fn_X2_becomeLike (σ : Mem) (t : Nat) (p0 : Nat) : Option Mem := gd (ck p0 2) (gd (ck t 2) (nm (sI σ t 0 (σ p0 0)) (fun σ1 => gd (ck p0 2) (gd (ck t 2) (nm (sI σ1 t 1 (σ1 p0 1)) (fun σ2 => gd (ck p0 2) (gd (ck t 2) (nm (sI σ2 t 2 (σ2 p0 2)) (fun σ3 => gd (ck p0 2) (gd (ck t 2) (nm (sI σ3 t 3 (σ3 p0 3)) (fun σ4 => gd (ck p0 2) (gd (ck t 2) (nm (sI σ4 t 4 (σ4 p0 4)) (fun σ5 => (some σ5))))))))))))))))
set_option maxHeartbeats 4000000 in
set_option maxRecDepth 100000 in
theorem met_X2_becomeLike (l : Launch) (g : GT) (ad : Nat → Nat) (_ : Bool) (b : Nat) (σ : Mem) (t : Nat) (p0 : Nat) (σr : Mem) (h : fn_X2_becomeLike σ t p0 = some σr) : Met l yX2_becomeLike (wsy yX2_becomeLike cX2_becomeLike 2 none) ({ frames := 0, cells := 0, slots := 0, locals := 0 } : Room) (va_Pc [.ref (ad t), .ref (ad p0)] (PB g ad σ b)) (va_Qv (fun (u : Mem) => u = σr) (GW g ad) (AA g ad true b)) 0 0 (AA g ad true b) := by
  refine Met.ofW (cc := cX2_becomeLike) (maxL := 2) (ret := none) (by decide) rfl ?_
  intro p e s m args below meth c s₁ B hml hv
  obtain ⟨rfl, hv⟩ := hv
  have S : CallFix p m c cX2_becomeLike 2 s _ AL RX2 := ⟨B.exec, B.bytes, hml, findClass_of_methodNamed B.named, fun w h => atoms_spec (ws := wsy yX2_becomeLike cX2_becomeLike 2 none) B.pre w (List.mem_cons_of_mem _ h)⟩
  have hr := B.returns
  have hlk := B.notSynchronized
  have hG : GA g ad σ true b s s.heap [] := GA_start hv
  have hl := lv_entry ([.ref (ad t), .ref (ad p0)]) (n := 2) (Nat.le_of_ble_eq_true rfl)
  rw [lg_entry_eq]
  generalize (lg_sl ([.ref (ad t), .ref (ad p0)]) ++ List.replicate (2 - (lg_sl ([.ref (ad t), .ref (ad p0)])).length) Slot.unset).toArray = ls at hl ⊢
  have hl : lv_has ls 2 [(0, .ref (ad t)), (1, .ref (ad p0))] := hl
  revert h
  unfold fn_X2_becomeLike
  refine v_aload_n S hl 0 rfl rfl dX2_becomeLike_0 ?_
  refine v_aload_n S hl 1 rfl rfl dX2_becomeLike_1 ?_
  refine gf_2_0 S hG q12 dX2_becomeLike_2 ?_
  refine pf_2_0 S hG q12 dX2_becomeLike_5 (fun σ1 H locs hG => ?_)
  refine v_aload_n S hl 0 rfl rfl dX2_becomeLike_8 ?_
  refine v_aload_n S hl 1 rfl rfl dX2_becomeLike_9 ?_
  refine gf_2_1 S hG q13 dX2_becomeLike_10 ?_
  refine pf_2_1 S hG q13 dX2_becomeLike_13 (fun σ2 H locs hG => ?_)
  refine v_aload_n S hl 0 rfl rfl dX2_becomeLike_16 ?_
  refine v_aload_n S hl 1 rfl rfl dX2_becomeLike_17 ?_
  refine gf_2_2 S hG q14 dX2_becomeLike_18 ?_
  refine pf_2_2 S hG q14 dX2_becomeLike_21 (fun σ3 H locs hG => ?_)
  refine v_aload_n S hl 0 rfl rfl dX2_becomeLike_24 ?_
  refine v_aload_n S hl 1 rfl rfl dX2_becomeLike_25 ?_
  refine gf_2_3 S hG q15 dX2_becomeLike_26 ?_
  refine pf_2_3 S hG q15 dX2_becomeLike_29 (fun σ4 H locs hG => ?_)
  refine v_aload_n S hl 0 rfl rfl dX2_becomeLike_32 ?_
  refine v_aload_n S hl 1 rfl rfl dX2_becomeLike_33 ?_
  refine gf_2_4 S hG q16 dX2_becomeLike_34 ?_
  refine pf_2_4 S hG q16 dX2_becomeLike_37 (fun σ5 H locs hG => ?_)
  exact v_vretm S hG hr hlk (Nat.le_of_ble_eq_true rfl) (Nat.le_of_ble_eq_true rfl) dX2_becomeLike_40
def fn_X2_rests (σ : Mem) (t : Nat) : Option Int32 := gd (ck t 2) ((if (σ t 2) = (-1) then (some 1) else (some 0)))
set_option maxHeartbeats 4000000 in
set_option maxRecDepth 100000 in
theorem met_X2_rests (l : Launch) (g : GT) (ad : Nat → Nat) (w : Bool) (b : Nat) (σ : Mem) (t : Nat) (rr : Int32) (h : fn_X2_rests σ t = some rr) : Met l yX2_rests (wsy yX2_rests cX2_rests 1 (some .boolean)) ({ frames := 0, cells := 0, slots := 0, locals := 0 } : Room) (va_Pc [.ref (ad t)] (PB g ad σ b)) (va_Qi (fun (r' : Int32) (u : Mem) => r' = rr ∧ u = σ) (GW g ad) (AA g ad w b)) 0 0 (AA g ad w b) := by
  refine Met.ofW (cc := cX2_rests) (maxL := 1) (ret := (some .boolean)) (by decide) rfl ?_
  intro p e s m args below meth c s₁ B hml hv
  obtain ⟨rfl, hv⟩ := hv
  have S : CallFix p m c cX2_rests 1 s _ AL RX2 := ⟨B.exec, B.bytes, hml, findClass_of_methodNamed B.named, fun w h => atoms_spec (ws := wsy yX2_rests cX2_rests 1 (some .boolean)) B.pre w (List.mem_cons_of_mem _ h)⟩
  have hr := B.returns
  have hlk := B.notSynchronized
  have hG : GA g ad σ w b s s.heap [] := GA_start hv
  have hl := lv_entry ([.ref (ad t)]) (n := 1) (Nat.le_of_ble_eq_true rfl)
  rw [lg_entry_eq]
  generalize (lg_sl ([.ref (ad t)]) ++ List.replicate (1 - (lg_sl ([.ref (ad t)])).length) Slot.unset).toArray = ls at hl ⊢
  have hl : lv_has ls 1 [(0, .ref (ad t))] := hl
  revert h
  unfold fn_X2_rests
  refine v_aload_n S hl 0 rfl rfl dX2_rests_0 ?_
  refine gf_2_2 S hG q14 dX2_rests_1 ?_
  refine v_iconst S (-1) dX2_rests_4 rfl ?_
  refine v_icmp_ne S 12 dX2_rests_5 (by decide) ?_ ?_
  · refine v_iconst S 0 dX2_rests_12 rfl ?_
    exact v_zretR S hG hr hlk rfl (Nat.le_of_ble_eq_true rfl) (Nat.le_of_ble_eq_true rfl) dX2_rests_13
  · refine v_iconst S 1 dX2_rests_8 rfl ?_
    refine v_goto S 13 dX2_rests_9 (by decide) ?_
    exact v_zretR S hG hr hlk rfl (Nat.le_of_ble_eq_true rfl) (Nat.le_of_ble_eq_true rfl) dX2_rests_13
def fn_X2_canPull (σ : Mem) (t : Nat) (p0 : Int32) : Option Int32 := gd (ck t 2) (gd (ck t 2) ((if (10 * (σ t 0)) < ((σ t 1) + p0) then (some 0) else (some 1))))
set_option maxHeartbeats 4000000 in
set_option maxRecDepth 100000 in
theorem met_X2_canPull (l : Launch) (g : GT) (ad : Nat → Nat) (w : Bool) (b : Nat) (σ : Mem) (t : Nat) (p0 : Int32) (rr : Int32) (h : fn_X2_canPull σ t p0 = some rr) : Met l yX2_canPull (wsy yX2_canPull cX2_canPull 2 (some .boolean)) ({ frames := 0, cells := 0, slots := 0, locals := 0 } : Room) (va_Pc [.ref (ad t), .int p0] (PB g ad σ b)) (va_Qi (fun (r' : Int32) (u : Mem) => r' = rr ∧ u = σ) (GW g ad) (AA g ad w b)) 0 0 (AA g ad w b) := by
  refine Met.ofW (cc := cX2_canPull) (maxL := 2) (ret := (some .boolean)) (by decide) rfl ?_
  intro p e s m args below meth c s₁ B hml hv
  obtain ⟨rfl, hv⟩ := hv
  have S : CallFix p m c cX2_canPull 2 s _ AL RX2 := ⟨B.exec, B.bytes, hml, findClass_of_methodNamed B.named, fun w h => atoms_spec (ws := wsy yX2_canPull cX2_canPull 2 (some .boolean)) B.pre w (List.mem_cons_of_mem _ h)⟩
  have hr := B.returns
  have hlk := B.notSynchronized
  have hG : GA g ad σ w b s s.heap [] := GA_start hv
  have hl := lv_entry ([.ref (ad t), .int p0]) (n := 2) (Nat.le_of_ble_eq_true rfl)
  rw [lg_entry_eq]
  generalize (lg_sl ([.ref (ad t), .int p0]) ++ List.replicate (2 - (lg_sl ([.ref (ad t), .int p0])).length) Slot.unset).toArray = ls at hl ⊢
  have hl : lv_has ls 2 [(0, .ref (ad t)), (1, .int p0)] := hl
  revert h
  unfold fn_X2_canPull
  refine v_aload_n S hl 0 rfl rfl dX2_canPull_0 ?_
  refine gf_2_1 S hG q13 dX2_canPull_1 ?_
  refine v_iload_n S hl 1 rfl rfl dX2_canPull_4 ?_
  refine v_iadd S dX2_canPull_5 ?_
  refine v_bipush S 10 dX2_canPull_6 (by decide) ?_
  refine v_aload_n S hl 0 rfl rfl dX2_canPull_8 ?_
  refine gf_2_0 S hG q12 dX2_canPull_9 ?_
  refine v_imul S dX2_canPull_12 ?_
  refine v_icmp_gt S 20 dX2_canPull_13 (by decide) ?_ ?_
  · refine v_iconst S 0 dX2_canPull_20 rfl ?_
    exact v_zretR S hG hr hlk rfl (Nat.le_of_ble_eq_true rfl) (Nat.le_of_ble_eq_true rfl) dX2_canPull_21
  · refine v_iconst S 1 dX2_canPull_16 rfl ?_
    refine v_goto S 21 dX2_canPull_17 (by decide) ?_
    exact v_zretR S hG hr hlk rfl (Nat.le_of_ble_eq_true rfl) (Nat.le_of_ble_eq_true rfl) dX2_canPull_21
def fn_X2_pull (σ : Mem) (t : Nat) (p0 : Int32) : Option Mem := gd (ck t 2) (gd (ck t 2) (nm (sI σ t 1 ((σ t 1) + p0)) (fun σ1 => gd (ck t 2) (gd (ck t 2) (nm (sI σ1 t 3 ((σ1 t 3) + 1)) (fun σ2 => (some σ2)))))))
set_option maxHeartbeats 4000000 in
set_option maxRecDepth 100000 in
theorem met_X2_pull (l : Launch) (g : GT) (ad : Nat → Nat) (_ : Bool) (b : Nat) (σ : Mem) (t : Nat) (p0 : Int32) (σr : Mem) (h : fn_X2_pull σ t p0 = some σr) : Met l yX2_pull (wsy yX2_pull cX2_pull 2 none) ({ frames := 0, cells := 0, slots := 0, locals := 0 } : Room) (va_Pc [.ref (ad t), .int p0] (PB g ad σ b)) (va_Qv (fun (u : Mem) => u = σr) (GW g ad) (AA g ad true b)) 0 0 (AA g ad true b) := by
  refine Met.ofW (cc := cX2_pull) (maxL := 2) (ret := none) (by decide) rfl ?_
  intro p e s m args below meth c s₁ B hml hv
  obtain ⟨rfl, hv⟩ := hv
  have S : CallFix p m c cX2_pull 2 s _ AL RX2 := ⟨B.exec, B.bytes, hml, findClass_of_methodNamed B.named, fun w h => atoms_spec (ws := wsy yX2_pull cX2_pull 2 none) B.pre w (List.mem_cons_of_mem _ h)⟩
  have hr := B.returns
  have hlk := B.notSynchronized
  have hG : GA g ad σ true b s s.heap [] := GA_start hv
  have hl := lv_entry ([.ref (ad t), .int p0]) (n := 2) (Nat.le_of_ble_eq_true rfl)
  rw [lg_entry_eq]
  generalize (lg_sl ([.ref (ad t), .int p0]) ++ List.replicate (2 - (lg_sl ([.ref (ad t), .int p0])).length) Slot.unset).toArray = ls at hl ⊢
  have hl : lv_has ls 2 [(0, .ref (ad t)), (1, .int p0)] := hl
  revert h
  unfold fn_X2_pull
  refine v_aload_n S hl 0 rfl rfl dX2_pull_0 ?_
  refine v_dup S dX2_pull_1 rfl ?_
  refine gf_2_1 S hG q13 dX2_pull_2 ?_
  refine v_iload_n S hl 1 rfl rfl dX2_pull_5 ?_
  refine v_iadd S dX2_pull_6 ?_
  refine pf_2_1 S hG q13 dX2_pull_7 (fun σ1 H locs hG => ?_)
  refine v_aload_n S hl 0 rfl rfl dX2_pull_10 ?_
  refine v_dup S dX2_pull_11 rfl ?_
  refine gf_2_3 S hG q15 dX2_pull_12 ?_
  refine v_iconst S 1 dX2_pull_15 rfl ?_
  refine v_iadd S dX2_pull_16 ?_
  refine pf_2_3 S hG q15 dX2_pull_17 (fun σ2 H locs hG => ?_)
  exact v_vretm S hG hr hlk (Nat.le_of_ble_eq_true rfl) (Nat.le_of_ble_eq_true rfl) dX2_pull_20
def fn_X2_restIfFree (σ : Mem) (t : Nat) : Option Mem := gd (ck t 2) (b1 (fn_X2_rests σ t) (fun r1 => (if r1 = (0 : Int32) then (some σ) else gd (ck t 2) (gd (ck t 2) (nm (sI σ t 1 (if 0 < ((σ t 1) - 2) then ((σ t 1) - 2) else 0)) (fun σ2 => (some σ2)))))))
set_option maxHeartbeats 4000000 in
set_option maxRecDepth 100000 in
theorem met_X2_restIfFree (l : Launch) (g : GT) (ad : Nat → Nat) (_ : Bool) (b : Nat) (σ : Mem) (t : Nat) (σr : Mem) (h : fn_X2_restIfFree σ t = some σr) : Met l yX2_restIfFree (wsy yX2_restIfFree cX2_restIfFree 1 none) ({ frames := 1, cells := 0, slots := 0, locals := 21 } : Room) (va_Pc [.ref (ad t)] (PB g ad σ b)) (va_Qv (fun (u : Mem) => u = σr) (GW g ad) (AA g ad true b)) 0 0 (AA g ad true b) := by
  refine Met.ofW (cc := cX2_restIfFree) (maxL := 1) (ret := none) (by decide) rfl ?_
  intro p e s m args below meth c s₁ B hml hv
  obtain ⟨rfl, hv⟩ := hv
  have S : CallFix p m c cX2_restIfFree 1 s _ AL RX2 := ⟨B.exec, B.bytes, hml, findClass_of_methodNamed B.named, fun w h => atoms_spec (ws := wsy yX2_restIfFree cX2_restIfFree 1 none) B.pre w (List.mem_cons_of_mem _ h)⟩
  have hr := B.returns
  have hlk := B.notSynchronized
  have hG : GA g ad σ true b s s.heap [] := GA_start hv
  have hl := lv_entry ([.ref (ad t)]) (n := 1) (Nat.le_of_ble_eq_true rfl)
  rw [lg_entry_eq]
  generalize (lg_sl ([.ref (ad t)]) ++ List.replicate (1 - (lg_sl ([.ref (ad t)])).length) Slot.unset).toArray = ls at hl ⊢
  have hl : lv_has ls 1 [(0, .ref (ad t))] := hl
  revert h
  unfold fn_X2_restIfFree
  refine v_aload_n S hl 0 rfl rfl dX2_restIfFree_0 ?_
  refine v_cV_iR S hG [] rfl rfl (by decide) (met_X2_rests l g ad true b σ t) mw_X2_rests q17 dX2_restIfFree_1 rfl rfl hl.1 (Nat.le_of_ble_eq_true rfl) ⟨Nat.le_of_ble_eq_true rfl, Nat.le_of_ble_eq_true rfl⟩ rfl rfl ⟨Nat.le_of_ble_eq_true rfl, Nat.le_of_ble_eq_true rfl⟩ (fun r1 H locs hG => ?_)
  refine v_if_eq S 21 dX2_restIfFree_4 (by decide) ?_ ?_
  · exact v_vretm S hG hr hlk (Nat.le_of_ble_eq_true rfl) (Nat.le_of_ble_eq_true rfl) dX2_restIfFree_21
  · refine v_aload_n S hl 0 rfl rfl dX2_restIfFree_7 ?_
    refine v_iconst S 0 dX2_restIfFree_8 rfl ?_
    refine v_aload_n S hl 0 rfl rfl dX2_restIfFree_9 ?_
    refine gf_2_1 S hG q13 dX2_restIfFree_10 ?_
    refine v_iconst S 2 dX2_restIfFree_13 rfl ?_
    refine v_isub S dX2_restIfFree_14 ?_
    refine v_mmax S q22 mw_max hl.1 (Nat.le_of_ble_eq_true rfl) (Nat.le_of_ble_eq_true rfl) (Nat.le_of_ble_eq_true rfl) (Nat.le_of_ble_eq_true rfl) dX2_restIfFree_15 ?_
    refine pf_2_1 S hG q13 dX2_restIfFree_18 (fun σ2 H locs hG => ?_)
    exact v_vretm S hG hr hlk (Nat.le_of_ble_eq_true rfl) (Nat.le_of_ble_eq_true rfl) dX2_restIfFree_21
def fn_X2_fact (σ : Mem) (t : Nat) (p0 : Int32) : Option Int32 := (if p0 = (0 : Int32) then gd (ck t 2) ((some (σ t 0))) else (if p0 = (1 : Int32) then gd (ck t 2) ((some (σ t 1))) else (if p0 = (2 : Int32) then gd (ck t 2) ((some (σ t 2))) else (if p0 = (3 : Int32) then gd (ck t 2) ((some (σ t 3))) else gd (ck t 2) ((some (σ t 4)))))))
set_option maxHeartbeats 4000000 in
set_option maxRecDepth 100000 in
theorem met_X2_fact (l : Launch) (g : GT) (ad : Nat → Nat) (w : Bool) (b : Nat) (σ : Mem) (t : Nat) (p0 : Int32) (rr : Int32) (h : fn_X2_fact σ t p0 = some rr) : Met l yX2_fact (wsy yX2_fact cX2_fact 2 (some .int)) ({ frames := 0, cells := 0, slots := 0, locals := 0 } : Room) (va_Pc [.ref (ad t), .int p0] (PB g ad σ b)) (va_Qi (fun (r' : Int32) (u : Mem) => r' = rr ∧ u = σ) (GW g ad) (AA g ad w b)) 0 0 (AA g ad w b) := by
  refine Met.ofW (cc := cX2_fact) (maxL := 2) (ret := (some .int)) (by decide) rfl ?_
  intro p e s m args below meth c s₁ B hml hv
  obtain ⟨rfl, hv⟩ := hv
  have S : CallFix p m c cX2_fact 2 s _ AL RX2 := ⟨B.exec, B.bytes, hml, findClass_of_methodNamed B.named, fun w h => atoms_spec (ws := wsy yX2_fact cX2_fact 2 (some .int)) B.pre w (List.mem_cons_of_mem _ h)⟩
  have hr := B.returns
  have hlk := B.notSynchronized
  have hG : GA g ad σ w b s s.heap [] := GA_start hv
  have hl := lv_entry ([.ref (ad t), .int p0]) (n := 2) (Nat.le_of_ble_eq_true rfl)
  rw [lg_entry_eq]
  generalize (lg_sl ([.ref (ad t), .int p0]) ++ List.replicate (2 - (lg_sl ([.ref (ad t), .int p0])).length) Slot.unset).toArray = ls at hl ⊢
  have hl : lv_has ls 2 [(0, .ref (ad t)), (1, .int p0)] := hl
  revert h
  unfold fn_X2_fact
  refine v_iload_n S hl 1 rfl rfl dX2_fact_0 ?_
  refine v_tcase (fun e1 => ?_) (fun c2 => ?_)
  · refine v_tin S 32 e1 dX2_fact_1 (by decide) (by decide) rfl (by decide) ?_
    refine v_aload_n S hl 0 rfl rfl dX2_fact_32 ?_
    refine gf_2_0 S hG q12 dX2_fact_33 ?_
    exact v_iretR S hG hr hlk (Nat.le_of_ble_eq_true rfl) (Nat.le_of_ble_eq_true rfl) dX2_fact_36
  refine v_tcase (fun e3 => ?_) (fun c4 => ?_)
  · refine v_tin S 37 e3 dX2_fact_1 (by decide) (by decide) rfl (by decide) ?_
    refine v_aload_n S hl 0 rfl rfl dX2_fact_37 ?_
    refine gf_2_1 S hG q13 dX2_fact_38 ?_
    exact v_iretR S hG hr hlk (Nat.le_of_ble_eq_true rfl) (Nat.le_of_ble_eq_true rfl) dX2_fact_41
  refine v_tcase (fun e5 => ?_) (fun c6 => ?_)
  · refine v_tin S 42 e5 dX2_fact_1 (by decide) (by decide) rfl (by decide) ?_
    refine v_aload_n S hl 0 rfl rfl dX2_fact_42 ?_
    refine gf_2_2 S hG q14 dX2_fact_43 ?_
    exact v_iretR S hG hr hlk (Nat.le_of_ble_eq_true rfl) (Nat.le_of_ble_eq_true rfl) dX2_fact_46
  refine v_tcase (fun e7 => ?_) (fun c8 => ?_)
  · refine v_tin S 47 e7 dX2_fact_1 (by decide) (by decide) rfl (by decide) ?_
    refine v_aload_n S hl 0 rfl rfl dX2_fact_47 ?_
    refine gf_2_3 S hG q15 dX2_fact_48 ?_
    exact v_iretR S hG hr hlk (Nat.le_of_ble_eq_true rfl) (Nat.le_of_ble_eq_true rfl) dX2_fact_51
  refine v_tout S 52 (t_out 4 (fun k hk => match k, hk with | 0, _ => c2 | 1, _ => c4 | 2, _ => c6 | 3, _ => c8 | k + 4, hk => absurd hk (by omega)) (by decide)) dX2_fact_1 (by decide) ?_
  refine v_aload_n S hl 0 rfl rfl dX2_fact_52 ?_
  refine gf_2_4 S hG q16 dX2_fact_53 ?_
  exact v_iretR S hG hr hlk (Nat.le_of_ble_eq_true rfl) (Nat.le_of_ble_eq_true rfl) dX2_fact_56
