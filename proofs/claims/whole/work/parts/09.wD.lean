set_option maxHeartbeats 4000000 in
set_option maxRecDepth 100000 in
theorem met_X5_needIndex (l : Launch) (hst : l.stackTraces = false) (g : GT) (ad : Nat → Nat) (w : Bool) (b : Nat) (σ : Mem) (p0 : Int32) (p1 : Int32) (rr : (Nat ⊕ Unit)) (h : fn_X5_needIndex σ p0 p1 = some rr) : vx_Met l yX5_needIndex (wsy yX5_needIndex cX5_needIndex 2 none) ({ frames := 6, cells := 1, slots := 6, locals := 120 } : Room) (va_Pc [.int p0, .int p1] (PB g ad σ b)) (va_Qv (fun (u : Mem) => rr = .inr () ∧ u = σ) (GW g ad) (AA g ad w b)) (XCR g ad σ w b rr) 1 6 (AA g ad w b) := by
  refine vx_ofW (cc := cX5_needIndex) (maxL := 2) (ret := none) (by decide) rfl ?_
  intro p e s m args below meth c s₁ B hml htab hv
  obtain ⟨rfl, hv⟩ := hv
  have S : CallFix p m c cX5_needIndex 2 s _ AL RX5 := ⟨B.exec, B.bytes, hml, findClass_of_methodNamed B.named, fun w h => atoms_spec (ws := wsy yX5_needIndex cX5_needIndex 2 none) B.pre w (List.mem_cons_of_mem _ h)⟩
  have hr := B.returns
  have hlk := B.notSynchronized
  have hG : GA g ad σ w b s s.heap [] := GA_start hv
  have hl := lv_entry ([.int p0, .int p1]) (n := 2) (Nat.le_of_ble_eq_true rfl)
  rw [lg_entry_eq]
  generalize (lg_sl ([.int p0, .int p1]) ++ List.replicate (2 - (lg_sl ([.int p0, .int p1])).length) Slot.unset).toArray = ls at hl ⊢
  have hl : lv_has ls 2 [(0, .int p0), (1, .int p1)] := hl
  revert h
  unfold fn_X5_needIndex
  refine v_iload_n S hl 0 rfl rfl dX5_needIndex_0 ?_
  refine v_if_lt S 9 dX5_needIndex_1 (by decide) ?_ ?_
  · exact v_throwR (k := 1) (is := 181) (text := "there is none of this number") S hG hst hlk htab hl.1 rfl (by decide +kernel) q8 q9 (by decide +kernel) at1a at1b hg1_157 dX5_needIndex_9 dX5_needIndex_12 dX5_needIndex_13 dX5_needIndex_15 dX5_needIndex_18 (Nat.le_of_ble_eq_true rfl) (Nat.le_of_ble_eq_true rfl) (Nat.le_of_ble_eq_true rfl) (Nat.le_of_ble_eq_true rfl) (Nat.le_of_ble_eq_true rfl) (Nat.le_of_ble_eq_true rfl)
  · refine v_iload_n S hl 0 rfl rfl dX5_needIndex_4 ?_
    refine v_iload_n S hl 1 rfl rfl dX5_needIndex_5 ?_
    refine v_icmp_lt S 19 dX5_needIndex_6 (by decide) ?_ ?_
    · exact v_vretXR S hG hr hlk (Nat.le_of_ble_eq_true rfl) (Nat.le_of_ble_eq_true rfl) dX5_needIndex_19
    · exact v_throwR (k := 1) (is := 181) (text := "there is none of this number") S hG hst hlk htab hl.1 rfl (by decide +kernel) q8 q9 (by decide +kernel) at1a at1b hg1_157 dX5_needIndex_9 dX5_needIndex_12 dX5_needIndex_13 dX5_needIndex_15 dX5_needIndex_18 (Nat.le_of_ble_eq_true rfl) (Nat.le_of_ble_eq_true rfl) (Nat.le_of_ble_eq_true rfl) (Nat.le_of_ble_eq_true rfl) (Nat.le_of_ble_eq_true rfl) (Nat.le_of_ble_eq_true rfl)
set_option maxHeartbeats 4000000 in
set_option maxRecDepth 100000 in
theorem met_X5_needBell (l : Launch) (hst : l.stackTraces = false) (g : GT) (ad : Nat → Nat) (w : Bool) (b : Nat) (σ : Mem) (p0 : Int32) (rr : (Nat ⊕ Unit)) (h : fn_X5_needBell σ p0 = some rr) : vx_Met l yX5_needBell (wsy yX5_needBell cX5_needBell 1 none) ({ frames := 7, cells := 1, slots := 6, locals := 141 } : Room) (va_Pc [.int p0] (PB g ad σ b)) (va_Qv (fun (u : Mem) => rr = .inr () ∧ u = σ) (GW g ad) (AA g ad w b)) (XCR g ad σ w b rr) 1 6 (AA g ad w b) := by
  refine vx_ofW (cc := cX5_needBell) (maxL := 1) (ret := none) (by decide) rfl ?_
  intro p e s m args below meth c s₁ B hml htab hv
  obtain ⟨rfl, hv⟩ := hv
  have S : CallFix p m c cX5_needBell 1 s _ AL RX5 := ⟨B.exec, B.bytes, hml, findClass_of_methodNamed B.named, fun w h => atoms_spec (ws := wsy yX5_needBell cX5_needBell 1 none) B.pre w (List.mem_cons_of_mem _ h)⟩
  have hr := B.returns
  have hlk := B.notSynchronized
  have hG : GA g ad σ w b s s.heap [] := GA_start hv
  have hl := lv_entry ([.int p0]) (n := 1) (Nat.le_of_ble_eq_true rfl)
  rw [lg_entry_eq]
  generalize (lg_sl ([.int p0]) ++ List.replicate (1 - (lg_sl ([.int p0])).length) Slot.unset).toArray = ls at hl ⊢
  have hl : lv_has ls 1 [(0, .int p0)] := hl
  revert h
  unfold fn_X5_needBell
  refine v_iload_n S hl 0 rfl rfl dX5_needBell_0 ?_
  refine v_iconst S 4 dX5_needBell_1 rfl ?_
  refine v_xSR S hG [.int p0, .int 4] (met_X5_needIndex l hst g ad w b σ p0 4) mw_X5_needIndex q11 dX5_needBell_2 rfl rfl hl.1 (Nat.le_of_ble_eq_true rfl) ⟨(Nat.le_of_ble_eq_true rfl), (Nat.le_of_ble_eq_true rfl)⟩ rfl rfl ⟨(Nat.le_of_ble_eq_true rfl), (Nat.le_of_ble_eq_true rfl)⟩ htab hlk (Nat.le_of_ble_eq_true rfl) (Nat.le_of_ble_eq_true rfl) (fun H locs hG => ?_)
  exact v_vretXR S hG hr hlk (Nat.le_of_ble_eq_true rfl) (Nat.le_of_ble_eq_true rfl) dX5_needBell_5
set_option maxHeartbeats 4000000 in
set_option maxRecDepth 100000 in
theorem met_X5_needBetween (l : Launch) (hst : l.stackTraces = false) (g : GT) (ad : Nat → Nat) (w : Bool) (b : Nat) (σ : Mem) (p0 : Int32) (p1 : Int32) (p2 : Int32) (rr : (Nat ⊕ Unit)) (h : fn_X5_needBetween σ p0 p1 p2 = some rr) : vx_Met l yX5_needBetween (wsy yX5_needBetween cX5_needBetween 3 none) ({ frames := 6, cells := 1, slots := 6, locals := 120 } : Room) (va_Pc [.int p0, .int p1, .int p2] (PB g ad σ b)) (va_Qv (fun (u : Mem) => rr = .inr () ∧ u = σ) (GW g ad) (AA g ad w b)) (XCR g ad σ w b rr) 1 6 (AA g ad w b) := by
  refine vx_ofW (cc := cX5_needBetween) (maxL := 3) (ret := none) (by decide) rfl ?_
  intro p e s m args below meth c s₁ B hml htab hv
  obtain ⟨rfl, hv⟩ := hv
  have S : CallFix p m c cX5_needBetween 3 s _ AL RX5 := ⟨B.exec, B.bytes, hml, findClass_of_methodNamed B.named, fun w h => atoms_spec (ws := wsy yX5_needBetween cX5_needBetween 3 none) B.pre w (List.mem_cons_of_mem _ h)⟩
  have hr := B.returns
  have hlk := B.notSynchronized
  have hG : GA g ad σ w b s s.heap [] := GA_start hv
  have hl := lv_entry ([.int p0, .int p1, .int p2]) (n := 3) (Nat.le_of_ble_eq_true rfl)
  rw [lg_entry_eq]
  generalize (lg_sl ([.int p0, .int p1, .int p2]) ++ List.replicate (3 - (lg_sl ([.int p0, .int p1, .int p2])).length) Slot.unset).toArray = ls at hl ⊢
  have hl : lv_has ls 3 [(0, .int p0), (1, .int p1), (2, .int p2)] := hl
  revert h
  unfold fn_X5_needBetween
  refine v_iload_n S hl 0 rfl rfl dX5_needBetween_0 ?_
  refine v_iload_n S hl 1 rfl rfl dX5_needBetween_1 ?_
  refine v_icmp_lt S 10 dX5_needBetween_2 (by decide) ?_ ?_
  · exact v_throwR (k := 2) (is := 185) (text := "too small or too great") S hG hst hlk htab hl.1 rfl (by decide +kernel) q15 q16 (by decide +kernel) at2a at2b hg2_183 dX5_needBetween_10 dX5_needBetween_13 dX5_needBetween_14 dX5_needBetween_16 dX5_needBetween_19 (Nat.le_of_ble_eq_true rfl) (Nat.le_of_ble_eq_true rfl) (Nat.le_of_ble_eq_true rfl) (Nat.le_of_ble_eq_true rfl) (Nat.le_of_ble_eq_true rfl) (Nat.le_of_ble_eq_true rfl)
  · refine v_iload_n S hl 0 rfl rfl dX5_needBetween_5 ?_
    refine v_iload_n S hl 2 rfl rfl dX5_needBetween_6 ?_
    refine v_icmp_le S 20 dX5_needBetween_7 (by decide) ?_ ?_
    · exact v_vretXR S hG hr hlk (Nat.le_of_ble_eq_true rfl) (Nat.le_of_ble_eq_true rfl) dX5_needBetween_20
    · exact v_throwR (k := 2) (is := 185) (text := "too small or too great") S hG hst hlk htab hl.1 rfl (by decide +kernel) q15 q16 (by decide +kernel) at2a at2b hg2_183 dX5_needBetween_10 dX5_needBetween_13 dX5_needBetween_14 dX5_needBetween_16 dX5_needBetween_19 (Nat.le_of_ble_eq_true rfl) (Nat.le_of_ble_eq_true rfl) (Nat.le_of_ble_eq_true rfl) (Nat.le_of_ble_eq_true rfl) (Nat.le_of_ble_eq_true rfl) (Nat.le_of_ble_eq_true rfl)
set_option maxHeartbeats 4000000 in
set_option maxRecDepth 100000 in
theorem met_X5_weigh (l : Launch) (hst : l.stackTraces = false) (g : GT) (ad : Nat → Nat) (_ : Bool) (b : Nat) (σ : Mem) (t : Nat) (p0 : Int32) (p1 : Int32) (rr : ((Nat ⊕ Int32) × Mem)) (h : fn_X5_weigh σ t p0 p1 = some rr) : vx_Met l yX5_weigh (wsy yX5_weigh cX5_weigh 4 (some .int)) ({ frames := 8, cells := 2, slots := 12, locals := 161 } : Room) (va_Pc [.ref (ad t), .int p0, .int p1] (PB g ad σ b)) (va_Qi (fun (r' : Int32) (u : Mem) => rr = (.inr r', u)) (GW g ad) (AA g ad true b)) (XCm g ad true b rr) 2 12 (AA g ad true b) := by
  refine vx_ofW (cc := cX5_weigh) (maxL := 4) (ret := (some .int)) (by decide) rfl ?_
  intro p e s m args below meth c s₁ B hml htab hv
  obtain ⟨rfl, hv⟩ := hv
  have S : CallFix p m c cX5_weigh 4 s _ AL RX5 := ⟨B.exec, B.bytes, hml, findClass_of_methodNamed B.named, fun w h => atoms_spec (ws := wsy yX5_weigh cX5_weigh 4 (some .int)) B.pre w (List.mem_cons_of_mem _ h)⟩
  have hr := B.returns
  have hlk := B.notSynchronized
  have hG : GA g ad σ true b s s.heap [] := GA_start hv
  have hl := lv_entry ([.ref (ad t), .int p0, .int p1]) (n := 4) (Nat.le_of_ble_eq_true rfl)
  rw [lg_entry_eq]
  generalize (lg_sl ([.ref (ad t), .int p0, .int p1]) ++ List.replicate (4 - (lg_sl ([.ref (ad t), .int p0, .int p1])).length) Slot.unset).toArray = ls at hl ⊢
  have hl : lv_has ls 4 [(0, .ref (ad t)), (1, .int p0), (2, .int p1)] := hl
  revert h
  unfold fn_X5_weigh
  refine v_iload_n S hl 1 rfl rfl dX5_weigh_0 ?_
  refine v_xSm S hG [.int p0] (met_X5_needBell l hst g ad true b σ p0) mw_X5_needBell q18 dX5_weigh_1 rfl rfl hl.1 (Nat.le_of_ble_eq_true rfl) ⟨(Nat.le_of_ble_eq_true rfl), (Nat.le_of_ble_eq_true rfl)⟩ rfl rfl ⟨(Nat.le_of_ble_eq_true rfl), (Nat.le_of_ble_eq_true rfl)⟩ htab hlk (Nat.le_of_ble_eq_true rfl) (Nat.le_of_ble_eq_true rfl) (fun H locs hG => ?_)
  refine v_iload_n S hl 2 rfl rfl dX5_weigh_4 ?_
  refine v_iconst S 1 dX5_weigh_5 rfl ?_
  refine v_bipush S 9 dX5_weigh_6 (by decide) ?_
  refine v_xSm S hG [.int p1, .int 1, .int 9] (met_X5_needBetween l hst g ad true b σ p1 1 9) mw_X5_needBetween q21 dX5_weigh_8 rfl rfl hl.1 (Nat.le_of_ble_eq_true rfl) ⟨(Nat.le_of_ble_eq_true rfl), (Nat.le_of_ble_eq_true rfl)⟩ rfl rfl ⟨(Nat.le_of_ble_eq_true rfl), (Nat.le_of_ble_eq_true rfl)⟩ htab hlk (Nat.le_of_ble_eq_true rfl) (Nat.le_of_ble_eq_true rfl) (fun H locs hG => ?_)
  refine v_aload_n S hl 0 rfl rfl dX5_weigh_11 ?_
  refine gr_5_0 S hG q24 dX5_weigh_12 (fun r1 => ?_)
  refine gr_4_0 S hG q25 dX5_weigh_15 (fun r2 => ?_)
  refine v_iload_n S hl 1 rfl rfl dX5_weigh_18 ?_
  refine v_aald_9 S hG dX5_weigh_19 (fun r3 => ?_)
  refine gf_0_2 S hG q26 dX5_weigh_20 ?_
  refine v_nm (fun x4 => ?_)
  refine v_istore_n S hl [(3, .int x4), (0, .ref (ad t)), (1, .int p0), (2, .int p1)] rfl dX5_weigh_23 (by decide) rfl (fun ls hl => ?_)
  refine v_aload_n S hl 1 rfl rfl dX5_weigh_24 ?_
  refine gr_5_0 S hG q24 dX5_weigh_25 (fun r5 => ?_)
  refine gr_4_0 S hG q25 dX5_weigh_28 (fun r6 => ?_)
  refine v_iload_n S hl 2 rfl rfl dX5_weigh_31 ?_
  refine v_aald_9 S hG dX5_weigh_32 (fun r7 => ?_)
  refine v_iload_n S hl 3 rfl rfl dX5_weigh_33 ?_
  refine pf_0_2 S hG q26 dX5_weigh_34 (fun σ8 H locs hG => ?_)
  refine v_iload_n S hl 0 rfl rfl dX5_weigh_37 ?_
  exact v_iretXm S hG hr hlk (Nat.le_of_ble_eq_true rfl) (Nat.le_of_ble_eq_true rfl) dX5_weigh_38
set_option maxHeartbeats 4000000 in
set_option maxRecDepth 100000 in
theorem met_X5_fit (l : Launch) (hst : l.stackTraces = false) (g : GT) (ad : Nat → Nat) (_ : Bool) (b : Nat) (σ : Mem) (t : Nat) (p0 : Int32) (p1 : Int32) (p2 : Int32) (rr : ((Nat ⊕ Int32) × Mem)) (h : fn_X5_fit σ t p0 p1 p2 = some rr) : vx_Met l yX5_fit (wsy yX5_fit cX5_fit 6 (some .int)) ({ frames := 8, cells := 4, slots := 24, locals := 161 } : Room) (va_Pc [.ref (ad t), .int p0, .int p1, .int p2] (PB g ad σ b)) (va_Qi (fun (r' : Int32) (u : Mem) => rr = (.inr r', u)) (GW g ad) (AA g ad true b)) (XCm g ad true b rr) 4 24 (AA g ad true b) := by
  refine vx_ofW (cc := cX5_fit) (maxL := 6) (ret := (some .int)) (by decide) rfl ?_
  intro p e s m args below meth c s₁ B hml htab hv
  obtain ⟨rfl, hv⟩ := hv
  have S : CallFix p m c cX5_fit 6 s _ AL RX5 := ⟨B.exec, B.bytes, hml, findClass_of_methodNamed B.named, fun w h => atoms_spec (ws := wsy yX5_fit cX5_fit 6 (some .int)) B.pre w (List.mem_cons_of_mem _ h)⟩
  have hr := B.returns
  have hlk := B.notSynchronized
  have hG : GA g ad σ true b s s.heap [] := GA_start hv
  have hl := lv_entry ([.ref (ad t), .int p0, .int p1, .int p2]) (n := 6) (Nat.le_of_ble_eq_true rfl)
  rw [lg_entry_eq]
  generalize (lg_sl ([.ref (ad t), .int p0, .int p1, .int p2]) ++ List.replicate (6 - (lg_sl ([.ref (ad t), .int p0, .int p1, .int p2])).length) Slot.unset).toArray = ls at hl ⊢
  have hl : lv_has ls 6 [(0, .ref (ad t)), (1, .int p0), (2, .int p1), (3, .int p2)] := hl
  revert h
  unfold fn_X5_fit
  refine v_iload_n S hl 1 rfl rfl dX5_fit_0 ?_
  refine v_xSm S hG [.int p0] (met_X5_needBell l hst g ad true b σ p0) mw_X5_needBell q18 dX5_fit_1 rfl rfl hl.1 (Nat.le_of_ble_eq_true rfl) ⟨(Nat.le_of_ble_eq_true rfl), (Nat.le_of_ble_eq_true rfl)⟩ rfl rfl ⟨(Nat.le_of_ble_eq_true rfl), (Nat.le_of_ble_eq_true rfl)⟩ htab hlk (Nat.le_of_ble_eq_true rfl) (Nat.le_of_ble_eq_true rfl) (fun H locs hG => ?_)
  refine v_iload_n S hl 2 rfl rfl dX5_fit_4 ?_
  refine v_iconst S 2 dX5_fit_5 rfl ?_
  refine v_xSm S hG [.int p1, .int 2] (met_X5_needIndex l hst g ad true b σ p1 2) mw_X5_needIndex q11 dX5_fit_6 rfl rfl hl.1 (Nat.le_of_ble_eq_true rfl) ⟨(Nat.le_of_ble_eq_true rfl), (Nat.le_of_ble_eq_true rfl)⟩ rfl rfl ⟨(Nat.le_of_ble_eq_true rfl), (Nat.le_of_ble_eq_true rfl)⟩ htab hlk (Nat.le_of_ble_eq_true rfl) (Nat.le_of_ble_eq_true rfl) (fun H locs hG => ?_)
  refine v_iload_n S hl 3 rfl rfl dX5_fit_9 ?_
  refine v_iconst S 0 dX5_fit_10 rfl ?_
  refine v_bipush S 9 dX5_fit_11 (by decide) ?_
  refine v_xSm S hG [.int p2, .int 0, .int 9] (met_X5_needBetween l hst g ad true b σ p2 0 9) mw_X5_needBetween q21 dX5_fit_13 rfl rfl hl.1 (Nat.le_of_ble_eq_true rfl) ⟨(Nat.le_of_ble_eq_true rfl), (Nat.le_of_ble_eq_true rfl)⟩ rfl rfl ⟨(Nat.le_of_ble_eq_true rfl), (Nat.le_of_ble_eq_true rfl)⟩ htab hlk (Nat.le_of_ble_eq_true rfl) (Nat.le_of_ble_eq_true rfl) (fun H locs hG => ?_)
  refine v_iload_n S hl 3 rfl rfl dX5_fit_16 ?_
  refine v_if_eq S 40 dX5_fit_17 (by decide) ?_ ?_
  · refine v_aload_n S hl 0 rfl rfl dX5_fit_40 ?_
    refine gr_5_0 S hG q24 dX5_fit_41 (fun r1 => ?_)
    refine gr_4_0 S hG q25 dX5_fit_44 (fun r2 => ?_)
    refine v_iload_n S hl 1 rfl rfl dX5_fit_47 ?_
    refine v_aald_9 S hG dX5_fit_48 (fun r3 => ?_)
    refine v_iload_n S hl 2 rfl rfl dX5_fit_49 ?_
    refine v_cV_rR S hG [.int p1] rfl rfl (by decide) (met_X0_leather l g ad true b σ r3 p1) mw_X0_leather q31 dX5_fit_50 rfl rfl hl.1 (Nat.le_of_ble_eq_true rfl) ⟨Nat.le_of_ble_eq_true rfl, Nat.le_of_ble_eq_true rfl⟩ rfl rfl ⟨Nat.le_of_ble_eq_true rfl, Nat.le_of_ble_eq_true rfl⟩ (fun r4 H locs hG => ?_)
    refine v_astore S hl [(4, .ref (ad r4)), (0, .ref (ad t)), (1, .int p0), (2, .int p1), (3, .int p2)] dX5_fit_53 (by decide) rfl (fun ls hl => ?_)
    refine v_aload S hl 0 rfl dX5_fit_55 ?_
    refine gf_1_0 S hG q36 dX5_fit_57 ?_
    refine v_nm (fun x5 => ?_)
    refine v_istore S hl [(5, .int x5), (4, .ref (ad r4)), (0, .ref (ad t)), (1, .int p0), (2, .int p1), (3, .int p2)] dX5_fit_60 (by decide) rfl (fun ls hl => ?_)
    refine v_aload S hl 1 rfl dX5_fit_62 ?_
    refine v_iload_n S hl 5 rfl rfl dX5_fit_64 ?_
    refine v_cV_vm S hG [.int p2] rfl rfl (by decide) (met_X1_renew l g ad true b σ r4 p2) mw_X1_renew q37 dX5_fit_65 rfl rfl hl.1 (Nat.le_of_ble_eq_true rfl) ⟨Nat.le_of_ble_eq_true rfl, Nat.le_of_ble_eq_true rfl⟩ rfl rfl ⟨Nat.le_of_ble_eq_true rfl, Nat.le_of_ble_eq_true rfl⟩ (fun σ6 H locs hG => ?_)
    refine v_iload_n S hl 5 rfl rfl dX5_fit_68 ?_
    refine v_if_eq S 85 dX5_fit_69 (by decide) ?_ ?_
    · refine v_iload S hl 0 rfl dX5_fit_85 ?_
      exact v_iretXm S hG hr hlk (Nat.le_of_ble_eq_true rfl) (Nat.le_of_ble_eq_true rfl) dX5_fit_87
    · refine v_aload_n S hl 2 rfl rfl dX5_fit_72 ?_
      refine gr_5_0 S hG q24 dX5_fit_73 (fun r7 => ?_)
      refine v_dup S dX5_fit_76 rfl ?_
      refine gf_4_6 S hG q42 dX5_fit_77 ?_
      refine v_iconst S 1 dX5_fit_80 rfl ?_
      refine v_isub S dX5_fit_81 ?_
      refine pf_4_6 S hG q42 dX5_fit_82 (fun σ8 H locs hG => ?_)
      refine v_iload S hl 0 rfl dX5_fit_85 ?_
      exact v_iretXm S hG hr hlk (Nat.le_of_ble_eq_true rfl) (Nat.le_of_ble_eq_true rfl) dX5_fit_87
  · refine v_aload_n S hl 0 rfl rfl dX5_fit_20 ?_
    refine gr_5_0 S hG q24 dX5_fit_21 (fun r9 => ?_)
    refine gf_4_6 S hG q42 dX5_fit_24 ?_
    refine v_if_ne S 40 dX5_fit_27 (by decide) ?_ ?_
    · refine v_aload_n S hl 0 rfl rfl dX5_fit_40 ?_
      refine gr_5_0 S hG q24 dX5_fit_41 (fun r10 => ?_)
      refine gr_4_0 S hG q25 dX5_fit_44 (fun r11 => ?_)
      refine v_iload_n S hl 1 rfl rfl dX5_fit_47 ?_
      refine v_aald_9 S hG dX5_fit_48 (fun r12 => ?_)
      refine v_iload_n S hl 2 rfl rfl dX5_fit_49 ?_
      refine v_cV_rR S hG [.int p1] rfl rfl (by decide) (met_X0_leather l g ad true b σ r12 p1) mw_X0_leather q31 dX5_fit_50 rfl rfl hl.1 (Nat.le_of_ble_eq_true rfl) ⟨Nat.le_of_ble_eq_true rfl, Nat.le_of_ble_eq_true rfl⟩ rfl rfl ⟨Nat.le_of_ble_eq_true rfl, Nat.le_of_ble_eq_true rfl⟩ (fun r13 H locs hG => ?_)
      refine v_astore S hl [(4, .ref (ad r13)), (0, .ref (ad t)), (1, .int p0), (2, .int p1), (3, .int p2)] dX5_fit_53 (by decide) rfl (fun ls hl => ?_)
      refine v_aload S hl 0 rfl dX5_fit_55 ?_
      refine gf_1_0 S hG q36 dX5_fit_57 ?_
      refine v_nm (fun x14 => ?_)
      refine v_istore S hl [(5, .int x14), (4, .ref (ad r13)), (0, .ref (ad t)), (1, .int p0), (2, .int p1), (3, .int p2)] dX5_fit_60 (by decide) rfl (fun ls hl => ?_)
      refine v_aload S hl 1 rfl dX5_fit_62 ?_
      refine v_iload_n S hl 5 rfl rfl dX5_fit_64 ?_
      refine v_cV_vm S hG [.int p2] rfl rfl (by decide) (met_X1_renew l g ad true b σ r13 p2) mw_X1_renew q37 dX5_fit_65 rfl rfl hl.1 (Nat.le_of_ble_eq_true rfl) ⟨Nat.le_of_ble_eq_true rfl, Nat.le_of_ble_eq_true rfl⟩ rfl rfl ⟨Nat.le_of_ble_eq_true rfl, Nat.le_of_ble_eq_true rfl⟩ (fun σ15 H locs hG => ?_)
      refine v_iload_n S hl 5 rfl rfl dX5_fit_68 ?_
      refine v_if_eq S 85 dX5_fit_69 (by decide) ?_ ?_
      · refine v_iload S hl 0 rfl dX5_fit_85 ?_
        exact v_iretXm S hG hr hlk (Nat.le_of_ble_eq_true rfl) (Nat.le_of_ble_eq_true rfl) dX5_fit_87
      · refine v_aload_n S hl 2 rfl rfl dX5_fit_72 ?_
        refine gr_5_0 S hG q24 dX5_fit_73 (fun r16 => ?_)
        refine v_dup S dX5_fit_76 rfl ?_
        refine gf_4_6 S hG q42 dX5_fit_77 ?_
        refine v_iconst S 1 dX5_fit_80 rfl ?_
        refine v_isub S dX5_fit_81 ?_
        refine pf_4_6 S hG q42 dX5_fit_82 (fun σ17 H locs hG => ?_)
        refine v_iload S hl 0 rfl dX5_fit_85 ?_
        exact v_iretXm S hG hr hlk (Nat.le_of_ble_eq_true rfl) (Nat.le_of_ble_eq_true rfl) dX5_fit_87
    · exact v_throwm (k := 3) (is := 48) (text := "no leather in the store") S hG hst hlk htab hl.1 rfl (by decide +kernel) q43 q44 (by decide +kernel) at3a at3b hg3_46 dX5_fit_30 dX5_fit_33 dX5_fit_34 dX5_fit_36 dX5_fit_39 (Nat.le_of_ble_eq_true rfl) (Nat.le_of_ble_eq_true rfl) (Nat.le_of_ble_eq_true rfl) (Nat.le_of_ble_eq_true rfl) (Nat.le_of_ble_eq_true rfl) (Nat.le_of_ble_eq_true rfl)
set_option maxHeartbeats 4000000 in
set_option maxRecDepth 100000 in
theorem met_X5_store (l : Launch) (hst : l.stackTraces = false) (g : GT) (ad : Nat → Nat) (_ : Bool) (b : Nat) (σ : Mem) (t : Nat) (p0 : Int32) (rr : ((Nat ⊕ Int32) × Mem)) (h : fn_X5_store σ t p0 = some rr) : vx_Met l yX5_store (wsy yX5_store cX5_store 2 (some .int)) ({ frames := 7, cells := 1, slots := 6, locals := 142 } : Room) (va_Pc [.ref (ad t), .int p0] (PB g ad σ b)) (va_Qi (fun (r' : Int32) (u : Mem) => rr = (.inr r', u)) (GW g ad) (AA g ad true b)) (XCm g ad true b rr) 1 6 (AA g ad true b) := by
  refine vx_ofW (cc := cX5_store) (maxL := 2) (ret := (some .int)) (by decide) rfl ?_
  intro p e s m args below meth c s₁ B hml htab hv
  obtain ⟨rfl, hv⟩ := hv
  have S : CallFix p m c cX5_store 2 s _ AL RX5 := ⟨B.exec, B.bytes, hml, findClass_of_methodNamed B.named, fun w h => atoms_spec (ws := wsy yX5_store cX5_store 2 (some .int)) B.pre w (List.mem_cons_of_mem _ h)⟩
  have hr := B.returns
  have hlk := B.notSynchronized
  have hG : GA g ad σ true b s s.heap [] := GA_start hv
  have hl := lv_entry ([.ref (ad t), .int p0]) (n := 2) (Nat.le_of_ble_eq_true rfl)
  rw [lg_entry_eq]
  generalize (lg_sl ([.ref (ad t), .int p0]) ++ List.replicate (2 - (lg_sl ([.ref (ad t), .int p0])).length) Slot.unset).toArray = ls at hl ⊢
  have hl : lv_has ls 2 [(0, .ref (ad t)), (1, .int p0)] := hl
  revert h
  unfold fn_X5_store
  refine v_iload_n S hl 1 rfl rfl dX5_store_0 ?_
  refine v_iconst S 1 dX5_store_1 rfl ?_
  refine v_bipush S 50 dX5_store_2 (by decide) ?_
  refine v_xSm S hG [.int p0, .int 1, .int 50] (met_X5_needBetween l hst g ad true b σ p0 1 50) mw_X5_needBetween q21 dX5_store_4 rfl rfl hl.1 (Nat.le_of_ble_eq_true rfl) ⟨(Nat.le_of_ble_eq_true rfl), (Nat.le_of_ble_eq_true rfl)⟩ rfl rfl ⟨(Nat.le_of_ble_eq_true rfl), (Nat.le_of_ble_eq_true rfl)⟩ htab hlk (Nat.le_of_ble_eq_true rfl) (Nat.le_of_ble_eq_true rfl) (fun H locs hG => ?_)
  refine v_aload_n S hl 0 rfl rfl dX5_store_7 ?_
  refine gr_5_0 S hG q24 dX5_store_8 (fun r1 => ?_)
  refine v_bipush S 99 dX5_store_11 (by decide) ?_
  refine v_aload_n S hl 0 rfl rfl dX5_store_13 ?_
  refine gr_5_0 S hG q24 dX5_store_14 (fun r2 => ?_)
  refine gf_4_6 S hG q42 dX5_store_17 ?_
  refine v_iload_n S hl 1 rfl rfl dX5_store_20 ?_
  refine v_iadd S dX5_store_21 ?_
  refine v_mmin S q46 mw_min hl.1 (Nat.le_of_ble_eq_true rfl) (Nat.le_of_ble_eq_true rfl) (Nat.le_of_ble_eq_true rfl) (Nat.le_of_ble_eq_true rfl) dX5_store_22 ?_
  refine pf_4_6 S hG q42 dX5_store_25 (fun σ3 H locs hG => ?_)
  refine v_aload_n S hl 0 rfl rfl dX5_store_28 ?_
  refine gr_5_0 S hG q24 dX5_store_29 (fun r4 => ?_)
  refine gf_4_6 S hG q42 dX5_store_32 ?_
  exact v_iretXm S hG hr hlk (Nat.le_of_ble_eq_true rfl) (Nat.le_of_ble_eq_true rfl) dX5_store_35
set_option maxHeartbeats 4000000 in
set_option maxRecDepth 100000 in
theorem met_X5_lasts (l : Launch) (hst : l.stackTraces = false) (g : GT) (ad : Nat → Nat) (w : Bool) (b : Nat) (σ : Mem) (t : Nat) (p0 : Int32) (p1 : Int32) (rr : (Nat ⊕ Int32)) (h : fn_X5_lasts σ t p0 p1 = some rr) : vx_Met l yX5_lasts (wsy yX5_lasts cX5_lasts 3 (some .int)) ({ frames := 8, cells := 2, slots := 12, locals := 161 } : Room) (va_Pc [.ref (ad t), .int p0, .int p1] (PB g ad σ b)) (va_Qi (fun (r' : Int32) (u : Mem) => rr = .inr r' ∧ u = σ) (GW g ad) (AA g ad w b)) (XCR g ad σ w b rr) 2 12 (AA g ad w b) := by
  refine vx_ofW (cc := cX5_lasts) (maxL := 3) (ret := (some .int)) (by decide) rfl ?_
  intro p e s m args below meth c s₁ B hml htab hv
  obtain ⟨rfl, hv⟩ := hv
  have S : CallFix p m c cX5_lasts 3 s _ AL RX5 := ⟨B.exec, B.bytes, hml, findClass_of_methodNamed B.named, fun w h => atoms_spec (ws := wsy yX5_lasts cX5_lasts 3 (some .int)) B.pre w (List.mem_cons_of_mem _ h)⟩
  have hr := B.returns
  have hlk := B.notSynchronized
  have hG : GA g ad σ w b s s.heap [] := GA_start hv
  have hl := lv_entry ([.ref (ad t), .int p0, .int p1]) (n := 3) (Nat.le_of_ble_eq_true rfl)
  rw [lg_entry_eq]
  generalize (lg_sl ([.ref (ad t), .int p0, .int p1]) ++ List.replicate (3 - (lg_sl ([.ref (ad t), .int p0, .int p1])).length) Slot.unset).toArray = ls at hl ⊢
  have hl : lv_has ls 3 [(0, .ref (ad t)), (1, .int p0), (2, .int p1)] := hl
  revert h
  unfold fn_X5_lasts
  refine v_iload_n S hl 1 rfl rfl dX5_lasts_0 ?_
  refine v_xSR S hG [.int p0] (met_X5_needBell l hst g ad w b σ p0) mw_X5_needBell q18 dX5_lasts_1 rfl rfl hl.1 (Nat.le_of_ble_eq_true rfl) ⟨(Nat.le_of_ble_eq_true rfl), (Nat.le_of_ble_eq_true rfl)⟩ rfl rfl ⟨(Nat.le_of_ble_eq_true rfl), (Nat.le_of_ble_eq_true rfl)⟩ htab hlk (Nat.le_of_ble_eq_true rfl) (Nat.le_of_ble_eq_true rfl) (fun H locs hG => ?_)
  refine v_iload_n S hl 2 rfl rfl dX5_lasts_4 ?_
  refine v_iconst S 2 dX5_lasts_5 rfl ?_
  refine v_xSR S hG [.int p1, .int 2] (met_X5_needIndex l hst g ad w b σ p1 2) mw_X5_needIndex q11 dX5_lasts_6 rfl rfl hl.1 (Nat.le_of_ble_eq_true rfl) ⟨(Nat.le_of_ble_eq_true rfl), (Nat.le_of_ble_eq_true rfl)⟩ rfl rfl ⟨(Nat.le_of_ble_eq_true rfl), (Nat.le_of_ble_eq_true rfl)⟩ htab hlk (Nat.le_of_ble_eq_true rfl) (Nat.le_of_ble_eq_true rfl) (fun H locs hG => ?_)
  refine v_aload_n S hl 0 rfl rfl dX5_lasts_9 ?_
  refine gr_5_0 S hG q24 dX5_lasts_10 (fun r1 => ?_)
  refine gr_4_0 S hG q25 dX5_lasts_13 (fun r2 => ?_)
  refine v_iload_n S hl 1 rfl rfl dX5_lasts_16 ?_
  refine v_aald_9 S hG dX5_lasts_17 (fun r3 => ?_)
  refine v_iload_n S hl 2 rfl rfl dX5_lasts_18 ?_
  refine v_cV_iR S hG [.int p1] rfl rfl (by decide) (met_X0_strokesLeft l g ad w b σ r3 p1) mw_X0_strokesLeft q53 dX5_lasts_19 rfl rfl hl.1 (Nat.le_of_ble_eq_true rfl) ⟨Nat.le_of_ble_eq_true rfl, Nat.le_of_ble_eq_true rfl⟩ rfl rfl ⟨Nat.le_of_ble_eq_true rfl, Nat.le_of_ble_eq_true rfl⟩ (fun r4 H locs hG => ?_)
  exact v_iretXR S hG hr hlk (Nat.le_of_ble_eq_true rfl) (Nat.le_of_ble_eq_true rfl) dX5_lasts_22
set_option maxHeartbeats 4000000 in
set_option maxRecDepth 100000 in
theorem met_X5_bell (l : Launch) (hst : l.stackTraces = false) (g : GT) (ad : Nat → Nat) (w : Bool) (b : Nat) (σ : Mem) (t : Nat) (p0 : Int32) (p1 : Int32) (rr : (Nat ⊕ Int32)) (h : fn_X5_bell σ t p0 p1 = some rr) : vx_Met l yX5_bell (wsy yX5_bell cX5_bell 3 (some .int)) ({ frames := 8, cells := 2, slots := 12, locals := 161 } : Room) (va_Pc [.ref (ad t), .int p0, .int p1] (PB g ad σ b)) (va_Qi (fun (r' : Int32) (u : Mem) => rr = .inr r' ∧ u = σ) (GW g ad) (AA g ad w b)) (XCR g ad σ w b rr) 2 12 (AA g ad w b) := by
  refine vx_ofW (cc := cX5_bell) (maxL := 3) (ret := (some .int)) (by decide) rfl ?_
  intro p e s m args below meth c s₁ B hml htab hv
  obtain ⟨rfl, hv⟩ := hv
  have S : CallFix p m c cX5_bell 3 s _ AL RX5 := ⟨B.exec, B.bytes, hml, findClass_of_methodNamed B.named, fun w h => atoms_spec (ws := wsy yX5_bell cX5_bell 3 (some .int)) B.pre w (List.mem_cons_of_mem _ h)⟩
  have hr := B.returns
  have hlk := B.notSynchronized
  have hG : GA g ad σ w b s s.heap [] := GA_start hv
  have hl := lv_entry ([.ref (ad t), .int p0, .int p1]) (n := 3) (Nat.le_of_ble_eq_true rfl)
  rw [lg_entry_eq]
  generalize (lg_sl ([.ref (ad t), .int p0, .int p1]) ++ List.replicate (3 - (lg_sl ([.ref (ad t), .int p0, .int p1])).length) Slot.unset).toArray = ls at hl ⊢
  have hl : lv_has ls 3 [(0, .ref (ad t)), (1, .int p0), (2, .int p1)] := hl
  revert h
  unfold fn_X5_bell
  refine v_iload_n S hl 1 rfl rfl dX5_bell_0 ?_
  refine v_xSR S hG [.int p0] (met_X5_needBell l hst g ad w b σ p0) mw_X5_needBell q18 dX5_bell_1 rfl rfl hl.1 (Nat.le_of_ble_eq_true rfl) ⟨(Nat.le_of_ble_eq_true rfl), (Nat.le_of_ble_eq_true rfl)⟩ rfl rfl ⟨(Nat.le_of_ble_eq_true rfl), (Nat.le_of_ble_eq_true rfl)⟩ htab hlk (Nat.le_of_ble_eq_true rfl) (Nat.le_of_ble_eq_true rfl) (fun H locs hG => ?_)
  refine v_iload_n S hl 2 rfl rfl dX5_bell_4 ?_
  refine v_bipush S 9 dX5_bell_5 (by decide) ?_
  refine v_xSR S hG [.int p1, .int 9] (met_X5_needIndex l hst g ad w b σ p1 9) mw_X5_needIndex q11 dX5_bell_7 rfl rfl hl.1 (Nat.le_of_ble_eq_true rfl) ⟨(Nat.le_of_ble_eq_true rfl), (Nat.le_of_ble_eq_true rfl)⟩ rfl rfl ⟨(Nat.le_of_ble_eq_true rfl), (Nat.le_of_ble_eq_true rfl)⟩ htab hlk (Nat.le_of_ble_eq_true rfl) (Nat.le_of_ble_eq_true rfl) (fun H locs hG => ?_)
  refine v_aload_n S hl 0 rfl rfl dX5_bell_10 ?_
  refine gr_5_0 S hG q24 dX5_bell_11 (fun r1 => ?_)
  refine v_iload_n S hl 1 rfl rfl dX5_bell_14 ?_
  refine v_iload_n S hl 2 rfl rfl dX5_bell_15 ?_
  refine v_cV_iR S hG [.int p0, .int p1] rfl rfl (by decide) (met_X4_ofBell l g ad w b σ r1 p0 p1) mw_X4_ofBell q81 dX5_bell_16 rfl rfl hl.1 (Nat.le_of_ble_eq_true rfl) ⟨Nat.le_of_ble_eq_true rfl, Nat.le_of_ble_eq_true rfl⟩ rfl rfl ⟨Nat.le_of_ble_eq_true rfl, Nat.le_of_ble_eq_true rfl⟩ (fun r2 H locs hG => ?_)
  exact v_iretXR S hG hr hlk (Nat.le_of_ble_eq_true rfl) (Nat.le_of_ble_eq_true rfl) dX5_bell_19
set_option maxHeartbeats 4000000 in
set_option maxRecDepth 100000 in
theorem met_X5_ringer (l : Launch) (hst : l.stackTraces = false) (g : GT) (ad : Nat → Nat) (_ : Bool) (b : Nat) (σ : Mem) (t : Nat) (p0 : Int32) (rr : ((Nat ⊕ Int32) × Mem)) (h : fn_X5_ringer σ t p0 = some rr) : vx_Met l yX5_ringer (wsy yX5_ringer cX5_ringer 2 (some .int)) ({ frames := 7, cells := 2, slots := 12, locals := 142 } : Room) (va_Pc [.ref (ad t), .int p0] (PB g ad σ b)) (va_Qi (fun (r' : Int32) (u : Mem) => rr = (.inr r', u)) (GW g ad) (AA g ad true b)) (XCm g ad true b rr) 2 12 (AA g ad true b) := by
  refine vx_ofW (cc := cX5_ringer) (maxL := 2) (ret := (some .int)) (by decide) rfl ?_
  intro p e s m args below meth c s₁ B hml htab hv
  obtain ⟨rfl, hv⟩ := hv
  have S : CallFix p m c cX5_ringer 2 s _ AL RX5 := ⟨B.exec, B.bytes, hml, findClass_of_methodNamed B.named, fun w h => atoms_spec (ws := wsy yX5_ringer cX5_ringer 2 (some .int)) B.pre w (List.mem_cons_of_mem _ h)⟩
  have hr := B.returns
  have hlk := B.notSynchronized
  have hG : GA g ad σ true b s s.heap [] := GA_start hv
  have hl := lv_entry ([.ref (ad t), .int p0]) (n := 2) (Nat.le_of_ble_eq_true rfl)
  rw [lg_entry_eq]
  generalize (lg_sl ([.ref (ad t), .int p0]) ++ List.replicate (2 - (lg_sl ([.ref (ad t), .int p0])).length) Slot.unset).toArray = ls at hl ⊢
  have hl : lv_has ls 2 [(0, .ref (ad t)), (1, .int p0)] := hl
  revert h
  unfold fn_X5_ringer
  refine v_iload_n S hl 1 rfl rfl dX5_ringer_0 ?_
  refine v_iconst S 1 dX5_ringer_1 rfl ?_
  refine v_bipush S 9 dX5_ringer_2 (by decide) ?_
  refine v_xSm S hG [.int p0, .int 1, .int 9] (met_X5_needBetween l hst g ad true b σ p0 1 9) mw_X5_needBetween q21 dX5_ringer_4 rfl rfl hl.1 (Nat.le_of_ble_eq_true rfl) ⟨(Nat.le_of_ble_eq_true rfl), (Nat.le_of_ble_eq_true rfl)⟩ rfl rfl ⟨(Nat.le_of_ble_eq_true rfl), (Nat.le_of_ble_eq_true rfl)⟩ htab hlk (Nat.le_of_ble_eq_true rfl) (Nat.le_of_ble_eq_true rfl) (fun H locs hG => ?_)
  refine v_aload_n S hl 0 rfl rfl dX5_ringer_7 ?_
  refine gr_5_0 S hG q24 dX5_ringer_8 (fun r1 => ?_)
  refine gf_4_4 S hG q88 dX5_ringer_11 ?_
  refine v_bipush S 12 dX5_ringer_14 (by decide) ?_
  refine v_icmp_lt S 29 dX5_ringer_16 (by decide) ?_ ?_
  · refine v_aload_n S hl 0 rfl rfl dX5_ringer_29 ?_
    refine gr_5_0 S hG q24 dX5_ringer_30 (fun r2 => ?_)
    refine v_iload_n S hl 1 rfl rfl dX5_ringer_33 ?_
    refine v_cV_im S hG [.int p0] rfl rfl (by decide) (met_X4_addRinger l g ad true b σ r2 p0) mw_X4_addRinger q89 dX5_ringer_34 rfl rfl hl.1 (Nat.le_of_ble_eq_true rfl) ⟨Nat.le_of_ble_eq_true rfl, Nat.le_of_ble_eq_true rfl⟩ rfl rfl ⟨Nat.le_of_ble_eq_true rfl, Nat.le_of_ble_eq_true rfl⟩ (fun r3 σ4 H locs hG => ?_)
    exact v_iretXm S hG hr hlk (Nat.le_of_ble_eq_true rfl) (Nat.le_of_ble_eq_true rfl) dX5_ringer_37
  · exact v_throwm (k := 3) (is := 81) (text := "no room for another ringer") S hG hst hlk htab hl.1 rfl (by decide +kernel) q43 q44 (by decide +kernel) at3a at3b hg3_46 dX5_ringer_19 dX5_ringer_22 dX5_ringer_23 dX5_ringer_25 dX5_ringer_28 (Nat.le_of_ble_eq_true rfl) (Nat.le_of_ble_eq_true rfl) (Nat.le_of_ble_eq_true rfl) (Nat.le_of_ble_eq_true rfl) (Nat.le_of_ble_eq_true rfl) (Nat.le_of_ble_eq_true rfl)
set_option maxHeartbeats 4000000 in
set_option maxRecDepth 100000 in
theorem met_X5_send (l : Launch) (hst : l.stackTraces = false) (g : GT) (ad : Nat → Nat) (_ : Bool) (b : Nat) (σ : Mem) (t : Nat) (p0 : Int32) (p1 : Int32) (rr : ((Nat ⊕ Int32) × Mem)) (h : fn_X5_send σ t p0 p1 = some rr) : vx_Met l yX5_send (wsy yX5_send cX5_send 4 (some .int)) ({ frames := 8, cells := 3, slots := 18, locals := 161 } : Room) (va_Pc [.ref (ad t), .int p0, .int p1] (PB g ad σ b)) (va_Qi (fun (r' : Int32) (u : Mem) => rr = (.inr r', u)) (GW g ad) (AA g ad true b)) (XCm g ad true b rr) 3 18 (AA g ad true b) := by
  refine vx_ofW (cc := cX5_send) (maxL := 4) (ret := (some .int)) (by decide) rfl ?_
  intro p e s m args below meth c s₁ B hml htab hv
  obtain ⟨rfl, hv⟩ := hv
  have S : CallFix p m c cX5_send 4 s _ AL RX5 := ⟨B.exec, B.bytes, hml, findClass_of_methodNamed B.named, fun w h => atoms_spec (ws := wsy yX5_send cX5_send 4 (some .int)) B.pre w (List.mem_cons_of_mem _ h)⟩
  have hr := B.returns
  have hlk := B.notSynchronized
  have hG : GA g ad σ true b s s.heap [] := GA_start hv
  have hl := lv_entry ([.ref (ad t), .int p0, .int p1]) (n := 4) (Nat.le_of_ble_eq_true rfl)
  rw [lg_entry_eq]
  generalize (lg_sl ([.ref (ad t), .int p0, .int p1]) ++ List.replicate (4 - (lg_sl ([.ref (ad t), .int p0, .int p1])).length) Slot.unset).toArray = ls at hl ⊢
  have hl : lv_has ls 4 [(0, .ref (ad t)), (1, .int p0), (2, .int p1)] := hl
  revert h
  unfold fn_X5_send
  refine v_iload_n S hl 1 rfl rfl dX5_send_0 ?_
  refine v_xSm S hG [.int p0] (met_X5_needBell l hst g ad true b σ p0) mw_X5_needBell q18 dX5_send_1 rfl rfl hl.1 (Nat.le_of_ble_eq_true rfl) ⟨(Nat.le_of_ble_eq_true rfl), (Nat.le_of_ble_eq_true rfl)⟩ rfl rfl ⟨(Nat.le_of_ble_eq_true rfl), (Nat.le_of_ble_eq_true rfl)⟩ htab hlk (Nat.le_of_ble_eq_true rfl) (Nat.le_of_ble_eq_true rfl) (fun H locs hG => ?_)
  refine v_iload_n S hl 2 rfl rfl dX5_send_4 ?_
  refine v_aload_n S hl 0 rfl rfl dX5_send_5 ?_
  refine gr_5_0 S hG q24 dX5_send_6 (fun r1 => ?_)
  refine gf_4_4 S hG q88 dX5_send_9 ?_
  refine v_xSm S hG [.int p1, .int (σ r1 4)] (met_X5_needIndex l hst g ad true b σ p1 (σ r1 4)) mw_X5_needIndex q11 dX5_send_12 rfl rfl hl.1 (Nat.le_of_ble_eq_true rfl) ⟨(Nat.le_of_ble_eq_true rfl), (Nat.le_of_ble_eq_true rfl)⟩ rfl rfl ⟨(Nat.le_of_ble_eq_true rfl), (Nat.le_of_ble_eq_true rfl)⟩ htab hlk (Nat.le_of_ble_eq_true rfl) (Nat.le_of_ble_eq_true rfl) (fun H locs hG => ?_)
  refine v_aload_n S hl 0 rfl rfl dX5_send_15 ?_
  refine gr_5_0 S hG q24 dX5_send_16 (fun r2 => ?_)
  refine gr_4_1 S hG q99 dX5_send_19 (fun r3 => ?_)
  refine v_iload_n S hl 2 rfl rfl dX5_send_22 ?_
  refine v_aald_10 S hG dX5_send_23 (fun r4 => ?_)
  refine v_cV_iR S hG [] rfl rfl (by decide) (met_X2_rests l g ad true b σ r4) mw_X2_rests q100 dX5_send_24 rfl rfl hl.1 (Nat.le_of_ble_eq_true rfl) ⟨Nat.le_of_ble_eq_true rfl, Nat.le_of_ble_eq_true rfl⟩ rfl rfl ⟨Nat.le_of_ble_eq_true rfl, Nat.le_of_ble_eq_true rfl⟩ (fun r5 H locs hG => ?_)
  refine v_if_ne S 40 dX5_send_27 (by decide) ?_ ?_
  · refine v_aload_n S hl 0 rfl rfl dX5_send_40 ?_
    refine gr_5_0 S hG q24 dX5_send_41 (fun r6 => ?_)
    refine gr_4_0 S hG q25 dX5_send_44 (fun r7 => ?_)
    refine v_iload_n S hl 1 rfl rfl dX5_send_47 ?_
    refine v_aald_9 S hG dX5_send_48 (fun r8 => ?_)
    refine gf_0_4 S hG q105 dX5_send_49 ?_
    refine v_nm (fun x9 => ?_)
    refine v_istore_n S hl [(3, .int x9), (0, .ref (ad t)), (1, .int p0), (2, .int p1)] rfl dX5_send_52 (by decide) rfl (fun ls hl => ?_)
    refine v_aload_n S hl 1 rfl rfl dX5_send_53 ?_
    refine gr_5_0 S hG q24 dX5_send_54 (fun r10 => ?_)
    refine v_iload_n S hl 2 rfl rfl dX5_send_57 ?_
    refine v_iload_n S hl 3 rfl rfl dX5_send_58 ?_
    refine v_cV_vm S hG [.int p0, .int p1] rfl rfl (by decide) (met_X4_bringToRope l g ad true b σ r10 p0 p1) mw_X4_bringToRope q106 dX5_send_59 rfl rfl hl.1 (Nat.le_of_ble_eq_true rfl) ⟨Nat.le_of_ble_eq_true rfl, Nat.le_of_ble_eq_true rfl⟩ rfl rfl ⟨Nat.le_of_ble_eq_true rfl, Nat.le_of_ble_eq_true rfl⟩ (fun σ11 H locs hG => ?_)
    refine v_iload_n S hl 0 rfl rfl dX5_send_62 ?_
    exact v_iretXm S hG hr hlk (Nat.le_of_ble_eq_true rfl) (Nat.le_of_ble_eq_true rfl) dX5_send_63
  · exact v_throwm (k := 3) (is := 96) (text := "the ringer is at a rope") S hG hst hlk htab hl.1 rfl (by decide +kernel) q43 q44 (by decide +kernel) at3a at3b hg3_46 dX5_send_30 dX5_send_33 dX5_send_34 dX5_send_36 dX5_send_39 (Nat.le_of_ble_eq_true rfl) (Nat.le_of_ble_eq_true rfl) (Nat.le_of_ble_eq_true rfl) (Nat.le_of_ble_eq_true rfl) (Nat.le_of_ble_eq_true rfl) (Nat.le_of_ble_eq_true rfl)
set_option maxHeartbeats 4000000 in
set_option maxRecDepth 100000 in
theorem met_X5_told (l : Launch) (hst : l.stackTraces = false) (g : GT) (ad : Nat → Nat) (w : Bool) (b : Nat) (σ : Mem) (t : Nat) (p0 : Int32) (p1 : Int32) (rr : (Nat ⊕ Int32)) (h : fn_X5_told σ t p0 p1 = some rr) : vx_Met l yX5_told (wsy yX5_told cX5_told 3 (some .int)) ({ frames := 7, cells := 2, slots := 12, locals := 141 } : Room) (va_Pc [.ref (ad t), .int p0, .int p1] (PB g ad σ b)) (va_Qi (fun (r' : Int32) (u : Mem) => rr = .inr r' ∧ u = σ) (GW g ad) (AA g ad w b)) (XCR g ad σ w b rr) 2 12 (AA g ad w b) := by
  refine vx_ofW (cc := cX5_told) (maxL := 3) (ret := (some .int)) (by decide) rfl ?_
  intro p e s m args below meth c s₁ B hml htab hv
  obtain ⟨rfl, hv⟩ := hv
  have S : CallFix p m c cX5_told 3 s _ AL RX5 := ⟨B.exec, B.bytes, hml, findClass_of_methodNamed B.named, fun w h => atoms_spec (ws := wsy yX5_told cX5_told 3 (some .int)) B.pre w (List.mem_cons_of_mem _ h)⟩
  have hr := B.returns
  have hlk := B.notSynchronized
  have hG : GA g ad σ w b s s.heap [] := GA_start hv
  have hl := lv_entry ([.ref (ad t), .int p0, .int p1]) (n := 3) (Nat.le_of_ble_eq_true rfl)
  rw [lg_entry_eq]
  generalize (lg_sl ([.ref (ad t), .int p0, .int p1]) ++ List.replicate (3 - (lg_sl ([.ref (ad t), .int p0, .int p1])).length) Slot.unset).toArray = ls at hl ⊢
  have hl : lv_has ls 3 [(0, .ref (ad t)), (1, .int p0), (2, .int p1)] := hl
  revert h
  unfold fn_X5_told
  refine v_iload_n S hl 1 rfl rfl dX5_told_0 ?_
  refine v_aload_n S hl 0 rfl rfl dX5_told_1 ?_
  refine gr_5_0 S hG q24 dX5_told_2 (fun r1 => ?_)
  refine gf_4_4 S hG q88 dX5_told_5 ?_
  refine v_xSR S hG [.int p0, .int (σ r1 4)] (met_X5_needIndex l hst g ad w b σ p0 (σ r1 4)) mw_X5_needIndex q11 dX5_told_8 rfl rfl hl.1 (Nat.le_of_ble_eq_true rfl) ⟨(Nat.le_of_ble_eq_true rfl), (Nat.le_of_ble_eq_true rfl)⟩ rfl rfl ⟨(Nat.le_of_ble_eq_true rfl), (Nat.le_of_ble_eq_true rfl)⟩ htab hlk (Nat.le_of_ble_eq_true rfl) (Nat.le_of_ble_eq_true rfl) (fun H locs hG => ?_)
  refine v_iload_n S hl 2 rfl rfl dX5_told_11 ?_
  refine v_iconst S 5 dX5_told_12 rfl ?_
  refine v_xSR S hG [.int p1, .int 5] (met_X5_needIndex l hst g ad w b σ p1 5) mw_X5_needIndex q11 dX5_told_13 rfl rfl hl.1 (Nat.le_of_ble_eq_true rfl) ⟨(Nat.le_of_ble_eq_true rfl), (Nat.le_of_ble_eq_true rfl)⟩ rfl rfl ⟨(Nat.le_of_ble_eq_true rfl), (Nat.le_of_ble_eq_true rfl)⟩ htab hlk (Nat.le_of_ble_eq_true rfl) (Nat.le_of_ble_eq_true rfl) (fun H locs hG => ?_)
  refine v_aload_n S hl 0 rfl rfl dX5_told_16 ?_
  refine gr_5_0 S hG q24 dX5_told_17 (fun r2 => ?_)
  refine gr_4_1 S hG q99 dX5_told_20 (fun r3 => ?_)
  refine v_iload_n S hl 1 rfl rfl dX5_told_23 ?_
  refine v_aald_10 S hG dX5_told_24 (fun r4 => ?_)
  refine v_iload_n S hl 2 rfl rfl dX5_told_25 ?_
  refine v_cV_iR S hG [.int p1] rfl rfl (by decide) (met_X2_fact l g ad w b σ r4 p1) mw_X2_fact q114 dX5_told_26 rfl rfl hl.1 (Nat.le_of_ble_eq_true rfl) ⟨Nat.le_of_ble_eq_true rfl, Nat.le_of_ble_eq_true rfl⟩ rfl rfl ⟨Nat.le_of_ble_eq_true rfl, Nat.le_of_ble_eq_true rfl⟩ (fun r5 H locs hG => ?_)
  exact v_iretXR S hG hr hlk (Nat.le_of_ble_eq_true rfl) (Nat.le_of_ble_eq_true rfl) dX5_told_29
set_option maxHeartbeats 4000000 in
set_option maxRecDepth 100000 in
theorem met_X5_needTollOfSuch (l : Launch) (hst : l.stackTraces = false) (g : GT) (ad : Nat → Nat) (w : Bool) (b : Nat) (σ : Mem) (p0 : Int32) (p1 : Int32) (p2 : Int32) (rr : (Nat ⊕ Unit)) (h : fn_X5_needTollOfSuch σ p0 p1 p2 = some rr) : vx_Met l yX5_needTollOfSuch (wsy yX5_needTollOfSuch cX5_needTollOfSuch 3 none) ({ frames := 7, cells := 3, slots := 18, locals := 142 } : Room) (va_Pc [.int p0, .int p1, .int p2] (PB g ad σ b)) (va_Qv (fun (u : Mem) => rr = .inr () ∧ u = σ) (GW g ad) (AA g ad w b)) (XCR g ad σ w b rr) 3 18 (AA g ad w b) := by
  refine vx_ofW (cc := cX5_needTollOfSuch) (maxL := 3) (ret := none) (by decide) rfl ?_
  intro p e s m args below meth c s₁ B hml htab hv
  obtain ⟨rfl, hv⟩ := hv
  have S : CallFix p m c cX5_needTollOfSuch 3 s _ AL RX5 := ⟨B.exec, B.bytes, hml, findClass_of_methodNamed B.named, fun w h => atoms_spec (ws := wsy yX5_needTollOfSuch cX5_needTollOfSuch 3 none) B.pre w (List.mem_cons_of_mem _ h)⟩
  have hr := B.returns
  have hlk := B.notSynchronized
  have hG : GA g ad σ w b s s.heap [] := GA_start hv
  have hl := lv_entry ([.int p0, .int p1, .int p2]) (n := 3) (Nat.le_of_ble_eq_true rfl)
  rw [lg_entry_eq]
  generalize (lg_sl ([.int p0, .int p1, .int p2]) ++ List.replicate (3 - (lg_sl ([.int p0, .int p1, .int p2])).length) Slot.unset).toArray = ls at hl ⊢
  have hl : lv_has ls 3 [(0, .int p0), (1, .int p1), (2, .int p2)] := hl
  revert h
  unfold fn_X5_needTollOfSuch
  refine v_iload_n S hl 0 rfl rfl dX5_needTollOfSuch_0 ?_
  refine v_iconst S 0 dX5_needTollOfSuch_1 rfl ?_
  refine v_iconst S 2 dX5_needTollOfSuch_2 rfl ?_
  refine v_xSR S hG [.int p0, .int 0, .int 2] (met_X5_needBetween l hst g ad w b σ p0 0 2) mw_X5_needBetween q21 dX5_needTollOfSuch_3 rfl rfl hl.1 (Nat.le_of_ble_eq_true rfl) ⟨(Nat.le_of_ble_eq_true rfl), (Nat.le_of_ble_eq_true rfl)⟩ rfl rfl ⟨(Nat.le_of_ble_eq_true rfl), (Nat.le_of_ble_eq_true rfl)⟩ htab hlk (Nat.le_of_ble_eq_true rfl) (Nat.le_of_ble_eq_true rfl) (fun H locs hG => ?_)
  refine v_iload_n S hl 1 rfl rfl dX5_needTollOfSuch_6 ?_
  refine v_iconst S 0 dX5_needTollOfSuch_7 rfl ?_
  refine v_bipush S 120 dX5_needTollOfSuch_8 (by decide) ?_
  refine v_xSR S hG [.int p1, .int 0, .int 120] (met_X5_needBetween l hst g ad w b σ p1 0 120) mw_X5_needBetween q21 dX5_needTollOfSuch_10 rfl rfl hl.1 (Nat.le_of_ble_eq_true rfl) ⟨(Nat.le_of_ble_eq_true rfl), (Nat.le_of_ble_eq_true rfl)⟩ rfl rfl ⟨(Nat.le_of_ble_eq_true rfl), (Nat.le_of_ble_eq_true rfl)⟩ htab hlk (Nat.le_of_ble_eq_true rfl) (Nat.le_of_ble_eq_true rfl) (fun H locs hG => ?_)
  refine v_iload_n S hl 2 rfl rfl dX5_needTollOfSuch_13 ?_
  refine v_iconst S 1 dX5_needTollOfSuch_14 rfl ?_
  refine v_iconst S 5 dX5_needTollOfSuch_15 rfl ?_
  refine v_xSR S hG [.int p2, .int 1, .int 5] (met_X5_needBetween l hst g ad w b σ p2 1 5) mw_X5_needBetween q21 dX5_needTollOfSuch_16 rfl rfl hl.1 (Nat.le_of_ble_eq_true rfl) ⟨(Nat.le_of_ble_eq_true rfl), (Nat.le_of_ble_eq_true rfl)⟩ rfl rfl ⟨(Nat.le_of_ble_eq_true rfl), (Nat.le_of_ble_eq_true rfl)⟩ htab hlk (Nat.le_of_ble_eq_true rfl) (Nat.le_of_ble_eq_true rfl) (fun H locs hG => ?_)
  exact v_vretXR S hG hr hlk (Nat.le_of_ble_eq_true rfl) (Nat.le_of_ble_eq_true rfl) dX5_needTollOfSuch_19
set_option maxHeartbeats 4000000 in
set_option maxRecDepth 100000 in
theorem met_X5_toll (l : Launch) (hst : l.stackTraces = false) (g : GT) (ad : Nat → Nat) (_ : Bool) (b : Nat) (σ : Mem) (t : Nat) (p0 : Int32) (p1 : Int32) (p2 : Int32) (p3 : Int32) (rr : ((Nat ⊕ Int32) × Mem)) (h : fn_X5_toll σ t p0 p1 p2 p3 = some rr) : vx_Met l yX5_toll (wsy yX5_toll cX5_toll 5 (some .int)) ({ frames := 8, cells := 5, slots := 30, locals := 164 } : Room) (va_Pc [.ref (ad t), .int p0, .int p1, .int p2, .int p3] (PB g ad σ b)) (va_Qi (fun (r' : Int32) (u : Mem) => rr = (.inr r', u)) (GW g ad) (AA g ad true b)) (XCm g ad true b rr) 5 30 (AA g ad true b) := by
  refine vx_ofW (cc := cX5_toll) (maxL := 5) (ret := (some .int)) (by decide) rfl ?_
  intro p e s m args below meth c s₁ B hml htab hv
  obtain ⟨rfl, hv⟩ := hv
  have S : CallFix p m c cX5_toll 5 s _ AL RX5 := ⟨B.exec, B.bytes, hml, findClass_of_methodNamed B.named, fun w h => atoms_spec (ws := wsy yX5_toll cX5_toll 5 (some .int)) B.pre w (List.mem_cons_of_mem _ h)⟩
  have hr := B.returns
  have hlk := B.notSynchronized
  have hG : GA g ad σ true b s s.heap [] := GA_start hv
  have hl := lv_entry ([.ref (ad t), .int p0, .int p1, .int p2, .int p3]) (n := 5) (Nat.le_of_ble_eq_true rfl)
  rw [lg_entry_eq]
  generalize (lg_sl ([.ref (ad t), .int p0, .int p1, .int p2, .int p3]) ++ List.replicate (5 - (lg_sl ([.ref (ad t), .int p0, .int p1, .int p2, .int p3])).length) Slot.unset).toArray = ls at hl ⊢
  have hl : lv_has ls 5 [(0, .ref (ad t)), (1, .int p0), (2, .int p1), (3, .int p2), (4, .int p3)] := hl
  revert h
  unfold fn_X5_toll
  refine v_iload_n S hl 1 rfl rfl dX5_toll_0 ?_
  refine v_xSm S hG [.int p0] (met_X5_needBell l hst g ad true b σ p0) mw_X5_needBell q18 dX5_toll_1 rfl rfl hl.1 (Nat.le_of_ble_eq_true rfl) ⟨(Nat.le_of_ble_eq_true rfl), (Nat.le_of_ble_eq_true rfl)⟩ rfl rfl ⟨(Nat.le_of_ble_eq_true rfl), (Nat.le_of_ble_eq_true rfl)⟩ htab hlk (Nat.le_of_ble_eq_true rfl) (Nat.le_of_ble_eq_true rfl) (fun H locs hG => ?_)
  refine v_iload_n S hl 2 rfl rfl dX5_toll_4 ?_
  refine v_iload_n S hl 3 rfl rfl dX5_toll_5 ?_
  refine v_iload S hl 4 rfl dX5_toll_6 ?_
  refine v_xSm S hG [.int p1, .int p2, .int p3] (met_X5_needTollOfSuch l hst g ad true b σ p1 p2 p3) mw_X5_needTollOfSuch q128 dX5_toll_8 rfl rfl hl.1 (Nat.le_of_ble_eq_true rfl) ⟨(Nat.le_of_ble_eq_true rfl), (Nat.le_of_ble_eq_true rfl)⟩ rfl rfl ⟨(Nat.le_of_ble_eq_true rfl), (Nat.le_of_ble_eq_true rfl)⟩ htab hlk (Nat.le_of_ble_eq_true rfl) (Nat.le_of_ble_eq_true rfl) (fun H locs hG => ?_)
  refine v_aload_n S hl 0 rfl rfl dX5_toll_11 ?_
  refine gr_5_0 S hG q24 dX5_toll_12 (fun r1 => ?_)
  refine gf_4_5 S hG q131 dX5_toll_15 ?_
  refine v_bipush S 20 dX5_toll_18 (by decide) ?_
  refine v_icmp_lt S 33 dX5_toll_20 (by decide) ?_ ?_
  · refine v_aload_n S hl 0 rfl rfl dX5_toll_33 ?_
    refine gr_5_0 S hG q24 dX5_toll_34 (fun r2 => ?_)
    refine v_iload_n S hl 1 rfl rfl dX5_toll_37 ?_
    refine v_iload_n S hl 2 rfl rfl dX5_toll_38 ?_
    refine v_iload_n S hl 3 rfl rfl dX5_toll_39 ?_
    refine v_iload S hl 4 rfl dX5_toll_40 ?_
    refine v_cV_im S hG [.int p0, .int p1, .int p2, .int p3] rfl rfl (by decide) (met_X4_addToll l g ad true b σ r2 p0 p1 p2 p3) mw_X4_addToll q132 dX5_toll_42 rfl rfl hl.1 (Nat.le_of_ble_eq_true rfl) ⟨Nat.le_of_ble_eq_true rfl, Nat.le_of_ble_eq_true rfl⟩ rfl rfl ⟨Nat.le_of_ble_eq_true rfl, Nat.le_of_ble_eq_true rfl⟩ (fun r3 σ4 H locs hG => ?_)
    exact v_iretXm S hG hr hlk (Nat.le_of_ble_eq_true rfl) (Nat.le_of_ble_eq_true rfl) dX5_toll_45
  · exact v_throwm (k := 3) (is := 113) (text := "no room for another toll") S hG hst hlk htab hl.1 rfl (by decide +kernel) q43 q44 (by decide +kernel) at3a at3b hg3_46 dX5_toll_23 dX5_toll_26 dX5_toll_27 dX5_toll_29 dX5_toll_32 (Nat.le_of_ble_eq_true rfl) (Nat.le_of_ble_eq_true rfl) (Nat.le_of_ble_eq_true rfl) (Nat.le_of_ble_eq_true rfl) (Nat.le_of_ble_eq_true rfl) (Nat.le_of_ble_eq_true rfl)
set_option maxHeartbeats 4000000 in
set_option maxRecDepth 100000 in
theorem met_X5_stop (l : Launch) (hst : l.stackTraces = false) (g : GT) (ad : Nat → Nat) (_ : Bool) (b : Nat) (σ : Mem) (t : Nat) (p0 : Int32) (rr : ((Nat ⊕ Int32) × Mem)) (h : fn_X5_stop σ t p0 = some rr) : vx_Met l yX5_stop (wsy yX5_stop cX5_stop 2 (some .int)) ({ frames := 7, cells := 2, slots := 12, locals := 141 } : Room) (va_Pc [.ref (ad t), .int p0] (PB g ad σ b)) (va_Qi (fun (r' : Int32) (u : Mem) => rr = (.inr r', u)) (GW g ad) (AA g ad true b)) (XCm g ad true b rr) 2 12 (AA g ad true b) := by
  refine vx_ofW (cc := cX5_stop) (maxL := 2) (ret := (some .int)) (by decide) rfl ?_
  intro p e s m args below meth c s₁ B hml htab hv
  obtain ⟨rfl, hv⟩ := hv
  have S : CallFix p m c cX5_stop 2 s _ AL RX5 := ⟨B.exec, B.bytes, hml, findClass_of_methodNamed B.named, fun w h => atoms_spec (ws := wsy yX5_stop cX5_stop 2 (some .int)) B.pre w (List.mem_cons_of_mem _ h)⟩
  have hr := B.returns
  have hlk := B.notSynchronized
  have hG : GA g ad σ true b s s.heap [] := GA_start hv
  have hl := lv_entry ([.ref (ad t), .int p0]) (n := 2) (Nat.le_of_ble_eq_true rfl)
  rw [lg_entry_eq]
  generalize (lg_sl ([.ref (ad t), .int p0]) ++ List.replicate (2 - (lg_sl ([.ref (ad t), .int p0])).length) Slot.unset).toArray = ls at hl ⊢
  have hl : lv_has ls 2 [(0, .ref (ad t)), (1, .int p0)] := hl
  revert h
  unfold fn_X5_stop
  refine v_iload_n S hl 1 rfl rfl dX5_stop_0 ?_
  refine v_aload_n S hl 0 rfl rfl dX5_stop_1 ?_
  refine gr_5_0 S hG q24 dX5_stop_2 (fun r1 => ?_)
  refine gf_4_5 S hG q131 dX5_stop_5 ?_
  refine v_xSm S hG [.int p0, .int (σ r1 5)] (met_X5_needIndex l hst g ad true b σ p0 (σ r1 5)) mw_X5_needIndex q11 dX5_stop_8 rfl rfl hl.1 (Nat.le_of_ble_eq_true rfl) ⟨(Nat.le_of_ble_eq_true rfl), (Nat.le_of_ble_eq_true rfl)⟩ rfl rfl ⟨(Nat.le_of_ble_eq_true rfl), (Nat.le_of_ble_eq_true rfl)⟩ htab hlk (Nat.le_of_ble_eq_true rfl) (Nat.le_of_ble_eq_true rfl) (fun H locs hG => ?_)
  refine v_aload_n S hl 0 rfl rfl dX5_stop_11 ?_
  refine gr_5_0 S hG q24 dX5_stop_12 (fun r2 => ?_)
  refine gr_4_2 S hG q146 dX5_stop_15 (fun r3 => ?_)
  refine v_iload_n S hl 1 rfl rfl dX5_stop_18 ?_
  refine v_aald_11 S hG dX5_stop_19 (fun r4 => ?_)
  refine v_cV_iR S hG [] rfl rfl (by decide) (met_X3_isDone l g ad true b σ r4) mw_X3_isDone q147 dX5_stop_20 rfl rfl hl.1 (Nat.le_of_ble_eq_true rfl) ⟨Nat.le_of_ble_eq_true rfl, Nat.le_of_ble_eq_true rfl⟩ rfl rfl ⟨Nat.le_of_ble_eq_true rfl, Nat.le_of_ble_eq_true rfl⟩ (fun r5 H locs hG => ?_)
  refine v_if_eq S 36 dX5_stop_23 (by decide) ?_ ?_
  · refine v_aload_n S hl 0 rfl rfl dX5_stop_36 ?_
    refine gr_5_0 S hG q24 dX5_stop_37 (fun r6 => ?_)
    refine v_iload_n S hl 1 rfl rfl dX5_stop_40 ?_
    refine v_cV_vm S hG [.int p0] rfl rfl (by decide) (met_X4_endToll l g ad true b σ r6 p0) mw_X4_endToll q148 dX5_stop_41 rfl rfl hl.1 (Nat.le_of_ble_eq_true rfl) ⟨Nat.le_of_ble_eq_true rfl, Nat.le_of_ble_eq_true rfl⟩ rfl rfl ⟨Nat.le_of_ble_eq_true rfl, Nat.le_of_ble_eq_true rfl⟩ (fun σ7 H locs hG => ?_)
    refine v_aload_n S hl 0 rfl rfl dX5_stop_44 ?_
    refine gr_5_0 S hG q24 dX5_stop_45 (fun r8 => ?_)
    refine gr_4_2 S hG q146 dX5_stop_48 (fun r9 => ?_)
    refine v_iload_n S hl 1 rfl rfl dX5_stop_51 ?_
    refine v_aald_11 S hG dX5_stop_52 (fun r10 => ?_)
    refine v_cV_iR S hG [] rfl rfl (by decide) (met_X3_strokesDue l g ad true b σ7 r10) mw_X3_strokesDue q152 dX5_stop_53 rfl rfl hl.1 (Nat.le_of_ble_eq_true rfl) ⟨Nat.le_of_ble_eq_true rfl, Nat.le_of_ble_eq_true rfl⟩ rfl rfl ⟨Nat.le_of_ble_eq_true rfl, Nat.le_of_ble_eq_true rfl⟩ (fun r11 H locs hG => ?_)
    refine v_aload_n S hl 0 rfl rfl dX5_stop_56 ?_
    refine gr_5_0 S hG q24 dX5_stop_57 (fun r12 => ?_)
    refine gr_4_2 S hG q146 dX5_stop_60 (fun r13 => ?_)
    refine v_iload_n S hl 1 rfl rfl dX5_stop_63 ?_
    refine v_aald_11 S hG dX5_stop_64 (fun r14 => ?_)
    refine gf_3_5 S hG q156 dX5_stop_65 ?_
    refine v_isub S dX5_stop_68 ?_
    exact v_iretXm S hG hr hlk (Nat.le_of_ble_eq_true rfl) (Nat.le_of_ble_eq_true rfl) dX5_stop_69
  · exact v_throwm (k := 3) (is := 128) (text := "the toll is done") S hG hst hlk htab hl.1 rfl (by decide +kernel) q43 q44 (by decide +kernel) at3a at3b hg3_46 dX5_stop_26 dX5_stop_29 dX5_stop_30 dX5_stop_32 dX5_stop_35 (Nat.le_of_ble_eq_true rfl) (Nat.le_of_ble_eq_true rfl) (Nat.le_of_ble_eq_true rfl) (Nat.le_of_ble_eq_true rfl) (Nat.le_of_ble_eq_true rfl) (Nat.le_of_ble_eq_true rfl)
set_option maxHeartbeats 4000000 in
set_option maxRecDepth 100000 in
theorem met_X5_about (l : Launch) (hst : l.stackTraces = false) (g : GT) (ad : Nat → Nat) (w : Bool) (b : Nat) (σ : Mem) (t : Nat) (p0 : Int32) (p1 : Int32) (rr : (Nat ⊕ Int32)) (h : fn_X5_about σ t p0 p1 = some rr) : vx_Met l yX5_about (wsy yX5_about cX5_about 3 (some .int)) ({ frames := 7, cells := 2, slots := 12, locals := 141 } : Room) (va_Pc [.ref (ad t), .int p0, .int p1] (PB g ad σ b)) (va_Qi (fun (r' : Int32) (u : Mem) => rr = .inr r' ∧ u = σ) (GW g ad) (AA g ad w b)) (XCR g ad σ w b rr) 2 12 (AA g ad w b) := by
  refine vx_ofW (cc := cX5_about) (maxL := 3) (ret := (some .int)) (by decide) rfl ?_
  intro p e s m args below meth c s₁ B hml htab hv
  obtain ⟨rfl, hv⟩ := hv
  have S : CallFix p m c cX5_about 3 s _ AL RX5 := ⟨B.exec, B.bytes, hml, findClass_of_methodNamed B.named, fun w h => atoms_spec (ws := wsy yX5_about cX5_about 3 (some .int)) B.pre w (List.mem_cons_of_mem _ h)⟩
  have hr := B.returns
  have hlk := B.notSynchronized
  have hG : GA g ad σ w b s s.heap [] := GA_start hv
  have hl := lv_entry ([.ref (ad t), .int p0, .int p1]) (n := 3) (Nat.le_of_ble_eq_true rfl)
  rw [lg_entry_eq]
  generalize (lg_sl ([.ref (ad t), .int p0, .int p1]) ++ List.replicate (3 - (lg_sl ([.ref (ad t), .int p0, .int p1])).length) Slot.unset).toArray = ls at hl ⊢
  have hl : lv_has ls 3 [(0, .ref (ad t)), (1, .int p0), (2, .int p1)] := hl
  revert h
  unfold fn_X5_about
  refine v_iload_n S hl 1 rfl rfl dX5_about_0 ?_
  refine v_aload_n S hl 0 rfl rfl dX5_about_1 ?_
  refine gr_5_0 S hG q24 dX5_about_2 (fun r1 => ?_)
  refine gf_4_5 S hG q131 dX5_about_5 ?_
  refine v_xSR S hG [.int p0, .int (σ r1 5)] (met_X5_needIndex l hst g ad w b σ p0 (σ r1 5)) mw_X5_needIndex q11 dX5_about_8 rfl rfl hl.1 (Nat.le_of_ble_eq_true rfl) ⟨(Nat.le_of_ble_eq_true rfl), (Nat.le_of_ble_eq_true rfl)⟩ rfl rfl ⟨(Nat.le_of_ble_eq_true rfl), (Nat.le_of_ble_eq_true rfl)⟩ htab hlk (Nat.le_of_ble_eq_true rfl) (Nat.le_of_ble_eq_true rfl) (fun H locs hG => ?_)
  refine v_iload_n S hl 2 rfl rfl dX5_about_11 ?_
  refine v_bipush S 9 dX5_about_12 (by decide) ?_
  refine v_xSR S hG [.int p1, .int 9] (met_X5_needIndex l hst g ad w b σ p1 9) mw_X5_needIndex q11 dX5_about_14 rfl rfl hl.1 (Nat.le_of_ble_eq_true rfl) ⟨(Nat.le_of_ble_eq_true rfl), (Nat.le_of_ble_eq_true rfl)⟩ rfl rfl ⟨(Nat.le_of_ble_eq_true rfl), (Nat.le_of_ble_eq_true rfl)⟩ htab hlk (Nat.le_of_ble_eq_true rfl) (Nat.le_of_ble_eq_true rfl) (fun H locs hG => ?_)
  refine v_aload_n S hl 0 rfl rfl dX5_about_17 ?_
  refine gr_5_0 S hG q24 dX5_about_18 (fun r2 => ?_)
  refine gr_4_2 S hG q146 dX5_about_21 (fun r3 => ?_)
  refine v_iload_n S hl 1 rfl rfl dX5_about_24 ?_
  refine v_aald_11 S hG dX5_about_25 (fun r4 => ?_)
  refine v_iload_n S hl 2 rfl rfl dX5_about_26 ?_
  refine v_cV_iR S hG [.int p1] rfl rfl (by decide) (met_X3_fact l g ad w b σ r4 p1) mw_X3_fact q167 dX5_about_27 rfl rfl hl.1 (Nat.le_of_ble_eq_true rfl) ⟨Nat.le_of_ble_eq_true rfl, Nat.le_of_ble_eq_true rfl⟩ rfl rfl ⟨Nat.le_of_ble_eq_true rfl, Nat.le_of_ble_eq_true rfl⟩ (fun r5 H locs hG => ?_)
  exact v_iretXR S hG hr hlk (Nat.le_of_ble_eq_true rfl) (Nat.le_of_ble_eq_true rfl) dX5_about_30
set_option maxHeartbeats 4000000 in
set_option maxRecDepth 100000 in
theorem met_X5_heard (l : Launch) (hst : l.stackTraces = false) (g : GT) (ad : Nat → Nat) (w : Bool) (b : Nat) (σ : Mem) (t : Nat) (p0 : Int32) (p1 : Int32) (rr : (Nat ⊕ Int32)) (h : fn_X5_heard σ t p0 p1 = some rr) : vx_Met l yX5_heard (wsy yX5_heard cX5_heard 3 (some .int)) ({ frames := 7, cells := 2, slots := 12, locals := 142 } : Room) (va_Pc [.ref (ad t), .int p0, .int p1] (PB g ad σ b)) (va_Qi (fun (r' : Int32) (u : Mem) => rr = .inr r' ∧ u = σ) (GW g ad) (AA g ad w b)) (XCR g ad σ w b rr) 2 12 (AA g ad w b) := by
  refine vx_ofW (cc := cX5_heard) (maxL := 3) (ret := (some .int)) (by decide) rfl ?_
  intro p e s m args below meth c s₁ B hml htab hv
  obtain ⟨rfl, hv⟩ := hv
  have S : CallFix p m c cX5_heard 3 s _ AL RX5 := ⟨B.exec, B.bytes, hml, findClass_of_methodNamed B.named, fun w h => atoms_spec (ws := wsy yX5_heard cX5_heard 3 (some .int)) B.pre w (List.mem_cons_of_mem _ h)⟩
  have hr := B.returns
  have hlk := B.notSynchronized
  have hG : GA g ad σ w b s s.heap [] := GA_start hv
  have hl := lv_entry ([.ref (ad t), .int p0, .int p1]) (n := 3) (Nat.le_of_ble_eq_true rfl)
  rw [lg_entry_eq]
  generalize (lg_sl ([.ref (ad t), .int p0, .int p1]) ++ List.replicate (3 - (lg_sl ([.ref (ad t), .int p0, .int p1])).length) Slot.unset).toArray = ls at hl ⊢
  have hl : lv_has ls 3 [(0, .ref (ad t)), (1, .int p0), (2, .int p1)] := hl
  revert h
  unfold fn_X5_heard
  refine v_iload_n S hl 1 rfl rfl dX5_heard_0 ?_
  refine v_aload_n S hl 0 rfl rfl dX5_heard_1 ?_
  refine gr_5_0 S hG q24 dX5_heard_2 (fun r1 => ?_)
  refine gf_4_5 S hG q131 dX5_heard_5 ?_
  refine v_xSR S hG [.int p0, .int (σ r1 5)] (met_X5_needIndex l hst g ad w b σ p0 (σ r1 5)) mw_X5_needIndex q11 dX5_heard_8 rfl rfl hl.1 (Nat.le_of_ble_eq_true rfl) ⟨(Nat.le_of_ble_eq_true rfl), (Nat.le_of_ble_eq_true rfl)⟩ rfl rfl ⟨(Nat.le_of_ble_eq_true rfl), (Nat.le_of_ble_eq_true rfl)⟩ htab hlk (Nat.le_of_ble_eq_true rfl) (Nat.le_of_ble_eq_true rfl) (fun H locs hG => ?_)
  refine v_iload_n S hl 2 rfl rfl dX5_heard_11 ?_
  refine v_iconst S 0 dX5_heard_12 rfl ?_
  refine v_bipush S 90 dX5_heard_13 (by decide) ?_
  refine v_xSR S hG [.int p1, .int 0, .int 90] (met_X5_needBetween l hst g ad w b σ p1 0 90) mw_X5_needBetween q21 dX5_heard_15 rfl rfl hl.1 (Nat.le_of_ble_eq_true rfl) ⟨(Nat.le_of_ble_eq_true rfl), (Nat.le_of_ble_eq_true rfl)⟩ rfl rfl ⟨(Nat.le_of_ble_eq_true rfl), (Nat.le_of_ble_eq_true rfl)⟩ htab hlk (Nat.le_of_ble_eq_true rfl) (Nat.le_of_ble_eq_true rfl) (fun H locs hG => ?_)
  refine v_aload_n S hl 0 rfl rfl dX5_heard_18 ?_
  refine gr_5_0 S hG q24 dX5_heard_19 (fun r2 => ?_)
  refine gr_4_2 S hG q146 dX5_heard_22 (fun r3 => ?_)
  refine v_iload_n S hl 1 rfl rfl dX5_heard_25 ?_
  refine v_aald_11 S hG dX5_heard_26 (fun r4 => ?_)
  refine v_iload_n S hl 2 rfl rfl dX5_heard_27 ?_
  refine v_cV_iR S hG [.int p1] rfl rfl (by decide) (met_X3_yearsCounted l g ad w b σ r4 p1) mw_X3_yearsCounted q172 dX5_heard_28 rfl rfl hl.1 (Nat.le_of_ble_eq_true rfl) ⟨Nat.le_of_ble_eq_true rfl, Nat.le_of_ble_eq_true rfl⟩ rfl rfl ⟨Nat.le_of_ble_eq_true rfl, Nat.le_of_ble_eq_true rfl⟩ (fun r5 H locs hG => ?_)
  exact v_iretXR S hG hr hlk (Nat.le_of_ble_eq_true rfl) (Nat.le_of_ble_eq_true rfl) dX5_heard_31
set_option maxHeartbeats 4000000 in
set_option maxRecDepth 100000 in
theorem met_X5_count (l : Launch) (hst : l.stackTraces = false) (g : GT) (ad : Nat → Nat) (w : Bool) (b : Nat) (σ : Mem) (t : Nat) (p0 : Int32) (rr : (Nat ⊕ Int32)) (h : fn_X5_count σ t p0 = some rr) : vx_Met l yX5_count (wsy yX5_count cX5_count 2 (some .int)) ({ frames := 7, cells := 1, slots := 6, locals := 141 } : Room) (va_Pc [.ref (ad t), .int p0] (PB g ad σ b)) (va_Qi (fun (r' : Int32) (u : Mem) => rr = .inr r' ∧ u = σ) (GW g ad) (AA g ad w b)) (XCR g ad σ w b rr) 1 6 (AA g ad w b) := by
  refine vx_ofW (cc := cX5_count) (maxL := 2) (ret := (some .int)) (by decide) rfl ?_
  intro p e s m args below meth c s₁ B hml htab hv
  obtain ⟨rfl, hv⟩ := hv
  have S : CallFix p m c cX5_count 2 s _ AL RX5 := ⟨B.exec, B.bytes, hml, findClass_of_methodNamed B.named, fun w h => atoms_spec (ws := wsy yX5_count cX5_count 2 (some .int)) B.pre w (List.mem_cons_of_mem _ h)⟩
  have hr := B.returns
  have hlk := B.notSynchronized
  have hG : GA g ad σ w b s s.heap [] := GA_start hv
  have hl := lv_entry ([.ref (ad t), .int p0]) (n := 2) (Nat.le_of_ble_eq_true rfl)
  rw [lg_entry_eq]
  generalize (lg_sl ([.ref (ad t), .int p0]) ++ List.replicate (2 - (lg_sl ([.ref (ad t), .int p0])).length) Slot.unset).toArray = ls at hl ⊢
  have hl : lv_has ls 2 [(0, .ref (ad t)), (1, .int p0)] := hl
  revert h
  unfold fn_X5_count
  refine v_iload_n S hl 1 rfl rfl dX5_count_0 ?_
  refine v_bipush S 9 dX5_count_1 (by decide) ?_
  refine v_xSR S hG [.int p0, .int 9] (met_X5_needIndex l hst g ad w b σ p0 9) mw_X5_needIndex q11 dX5_count_3 rfl rfl hl.1 (Nat.le_of_ble_eq_true rfl) ⟨(Nat.le_of_ble_eq_true rfl), (Nat.le_of_ble_eq_true rfl)⟩ rfl rfl ⟨(Nat.le_of_ble_eq_true rfl), (Nat.le_of_ble_eq_true rfl)⟩ htab hlk (Nat.le_of_ble_eq_true rfl) (Nat.le_of_ble_eq_true rfl) (fun H locs hG => ?_)
  refine v_aload_n S hl 0 rfl rfl dX5_count_6 ?_
  refine gr_5_0 S hG q24 dX5_count_7 (fun r1 => ?_)
  refine v_iload_n S hl 1 rfl rfl dX5_count_10 ?_
  refine v_cV_iR S hG [.int p0] rfl rfl (by decide) (met_X4_inAll l g ad w b σ r1 p0) mw_X4_inAll q200 dX5_count_11 rfl rfl hl.1 (Nat.le_of_ble_eq_true rfl) ⟨Nat.le_of_ble_eq_true rfl, Nat.le_of_ble_eq_true rfl⟩ rfl rfl ⟨Nat.le_of_ble_eq_true rfl, Nat.le_of_ble_eq_true rfl⟩ (fun r2 H locs hG => ?_)
  exact v_iretXR S hG hr hlk (Nat.le_of_ble_eq_true rfl) (Nat.le_of_ble_eq_true rfl) dX5_count_14
set_option maxHeartbeats 4000000 in
set_option maxRecDepth 100000 in
theorem met_X5_pass (l : Launch) (hst : l.stackTraces = false) (g : GT) (ad : Nat → Nat) (_ : Bool) (b : Nat) (σ : Mem) (t : Nat) (p0 : Int32) (rr : ((Nat ⊕ Int32) × Mem)) (h : fn_X5_pass σ t p0 = some rr) : vx_Met l yX5_pass (wsy yX5_pass cX5_pass 2 (some .int)) ({ frames := 7, cells := 1, slots := 6, locals := 142 } : Room) (va_Pc [.ref (ad t), .int p0] (PB g ad σ b)) (va_Qi (fun (r' : Int32) (u : Mem) => rr = (.inr r', u)) (GW g ad) (AA g ad true b)) (XCm g ad true b rr) 1 6 (AA g ad true b) := by
  refine vx_ofW (cc := cX5_pass) (maxL := 2) (ret := (some .int)) (by decide) rfl ?_
  intro p e s m args below meth c s₁ B hml htab hv
  obtain ⟨rfl, hv⟩ := hv
  have S : CallFix p m c cX5_pass 2 s _ AL RX5 := ⟨B.exec, B.bytes, hml, findClass_of_methodNamed B.named, fun w h => atoms_spec (ws := wsy yX5_pass cX5_pass 2 (some .int)) B.pre w (List.mem_cons_of_mem _ h)⟩
  have hr := B.returns
  have hlk := B.notSynchronized
  have hG : GA g ad σ true b s s.heap [] := GA_start hv
  have hl := lv_entry ([.ref (ad t), .int p0]) (n := 2) (Nat.le_of_ble_eq_true rfl)
  rw [lg_entry_eq]
  generalize (lg_sl ([.ref (ad t), .int p0]) ++ List.replicate (2 - (lg_sl ([.ref (ad t), .int p0])).length) Slot.unset).toArray = ls at hl ⊢
  have hl : lv_has ls 2 [(0, .ref (ad t)), (1, .int p0)] := hl
  revert h
  unfold fn_X5_pass
  refine v_iload_n S hl 1 rfl rfl dX5_pass_0 ?_
  refine v_iconst S 1 dX5_pass_1 rfl ?_
  refine v_sipush S 240 dX5_pass_2 (by decide) ?_
  refine v_xSm S hG [.int p0, .int 1, .int 240] (met_X5_needBetween l hst g ad true b σ p0 1 240) mw_X5_needBetween q21 dX5_pass_5 rfl rfl hl.1 (Nat.le_of_ble_eq_true rfl) ⟨(Nat.le_of_ble_eq_true rfl), (Nat.le_of_ble_eq_true rfl)⟩ rfl rfl ⟨(Nat.le_of_ble_eq_true rfl), (Nat.le_of_ble_eq_true rfl)⟩ htab hlk (Nat.le_of_ble_eq_true rfl) (Nat.le_of_ble_eq_true rfl) (fun H locs hG => ?_)
  refine v_aload_n S hl 0 rfl rfl dX5_pass_8 ?_
  refine gr_5_0 S hG q24 dX5_pass_9 (fun r1 => ?_)
  refine v_iload_n S hl 1 rfl rfl dX5_pass_12 ?_
  refine v_cV_im S hG [.int p0] rfl rfl (by decide) (met_X4_passMinutes l g ad true b σ r1 p0) mw_X4_passMinutes q275 dX5_pass_13 rfl rfl hl.1 (Nat.le_of_ble_eq_true rfl) ⟨Nat.le_of_ble_eq_true rfl, Nat.le_of_ble_eq_true rfl⟩ rfl rfl ⟨Nat.le_of_ble_eq_true rfl, Nat.le_of_ble_eq_true rfl⟩ (fun r2 σ3 H locs hG => ?_)
  exact v_iretXm S hG hr hlk (Nat.le_of_ble_eq_true rfl) (Nat.le_of_ble_eq_true rfl) dX5_pass_16
set_option maxHeartbeats 4000000 in
set_option maxRecDepth 100000 in
theorem met_X5_ends (l : Launch) (hst : l.stackTraces = false) (g : GT) (ad : Nat → Nat) (_ : Bool) (b : Nat) (σ : Mem) (t : Nat) (p0 : Int32) (rr : ((Nat ⊕ Int32) × Mem)) (h : fn_X5_ends σ t p0 = some rr) : vx_Met l yX5_ends (wsy yX5_ends cX5_ends 2 (some .int)) ({ frames := 7, cells := 1, slots := 6, locals := 141 } : Room) (va_Pc [.ref (ad t), .int p0] (PB g ad σ b)) (va_Qi (fun (r' : Int32) (u : Mem) => rr = (.inr r', u)) (GW g ad) (AA g ad true b)) (XCm g ad true b rr) 1 6 (AA g ad true b) := by
  refine vx_ofW (cc := cX5_ends) (maxL := 2) (ret := (some .int)) (by decide) rfl ?_
  intro p e s m args below meth c s₁ B hml htab hv
  obtain ⟨rfl, hv⟩ := hv
  have S : CallFix p m c cX5_ends 2 s _ AL RX5 := ⟨B.exec, B.bytes, hml, findClass_of_methodNamed B.named, fun w h => atoms_spec (ws := wsy yX5_ends cX5_ends 2 (some .int)) B.pre w (List.mem_cons_of_mem _ h)⟩
  have hr := B.returns
  have hlk := B.notSynchronized
  have hG : GA g ad σ true b s s.heap [] := GA_start hv
  have hl := lv_entry ([.ref (ad t), .int p0]) (n := 2) (Nat.le_of_ble_eq_true rfl)
  rw [lg_entry_eq]
  generalize (lg_sl ([.ref (ad t), .int p0]) ++ List.replicate (2 - (lg_sl ([.ref (ad t), .int p0])).length) Slot.unset).toArray = ls at hl ⊢
  have hl : lv_has ls 2 [(0, .ref (ad t)), (1, .int p0)] := hl
  revert h
  unfold fn_X5_ends
  refine v_iload_n S hl 1 rfl rfl dX5_ends_0 ?_
  refine v_aload_n S hl 0 rfl rfl dX5_ends_1 ?_
  refine gr_5_0 S hG q24 dX5_ends_2 (fun r1 => ?_)
  refine gf_4_5 S hG q131 dX5_ends_5 ?_
  refine v_xSm S hG [.int p0, .int (σ r1 5)] (met_X5_needIndex l hst g ad true b σ p0 (σ r1 5)) mw_X5_needIndex q11 dX5_ends_8 rfl rfl hl.1 (Nat.le_of_ble_eq_true rfl) ⟨(Nat.le_of_ble_eq_true rfl), (Nat.le_of_ble_eq_true rfl)⟩ rfl rfl ⟨(Nat.le_of_ble_eq_true rfl), (Nat.le_of_ble_eq_true rfl)⟩ htab hlk (Nat.le_of_ble_eq_true rfl) (Nat.le_of_ble_eq_true rfl) (fun H locs hG => ?_)
  refine v_aload_n S hl 0 rfl rfl dX5_ends_11 ?_
  refine gr_5_1 S hG q298 dX5_ends_12 (fun r2 => ?_)
  refine v_aload_n S hl 0 rfl rfl dX5_ends_15 ?_
  refine gr_5_0 S hG q24 dX5_ends_16 (fun r3 => ?_)
  refine v_cV_vm S hG [.ref (ad r3)] rfl rfl (by decide) (met_X4_becomeLike l g ad true b σ r2 r3) mw_X4_becomeLike q299 dX5_ends_19 rfl rfl hl.1 (Nat.le_of_ble_eq_true rfl) ⟨Nat.le_of_ble_eq_true rfl, Nat.le_of_ble_eq_true rfl⟩ rfl rfl ⟨Nat.le_of_ble_eq_true rfl, Nat.le_of_ble_eq_true rfl⟩ (fun σ4 H locs hG => ?_)
  refine v_aload_n S hl 0 rfl rfl dX5_ends_22 ?_
  refine gr_5_1 S hG q298 dX5_ends_23 (fun r5 => ?_)
  refine v_iload_n S hl 1 rfl rfl dX5_ends_26 ?_
  refine v_sipush S 600 dX5_ends_27 (by decide) ?_
  refine v_cV_im S hG [.int p0, .int 600] rfl rfl (by decide) (met_X4_passTillDone l g ad true b σ4 r5 p0 600) mw_X4_passTillDone q303 dX5_ends_30 rfl rfl hl.1 (Nat.le_of_ble_eq_true rfl) ⟨Nat.le_of_ble_eq_true rfl, Nat.le_of_ble_eq_true rfl⟩ rfl rfl ⟨Nat.le_of_ble_eq_true rfl, Nat.le_of_ble_eq_true rfl⟩ (fun r6 σ7 H locs hG => ?_)
  exact v_iretXm S hG hr hlk (Nat.le_of_ble_eq_true rfl) (Nat.le_of_ble_eq_true rfl) dX5_ends_33
set_option maxHeartbeats 4000000 in
set_option maxRecDepth 100000 in
theorem met_X5_foresee (l : Launch) (hst : l.stackTraces = false) (g : GT) (ad : Nat → Nat) (_ : Bool) (b : Nat) (σ : Mem) (t : Nat) (p0 : Int32) (p1 : Int32) (rr : ((Nat ⊕ Int32) × Mem)) (h : fn_X5_foresee σ t p0 p1 = some rr) : vx_Met l yX5_foresee (wsy yX5_foresee cX5_foresee 3 (some .int)) ({ frames := 7, cells := 2, slots := 12, locals := 142 } : Room) (va_Pc [.ref (ad t), .int p0, .int p1] (PB g ad σ b)) (va_Qi (fun (r' : Int32) (u : Mem) => rr = (.inr r', u)) (GW g ad) (AA g ad true b)) (XCm g ad true b rr) 2 12 (AA g ad true b) := by
  refine vx_ofW (cc := cX5_foresee) (maxL := 3) (ret := (some .int)) (by decide) rfl ?_
  intro p e s m args below meth c s₁ B hml htab hv
  obtain ⟨rfl, hv⟩ := hv
  have S : CallFix p m c cX5_foresee 3 s _ AL RX5 := ⟨B.exec, B.bytes, hml, findClass_of_methodNamed B.named, fun w h => atoms_spec (ws := wsy yX5_foresee cX5_foresee 3 (some .int)) B.pre w (List.mem_cons_of_mem _ h)⟩
  have hr := B.returns
  have hlk := B.notSynchronized
  have hG : GA g ad σ true b s s.heap [] := GA_start hv
  have hl := lv_entry ([.ref (ad t), .int p0, .int p1]) (n := 3) (Nat.le_of_ble_eq_true rfl)
  rw [lg_entry_eq]
  generalize (lg_sl ([.ref (ad t), .int p0, .int p1]) ++ List.replicate (3 - (lg_sl ([.ref (ad t), .int p0, .int p1])).length) Slot.unset).toArray = ls at hl ⊢
  have hl : lv_has ls 3 [(0, .ref (ad t)), (1, .int p0), (2, .int p1)] := hl
  revert h
  unfold fn_X5_foresee
  refine v_iload_n S hl 1 rfl rfl dX5_foresee_0 ?_
  refine v_iconst S 1 dX5_foresee_1 rfl ?_
  refine v_sipush S 240 dX5_foresee_2 (by decide) ?_
  refine v_xSm S hG [.int p0, .int 1, .int 240] (met_X5_needBetween l hst g ad true b σ p0 1 240) mw_X5_needBetween q21 dX5_foresee_5 rfl rfl hl.1 (Nat.le_of_ble_eq_true rfl) ⟨(Nat.le_of_ble_eq_true rfl), (Nat.le_of_ble_eq_true rfl)⟩ rfl rfl ⟨(Nat.le_of_ble_eq_true rfl), (Nat.le_of_ble_eq_true rfl)⟩ htab hlk (Nat.le_of_ble_eq_true rfl) (Nat.le_of_ble_eq_true rfl) (fun H locs hG => ?_)
  refine v_iload_n S hl 2 rfl rfl dX5_foresee_8 ?_
  refine v_iconst S 2 dX5_foresee_9 rfl ?_
  refine v_icmp_eq S 45 dX5_foresee_10 (by decide) ?_ ?_
  · refine v_aload_n S hl 0 rfl rfl dX5_foresee_45 ?_
    refine gr_5_1 S hG q298 dX5_foresee_46 (fun r1 => ?_)
    refine v_aload_n S hl 0 rfl rfl dX5_foresee_49 ?_
    refine gr_5_0 S hG q24 dX5_foresee_50 (fun r2 => ?_)
    refine v_cV_vm S hG [.ref (ad r2)] rfl rfl (by decide) (met_X4_becomeLike l g ad true b σ r1 r2) mw_X4_becomeLike q299 dX5_foresee_53 rfl rfl hl.1 (Nat.le_of_ble_eq_true rfl) ⟨Nat.le_of_ble_eq_true rfl, Nat.le_of_ble_eq_true rfl⟩ rfl rfl ⟨Nat.le_of_ble_eq_true rfl, Nat.le_of_ble_eq_true rfl⟩ (fun σ3 H locs hG => ?_)
    refine v_aload_n S hl 0 rfl rfl dX5_foresee_56 ?_
    refine gr_5_1 S hG q298 dX5_foresee_57 (fun r4 => ?_)
    refine v_iload_n S hl 1 rfl rfl dX5_foresee_60 ?_
    refine v_cV_im S hG [.int p0] rfl rfl (by decide) (met_X4_passMinutes l g ad true b σ3 r4 p0) mw_X4_passMinutes q275 dX5_foresee_61 rfl rfl hl.1 (Nat.le_of_ble_eq_true rfl) ⟨Nat.le_of_ble_eq_true rfl, Nat.le_of_ble_eq_true rfl⟩ rfl rfl ⟨Nat.le_of_ble_eq_true rfl, Nat.le_of_ble_eq_true rfl⟩ (fun r5 σ6 H locs hG => ?_)
    refine v_pop S dX5_foresee_64 rfl ?_
    refine v_aload_n S hl 0 rfl rfl dX5_foresee_65 ?_
    refine gr_5_1 S hG q298 dX5_foresee_66 (fun r7 => ?_)
    refine v_iload_n S hl 2 rfl rfl dX5_foresee_69 ?_
    refine v_cV_iR S hG [.int p1] rfl rfl (by decide) (met_X4_inAll l g ad true b σ6 r7 p1) mw_X4_inAll q200 dX5_foresee_70 rfl rfl hl.1 (Nat.le_of_ble_eq_true rfl) ⟨Nat.le_of_ble_eq_true rfl, Nat.le_of_ble_eq_true rfl⟩ rfl rfl ⟨Nat.le_of_ble_eq_true rfl, Nat.le_of_ble_eq_true rfl⟩ (fun r8 H locs hG => ?_)
    exact v_iretXm S hG hr hlk (Nat.le_of_ble_eq_true rfl) (Nat.le_of_ble_eq_true rfl) dX5_foresee_73
  · refine v_iload_n S hl 2 rfl rfl dX5_foresee_13 ?_
    refine v_iconst S 4 dX5_foresee_14 rfl ?_
    refine v_icmp_eq S 45 dX5_foresee_15 (by decide) ?_ ?_
    · refine v_aload_n S hl 0 rfl rfl dX5_foresee_45 ?_
      refine gr_5_1 S hG q298 dX5_foresee_46 (fun r9 => ?_)
      refine v_aload_n S hl 0 rfl rfl dX5_foresee_49 ?_
      refine gr_5_0 S hG q24 dX5_foresee_50 (fun r10 => ?_)
      refine v_cV_vm S hG [.ref (ad r10)] rfl rfl (by decide) (met_X4_becomeLike l g ad true b σ r9 r10) mw_X4_becomeLike q299 dX5_foresee_53 rfl rfl hl.1 (Nat.le_of_ble_eq_true rfl) ⟨Nat.le_of_ble_eq_true rfl, Nat.le_of_ble_eq_true rfl⟩ rfl rfl ⟨Nat.le_of_ble_eq_true rfl, Nat.le_of_ble_eq_true rfl⟩ (fun σ11 H locs hG => ?_)
      refine v_aload_n S hl 0 rfl rfl dX5_foresee_56 ?_
      refine gr_5_1 S hG q298 dX5_foresee_57 (fun r12 => ?_)
      refine v_iload_n S hl 1 rfl rfl dX5_foresee_60 ?_
      refine v_cV_im S hG [.int p0] rfl rfl (by decide) (met_X4_passMinutes l g ad true b σ11 r12 p0) mw_X4_passMinutes q275 dX5_foresee_61 rfl rfl hl.1 (Nat.le_of_ble_eq_true rfl) ⟨Nat.le_of_ble_eq_true rfl, Nat.le_of_ble_eq_true rfl⟩ rfl rfl ⟨Nat.le_of_ble_eq_true rfl, Nat.le_of_ble_eq_true rfl⟩ (fun r13 σ14 H locs hG => ?_)
      refine v_pop S dX5_foresee_64 rfl ?_
      refine v_aload_n S hl 0 rfl rfl dX5_foresee_65 ?_
      refine gr_5_1 S hG q298 dX5_foresee_66 (fun r15 => ?_)
      refine v_iload_n S hl 2 rfl rfl dX5_foresee_69 ?_
      refine v_cV_iR S hG [.int p1] rfl rfl (by decide) (met_X4_inAll l g ad true b σ14 r15 p1) mw_X4_inAll q200 dX5_foresee_70 rfl rfl hl.1 (Nat.le_of_ble_eq_true rfl) ⟨Nat.le_of_ble_eq_true rfl, Nat.le_of_ble_eq_true rfl⟩ rfl rfl ⟨Nat.le_of_ble_eq_true rfl, Nat.le_of_ble_eq_true rfl⟩ (fun r16 H locs hG => ?_)
      exact v_iretXm S hG hr hlk (Nat.le_of_ble_eq_true rfl) (Nat.le_of_ble_eq_true rfl) dX5_foresee_73
    · refine v_iload_n S hl 2 rfl rfl dX5_foresee_18 ?_
      refine v_iconst S 5 dX5_foresee_19 rfl ?_
      refine v_icmp_eq S 45 dX5_foresee_20 (by decide) ?_ ?_
      · refine v_aload_n S hl 0 rfl rfl dX5_foresee_45 ?_
        refine gr_5_1 S hG q298 dX5_foresee_46 (fun r17 => ?_)
        refine v_aload_n S hl 0 rfl rfl dX5_foresee_49 ?_
        refine gr_5_0 S hG q24 dX5_foresee_50 (fun r18 => ?_)
        refine v_cV_vm S hG [.ref (ad r18)] rfl rfl (by decide) (met_X4_becomeLike l g ad true b σ r17 r18) mw_X4_becomeLike q299 dX5_foresee_53 rfl rfl hl.1 (Nat.le_of_ble_eq_true rfl) ⟨Nat.le_of_ble_eq_true rfl, Nat.le_of_ble_eq_true rfl⟩ rfl rfl ⟨Nat.le_of_ble_eq_true rfl, Nat.le_of_ble_eq_true rfl⟩ (fun σ19 H locs hG => ?_)
        refine v_aload_n S hl 0 rfl rfl dX5_foresee_56 ?_
        refine gr_5_1 S hG q298 dX5_foresee_57 (fun r20 => ?_)
        refine v_iload_n S hl 1 rfl rfl dX5_foresee_60 ?_
        refine v_cV_im S hG [.int p0] rfl rfl (by decide) (met_X4_passMinutes l g ad true b σ19 r20 p0) mw_X4_passMinutes q275 dX5_foresee_61 rfl rfl hl.1 (Nat.le_of_ble_eq_true rfl) ⟨Nat.le_of_ble_eq_true rfl, Nat.le_of_ble_eq_true rfl⟩ rfl rfl ⟨Nat.le_of_ble_eq_true rfl, Nat.le_of_ble_eq_true rfl⟩ (fun r21 σ22 H locs hG => ?_)
        refine v_pop S dX5_foresee_64 rfl ?_
        refine v_aload_n S hl 0 rfl rfl dX5_foresee_65 ?_
        refine gr_5_1 S hG q298 dX5_foresee_66 (fun r23 => ?_)
        refine v_iload_n S hl 2 rfl rfl dX5_foresee_69 ?_
        refine v_cV_iR S hG [.int p1] rfl rfl (by decide) (met_X4_inAll l g ad true b σ22 r23 p1) mw_X4_inAll q200 dX5_foresee_70 rfl rfl hl.1 (Nat.le_of_ble_eq_true rfl) ⟨Nat.le_of_ble_eq_true rfl, Nat.le_of_ble_eq_true rfl⟩ rfl rfl ⟨Nat.le_of_ble_eq_true rfl, Nat.le_of_ble_eq_true rfl⟩ (fun r24 H locs hG => ?_)
        exact v_iretXm S hG hr hlk (Nat.le_of_ble_eq_true rfl) (Nat.le_of_ble_eq_true rfl) dX5_foresee_73
      · refine v_iload_n S hl 2 rfl rfl dX5_foresee_23 ?_
        refine v_bipush S 6 dX5_foresee_24 (by decide) ?_
        refine v_icmp_eq S 45 dX5_foresee_26 (by decide) ?_ ?_
        · refine v_aload_n S hl 0 rfl rfl dX5_foresee_45 ?_
          refine gr_5_1 S hG q298 dX5_foresee_46 (fun r25 => ?_)
          refine v_aload_n S hl 0 rfl rfl dX5_foresee_49 ?_
          refine gr_5_0 S hG q24 dX5_foresee_50 (fun r26 => ?_)
          refine v_cV_vm S hG [.ref (ad r26)] rfl rfl (by decide) (met_X4_becomeLike l g ad true b σ r25 r26) mw_X4_becomeLike q299 dX5_foresee_53 rfl rfl hl.1 (Nat.le_of_ble_eq_true rfl) ⟨Nat.le_of_ble_eq_true rfl, Nat.le_of_ble_eq_true rfl⟩ rfl rfl ⟨Nat.le_of_ble_eq_true rfl, Nat.le_of_ble_eq_true rfl⟩ (fun σ27 H locs hG => ?_)
          refine v_aload_n S hl 0 rfl rfl dX5_foresee_56 ?_
          refine gr_5_1 S hG q298 dX5_foresee_57 (fun r28 => ?_)
          refine v_iload_n S hl 1 rfl rfl dX5_foresee_60 ?_
          refine v_cV_im S hG [.int p0] rfl rfl (by decide) (met_X4_passMinutes l g ad true b σ27 r28 p0) mw_X4_passMinutes q275 dX5_foresee_61 rfl rfl hl.1 (Nat.le_of_ble_eq_true rfl) ⟨Nat.le_of_ble_eq_true rfl, Nat.le_of_ble_eq_true rfl⟩ rfl rfl ⟨Nat.le_of_ble_eq_true rfl, Nat.le_of_ble_eq_true rfl⟩ (fun r29 σ30 H locs hG => ?_)
          refine v_pop S dX5_foresee_64 rfl ?_
          refine v_aload_n S hl 0 rfl rfl dX5_foresee_65 ?_
          refine gr_5_1 S hG q298 dX5_foresee_66 (fun r31 => ?_)
          refine v_iload_n S hl 2 rfl rfl dX5_foresee_69 ?_
          refine v_cV_iR S hG [.int p1] rfl rfl (by decide) (met_X4_inAll l g ad true b σ30 r31 p1) mw_X4_inAll q200 dX5_foresee_70 rfl rfl hl.1 (Nat.le_of_ble_eq_true rfl) ⟨Nat.le_of_ble_eq_true rfl, Nat.le_of_ble_eq_true rfl⟩ rfl rfl ⟨Nat.le_of_ble_eq_true rfl, Nat.le_of_ble_eq_true rfl⟩ (fun r32 H locs hG => ?_)
          exact v_iretXm S hG hr hlk (Nat.le_of_ble_eq_true rfl) (Nat.le_of_ble_eq_true rfl) dX5_foresee_73
        · refine v_iload_n S hl 2 rfl rfl dX5_foresee_29 ?_
          refine v_bipush S 8 dX5_foresee_30 (by decide) ?_
          refine v_icmp_eq S 45 dX5_foresee_32 (by decide) ?_ ?_
          · refine v_aload_n S hl 0 rfl rfl dX5_foresee_45 ?_
            refine gr_5_1 S hG q298 dX5_foresee_46 (fun r33 => ?_)
            refine v_aload_n S hl 0 rfl rfl dX5_foresee_49 ?_
            refine gr_5_0 S hG q24 dX5_foresee_50 (fun r34 => ?_)
            refine v_cV_vm S hG [.ref (ad r34)] rfl rfl (by decide) (met_X4_becomeLike l g ad true b σ r33 r34) mw_X4_becomeLike q299 dX5_foresee_53 rfl rfl hl.1 (Nat.le_of_ble_eq_true rfl) ⟨Nat.le_of_ble_eq_true rfl, Nat.le_of_ble_eq_true rfl⟩ rfl rfl ⟨Nat.le_of_ble_eq_true rfl, Nat.le_of_ble_eq_true rfl⟩ (fun σ35 H locs hG => ?_)
            refine v_aload_n S hl 0 rfl rfl dX5_foresee_56 ?_
            refine gr_5_1 S hG q298 dX5_foresee_57 (fun r36 => ?_)
            refine v_iload_n S hl 1 rfl rfl dX5_foresee_60 ?_
            refine v_cV_im S hG [.int p0] rfl rfl (by decide) (met_X4_passMinutes l g ad true b σ35 r36 p0) mw_X4_passMinutes q275 dX5_foresee_61 rfl rfl hl.1 (Nat.le_of_ble_eq_true rfl) ⟨Nat.le_of_ble_eq_true rfl, Nat.le_of_ble_eq_true rfl⟩ rfl rfl ⟨Nat.le_of_ble_eq_true rfl, Nat.le_of_ble_eq_true rfl⟩ (fun r37 σ38 H locs hG => ?_)
            refine v_pop S dX5_foresee_64 rfl ?_
            refine v_aload_n S hl 0 rfl rfl dX5_foresee_65 ?_
            refine gr_5_1 S hG q298 dX5_foresee_66 (fun r39 => ?_)
            refine v_iload_n S hl 2 rfl rfl dX5_foresee_69 ?_
            refine v_cV_iR S hG [.int p1] rfl rfl (by decide) (met_X4_inAll l g ad true b σ38 r39 p1) mw_X4_inAll q200 dX5_foresee_70 rfl rfl hl.1 (Nat.le_of_ble_eq_true rfl) ⟨Nat.le_of_ble_eq_true rfl, Nat.le_of_ble_eq_true rfl⟩ rfl rfl ⟨Nat.le_of_ble_eq_true rfl, Nat.le_of_ble_eq_true rfl⟩ (fun r40 H locs hG => ?_)
            exact v_iretXm S hG hr hlk (Nat.le_of_ble_eq_true rfl) (Nat.le_of_ble_eq_true rfl) dX5_foresee_73
          · exact v_throwm (k := 1) (is := 159) (text := "nothing that is foreseen") S hG hst hlk htab hl.1 rfl (by decide +kernel) q8 q9 (by decide +kernel) at1a at1b hg1_157 dX5_foresee_35 dX5_foresee_38 dX5_foresee_39 dX5_foresee_41 dX5_foresee_44 (Nat.le_of_ble_eq_true rfl) (Nat.le_of_ble_eq_true rfl) (Nat.le_of_ble_eq_true rfl) (Nat.le_of_ble_eq_true rfl) (Nat.le_of_ble_eq_true rfl) (Nat.le_of_ble_eq_true rfl)
set_option maxHeartbeats 4000000 in
set_option maxRecDepth 100000 in
theorem wl_X5_choose_17 {p : Program} {l : Launch} {e : Env} {s : State} {m : MethodId} {args : Array Value} {below : List Frame} {meth : Method} {c : Code} {g : GT} {ad : Nat → Nat} {b : Nat} (S : CallFix p m c cX5_choose 9 s args AL RX5) (hr : meth.sig.returnType = some .int) (hlk : meth.locks = false) (a0 : Nat) (a1 : Int32) (a2 : Int32) (a3 : Int32) {rr : ((Nat ⊕ Int32) × Mem)} {K : Int32 → Int32 → Int32 → Mem → Option ((Nat ⊕ Int32) × Mem)} (kx : ∀ (y4 : Int32) (y5 : Int32) (y6 : Int32) (σ : Mem) (H : Heap) (locs : List Loc) (ls : Array Slot), lv_has ls 9 [(0, .ref (ad a0)), (1, .int a1), (2, .int a2), (3, .int a3), (4, .int y4), (5, .int y5), (6, .int y6)] → GA g ad σ true b s H locs → K y4 y5 y6 σ = some rr → W p l e ({ frames := 8, cells := 3, slots := 18, locals := 164 } : Room) s m args below meth c H locs (0 + 3) (0 + 18) (vx_MQ below (va_Qi (fun (r' : Int32) (u : Mem) => rr = (.inr r', u)) (GW g ad) (AA g ad true b)) (XCm g ad true b rr) args s 3 18 (AA g ad true b)) (F0 m 82 ls [])) : ∀ (fuel : Nat) (y4 : Int32) (y5 : Int32) (y6 : Int32) (σ : Mem) (H : Heap) (locs : List Loc) (ls : Array Slot), lv_has ls 9 [(0, .ref (ad a0)), (1, .int a1), (2, .int a2), (3, .int a3), (4, .int y4), (5, .int y5), (6, .int y6)] → GA g ad σ true b s H locs → lp_X5_choose_17 a0 a1 a2 a3 K fuel y4 y5 y6 σ = some rr → W p l e ({ frames := 8, cells := 3, slots := 18, locals := 164 } : Room) s m args below meth c H locs (0 + 3) (0 + 18) (vx_MQ below (va_Qi (fun (r' : Int32) (u : Mem) => rr = (.inr r', u)) (GW g ad) (AA g ad true b)) (XCm g ad true b rr) args s 3 18 (AA g ad true b)) (F0 m 17 ls []) := by
  intro fuel
  induction fuel with
  | zero =>
    intro y4 y5 y6 σ H locs ls hl hG h
    rw [lp_X5_choose_17.eq_1] at h
    cases h
  | succ fuel ih =>
    intro y4 y5 y6 σ H locs ls hl hG
    rw [lp_X5_choose_17.eq_2]
    refine v_iload S hl 6 rfl dX5_choose_17 ?_
    refine v_iconst S 4 dX5_choose_19 rfl ?_
    refine v_icmp_ge S 82 dX5_choose_20 (by decide) ?_ ?_
    · exact kx y4 y5 y6 σ _ _ ls (lv_sub hl [0, 1, 2, 3, 4, 5, 6] rfl) hG
    · refine v_aload_n S hl 0 rfl rfl dX5_choose_23 ?_
      refine gr_5_1 S hG q298 dX5_choose_24 (fun r1 => ?_)
      refine v_aload_n S hl 0 rfl rfl dX5_choose_27 ?_
      refine gr_5_0 S hG q24 dX5_choose_28 (fun r2 => ?_)
      refine v_cV_vm S hG [.ref (ad r2)] rfl rfl (by decide) (met_X4_becomeLike l g ad true b σ r1 r2) mw_X4_becomeLike q299 dX5_choose_31 rfl rfl hl.1 (Nat.le_of_ble_eq_true rfl) ⟨Nat.le_of_ble_eq_true rfl, Nat.le_of_ble_eq_true rfl⟩ rfl rfl ⟨Nat.le_of_ble_eq_true rfl, Nat.le_of_ble_eq_true rfl⟩ (fun σ3 H locs hG => ?_)
      refine v_aload_n S hl 0 rfl rfl dX5_choose_34 ?_
      refine gr_5_1 S hG q298 dX5_choose_35 (fun r4 => ?_)
      refine v_iload S hl 6 rfl dX5_choose_38 ?_
      refine v_iload_n S hl 1 rfl rfl dX5_choose_40 ?_
      refine v_iload_n S hl 2 rfl rfl dX5_choose_41 ?_
      refine v_iload_n S hl 3 rfl rfl dX5_choose_42 ?_
      refine v_cV_im S hG [.int y6, .int a1, .int a2, .int a3] rfl rfl (by decide) (met_X4_addToll l g ad true b σ3 r4 y6 a1 a2 a3) mw_X4_addToll q132 dX5_choose_43 rfl rfl hl.1 (Nat.le_of_ble_eq_true rfl) ⟨Nat.le_of_ble_eq_true rfl, Nat.le_of_ble_eq_true rfl⟩ rfl rfl ⟨Nat.le_of_ble_eq_true rfl, Nat.le_of_ble_eq_true rfl⟩ (fun r5 σ6 H locs hG => ?_)
      refine v_istore S hl [(7, .int r5), (0, .ref (ad a0)), (1, .int a1), (2, .int a2), (3, .int a3), (4, .int y4), (5, .int y5), (6, .int y6)] dX5_choose_46 (by decide) rfl (fun ls hl => ?_)
      refine v_aload_n S hl 1 rfl rfl dX5_choose_48 ?_
      refine gr_5_1 S hG q298 dX5_choose_49 (fun r7 => ?_)
      refine v_iload S hl 0 rfl dX5_choose_52 ?_
      refine v_iload S hl 6 rfl dX5_choose_54 ?_
      refine v_cV_im S hG [.int r5, .int y5] rfl rfl (by decide) (met_X4_passTillDone l g ad true b σ6 r7 r5 y5) mw_X4_passTillDone q303 dX5_choose_56 rfl rfl hl.1 (Nat.le_of_ble_eq_true rfl) ⟨Nat.le_of_ble_eq_true rfl, Nat.le_of_ble_eq_true rfl⟩ rfl rfl ⟨Nat.le_of_ble_eq_true rfl, Nat.le_of_ble_eq_true rfl⟩ (fun r8 σ9 H locs hG => ?_)
      refine v_istore S hl [(8, .int r8), (7, .int r5), (0, .ref (ad a0)), (1, .int a1), (2, .int a2), (3, .int a3), (4, .int y4), (5, .int y5), (6, .int y6)] dX5_choose_59 (by decide) rfl (fun ls hl => ?_)
      refine v_iload S hl 0 rfl dX5_choose_61 ?_
      refine v_if_lt S 76 dX5_choose_63 (by decide) ?_ ?_
      · refine v_iinc S hl 8 rfl dX5_choose_76 rfl (by decide) (fun z => [(6, .int z), (8, .int r8), (7, .int r5), (0, .ref (ad a0)), (1, .int a1), (2, .int a2), (3, .int a3), (4, .int y4), (5, .int y5)]) (fun _ => rfl) (fun x10 ls hl => ?_)
        refine v_goto S 17 dX5_choose_79 (by decide) ?_
        exact ih y4 y5 x10 σ9 _ _ ls (lv_sub hl [3, 4, 5, 6, 7, 8, 0] rfl) hG
      · refine v_iload S hl 8 rfl dX5_choose_66 ?_
        refine v_istore S hl [(4, .int y6), (8, .int r8), (7, .int r5), (0, .ref (ad a0)), (1, .int a1), (2, .int a2), (3, .int a3), (5, .int y5), (6, .int y6)] dX5_choose_68 (by decide) rfl (fun ls hl => ?_)
        refine v_iload S hl 1 rfl dX5_choose_70 ?_
        refine v_iconst S 1 dX5_choose_72 rfl ?_
        refine v_isub S dX5_choose_73 ?_
        refine v_nm (fun x11 => ?_)
        refine v_istore S hl [(5, .int x11), (4, .int y6), (8, .int r8), (7, .int r5), (0, .ref (ad a0)), (1, .int a1), (2, .int a2), (3, .int a3), (6, .int y6)] dX5_choose_74 (by decide) rfl (fun ls hl => ?_)
        refine v_iinc S hl 8 rfl dX5_choose_76 rfl (by decide) (fun z => [(6, .int z), (5, .int x11), (4, .int y6), (8, .int r8), (7, .int r5), (0, .ref (ad a0)), (1, .int a1), (2, .int a2), (3, .int a3)]) (fun _ => rfl) (fun x12 ls hl => ?_)
        refine v_goto S 17 dX5_choose_79 (by decide) ?_
        exact ih y6 x11 x12 σ9 _ _ ls (lv_sub hl [5, 6, 7, 8, 2, 1, 0] rfl) hG
set_option maxHeartbeats 4000000 in
set_option maxRecDepth 100000 in
theorem met_X5_choose (l : Launch) (hst : l.stackTraces = false) (g : GT) (ad : Nat → Nat) (_ : Bool) (b : Nat) (σ : Mem) (t : Nat) (p0 : Int32) (p1 : Int32) (p2 : Int32) (rr : ((Nat ⊕ Int32) × Mem)) (h : fn_X5_choose σ t p0 p1 p2 = some rr) : vx_Met l yX5_choose (wsy yX5_choose cX5_choose 9 (some .int)) ({ frames := 8, cells := 3, slots := 18, locals := 164 } : Room) (va_Pc [.ref (ad t), .int p0, .int p1, .int p2] (PB g ad σ b)) (va_Qi (fun (r' : Int32) (u : Mem) => rr = (.inr r', u)) (GW g ad) (AA g ad true b)) (XCm g ad true b rr) 3 18 (AA g ad true b) := by
  refine vx_ofW (cc := cX5_choose) (maxL := 9) (ret := (some .int)) (by decide) rfl ?_
  intro p e s m args below meth c s₁ B hml htab hv
  obtain ⟨rfl, hv⟩ := hv
  have S : CallFix p m c cX5_choose 9 s _ AL RX5 := ⟨B.exec, B.bytes, hml, findClass_of_methodNamed B.named, fun w h => atoms_spec (ws := wsy yX5_choose cX5_choose 9 (some .int)) B.pre w (List.mem_cons_of_mem _ h)⟩
  have hr := B.returns
  have hlk := B.notSynchronized
  have hG : GA g ad σ true b s s.heap [] := GA_start hv
  have hl := lv_entry ([.ref (ad t), .int p0, .int p1, .int p2]) (n := 9) (Nat.le_of_ble_eq_true rfl)
  rw [lg_entry_eq]
  generalize (lg_sl ([.ref (ad t), .int p0, .int p1, .int p2]) ++ List.replicate (9 - (lg_sl ([.ref (ad t), .int p0, .int p1, .int p2])).length) Slot.unset).toArray = ls at hl ⊢
  have hl : lv_has ls 9 [(0, .ref (ad t)), (1, .int p0), (2, .int p1), (3, .int p2)] := hl
  revert h
  unfold fn_X5_choose
  refine v_iload_n S hl 1 rfl rfl dX5_choose_0 ?_
  refine v_iload_n S hl 2 rfl rfl dX5_choose_1 ?_
  refine v_iload_n S hl 3 rfl rfl dX5_choose_2 ?_
  refine v_xSm S hG [.int p0, .int p1, .int p2] (met_X5_needTollOfSuch l hst g ad true b σ p0 p1 p2) mw_X5_needTollOfSuch q128 dX5_choose_3 rfl rfl hl.1 (Nat.le_of_ble_eq_true rfl) ⟨(Nat.le_of_ble_eq_true rfl), (Nat.le_of_ble_eq_true rfl)⟩ rfl rfl ⟨(Nat.le_of_ble_eq_true rfl), (Nat.le_of_ble_eq_true rfl)⟩ htab hlk (Nat.le_of_ble_eq_true rfl) (Nat.le_of_ble_eq_true rfl) (fun H locs hG => ?_)
  refine v_iconst S (-1) dX5_choose_6 rfl ?_
  refine v_istore S hl [(4, .int (-1)), (0, .ref (ad t)), (1, .int p0), (2, .int p1), (3, .int p2)] dX5_choose_7 (by decide) rfl (fun ls hl => ?_)
  refine v_sipush S 600 dX5_choose_9 (by decide) ?_
  refine v_istore S hl [(5, .int 600), (4, .int (-1)), (0, .ref (ad t)), (1, .int p0), (2, .int p1), (3, .int p2)] dX5_choose_12 (by decide) rfl (fun ls hl => ?_)
  refine v_iconst S 0 dX5_choose_14 rfl ?_
  refine v_istore S hl [(6, .int 0), (5, .int 600), (4, .int (-1)), (0, .ref (ad t)), (1, .int p0), (2, .int p1), (3, .int p2)] dX5_choose_15 (by decide) rfl (fun ls hl => ?_)
  refine wl_X5_choose_17 S hr hlk t p0 p1 p2 (fun x13 x14 x15 σ16 H locs ls hl hG => ?_) 30 (-1) 600 0 σ _ _ ls (lv_sub hl [3, 4, 5, 6, 2, 1, 0] rfl) hG
  refine v_iload S hl 4 rfl dX5_choose_82 ?_
  exact v_iretXm S hG hr hlk (Nat.le_of_ble_eq_true rfl) (Nat.le_of_ble_eq_true rfl) dX5_choose_84
set_option maxHeartbeats 4000000 in
set_option maxRecDepth 100000 in
theorem wl_X5_withBell_6 {p : Program} {l : Launch} {e : Env} {s : State} {m : MethodId} {args : Array Value} {below : List Frame} {meth : Method} {c : Code} {g : GT} {ad : Nat → Nat} {w : Bool} {b : Nat} (S : CallFix p m c cX5_withBell 7 s args AL RX5) (hr : meth.sig.returnType = some .long) (hlk : meth.locks = false) (σ : Mem) (a0 : Nat) (a3 : Int32) {rr : Int64} {K : Int64 → Int32 → Option Int64} (kx : ∀ (y4 : Int64) (y6 : Int32) (H : Heap) (locs : List Loc) (ls : Array Slot), lv_has ls 7 [(0, .ref (ad a0)), (3, .int a3), (4, .long y4), (6, .int y6)] → GA g ad σ w b s H locs → K y4 y6 = some rr → W p l e ({ frames := 3, cells := 0, slots := 0, locals := 66 } : Room) s m args below meth c H locs 0 0 (MQ below (va_Ql (fun (r' : Int64) (u : Mem) => r' = rr ∧ u = σ) (GW g ad) (AA g ad w b)) args s 0 0 (AA g ad w b)) (F0 m 39 ls [])) : ∀ (fuel : Nat) (y4 : Int64) (y6 : Int32) (H : Heap) (locs : List Loc) (ls : Array Slot), lv_has ls 7 [(0, .ref (ad a0)), (3, .int a3), (4, .long y4), (6, .int y6)] → GA g ad σ w b s H locs → lp_X5_withBell_6 σ a0 a3 K fuel y4 y6 = some rr → W p l e ({ frames := 3, cells := 0, slots := 0, locals := 66 } : Room) s m args below meth c H locs 0 0 (MQ below (va_Ql (fun (r' : Int64) (u : Mem) => r' = rr ∧ u = σ) (GW g ad) (AA g ad w b)) args s 0 0 (AA g ad w b)) (F0 m 6 ls []) := by
  intro fuel
  induction fuel with
  | zero =>
    intro y4 y6 H locs ls hl hG h
    rw [lp_X5_withBell_6.eq_1] at h
    cases h
  | succ fuel ih =>
    intro y4 y6 H locs ls hl hG
    rw [lp_X5_withBell_6.eq_2]
    refine v_iload S hl 3 rfl dX5_withBell_6 ?_
    refine v_bipush S 9 dX5_withBell_8 (by decide) ?_
    refine v_icmp_ge S 39 dX5_withBell_10 (by decide) ?_ ?_
    · exact kx y4 y6 _ _ ls (lv_sub hl [0, 1, 2, 3] rfl) hG
    · refine v_lload S hl 2 rfl dX5_withBell_13 ?_
      refine v_ldc2 S 31 q308 dX5_withBell_15 ?_
      refine v_lmul S dX5_withBell_18 ?_
      refine v_aload_n S hl 0 rfl rfl dX5_withBell_19 ?_
      refine gr_5_0 S hG q24 dX5_withBell_20 (fun r1 => ?_)
      refine v_iload_n S hl 1 rfl rfl dX5_withBell_23 ?_
      refine v_iload S hl 3 rfl dX5_withBell_24 ?_
      refine v_cV_iR S hG [.int a3, .int y6] rfl rfl (by decide) (met_X4_ofBell l g ad w b σ r1 a3 y6) mw_X4_ofBell q81 dX5_withBell_26 rfl rfl hl.1 (Nat.le_of_ble_eq_true rfl) ⟨Nat.le_of_ble_eq_true rfl, Nat.le_of_ble_eq_true rfl⟩ rfl rfl ⟨Nat.le_of_ble_eq_true rfl, Nat.le_of_ble_eq_true rfl⟩ (fun r2 H locs hG => ?_)
      refine v_i2l S dX5_withBell_29 ?_
      refine v_ladd S dX5_withBell_30 ?_
      refine v_nml (fun x3 => ?_)
      refine v_lstore S hl [(4, .long x3), (0, .ref (ad a0)), (3, .int a3), (6, .int y6)] dX5_withBell_31 (by decide) rfl (fun ls hl => ?_)
      refine v_iinc S hl 3 rfl dX5_withBell_33 rfl (by decide) (fun z => [(6, .int z), (4, .long x3), (0, .ref (ad a0)), (3, .int a3)]) (fun _ => rfl) (fun x4 ls hl => ?_)
      refine v_goto S 6 dX5_withBell_36 (by decide) ?_
      exact ih x3 x4 _ _ ls (lv_sub hl [2, 3, 1, 0] rfl) hG
set_option maxHeartbeats 4000000 in
set_option maxRecDepth 100000 in
theorem wl_X5_withBell_42 {p : Program} {l : Launch} {e : Env} {s : State} {m : MethodId} {args : Array Value} {below : List Frame} {meth : Method} {c : Code} {g : GT} {ad : Nat → Nat} {w : Bool} {b : Nat} (S : CallFix p m c cX5_withBell 7 s args AL RX5) (hr : meth.sig.returnType = some .long) (hlk : meth.locks = false) (σ : Mem) (a0 : Nat) (a3 : Int32) {rr : Int64} {K : Int64 → Int32 → Option Int64} (kx : ∀ (y4 : Int64) (y6 : Int32) (H : Heap) (locs : List Loc) (ls : Array Slot), lv_has ls 7 [(0, .ref (ad a0)), (3, .int a3), (4, .long y4), (6, .int y6)] → GA g ad σ w b s H locs → K y4 y6 = some rr → W p l e ({ frames := 3, cells := 0, slots := 0, locals := 66 } : Room) s m args below meth c H locs 0 0 (MQ below (va_Ql (fun (r' : Int64) (u : Mem) => r' = rr ∧ u = σ) (GW g ad) (AA g ad w b)) args s 0 0 (AA g ad w b)) (F0 m 78 ls [])) : ∀ (fuel : Nat) (y4 : Int64) (y6 : Int32) (H : Heap) (locs : List Loc) (ls : Array Slot), lv_has ls 7 [(0, .ref (ad a0)), (3, .int a3), (4, .long y4), (6, .int y6)] → GA g ad σ w b s H locs → lp_X5_withBell_42 σ a0 a3 K fuel y4 y6 = some rr → W p l e ({ frames := 3, cells := 0, slots := 0, locals := 66 } : Room) s m args below meth c H locs 0 0 (MQ below (va_Ql (fun (r' : Int64) (u : Mem) => r' = rr ∧ u = σ) (GW g ad) (AA g ad w b)) args s 0 0 (AA g ad w b)) (F0 m 42 ls []) := by
  intro fuel
  induction fuel with
  | zero =>
    intro y4 y6 H locs ls hl hG h
    rw [lp_X5_withBell_42.eq_1] at h
    cases h
  | succ fuel ih =>
    intro y4 y6 H locs ls hl hG
    rw [lp_X5_withBell_42.eq_2]
    refine v_iload S hl 3 rfl dX5_withBell_42 ?_
    refine v_iconst S 2 dX5_withBell_44 rfl ?_
    refine v_icmp_ge S 78 dX5_withBell_45 (by decide) ?_ ?_
    · exact kx y4 y6 _ _ ls (lv_sub hl [0, 1, 2, 3] rfl) hG
    · refine v_lload S hl 2 rfl dX5_withBell_48 ?_
      refine v_ldc2 S 31 q308 dX5_withBell_50 ?_
      refine v_lmul S dX5_withBell_53 ?_
      refine v_aload_n S hl 0 rfl rfl dX5_withBell_54 ?_
      refine gr_5_0 S hG q24 dX5_withBell_55 (fun r7 => ?_)
      refine gr_4_0 S hG q25 dX5_withBell_58 (fun r8 => ?_)
      refine v_iload_n S hl 1 rfl rfl dX5_withBell_61 ?_
      refine v_aald_9 S hG dX5_withBell_62 (fun r9 => ?_)
      refine v_iload S hl 3 rfl dX5_withBell_63 ?_
      refine v_cV_iR S hG [.int y6] rfl rfl (by decide) (met_X0_strokesLeft l g ad w b σ r9 y6) mw_X0_strokesLeft q53 dX5_withBell_65 rfl rfl hl.1 (Nat.le_of_ble_eq_true rfl) ⟨Nat.le_of_ble_eq_true rfl, Nat.le_of_ble_eq_true rfl⟩ rfl rfl ⟨Nat.le_of_ble_eq_true rfl, Nat.le_of_ble_eq_true rfl⟩ (fun r10 H locs hG => ?_)
      refine v_i2l S dX5_withBell_68 ?_
      refine v_ladd S dX5_withBell_69 ?_
      refine v_nml (fun x11 => ?_)
      refine v_lstore S hl [(4, .long x11), (0, .ref (ad a0)), (3, .int a3), (6, .int y6)] dX5_withBell_70 (by decide) rfl (fun ls hl => ?_)
      refine v_iinc S hl 3 rfl dX5_withBell_72 rfl (by decide) (fun z => [(6, .int z), (4, .long x11), (0, .ref (ad a0)), (3, .int a3)]) (fun _ => rfl) (fun x12 ls hl => ?_)
      refine v_goto S 42 dX5_withBell_75 (by decide) ?_
      exact ih x11 x12 _ _ ls (lv_sub hl [2, 3, 1, 0] rfl) hG
set_option maxHeartbeats 4000000 in
set_option maxRecDepth 100000 in
theorem met_X5_withBell (l : Launch) (g : GT) (ad : Nat → Nat) (w : Bool) (b : Nat) (σ : Mem) (t : Nat) (p0 : Int64) (p1 : Int32) (rr : Int64) (h : fn_X5_withBell σ t p0 p1 = some rr) : Met l yX5_withBell (wsy yX5_withBell cX5_withBell 7 (some .long)) ({ frames := 3, cells := 0, slots := 0, locals := 66 } : Room) (va_Pc [.ref (ad t), .long p0, .int p1] (PB g ad σ b)) (va_Ql (fun (r' : Int64) (u : Mem) => r' = rr ∧ u = σ) (GW g ad) (AA g ad w b)) 0 0 (AA g ad w b) := by
  refine Met.ofW (cc := cX5_withBell) (maxL := 7) (ret := (some .long)) (by decide) rfl ?_
  intro p e s m args below meth c s₁ B hml hv
  obtain ⟨rfl, hv⟩ := hv
  have S : CallFix p m c cX5_withBell 7 s _ AL RX5 := ⟨B.exec, B.bytes, hml, findClass_of_methodNamed B.named, fun w h => atoms_spec (ws := wsy yX5_withBell cX5_withBell 7 (some .long)) B.pre w (List.mem_cons_of_mem _ h)⟩
  have hr := B.returns
  have hlk := B.notSynchronized
  have hG : GA g ad σ w b s s.heap [] := GA_start hv
  have hl := lv_entry ([.ref (ad t), .long p0, .int p1]) (n := 7) (Nat.le_of_ble_eq_true rfl)
  rw [lg_entry_eq]
  generalize (lg_sl ([.ref (ad t), .long p0, .int p1]) ++ List.replicate (7 - (lg_sl ([.ref (ad t), .long p0, .int p1])).length) Slot.unset).toArray = ls at hl ⊢
  have hl : lv_has ls 7 [(0, .ref (ad t)), (1, .long p0), (3, .int p1)] := hl
  revert h
  unfold fn_X5_withBell
  refine v_lload_n S hl 1 rfl rfl dX5_withBell_0 ?_
  refine v_lstore S hl [(4, .long p0), (0, .ref (ad t)), (1, .long p0), (3, .int p1)] dX5_withBell_1 (by decide) rfl (fun ls hl => ?_)
  refine v_iconst S 0 dX5_withBell_3 rfl ?_
  refine v_istore S hl [(6, .int 0), (4, .long p0), (0, .ref (ad t)), (1, .long p0), (3, .int p1)] dX5_withBell_4 (by decide) rfl (fun ls hl => ?_)
  refine wl_X5_withBell_6 S hr hlk σ t p1 (fun x5 x6 H locs ls hl hG => ?_) 30 p0 0 _ _ ls (lv_sub hl [2, 4, 1, 0] rfl) hG
  refine v_iconst S 0 dX5_withBell_39 rfl ?_
  refine v_istore S hl [(6, .int 0), (0, .ref (ad t)), (3, .int p1), (4, .long x5)] dX5_withBell_40 (by decide) rfl (fun ls hl => ?_)
  refine wl_X5_withBell_42 S hr hlk σ t p1 (fun x13 x14 H locs ls hl hG => ?_) 30 x5 0 _ _ ls (lv_sub hl [1, 2, 3, 0] rfl) hG
  refine v_lload S hl 2 rfl dX5_withBell_78 ?_
  exact v_lretR S hG hr hlk (Nat.le_of_ble_eq_true rfl) (Nat.le_of_ble_eq_true rfl) dX5_withBell_80
set_option maxHeartbeats 4000000 in
set_option maxRecDepth 100000 in
theorem wl_X5_withRinger_5 {p : Program} {l : Launch} {e : Env} {s : State} {m : MethodId} {args : Array Value} {below : List Frame} {meth : Method} {c : Code} {g : GT} {ad : Nat → Nat} {w : Bool} {b : Nat} (S : CallFix p m c cX5_withRinger 6 s args AL RX5) (hr : meth.sig.returnType = some .long) (hlk : meth.locks = false) (σ : Mem) (a2 : Nat) {rr : Int64} {K : Int64 → Int32 → Option Int64} (kx : ∀ (y3 : Int64) (y5 : Int32) (H : Heap) (locs : List Loc) (ls : Array Slot), lv_has ls 6 [(2, .ref (ad a2)), (3, .long y3), (5, .int y5)] → GA g ad σ w b s H locs → K y3 y5 = some rr → W p l e ({ frames := 1, cells := 0, slots := 0, locals := 21 } : Room) s m args below meth c H locs 0 0 (MQ below (va_Ql (fun (r' : Int64) (u : Mem) => r' = rr ∧ u = σ) (GW g ad) (AA g ad w b)) args s 0 0 (AA g ad w b)) (F0 m 31 ls [])) : ∀ (fuel : Nat) (y3 : Int64) (y5 : Int32) (H : Heap) (locs : List Loc) (ls : Array Slot), lv_has ls 6 [(2, .ref (ad a2)), (3, .long y3), (5, .int y5)] → GA g ad σ w b s H locs → lp_X5_withRinger_5 σ a2 K fuel y3 y5 = some rr → W p l e ({ frames := 1, cells := 0, slots := 0, locals := 21 } : Room) s m args below meth c H locs 0 0 (MQ below (va_Ql (fun (r' : Int64) (u : Mem) => r' = rr ∧ u = σ) (GW g ad) (AA g ad w b)) args s 0 0 (AA g ad w b)) (F0 m 5 ls []) := by
  intro fuel
  induction fuel with
  | zero =>
    intro y3 y5 H locs ls hl hG h
    rw [lp_X5_withRinger_5.eq_1] at h
    cases h
  | succ fuel ih =>
    intro y3 y5 H locs ls hl hG
    rw [lp_X5_withRinger_5.eq_2]
    refine v_iload S hl 2 rfl dX5_withRinger_5 ?_
    refine v_iconst S 5 dX5_withRinger_7 rfl ?_
    refine v_icmp_ge S 31 dX5_withRinger_8 (by decide) ?_ ?_
    · exact kx y3 y5 _ _ ls (lv_sub hl [0, 1, 2] rfl) hG
    · refine v_lload_n S hl 1 rfl rfl dX5_withRinger_11 ?_
      refine v_ldc2 S 31 q308 dX5_withRinger_12 ?_
      refine v_lmul S dX5_withRinger_15 ?_
      refine v_aload_n S hl 0 rfl rfl dX5_withRinger_16 ?_
      refine v_iload S hl 2 rfl dX5_withRinger_17 ?_
      refine v_cV_iR S hG [.int y5] rfl rfl (by decide) (met_X2_fact l g ad w b σ a2 y5) mw_X2_fact q114 dX5_withRinger_19 rfl rfl hl.1 (Nat.le_of_ble_eq_true rfl) ⟨Nat.le_of_ble_eq_true rfl, Nat.le_of_ble_eq_true rfl⟩ rfl rfl ⟨Nat.le_of_ble_eq_true rfl, Nat.le_of_ble_eq_true rfl⟩ (fun r1 H locs hG => ?_)
      refine v_i2l S dX5_withRinger_22 ?_
      refine v_ladd S dX5_withRinger_23 ?_
      refine v_nml (fun x2 => ?_)
      refine v_lstore_n S hl [(3, .long x2), (2, .ref (ad a2)), (5, .int y5)] rfl dX5_withRinger_24 (by decide) rfl (fun ls hl => ?_)
      refine v_iinc S hl 2 rfl dX5_withRinger_25 rfl (by decide) (fun z => [(5, .int z), (3, .long x2), (2, .ref (ad a2))]) (fun _ => rfl) (fun x3 ls hl => ?_)
      refine v_goto S 5 dX5_withRinger_28 (by decide) ?_
      exact ih x2 x3 _ _ ls (lv_sub hl [2, 1, 0] rfl) hG
set_option maxHeartbeats 4000000 in
set_option maxRecDepth 100000 in
theorem met_X5_withRinger (l : Launch) (g : GT) (ad : Nat → Nat) (w : Bool) (b : Nat) (σ : Mem) (p0 : Int64) (p1 : Nat) (rr : Int64) (h : fn_X5_withRinger σ p0 p1 = some rr) : Met l yX5_withRinger (wsy yX5_withRinger cX5_withRinger 6 (some .long)) ({ frames := 1, cells := 0, slots := 0, locals := 21 } : Room) (va_Pc [.long p0, .ref (ad p1)] (PB g ad σ b)) (va_Ql (fun (r' : Int64) (u : Mem) => r' = rr ∧ u = σ) (GW g ad) (AA g ad w b)) 0 0 (AA g ad w b) := by
  refine Met.ofW (cc := cX5_withRinger) (maxL := 6) (ret := (some .long)) (by decide) rfl ?_
  intro p e s m args below meth c s₁ B hml hv
  obtain ⟨rfl, hv⟩ := hv
  have S : CallFix p m c cX5_withRinger 6 s _ AL RX5 := ⟨B.exec, B.bytes, hml, findClass_of_methodNamed B.named, fun w h => atoms_spec (ws := wsy yX5_withRinger cX5_withRinger 6 (some .long)) B.pre w (List.mem_cons_of_mem _ h)⟩
  have hr := B.returns
  have hlk := B.notSynchronized
  have hG : GA g ad σ w b s s.heap [] := GA_start hv
  have hl := lv_entry ([.long p0, .ref (ad p1)]) (n := 6) (Nat.le_of_ble_eq_true rfl)
  rw [lg_entry_eq]
  generalize (lg_sl ([.long p0, .ref (ad p1)]) ++ List.replicate (6 - (lg_sl ([.long p0, .ref (ad p1)])).length) Slot.unset).toArray = ls at hl ⊢
  have hl : lv_has ls 6 [(0, .long p0), (2, .ref (ad p1))] := hl
  revert h
  unfold fn_X5_withRinger
  refine v_lload_n S hl 0 rfl rfl dX5_withRinger_0 ?_
  refine v_lstore_n S hl [(3, .long p0), (0, .long p0), (2, .ref (ad p1))] rfl dX5_withRinger_1 (by decide) rfl (fun ls hl => ?_)
  refine v_iconst S 0 dX5_withRinger_2 rfl ?_
  refine v_istore S hl [(5, .int 0), (3, .long p0), (0, .long p0), (2, .ref (ad p1))] dX5_withRinger_3 (by decide) rfl (fun ls hl => ?_)
  refine wl_X5_withRinger_5 S hr hlk σ p1 (fun x4 x5 H locs ls hl hG => ?_) 30 p0 0 _ _ ls (lv_sub hl [3, 1, 0] rfl) hG
  refine v_lload_n S hl 1 rfl rfl dX5_withRinger_31 ?_
  exact v_lretR S hG hr hlk (Nat.le_of_ble_eq_true rfl) (Nat.le_of_ble_eq_true rfl) dX5_withRinger_32
set_option maxHeartbeats 4000000 in
set_option maxRecDepth 100000 in
theorem wl_X5_withToll_5 {p : Program} {l : Launch} {e : Env} {s : State} {m : MethodId} {args : Array Value} {below : List Frame} {meth : Method} {c : Code} {g : GT} {ad : Nat → Nat} {w : Bool} {b : Nat} (S : CallFix p m c cX5_withToll 6 s args AL RX5) (hr : meth.sig.returnType = some .long) (hlk : meth.locks = false) (σ : Mem) (a2 : Nat) {rr : Int64} {K : Int64 → Int32 → Option Int64} (kx : ∀ (y3 : Int64) (y5 : Int32) (H : Heap) (locs : List Loc) (ls : Array Slot), lv_has ls 6 [(2, .ref (ad a2)), (3, .long y3), (5, .int y5)] → GA g ad σ w b s H locs → K y3 y5 = some rr → W p l e ({ frames := 3, cells := 0, slots := 0, locals := 62 } : Room) s m args below meth c H locs 0 0 (MQ below (va_Ql (fun (r' : Int64) (u : Mem) => r' = rr ∧ u = σ) (GW g ad) (AA g ad w b)) args s 0 0 (AA g ad w b)) (F0 m 32 ls [])) : ∀ (fuel : Nat) (y3 : Int64) (y5 : Int32) (H : Heap) (locs : List Loc) (ls : Array Slot), lv_has ls 6 [(2, .ref (ad a2)), (3, .long y3), (5, .int y5)] → GA g ad σ w b s H locs → lp_X5_withToll_5 σ a2 K fuel y3 y5 = some rr → W p l e ({ frames := 3, cells := 0, slots := 0, locals := 62 } : Room) s m args below meth c H locs 0 0 (MQ below (va_Ql (fun (r' : Int64) (u : Mem) => r' = rr ∧ u = σ) (GW g ad) (AA g ad w b)) args s 0 0 (AA g ad w b)) (F0 m 5 ls []) := by
  intro fuel
  induction fuel with
  | zero =>
    intro y3 y5 H locs ls hl hG h
    rw [lp_X5_withToll_5.eq_1] at h
    cases h
  | succ fuel ih =>
    intro y3 y5 H locs ls hl hG
    rw [lp_X5_withToll_5.eq_2]
    refine v_iload S hl 2 rfl dX5_withToll_5 ?_
    refine v_bipush S 9 dX5_withToll_7 (by decide) ?_
    refine v_icmp_ge S 32 dX5_withToll_9 (by decide) ?_ ?_
    · exact kx y3 y5 _ _ ls (lv_sub hl [0, 1, 2] rfl) hG
    · refine v_lload_n S hl 1 rfl rfl dX5_withToll_12 ?_
      refine v_ldc2 S 31 q308 dX5_withToll_13 ?_
      refine v_lmul S dX5_withToll_16 ?_
      refine v_aload_n S hl 0 rfl rfl dX5_withToll_17 ?_
      refine v_iload S hl 2 rfl dX5_withToll_18 ?_
      refine v_cV_iR S hG [.int y5] rfl rfl (by decide) (met_X3_fact l g ad w b σ a2 y5) mw_X3_fact q167 dX5_withToll_20 rfl rfl hl.1 (Nat.le_of_ble_eq_true rfl) ⟨Nat.le_of_ble_eq_true rfl, Nat.le_of_ble_eq_true rfl⟩ rfl rfl ⟨Nat.le_of_ble_eq_true rfl, Nat.le_of_ble_eq_true rfl⟩ (fun r1 H locs hG => ?_)
      refine v_i2l S dX5_withToll_23 ?_
      refine v_ladd S dX5_withToll_24 ?_
      refine v_nml (fun x2 => ?_)
      refine v_lstore_n S hl [(3, .long x2), (2, .ref (ad a2)), (5, .int y5)] rfl dX5_withToll_25 (by decide) rfl (fun ls hl => ?_)
      refine v_iinc S hl 2 rfl dX5_withToll_26 rfl (by decide) (fun z => [(5, .int z), (3, .long x2), (2, .ref (ad a2))]) (fun _ => rfl) (fun x3 ls hl => ?_)
      refine v_goto S 5 dX5_withToll_29 (by decide) ?_
      exact ih x2 x3 _ _ ls (lv_sub hl [2, 1, 0] rfl) hG
set_option maxHeartbeats 4000000 in
set_option maxRecDepth 100000 in
theorem wl_X5_withToll_36 {p : Program} {l : Launch} {e : Env} {s : State} {m : MethodId} {args : Array Value} {below : List Frame} {meth : Method} {c : Code} {g : GT} {ad : Nat → Nat} {w : Bool} {b : Nat} (S : CallFix p m c cX5_withToll 6 s args AL RX5) (hr : meth.sig.returnType = some .long) (hlk : meth.locks = false) (σ : Mem) (a2 : Nat) {rr : Int64} {K : Int64 → Int32 → Option Int64} (kx : ∀ (y3 : Int64) (y5 : Int32) (H : Heap) (locs : List Loc) (ls : Array Slot), lv_has ls 6 [(2, .ref (ad a2)), (3, .long y3), (5, .int y5)] → GA g ad σ w b s H locs → K y3 y5 = some rr → W p l e ({ frames := 3, cells := 0, slots := 0, locals := 62 } : Room) s m args below meth c H locs 0 0 (MQ below (va_Ql (fun (r' : Int64) (u : Mem) => r' = rr ∧ u = σ) (GW g ad) (AA g ad w b)) args s 0 0 (AA g ad w b)) (F0 m 63 ls [])) : ∀ (fuel : Nat) (y3 : Int64) (y5 : Int32) (H : Heap) (locs : List Loc) (ls : Array Slot), lv_has ls 6 [(2, .ref (ad a2)), (3, .long y3), (5, .int y5)] → GA g ad σ w b s H locs → lp_X5_withToll_36 σ a2 K fuel y3 y5 = some rr → W p l e ({ frames := 3, cells := 0, slots := 0, locals := 62 } : Room) s m args below meth c H locs 0 0 (MQ below (va_Ql (fun (r' : Int64) (u : Mem) => r' = rr ∧ u = σ) (GW g ad) (AA g ad w b)) args s 0 0 (AA g ad w b)) (F0 m 36 ls []) := by
  intro fuel
  induction fuel with
  | zero =>
    intro y3 y5 H locs ls hl hG h
    rw [lp_X5_withToll_36.eq_1] at h
    cases h
  | succ fuel ih =>
    intro y3 y5 H locs ls hl hG
    rw [lp_X5_withToll_36.eq_2]
    refine v_iload S hl 2 rfl dX5_withToll_36 ?_
    refine v_bipush S 90 dX5_withToll_38 (by decide) ?_
    refine v_icmp_gt S 63 dX5_withToll_40 (by decide) ?_ ?_
    · exact kx y3 y5 _ _ ls (lv_sub hl [0, 1, 2] rfl) hG
    · refine v_lload_n S hl 1 rfl rfl dX5_withToll_43 ?_
      refine v_ldc2 S 31 q308 dX5_withToll_44 ?_
      refine v_lmul S dX5_withToll_47 ?_
      refine v_aload_n S hl 0 rfl rfl dX5_withToll_48 ?_
      refine v_iload S hl 2 rfl dX5_withToll_49 ?_
      refine v_cV_iR S hG [.int y5] rfl rfl (by decide) (met_X3_yearsCounted l g ad w b σ a2 y5) mw_X3_yearsCounted q172 dX5_withToll_51 rfl rfl hl.1 (Nat.le_of_ble_eq_true rfl) ⟨Nat.le_of_ble_eq_true rfl, Nat.le_of_ble_eq_true rfl⟩ rfl rfl ⟨Nat.le_of_ble_eq_true rfl, Nat.le_of_ble_eq_true rfl⟩ (fun r6 H locs hG => ?_)
      refine v_i2l S dX5_withToll_54 ?_
      refine v_ladd S dX5_withToll_55 ?_
      refine v_nml (fun x7 => ?_)
      refine v_lstore_n S hl [(3, .long x7), (2, .ref (ad a2)), (5, .int y5)] rfl dX5_withToll_56 (by decide) rfl (fun ls hl => ?_)
      refine v_iinc S hl 2 rfl dX5_withToll_57 rfl (by decide) (fun z => [(5, .int z), (3, .long x7), (2, .ref (ad a2))]) (fun _ => rfl) (fun x8 ls hl => ?_)
      refine v_goto S 36 dX5_withToll_60 (by decide) ?_
      exact ih x7 x8 _ _ ls (lv_sub hl [2, 1, 0] rfl) hG
set_option maxHeartbeats 4000000 in
set_option maxRecDepth 100000 in
theorem met_X5_withToll (l : Launch) (g : GT) (ad : Nat → Nat) (w : Bool) (b : Nat) (σ : Mem) (p0 : Int64) (p1 : Nat) (rr : Int64) (h : fn_X5_withToll σ p0 p1 = some rr) : Met l yX5_withToll (wsy yX5_withToll cX5_withToll 6 (some .long)) ({ frames := 3, cells := 0, slots := 0, locals := 62 } : Room) (va_Pc [.long p0, .ref (ad p1)] (PB g ad σ b)) (va_Ql (fun (r' : Int64) (u : Mem) => r' = rr ∧ u = σ) (GW g ad) (AA g ad w b)) 0 0 (AA g ad w b) := by
  refine Met.ofW (cc := cX5_withToll) (maxL := 6) (ret := (some .long)) (by decide) rfl ?_
  intro p e s m args below meth c s₁ B hml hv
  obtain ⟨rfl, hv⟩ := hv
  have S : CallFix p m c cX5_withToll 6 s _ AL RX5 := ⟨B.exec, B.bytes, hml, findClass_of_methodNamed B.named, fun w h => atoms_spec (ws := wsy yX5_withToll cX5_withToll 6 (some .long)) B.pre w (List.mem_cons_of_mem _ h)⟩
  have hr := B.returns
  have hlk := B.notSynchronized
  have hG : GA g ad σ w b s s.heap [] := GA_start hv
  have hl := lv_entry ([.long p0, .ref (ad p1)]) (n := 6) (Nat.le_of_ble_eq_true rfl)
  rw [lg_entry_eq]
  generalize (lg_sl ([.long p0, .ref (ad p1)]) ++ List.replicate (6 - (lg_sl ([.long p0, .ref (ad p1)])).length) Slot.unset).toArray = ls at hl ⊢
  have hl : lv_has ls 6 [(0, .long p0), (2, .ref (ad p1))] := hl
  revert h
  unfold fn_X5_withToll
  refine v_lload_n S hl 0 rfl rfl dX5_withToll_0 ?_
  refine v_lstore_n S hl [(3, .long p0), (0, .long p0), (2, .ref (ad p1))] rfl dX5_withToll_1 (by decide) rfl (fun ls hl => ?_)
  refine v_iconst S 0 dX5_withToll_2 rfl ?_
  refine v_istore S hl [(5, .int 0), (3, .long p0), (0, .long p0), (2, .ref (ad p1))] dX5_withToll_3 (by decide) rfl (fun ls hl => ?_)
  refine wl_X5_withToll_5 S hr hlk σ p1 (fun x4 x5 H locs ls hl hG => ?_) 30 p0 0 _ _ ls (lv_sub hl [3, 1, 0] rfl) hG
  refine v_bipush S 10 dX5_withToll_32 (by decide) ?_
  refine v_istore S hl [(5, .int 10), (2, .ref (ad p1)), (3, .long x4)] dX5_withToll_34 (by decide) rfl (fun ls hl => ?_)
  refine wl_X5_withToll_36 S hr hlk σ p1 (fun x9 x10 H locs ls hl hG => ?_) 30 x4 10 _ _ ls (lv_sub hl [1, 2, 0] rfl) hG
  refine v_lload_n S hl 1 rfl rfl dX5_withToll_63 ?_
  exact v_lretR S hG hr hlk (Nat.le_of_ble_eq_true rfl) (Nat.le_of_ble_eq_true rfl) dX5_withToll_64
set_option maxHeartbeats 4000000 in
set_option maxRecDepth 100000 in
theorem wl_X5_digest_6 {p : Program} {l : Launch} {e : Env} {s : State} {m : MethodId} {args : Array Value} {below : List Frame} {meth : Method} {c : Code} {g : GT} {ad : Nat → Nat} {w : Bool} {b : Nat} (S : CallFix p m c cX5_digest 4 s args AL RX5) (hr : meth.sig.returnType = some .long) (hlk : meth.locks = false) (σ : Mem) (a0 : Nat) {rr : Int64} {K : Int64 → Int32 → Option Int64} (kx : ∀ (y1 : Int64) (y3 : Int32) (H : Heap) (locs : List Loc) (ls : Array Slot), lv_has ls 4 [(0, .ref (ad a0)), (1, .long y1), (3, .int y3)] → GA g ad σ w b s H locs → K y1 y3 = some rr → W p l e ({ frames := 4, cells := 0, slots := 0, locals := 92 } : Room) s m args below meth c H locs 0 0 (MQ below (va_Ql (fun (r' : Int64) (u : Mem) => r' = rr ∧ u = σ) (GW g ad) (AA g ad w b)) args s 0 0 (AA g ad w b)) (F0 m 34 ls [])) : ∀ (fuel : Nat) (y1 : Int64) (y3 : Int32) (H : Heap) (locs : List Loc) (ls : Array Slot), lv_has ls 4 [(0, .ref (ad a0)), (1, .long y1), (3, .int y3)] → GA g ad σ w b s H locs → lp_X5_digest_6 σ a0 K fuel y1 y3 = some rr → W p l e ({ frames := 4, cells := 0, slots := 0, locals := 92 } : Room) s m args below meth c H locs 0 0 (MQ below (va_Ql (fun (r' : Int64) (u : Mem) => r' = rr ∧ u = σ) (GW g ad) (AA g ad w b)) args s 0 0 (AA g ad w b)) (F0 m 6 ls []) := by
  intro fuel
  induction fuel with
  | zero =>
    intro y1 y3 H locs ls hl hG h
    rw [lp_X5_digest_6.eq_1] at h
    cases h
  | succ fuel ih =>
    intro y1 y3 H locs ls hl hG
    rw [lp_X5_digest_6.eq_2]
    refine v_iload_n S hl 2 rfl rfl dX5_digest_6 ?_
    refine v_bipush S 9 dX5_digest_7 (by decide) ?_
    refine v_icmp_ge S 34 dX5_digest_9 (by decide) ?_ ?_
    · exact kx y1 y3 _ _ ls (lv_sub hl [0, 1, 2] rfl) hG
    · refine v_lload_n S hl 1 rfl rfl dX5_digest_12 ?_
      refine v_ldc2 S 31 q308 dX5_digest_13 ?_
      refine v_lmul S dX5_digest_16 ?_
      refine v_aload_n S hl 0 rfl rfl dX5_digest_17 ?_
      refine gr_5_0 S hG q24 dX5_digest_18 (fun r1 => ?_)
      refine v_iload_n S hl 2 rfl rfl dX5_digest_21 ?_
      refine v_cV_iR S hG [.int y3] rfl rfl (by decide) (met_X4_inAll l g ad w b σ r1 y3) mw_X4_inAll q200 dX5_digest_22 rfl rfl hl.1 (Nat.le_of_ble_eq_true rfl) ⟨Nat.le_of_ble_eq_true rfl, Nat.le_of_ble_eq_true rfl⟩ rfl rfl ⟨Nat.le_of_ble_eq_true rfl, Nat.le_of_ble_eq_true rfl⟩ (fun r2 H locs hG => ?_)
      refine v_i2l S dX5_digest_25 ?_
      refine v_ladd S dX5_digest_26 ?_
      refine v_nml (fun x3 => ?_)
      refine v_lstore_n S hl [(1, .long x3), (0, .ref (ad a0)), (3, .int y3)] rfl dX5_digest_27 (by decide) rfl (fun ls hl => ?_)
      refine v_iinc S hl 2 rfl dX5_digest_28 rfl (by decide) (fun z => [(3, .int z), (1, .long x3), (0, .ref (ad a0))]) (fun _ => rfl) (fun x4 ls hl => ?_)
      refine v_goto S 6 dX5_digest_31 (by decide) ?_
      exact ih x3 x4 _ _ ls (lv_sub hl [2, 1, 0] rfl) hG
set_option maxHeartbeats 4000000 in
set_option maxRecDepth 100000 in
theorem wl_X5_digest_36 {p : Program} {l : Launch} {e : Env} {s : State} {m : MethodId} {args : Array Value} {below : List Frame} {meth : Method} {c : Code} {g : GT} {ad : Nat → Nat} {w : Bool} {b : Nat} (S : CallFix p m c cX5_digest 4 s args AL RX5) (hr : meth.sig.returnType = some .long) (hlk : meth.locks = false) (σ : Mem) (a0 : Nat) {rr : Int64} {K : Int64 → Int32 → Option Int64} (kx : ∀ (y1 : Int64) (y3 : Int32) (H : Heap) (locs : List Loc) (ls : Array Slot), lv_has ls 4 [(0, .ref (ad a0)), (1, .long y1), (3, .int y3)] → GA g ad σ w b s H locs → K y1 y3 = some rr → W p l e ({ frames := 4, cells := 0, slots := 0, locals := 92 } : Room) s m args below meth c H locs 0 0 (MQ below (va_Ql (fun (r' : Int64) (u : Mem) => r' = rr ∧ u = σ) (GW g ad) (AA g ad w b)) args s 0 0 (AA g ad w b)) (F0 m 54 ls [])) : ∀ (fuel : Nat) (y1 : Int64) (y3 : Int32) (H : Heap) (locs : List Loc) (ls : Array Slot), lv_has ls 4 [(0, .ref (ad a0)), (1, .long y1), (3, .int y3)] → GA g ad σ w b s H locs → lp_X5_digest_36 σ a0 K fuel y1 y3 = some rr → W p l e ({ frames := 4, cells := 0, slots := 0, locals := 92 } : Room) s m args below meth c H locs 0 0 (MQ below (va_Ql (fun (r' : Int64) (u : Mem) => r' = rr ∧ u = σ) (GW g ad) (AA g ad w b)) args s 0 0 (AA g ad w b)) (F0 m 36 ls []) := by
  intro fuel
  induction fuel with
  | zero =>
    intro y1 y3 H locs ls hl hG h
    rw [lp_X5_digest_36.eq_1] at h
    cases h
  | succ fuel ih =>
    intro y1 y3 H locs ls hl hG
    rw [lp_X5_digest_36.eq_2]
    refine v_iload_n S hl 2 rfl rfl dX5_digest_36 ?_
    refine v_iconst S 4 dX5_digest_37 rfl ?_
    refine v_icmp_ge S 54 dX5_digest_38 (by decide) ?_ ?_
    · exact kx y1 y3 _ _ ls (lv_sub hl [0, 1, 2] rfl) hG
    · refine v_aload_n S hl 0 rfl rfl dX5_digest_41 ?_
      refine v_lload_n S hl 1 rfl rfl dX5_digest_42 ?_
      refine v_iload_n S hl 2 rfl rfl dX5_digest_43 ?_
      refine v_cV_lR S hG [.long y1, .int y3] rfl rfl (by decide) (met_X5_withBell l g ad w b σ a0 y1 y3) mw_X5_withBell q310 dX5_digest_44 rfl rfl hl.1 (Nat.le_of_ble_eq_true rfl) ⟨Nat.le_of_ble_eq_true rfl, Nat.le_of_ble_eq_true rfl⟩ rfl rfl ⟨Nat.le_of_ble_eq_true rfl, Nat.le_of_ble_eq_true rfl⟩ (fun r7 H locs hG => ?_)
      refine v_lstore_n S hl [(1, .long r7), (0, .ref (ad a0)), (3, .int y3)] rfl dX5_digest_47 (by decide) rfl (fun ls hl => ?_)
      refine v_iinc S hl 2 rfl dX5_digest_48 rfl (by decide) (fun z => [(3, .int z), (1, .long r7), (0, .ref (ad a0))]) (fun _ => rfl) (fun x8 ls hl => ?_)
      refine v_goto S 36 dX5_digest_51 (by decide) ?_
      exact ih r7 x8 _ _ ls (lv_sub hl [2, 1, 0] rfl) hG
set_option maxHeartbeats 4000000 in
set_option maxRecDepth 100000 in
theorem wl_X5_digest_56 {p : Program} {l : Launch} {e : Env} {s : State} {m : MethodId} {args : Array Value} {below : List Frame} {meth : Method} {c : Code} {g : GT} {ad : Nat → Nat} {w : Bool} {b : Nat} (S : CallFix p m c cX5_digest 4 s args AL RX5) (hr : meth.sig.returnType = some .long) (hlk : meth.locks = false) (σ : Mem) (a0 : Nat) {rr : Int64} {K : Int64 → Int32 → Option Int64} (kx : ∀ (y1 : Int64) (y3 : Int32) (H : Heap) (locs : List Loc) (ls : Array Slot), lv_has ls 4 [(0, .ref (ad a0)), (1, .long y1), (3, .int y3)] → GA g ad σ w b s H locs → K y1 y3 = some rr → W p l e ({ frames := 4, cells := 0, slots := 0, locals := 92 } : Room) s m args below meth c H locs 0 0 (MQ below (va_Ql (fun (r' : Int64) (u : Mem) => r' = rr ∧ u = σ) (GW g ad) (AA g ad w b)) args s 0 0 (AA g ad w b)) (F0 m 87 ls [])) : ∀ (fuel : Nat) (y1 : Int64) (y3 : Int32) (H : Heap) (locs : List Loc) (ls : Array Slot), lv_has ls 4 [(0, .ref (ad a0)), (1, .long y1), (3, .int y3)] → GA g ad σ w b s H locs → lp_X5_digest_56 σ a0 K fuel y1 y3 = some rr → W p l e ({ frames := 4, cells := 0, slots := 0, locals := 92 } : Room) s m args below meth c H locs 0 0 (MQ below (va_Ql (fun (r' : Int64) (u : Mem) => r' = rr ∧ u = σ) (GW g ad) (AA g ad w b)) args s 0 0 (AA g ad w b)) (F0 m 56 ls []) := by
  intro fuel
  induction fuel with
  | zero =>
    intro y1 y3 H locs ls hl hG h
    rw [lp_X5_digest_56.eq_1] at h
    cases h
  | succ fuel ih =>
    intro y1 y3 H locs ls hl hG
    rw [lp_X5_digest_56.eq_2]
    refine v_iload_n S hl 2 rfl rfl dX5_digest_56 ?_
    refine v_aload_n S hl 0 rfl rfl dX5_digest_57 ?_
    refine gr_5_0 S hG q24 dX5_digest_58 (fun r11 => ?_)
    refine gf_4_4 S hG q88 dX5_digest_61 ?_
    refine v_icmp_ge S 87 dX5_digest_64 (by decide) ?_ ?_
    · exact kx y1 y3 _ _ ls (lv_sub hl [0, 1, 2] rfl) hG
    · refine v_lload_n S hl 1 rfl rfl dX5_digest_67 ?_
      refine v_aload_n S hl 0 rfl rfl dX5_digest_68 ?_
      refine gr_5_0 S hG q24 dX5_digest_69 (fun r12 => ?_)
      refine gr_4_1 S hG q99 dX5_digest_72 (fun r13 => ?_)
      refine v_iload_n S hl 2 rfl rfl dX5_digest_75 ?_
      refine v_aald_10 S hG dX5_digest_76 (fun r14 => ?_)
      refine v_cS_lR S hG [.long y1, .ref (ad r14)] (met_X5_withRinger l g ad w b σ y1 r14) mw_X5_withRinger q314 dX5_digest_77 rfl rfl hl.1 (Nat.le_of_ble_eq_true rfl) ⟨Nat.le_of_ble_eq_true rfl, Nat.le_of_ble_eq_true rfl⟩ rfl rfl ⟨Nat.le_of_ble_eq_true rfl, Nat.le_of_ble_eq_true rfl⟩ (fun r15 H locs hG => ?_)
      refine v_lstore_n S hl [(1, .long r15), (0, .ref (ad a0)), (3, .int y3)] rfl dX5_digest_80 (by decide) rfl (fun ls hl => ?_)
      refine v_iinc S hl 2 rfl dX5_digest_81 rfl (by decide) (fun z => [(3, .int z), (1, .long r15), (0, .ref (ad a0))]) (fun _ => rfl) (fun x16 ls hl => ?_)
      refine v_goto S 56 dX5_digest_84 (by decide) ?_
      exact ih r15 x16 _ _ ls (lv_sub hl [2, 1, 0] rfl) hG
set_option maxHeartbeats 4000000 in
set_option maxRecDepth 100000 in
theorem wl_X5_digest_89 {p : Program} {l : Launch} {e : Env} {s : State} {m : MethodId} {args : Array Value} {below : List Frame} {meth : Method} {c : Code} {g : GT} {ad : Nat → Nat} {w : Bool} {b : Nat} (S : CallFix p m c cX5_digest 4 s args AL RX5) (hr : meth.sig.returnType = some .long) (hlk : meth.locks = false) (σ : Mem) (a0 : Nat) {rr : Int64} {K : Int64 → Int32 → Option Int64} (kx : ∀ (y1 : Int64) (y3 : Int32) (H : Heap) (locs : List Loc) (ls : Array Slot), lv_has ls 4 [(0, .ref (ad a0)), (1, .long y1), (3, .int y3)] → GA g ad σ w b s H locs → K y1 y3 = some rr → W p l e ({ frames := 4, cells := 0, slots := 0, locals := 92 } : Room) s m args below meth c H locs 0 0 (MQ below (va_Ql (fun (r' : Int64) (u : Mem) => r' = rr ∧ u = σ) (GW g ad) (AA g ad w b)) args s 0 0 (AA g ad w b)) (F0 m 120 ls [])) : ∀ (fuel : Nat) (y1 : Int64) (y3 : Int32) (H : Heap) (locs : List Loc) (ls : Array Slot), lv_has ls 4 [(0, .ref (ad a0)), (1, .long y1), (3, .int y3)] → GA g ad σ w b s H locs → lp_X5_digest_89 σ a0 K fuel y1 y3 = some rr → W p l e ({ frames := 4, cells := 0, slots := 0, locals := 92 } : Room) s m args below meth c H locs 0 0 (MQ below (va_Ql (fun (r' : Int64) (u : Mem) => r' = rr ∧ u = σ) (GW g ad) (AA g ad w b)) args s 0 0 (AA g ad w b)) (F0 m 89 ls []) := by
  intro fuel
  induction fuel with
  | zero =>
    intro y1 y3 H locs ls hl hG h
    rw [lp_X5_digest_89.eq_1] at h
    cases h
  | succ fuel ih =>
    intro y1 y3 H locs ls hl hG
    rw [lp_X5_digest_89.eq_2]
    refine v_iload_n S hl 2 rfl rfl dX5_digest_89 ?_
    refine v_aload_n S hl 0 rfl rfl dX5_digest_90 ?_
    refine gr_5_0 S hG q24 dX5_digest_91 (fun r19 => ?_)
    refine gf_4_5 S hG q131 dX5_digest_94 ?_
    refine v_icmp_ge S 120 dX5_digest_97 (by decide) ?_ ?_
    · exact kx y1 y3 _ _ ls (lv_sub hl [0, 1, 2] rfl) hG
    · refine v_lload_n S hl 1 rfl rfl dX5_digest_100 ?_
      refine v_aload_n S hl 0 rfl rfl dX5_digest_101 ?_
      refine gr_5_0 S hG q24 dX5_digest_102 (fun r20 => ?_)
      refine gr_4_2 S hG q146 dX5_digest_105 (fun r21 => ?_)
      refine v_iload_n S hl 2 rfl rfl dX5_digest_108 ?_
      refine v_aald_11 S hG dX5_digest_109 (fun r22 => ?_)
      refine v_cS_lR S hG [.long y1, .ref (ad r22)] (met_X5_withToll l g ad w b σ y1 r22) mw_X5_withToll q317 dX5_digest_110 rfl rfl hl.1 (Nat.le_of_ble_eq_true rfl) ⟨Nat.le_of_ble_eq_true rfl, Nat.le_of_ble_eq_true rfl⟩ rfl rfl ⟨Nat.le_of_ble_eq_true rfl, Nat.le_of_ble_eq_true rfl⟩ (fun r23 H locs hG => ?_)
      refine v_lstore_n S hl [(1, .long r23), (0, .ref (ad a0)), (3, .int y3)] rfl dX5_digest_113 (by decide) rfl (fun ls hl => ?_)
      refine v_iinc S hl 2 rfl dX5_digest_114 rfl (by decide) (fun z => [(3, .int z), (1, .long r23), (0, .ref (ad a0))]) (fun _ => rfl) (fun x24 ls hl => ?_)
      refine v_goto S 89 dX5_digest_117 (by decide) ?_
      exact ih r23 x24 _ _ ls (lv_sub hl [2, 1, 0] rfl) hG
set_option maxHeartbeats 4000000 in
set_option maxRecDepth 100000 in
theorem met_X5_digest (l : Launch) (g : GT) (ad : Nat → Nat) (w : Bool) (b : Nat) (σ : Mem) (t : Nat) (rr : Int64) (h : fn_X5_digest σ t = some rr) : Met l yX5_digest (wsy yX5_digest cX5_digest 4 (some .long)) ({ frames := 4, cells := 0, slots := 0, locals := 92 } : Room) (va_Pc [.ref (ad t)] (PB g ad σ b)) (va_Ql (fun (r' : Int64) (u : Mem) => r' = rr ∧ u = σ) (GW g ad) (AA g ad w b)) 0 0 (AA g ad w b) := by
  refine Met.ofW (cc := cX5_digest) (maxL := 4) (ret := (some .long)) (by decide) rfl ?_
  intro p e s m args below meth c s₁ B hml hv
  obtain ⟨rfl, hv⟩ := hv
  have S : CallFix p m c cX5_digest 4 s _ AL RX5 := ⟨B.exec, B.bytes, hml, findClass_of_methodNamed B.named, fun w h => atoms_spec (ws := wsy yX5_digest cX5_digest 4 (some .long)) B.pre w (List.mem_cons_of_mem _ h)⟩
  have hr := B.returns
  have hlk := B.notSynchronized
  have hG : GA g ad σ w b s s.heap [] := GA_start hv
  have hl := lv_entry ([.ref (ad t)]) (n := 4) (Nat.le_of_ble_eq_true rfl)
  rw [lg_entry_eq]
  generalize (lg_sl ([.ref (ad t)]) ++ List.replicate (4 - (lg_sl ([.ref (ad t)])).length) Slot.unset).toArray = ls at hl ⊢
  have hl : lv_has ls 4 [(0, .ref (ad t))] := hl
  revert h
  unfold fn_X5_digest
  refine v_ldc2 S 1249 q309 dX5_digest_0 ?_
  refine v_lstore_n S hl [(1, .long 1249), (0, .ref (ad t))] rfl dX5_digest_3 (by decide) rfl (fun ls hl => ?_)
  refine v_iconst S 0 dX5_digest_4 rfl ?_
  refine v_istore_n S hl [(3, .int 0), (1, .long 1249), (0, .ref (ad t))] rfl dX5_digest_5 (by decide) rfl (fun ls hl => ?_)
  refine wl_X5_digest_6 S hr hlk σ t (fun x5 x6 H locs ls hl hG => ?_) 30 1249 0 _ _ ls (lv_sub hl [2, 1, 0] rfl) hG
  refine v_iconst S 0 dX5_digest_34 rfl ?_
  refine v_istore_n S hl [(3, .int 0), (0, .ref (ad t)), (1, .long x5)] rfl dX5_digest_35 (by decide) rfl (fun ls hl => ?_)
  refine wl_X5_digest_36 S hr hlk σ t (fun x9 x10 H locs ls hl hG => ?_) 30 x5 0 _ _ ls (lv_sub hl [1, 2, 0] rfl) hG
  refine v_iconst S 0 dX5_digest_54 rfl ?_
  refine v_istore_n S hl [(3, .int 0), (0, .ref (ad t)), (1, .long x9)] rfl dX5_digest_55 (by decide) rfl (fun ls hl => ?_)
  refine wl_X5_digest_56 S hr hlk σ t (fun x17 x18 H locs ls hl hG => ?_) 30 x9 0 _ _ ls (lv_sub hl [1, 2, 0] rfl) hG
  refine v_iconst S 0 dX5_digest_87 rfl ?_
  refine v_istore_n S hl [(3, .int 0), (0, .ref (ad t)), (1, .long x17)] rfl dX5_digest_88 (by decide) rfl (fun ls hl => ?_)
  refine wl_X5_digest_89 S hr hlk σ t (fun x25 x26 H locs ls hl hG => ?_) 30 x17 0 _ _ ls (lv_sub hl [1, 2, 0] rfl) hG
  refine v_lload_n S hl 1 rfl rfl dX5_digest_120 ?_
  exact v_lretR S hG hr hlk (Nat.le_of_ble_eq_true rfl) (Nat.le_of_ble_eq_true rfl) dX5_digest_121
