set_option maxHeartbeats 4000000 in
set_option maxRecDepth 100000 in
theorem met_X7_thrown (l : Launch) (g : GT) (ad : Nat → Nat) (w : Bool) (b : Nat) (σ : Mem) (t : Nat) (rr : Int32) (h : fn_X7_thrown σ t = some rr) : Met l yX7_thrown (wsy yX7_thrown cX7_thrown 1 (some .int)) ({ frames := 0, cells := 0, slots := 0, locals := 0 } : Room) (va_Pc [.ref (ad t)] (PB g ad σ b)) (va_Qi (fun (r' : Int32) (u : Mem) => r' = rr ∧ u = σ) (GW g ad) (AA g ad w b)) 0 0 (AA g ad w b) := by
  refine Met.ofW (cc := cX7_thrown) (maxL := 1) (ret := (some .int)) (by decide) rfl ?_
  intro p e s m args below meth c s₁ B hml hv
  obtain ⟨rfl, hv⟩ := hv
  have S : CallFix p m c cX7_thrown 1 s _ AL RX7 := ⟨B.exec, B.bytes, hml, findClass_of_methodNamed B.named, fun w h => atoms_spec (ws := wsy yX7_thrown cX7_thrown 1 (some .int)) B.pre w (List.mem_cons_of_mem _ h)⟩
  have hr := B.returns
  have hlk := B.notSynchronized
  have hG : GA g ad σ w b s s.heap [] := GA_start hv
  have hl := lv_entry ([.ref (ad t)]) (n := 1) (Nat.le_of_ble_eq_true rfl)
  rw [lg_entry_eq]
  generalize (lg_sl ([.ref (ad t)]) ++ List.replicate (1 - (lg_sl ([.ref (ad t)])).length) Slot.unset).toArray = ls at hl ⊢
  have hl : lv_has ls 1 [(0, .ref (ad t))] := hl
  revert h
  unfold fn_X7_thrown
  refine v_aload_n S hl 0 rfl rfl dX7_thrown_0 ?_
  refine gf_7_0 S hG q320 dX7_thrown_1 ?_
  exact v_iretR S hG hr hlk (Nat.le_of_ble_eq_true rfl) (Nat.le_of_ble_eq_true rfl) dX7_thrown_4
set_option maxHeartbeats 4000000 in
set_option maxRecDepth 100000 in
theorem met_X7_no (l : Launch) (g : GT) (ad : Nat → Nat) (_ : Bool) (b : Nat) (σ : Mem) (t : Nat) (p0 : Int32) (rr : Int32) (σr : Mem) (h : fn_X7_no σ t p0 = some (rr, σr)) : Met l yX7_no (wsy yX7_no cX7_no 2 (some .int)) ({ frames := 0, cells := 0, slots := 0, locals := 0 } : Room) (va_Pc [.ref (ad t), .int p0] (PB g ad σ b)) (va_Qi (fun (r' : Int32) (u : Mem) => r' = rr ∧ u = σr) (GW g ad) (AA g ad true b)) 0 0 (AA g ad true b) := by
  refine Met.ofW (cc := cX7_no) (maxL := 2) (ret := (some .int)) (by decide) rfl ?_
  intro p e s m args below meth c s₁ B hml hv
  obtain ⟨rfl, hv⟩ := hv
  have S : CallFix p m c cX7_no 2 s _ AL RX7 := ⟨B.exec, B.bytes, hml, findClass_of_methodNamed B.named, fun w h => atoms_spec (ws := wsy yX7_no cX7_no 2 (some .int)) B.pre w (List.mem_cons_of_mem _ h)⟩
  have hr := B.returns
  have hlk := B.notSynchronized
  have hG : GA g ad σ true b s s.heap [] := GA_start hv
  have hl := lv_entry ([.ref (ad t), .int p0]) (n := 2) (Nat.le_of_ble_eq_true rfl)
  rw [lg_entry_eq]
  generalize (lg_sl ([.ref (ad t), .int p0]) ++ List.replicate (2 - (lg_sl ([.ref (ad t), .int p0])).length) Slot.unset).toArray = ls at hl ⊢
  have hl : lv_has ls 2 [(0, .ref (ad t)), (1, .int p0)] := hl
  revert h
  unfold fn_X7_no
  refine v_aload_n S hl 0 rfl rfl dX7_no_0 ?_
  refine v_iload_n S hl 1 rfl rfl dX7_no_1 ?_
  refine pf_7_0 S hG q320 dX7_no_2 (fun σ1 H locs hG => ?_)
  refine v_iconst S 0 dX7_no_5 rfl ?_
  exact v_iretm S hG hr hlk (Nat.le_of_ble_eq_true rfl) (Nat.le_of_ble_eq_true rfl) dX7_no_6
set_option maxHeartbeats 4000000 in
set_option maxRecDepth 100000 in
theorem met_X7_isIn (l : Launch) (g : GT) (ad : Nat → Nat) (w : Bool) (b : Nat) (σ : Mem) (p0 : Int32) (p1 : Int32) (p2 : Int32) (rr : Int32) (h : fn_X7_isIn σ p0 p1 p2 = some rr) : Met l yX7_isIn (wsy yX7_isIn cX7_isIn 3 (some .boolean)) ({ frames := 0, cells := 0, slots := 0, locals := 0 } : Room) (va_Pc [.int p0, .int p1, .int p2] (PB g ad σ b)) (va_Qi (fun (r' : Int32) (u : Mem) => r' = rr ∧ u = σ) (GW g ad) (AA g ad w b)) 0 0 (AA g ad w b) := by
  refine Met.ofW (cc := cX7_isIn) (maxL := 3) (ret := (some .boolean)) (by decide) rfl ?_
  intro p e s m args below meth c s₁ B hml hv
  obtain ⟨rfl, hv⟩ := hv
  have S : CallFix p m c cX7_isIn 3 s _ AL RX7 := ⟨B.exec, B.bytes, hml, findClass_of_methodNamed B.named, fun w h => atoms_spec (ws := wsy yX7_isIn cX7_isIn 3 (some .boolean)) B.pre w (List.mem_cons_of_mem _ h)⟩
  have hr := B.returns
  have hlk := B.notSynchronized
  have hG : GA g ad σ w b s s.heap [] := GA_start hv
  have hl := lv_entry ([.int p0, .int p1, .int p2]) (n := 3) (Nat.le_of_ble_eq_true rfl)
  rw [lg_entry_eq]
  generalize (lg_sl ([.int p0, .int p1, .int p2]) ++ List.replicate (3 - (lg_sl ([.int p0, .int p1, .int p2])).length) Slot.unset).toArray = ls at hl ⊢
  have hl : lv_has ls 3 [(0, .int p0), (1, .int p1), (2, .int p2)] := hl
  revert h
  unfold fn_X7_isIn
  refine v_iload_n S hl 0 rfl rfl dX7_isIn_0 ?_
  refine v_iload_n S hl 1 rfl rfl dX7_isIn_1 ?_
  refine v_icmp_lt S 14 dX7_isIn_2 (by decide) ?_ ?_
  · refine v_iconst S 0 dX7_isIn_14 rfl ?_
    exact v_zretR S hG hr hlk rfl (Nat.le_of_ble_eq_true rfl) (Nat.le_of_ble_eq_true rfl) dX7_isIn_15
  · refine v_iload_n S hl 0 rfl rfl dX7_isIn_5 ?_
    refine v_iload_n S hl 2 rfl rfl dX7_isIn_6 ?_
    refine v_icmp_gt S 14 dX7_isIn_7 (by decide) ?_ ?_
    · refine v_iconst S 0 dX7_isIn_14 rfl ?_
      exact v_zretR S hG hr hlk rfl (Nat.le_of_ble_eq_true rfl) (Nat.le_of_ble_eq_true rfl) dX7_isIn_15
    · refine v_iconst S 1 dX7_isIn_10 rfl ?_
      refine v_goto S 15 dX7_isIn_11 (by decide) ?_
      exact v_zretR S hG hr hlk rfl (Nat.le_of_ble_eq_true rfl) (Nat.le_of_ble_eq_true rfl) dX7_isIn_15
set_option maxHeartbeats 4000000 in
set_option maxRecDepth 100000 in
theorem met_X7_isBell (l : Launch) (g : GT) (ad : Nat → Nat) (w : Bool) (b : Nat) (σ : Mem) (p0 : Int32) (rr : Int32) (h : fn_X7_isBell σ p0 = some rr) : Met l yX7_isBell (wsy yX7_isBell cX7_isBell 1 (some .boolean)) ({ frames := 1, cells := 0, slots := 0, locals := 22 } : Room) (va_Pc [.int p0] (PB g ad σ b)) (va_Qi (fun (r' : Int32) (u : Mem) => r' = rr ∧ u = σ) (GW g ad) (AA g ad w b)) 0 0 (AA g ad w b) := by
  refine Met.ofW (cc := cX7_isBell) (maxL := 1) (ret := (some .boolean)) (by decide) rfl ?_
  intro p e s m args below meth c s₁ B hml hv
  obtain ⟨rfl, hv⟩ := hv
  have S : CallFix p m c cX7_isBell 1 s _ AL RX7 := ⟨B.exec, B.bytes, hml, findClass_of_methodNamed B.named, fun w h => atoms_spec (ws := wsy yX7_isBell cX7_isBell 1 (some .boolean)) B.pre w (List.mem_cons_of_mem _ h)⟩
  have hr := B.returns
  have hlk := B.notSynchronized
  have hG : GA g ad σ w b s s.heap [] := GA_start hv
  have hl := lv_entry ([.int p0]) (n := 1) (Nat.le_of_ble_eq_true rfl)
  rw [lg_entry_eq]
  generalize (lg_sl ([.int p0]) ++ List.replicate (1 - (lg_sl ([.int p0])).length) Slot.unset).toArray = ls at hl ⊢
  have hl : lv_has ls 1 [(0, .int p0)] := hl
  revert h
  unfold fn_X7_isBell
  refine v_iload_n S hl 0 rfl rfl dX7_isBell_0 ?_
  refine v_iconst S 0 dX7_isBell_1 rfl ?_
  refine v_iconst S 3 dX7_isBell_2 rfl ?_
  refine v_cS_iR S hG [.int p0, .int 0, .int 3] (met_X7_isIn l g ad w b σ p0 0 3) mw_X7_isIn q321 dX7_isBell_3 rfl rfl hl.1 (Nat.le_of_ble_eq_true rfl) ⟨Nat.le_of_ble_eq_true rfl, Nat.le_of_ble_eq_true rfl⟩ rfl rfl ⟨Nat.le_of_ble_eq_true rfl, Nat.le_of_ble_eq_true rfl⟩ (fun r1 H locs hG => ?_)
  exact v_zretgR S hG hr hlk (Nat.le_of_ble_eq_true rfl) (Nat.le_of_ble_eq_true rfl) dX7_isBell_6
set_option maxHeartbeats 4000000 in
set_option maxRecDepth 100000 in
theorem met_X7_isSide (l : Launch) (g : GT) (ad : Nat → Nat) (w : Bool) (b : Nat) (σ : Mem) (p0 : Int32) (rr : Int32) (h : fn_X7_isSide σ p0 = some rr) : Met l yX7_isSide (wsy yX7_isSide cX7_isSide 1 (some .boolean)) ({ frames := 1, cells := 0, slots := 0, locals := 22 } : Room) (va_Pc [.int p0] (PB g ad σ b)) (va_Qi (fun (r' : Int32) (u : Mem) => r' = rr ∧ u = σ) (GW g ad) (AA g ad w b)) 0 0 (AA g ad w b) := by
  refine Met.ofW (cc := cX7_isSide) (maxL := 1) (ret := (some .boolean)) (by decide) rfl ?_
  intro p e s m args below meth c s₁ B hml hv
  obtain ⟨rfl, hv⟩ := hv
  have S : CallFix p m c cX7_isSide 1 s _ AL RX7 := ⟨B.exec, B.bytes, hml, findClass_of_methodNamed B.named, fun w h => atoms_spec (ws := wsy yX7_isSide cX7_isSide 1 (some .boolean)) B.pre w (List.mem_cons_of_mem _ h)⟩
  have hr := B.returns
  have hlk := B.notSynchronized
  have hG : GA g ad σ w b s s.heap [] := GA_start hv
  have hl := lv_entry ([.int p0]) (n := 1) (Nat.le_of_ble_eq_true rfl)
  rw [lg_entry_eq]
  generalize (lg_sl ([.int p0]) ++ List.replicate (1 - (lg_sl ([.int p0])).length) Slot.unset).toArray = ls at hl ⊢
  have hl : lv_has ls 1 [(0, .int p0)] := hl
  revert h
  unfold fn_X7_isSide
  refine v_iload_n S hl 0 rfl rfl dX7_isSide_0 ?_
  refine v_iconst S 0 dX7_isSide_1 rfl ?_
  refine v_iconst S 1 dX7_isSide_2 rfl ?_
  refine v_cS_iR S hG [.int p0, .int 0, .int 1] (met_X7_isIn l g ad w b σ p0 0 1) mw_X7_isIn q321 dX7_isSide_3 rfl rfl hl.1 (Nat.le_of_ble_eq_true rfl) ⟨Nat.le_of_ble_eq_true rfl, Nat.le_of_ble_eq_true rfl⟩ rfl rfl ⟨Nat.le_of_ble_eq_true rfl, Nat.le_of_ble_eq_true rfl⟩ (fun r1 H locs hG => ?_)
  exact v_zretgR S hG hr hlk (Nat.le_of_ble_eq_true rfl) (Nat.le_of_ble_eq_true rfl) dX7_isSide_6
set_option maxHeartbeats 4000000 in
set_option maxRecDepth 100000 in
theorem met_X7_isRinger (l : Launch) (g : GT) (ad : Nat → Nat) (w : Bool) (b : Nat) (σ : Mem) (t : Nat) (p0 : Int32) (rr : Int32) (h : fn_X7_isRinger σ t p0 = some rr) : Met l yX7_isRinger (wsy yX7_isRinger cX7_isRinger 2 (some .boolean)) ({ frames := 1, cells := 0, slots := 0, locals := 22 } : Room) (va_Pc [.ref (ad t), .int p0] (PB g ad σ b)) (va_Qi (fun (r' : Int32) (u : Mem) => r' = rr ∧ u = σ) (GW g ad) (AA g ad w b)) 0 0 (AA g ad w b) := by
  refine Met.ofW (cc := cX7_isRinger) (maxL := 2) (ret := (some .boolean)) (by decide) rfl ?_
  intro p e s m args below meth c s₁ B hml hv
  obtain ⟨rfl, hv⟩ := hv
  have S : CallFix p m c cX7_isRinger 2 s _ AL RX7 := ⟨B.exec, B.bytes, hml, findClass_of_methodNamed B.named, fun w h => atoms_spec (ws := wsy yX7_isRinger cX7_isRinger 2 (some .boolean)) B.pre w (List.mem_cons_of_mem _ h)⟩
  have hr := B.returns
  have hlk := B.notSynchronized
  have hG : GA g ad σ w b s s.heap [] := GA_start hv
  have hl := lv_entry ([.ref (ad t), .int p0]) (n := 2) (Nat.le_of_ble_eq_true rfl)
  rw [lg_entry_eq]
  generalize (lg_sl ([.ref (ad t), .int p0]) ++ List.replicate (2 - (lg_sl ([.ref (ad t), .int p0])).length) Slot.unset).toArray = ls at hl ⊢
  have hl : lv_has ls 2 [(0, .ref (ad t)), (1, .int p0)] := hl
  revert h
  unfold fn_X7_isRinger
  refine v_iload_n S hl 1 rfl rfl dX7_isRinger_0 ?_
  refine v_iconst S 0 dX7_isRinger_1 rfl ?_
  refine v_aload_n S hl 0 rfl rfl dX7_isRinger_2 ?_
  refine gf_7_1 S hG q325 dX7_isRinger_3 ?_
  refine v_iconst S 1 dX7_isRinger_6 rfl ?_
  refine v_isub S dX7_isRinger_7 ?_
  refine v_cS_iR S hG [.int p0, .int 0, .int ((σ t 1) - 1)] (met_X7_isIn l g ad w b σ p0 0 ((σ t 1) - 1)) mw_X7_isIn q321 dX7_isRinger_8 rfl rfl hl.1 (Nat.le_of_ble_eq_true rfl) ⟨Nat.le_of_ble_eq_true rfl, Nat.le_of_ble_eq_true rfl⟩ rfl rfl ⟨Nat.le_of_ble_eq_true rfl, Nat.le_of_ble_eq_true rfl⟩ (fun r1 H locs hG => ?_)
  exact v_zretgR S hG hr hlk (Nat.le_of_ble_eq_true rfl) (Nat.le_of_ble_eq_true rfl) dX7_isRinger_11
set_option maxHeartbeats 4000000 in
set_option maxRecDepth 100000 in
theorem met_X7_isToll (l : Launch) (g : GT) (ad : Nat → Nat) (w : Bool) (b : Nat) (σ : Mem) (t : Nat) (p0 : Int32) (rr : Int32) (h : fn_X7_isToll σ t p0 = some rr) : Met l yX7_isToll (wsy yX7_isToll cX7_isToll 2 (some .boolean)) ({ frames := 1, cells := 0, slots := 0, locals := 22 } : Room) (va_Pc [.ref (ad t), .int p0] (PB g ad σ b)) (va_Qi (fun (r' : Int32) (u : Mem) => r' = rr ∧ u = σ) (GW g ad) (AA g ad w b)) 0 0 (AA g ad w b) := by
  refine Met.ofW (cc := cX7_isToll) (maxL := 2) (ret := (some .boolean)) (by decide) rfl ?_
  intro p e s m args below meth c s₁ B hml hv
  obtain ⟨rfl, hv⟩ := hv
  have S : CallFix p m c cX7_isToll 2 s _ AL RX7 := ⟨B.exec, B.bytes, hml, findClass_of_methodNamed B.named, fun w h => atoms_spec (ws := wsy yX7_isToll cX7_isToll 2 (some .boolean)) B.pre w (List.mem_cons_of_mem _ h)⟩
  have hr := B.returns
  have hlk := B.notSynchronized
  have hG : GA g ad σ w b s s.heap [] := GA_start hv
  have hl := lv_entry ([.ref (ad t), .int p0]) (n := 2) (Nat.le_of_ble_eq_true rfl)
  rw [lg_entry_eq]
  generalize (lg_sl ([.ref (ad t), .int p0]) ++ List.replicate (2 - (lg_sl ([.ref (ad t), .int p0])).length) Slot.unset).toArray = ls at hl ⊢
  have hl : lv_has ls 2 [(0, .ref (ad t)), (1, .int p0)] := hl
  revert h
  unfold fn_X7_isToll
  refine v_iload_n S hl 1 rfl rfl dX7_isToll_0 ?_
  refine v_iconst S 0 dX7_isToll_1 rfl ?_
  refine v_aload_n S hl 0 rfl rfl dX7_isToll_2 ?_
  refine gf_7_3 S hG q326 dX7_isToll_3 ?_
  refine v_iconst S 1 dX7_isToll_6 rfl ?_
  refine v_isub S dX7_isToll_7 ?_
  refine v_cS_iR S hG [.int p0, .int 0, .int ((σ t 3) - 1)] (met_X7_isIn l g ad w b σ p0 0 ((σ t 3) - 1)) mw_X7_isIn q321 dX7_isToll_8 rfl rfl hl.1 (Nat.le_of_ble_eq_true rfl) ⟨Nat.le_of_ble_eq_true rfl, Nat.le_of_ble_eq_true rfl⟩ rfl rfl ⟨Nat.le_of_ble_eq_true rfl, Nat.le_of_ble_eq_true rfl⟩ (fun r1 H locs hG => ?_)
  exact v_zretgR S hG hr hlk (Nat.le_of_ble_eq_true rfl) (Nat.le_of_ble_eq_true rfl) dX7_isToll_11
set_option maxHeartbeats 4000000 in
set_option maxRecDepth 100000 in
theorem met_X7_isKind (l : Launch) (g : GT) (ad : Nat → Nat) (w : Bool) (b : Nat) (σ : Mem) (p0 : Int32) (p1 : Int32) (p2 : Int32) (rr : Int32) (h : fn_X7_isKind σ p0 p1 p2 = some rr) : Met l yX7_isKind (wsy yX7_isKind cX7_isKind 3 (some .boolean)) ({ frames := 1, cells := 0, slots := 0, locals := 22 } : Room) (va_Pc [.int p0, .int p1, .int p2] (PB g ad σ b)) (va_Qi (fun (r' : Int32) (u : Mem) => r' = rr ∧ u = σ) (GW g ad) (AA g ad w b)) 0 0 (AA g ad w b) := by
  refine Met.ofW (cc := cX7_isKind) (maxL := 3) (ret := (some .boolean)) (by decide) rfl ?_
  intro p e s m args below meth c s₁ B hml hv
  obtain ⟨rfl, hv⟩ := hv
  have S : CallFix p m c cX7_isKind 3 s _ AL RX7 := ⟨B.exec, B.bytes, hml, findClass_of_methodNamed B.named, fun w h => atoms_spec (ws := wsy yX7_isKind cX7_isKind 3 (some .boolean)) B.pre w (List.mem_cons_of_mem _ h)⟩
  have hr := B.returns
  have hlk := B.notSynchronized
  have hG : GA g ad σ w b s s.heap [] := GA_start hv
  have hl := lv_entry ([.int p0, .int p1, .int p2]) (n := 3) (Nat.le_of_ble_eq_true rfl)
  rw [lg_entry_eq]
  generalize (lg_sl ([.int p0, .int p1, .int p2]) ++ List.replicate (3 - (lg_sl ([.int p0, .int p1, .int p2])).length) Slot.unset).toArray = ls at hl ⊢
  have hl : lv_has ls 3 [(0, .int p0), (1, .int p1), (2, .int p2)] := hl
  revert h
  unfold fn_X7_isKind
  refine v_iload_n S hl 0 rfl rfl dX7_isKind_0 ?_
  refine v_iconst S 0 dX7_isKind_1 rfl ?_
  refine v_iconst S 2 dX7_isKind_2 rfl ?_
  refine v_cS_iR S hG [.int p0, .int 0, .int 2] (met_X7_isIn l g ad w b σ p0 0 2) mw_X7_isIn q321 dX7_isKind_3 rfl rfl hl.1 (Nat.le_of_ble_eq_true rfl) ⟨Nat.le_of_ble_eq_true rfl, Nat.le_of_ble_eq_true rfl⟩ rfl rfl ⟨Nat.le_of_ble_eq_true rfl, Nat.le_of_ble_eq_true rfl⟩ (fun r1 H locs hG => ?_)
  refine v_if_eq S 32 dX7_isKind_6 (by decide) ?_ ?_
  · refine v_iconst S 0 dX7_isKind_32 rfl ?_
    exact v_zretR S hG hr hlk rfl (Nat.le_of_ble_eq_true rfl) (Nat.le_of_ble_eq_true rfl) dX7_isKind_33
  · refine v_iload_n S hl 1 rfl rfl dX7_isKind_9 ?_
    refine v_iconst S 0 dX7_isKind_10 rfl ?_
    refine v_bipush S 120 dX7_isKind_11 (by decide) ?_
    refine v_cS_iR S hG [.int p1, .int 0, .int 120] (met_X7_isIn l g ad w b σ p1 0 120) mw_X7_isIn q321 dX7_isKind_13 rfl rfl hl.1 (Nat.le_of_ble_eq_true rfl) ⟨Nat.le_of_ble_eq_true rfl, Nat.le_of_ble_eq_true rfl⟩ rfl rfl ⟨Nat.le_of_ble_eq_true rfl, Nat.le_of_ble_eq_true rfl⟩ (fun r2 H locs hG => ?_)
    refine v_if_eq S 32 dX7_isKind_16 (by decide) ?_ ?_
    · refine v_iconst S 0 dX7_isKind_32 rfl ?_
      exact v_zretR S hG hr hlk rfl (Nat.le_of_ble_eq_true rfl) (Nat.le_of_ble_eq_true rfl) dX7_isKind_33
    · refine v_iload_n S hl 2 rfl rfl dX7_isKind_19 ?_
      refine v_iconst S 1 dX7_isKind_20 rfl ?_
      refine v_iconst S 5 dX7_isKind_21 rfl ?_
      refine v_cS_iR S hG [.int p2, .int 1, .int 5] (met_X7_isIn l g ad w b σ p2 1 5) mw_X7_isIn q321 dX7_isKind_22 rfl rfl hl.1 (Nat.le_of_ble_eq_true rfl) ⟨Nat.le_of_ble_eq_true rfl, Nat.le_of_ble_eq_true rfl⟩ rfl rfl ⟨Nat.le_of_ble_eq_true rfl, Nat.le_of_ble_eq_true rfl⟩ (fun r3 H locs hG => ?_)
      refine v_if_eq S 32 dX7_isKind_25 (by decide) ?_ ?_
      · refine v_iconst S 0 dX7_isKind_32 rfl ?_
        exact v_zretR S hG hr hlk rfl (Nat.le_of_ble_eq_true rfl) (Nat.le_of_ble_eq_true rfl) dX7_isKind_33
      · refine v_iconst S 1 dX7_isKind_28 rfl ?_
        refine v_goto S 33 dX7_isKind_29 (by decide) ?_
        exact v_zretR S hG hr hlk rfl (Nat.le_of_ble_eq_true rfl) (Nat.le_of_ble_eq_true rfl) dX7_isKind_33
set_option maxHeartbeats 4000000 in
set_option maxRecDepth 100000 in
theorem met_X7_tellers (l : Launch) (g : GT) (ad : Nat → Nat) (w : Bool) (b : Nat) (σ : Mem) (t : Nat) (p0 : Int32) (rr : Int32) (h : fn_X7_tellers σ t p0 = some rr) : Met l yX7_tellers (wsy yX7_tellers cX7_tellers 2 (some .int)) ({ frames := 0, cells := 0, slots := 0, locals := 0 } : Room) (va_Pc [.ref (ad t), .int p0] (PB g ad σ b)) (va_Qi (fun (r' : Int32) (u : Mem) => r' = rr ∧ u = σ) (GW g ad) (AA g ad w b)) 0 0 (AA g ad w b) := by
  refine Met.ofW (cc := cX7_tellers) (maxL := 2) (ret := (some .int)) (by decide) rfl ?_
  intro p e s m args below meth c s₁ B hml hv
  obtain ⟨rfl, hv⟩ := hv
  have S : CallFix p m c cX7_tellers 2 s _ AL RX7 := ⟨B.exec, B.bytes, hml, findClass_of_methodNamed B.named, fun w h => atoms_spec (ws := wsy yX7_tellers cX7_tellers 2 (some .int)) B.pre w (List.mem_cons_of_mem _ h)⟩
  have hr := B.returns
  have hlk := B.notSynchronized
  have hG : GA g ad σ w b s s.heap [] := GA_start hv
  have hl := lv_entry ([.ref (ad t), .int p0]) (n := 2) (Nat.le_of_ble_eq_true rfl)
  rw [lg_entry_eq]
  generalize (lg_sl ([.ref (ad t), .int p0]) ++ List.replicate (2 - (lg_sl ([.ref (ad t), .int p0])).length) Slot.unset).toArray = ls at hl ⊢
  have hl : lv_has ls 2 [(0, .ref (ad t)), (1, .int p0)] := hl
  revert h
  unfold fn_X7_tellers
  refine v_iconst S 3 dX7_tellers_0 rfl ?_
  refine v_aload_n S hl 0 rfl rfl dX7_tellers_1 ?_
  refine gr_7_5 S hG q327 dX7_tellers_2 (fun r1 => ?_)
  refine v_iload_n S hl 1 rfl rfl dX7_tellers_5 ?_
  refine v_iald S hG dX7_tellers_6 ?_
  refine v_iconst S 1 dX7_tellers_7 rfl ?_
  refine v_iadd S dX7_tellers_8 ?_
  refine v_imul S dX7_tellers_9 ?_
  exact v_iretR S hG hr hlk (Nat.le_of_ble_eq_true rfl) (Nat.le_of_ble_eq_true rfl) dX7_tellers_10
set_option maxHeartbeats 4000000 in
set_option maxRecDepth 100000 in
theorem met_X7_all (l : Launch) (g : GT) (ad : Nat → Nat) (w : Bool) (b : Nat) (σ : Mem) (t : Nat) (p0 : Int32) (rr : Int32) (h : fn_X7_all σ t p0 = some rr) : Met l yX7_all (wsy yX7_all cX7_all 2 (some .int)) ({ frames := 1, cells := 0, slots := 0, locals := 21 } : Room) (va_Pc [.ref (ad t), .int p0] (PB g ad σ b)) (va_Qi (fun (r' : Int32) (u : Mem) => r' = rr ∧ u = σ) (GW g ad) (AA g ad w b)) 0 0 (AA g ad w b) := by
  refine Met.ofW (cc := cX7_all) (maxL := 2) (ret := (some .int)) (by decide) rfl ?_
  intro p e s m args below meth c s₁ B hml hv
  obtain ⟨rfl, hv⟩ := hv
  have S : CallFix p m c cX7_all 2 s _ AL RX7 := ⟨B.exec, B.bytes, hml, findClass_of_methodNamed B.named, fun w h => atoms_spec (ws := wsy yX7_all cX7_all 2 (some .int)) B.pre w (List.mem_cons_of_mem _ h)⟩
  have hr := B.returns
  have hlk := B.notSynchronized
  have hG : GA g ad σ w b s s.heap [] := GA_start hv
  have hl := lv_entry ([.ref (ad t), .int p0]) (n := 2) (Nat.le_of_ble_eq_true rfl)
  rw [lg_entry_eq]
  generalize (lg_sl ([.ref (ad t), .int p0]) ++ List.replicate (2 - (lg_sl ([.ref (ad t), .int p0])).length) Slot.unset).toArray = ls at hl ⊢
  have hl : lv_has ls 2 [(0, .ref (ad t)), (1, .int p0)] := hl
  revert h
  unfold fn_X7_all
  refine v_aload_n S hl 0 rfl rfl dX7_all_0 ?_
  refine v_iload_n S hl 1 rfl rfl dX7_all_1 ?_
  refine v_cV_iR S hG [.int p0] rfl rfl (by decide) (met_X7_tellers l g ad w b σ t p0) mw_X7_tellers q328 dX7_all_2 rfl rfl hl.1 (Nat.le_of_ble_eq_true rfl) ⟨Nat.le_of_ble_eq_true rfl, Nat.le_of_ble_eq_true rfl⟩ rfl rfl ⟨Nat.le_of_ble_eq_true rfl, Nat.le_of_ble_eq_true rfl⟩ (fun r1 H locs hG => ?_)
  refine v_aload_n S hl 0 rfl rfl dX7_all_5 ?_
  refine gr_7_6 S hG q332 dX7_all_6 (fun r2 => ?_)
  refine v_iload_n S hl 1 rfl rfl dX7_all_9 ?_
  refine v_iald S hG dX7_all_10 ?_
  refine v_iadd S dX7_all_11 ?_
  exact v_iretR S hG hr hlk (Nat.le_of_ble_eq_true rfl) (Nat.le_of_ble_eq_true rfl) dX7_all_12
set_option maxHeartbeats 4000000 in
set_option maxRecDepth 100000 in
theorem met_X7_weigh (l : Launch) (g : GT) (ad : Nat → Nat) (_ : Bool) (b : Nat) (σ : Mem) (t : Nat) (p0 : Int32) (p1 : Int32) (rr : Int32) (σr : Mem) (h : fn_X7_weigh σ t p0 p1 = some (rr, σr)) : Met l yX7_weigh (wsy yX7_weigh cX7_weigh 4 (some .int)) ({ frames := 2, cells := 0, slots := 0, locals := 42 } : Room) (va_Pc [.ref (ad t), .int p0, .int p1] (PB g ad σ b)) (va_Qi (fun (r' : Int32) (u : Mem) => r' = rr ∧ u = σr) (GW g ad) (AA g ad true b)) 0 0 (AA g ad true b) := by
  refine Met.ofW (cc := cX7_weigh) (maxL := 4) (ret := (some .int)) (by decide) rfl ?_
  intro p e s m args below meth c s₁ B hml hv
  obtain ⟨rfl, hv⟩ := hv
  have S : CallFix p m c cX7_weigh 4 s _ AL RX7 := ⟨B.exec, B.bytes, hml, findClass_of_methodNamed B.named, fun w h => atoms_spec (ws := wsy yX7_weigh cX7_weigh 4 (some .int)) B.pre w (List.mem_cons_of_mem _ h)⟩
  have hr := B.returns
  have hlk := B.notSynchronized
  have hG : GA g ad σ true b s s.heap [] := GA_start hv
  have hl := lv_entry ([.ref (ad t), .int p0, .int p1]) (n := 4) (Nat.le_of_ble_eq_true rfl)
  rw [lg_entry_eq]
  generalize (lg_sl ([.ref (ad t), .int p0, .int p1]) ++ List.replicate (4 - (lg_sl ([.ref (ad t), .int p0, .int p1])).length) Slot.unset).toArray = ls at hl ⊢
  have hl : lv_has ls 4 [(0, .ref (ad t)), (1, .int p0), (2, .int p1)] := hl
  revert h
  unfold fn_X7_weigh
  refine v_aload_n S hl 0 rfl rfl dX7_weigh_0 ?_
  refine v_iconst S 0 dX7_weigh_1 rfl ?_
  refine pf_7_0 S hG q320 dX7_weigh_2 (fun σ1 H locs hG => ?_)
  refine v_iload_n S hl 1 rfl rfl dX7_weigh_5 ?_
  refine v_cS_iR S hG [.int p0] (met_X7_isBell l g ad true b σ1 p0) mw_X7_isBell q333 dX7_weigh_6 rfl rfl hl.1 (Nat.le_of_ble_eq_true rfl) ⟨Nat.le_of_ble_eq_true rfl, Nat.le_of_ble_eq_true rfl⟩ rfl rfl ⟨Nat.le_of_ble_eq_true rfl, Nat.le_of_ble_eq_true rfl⟩ (fun r2 H locs hG => ?_)
  refine v_if_ne S 18 dX7_weigh_9 (by decide) ?_ ?_
  · refine v_iload_n S hl 2 rfl rfl dX7_weigh_18 ?_
    refine v_iconst S 1 dX7_weigh_19 rfl ?_
    refine v_bipush S 9 dX7_weigh_20 (by decide) ?_
    refine v_cS_iR S hG [.int p1, .int 1, .int 9] (met_X7_isIn l g ad true b σ1 p1 1 9) mw_X7_isIn q321 dX7_weigh_22 rfl rfl hl.1 (Nat.le_of_ble_eq_true rfl) ⟨Nat.le_of_ble_eq_true rfl, Nat.le_of_ble_eq_true rfl⟩ rfl rfl ⟨Nat.le_of_ble_eq_true rfl, Nat.le_of_ble_eq_true rfl⟩ (fun r3 H locs hG => ?_)
    refine v_if_ne S 34 dX7_weigh_25 (by decide) ?_ ?_
    · refine v_aload_n S hl 0 rfl rfl dX7_weigh_34 ?_
      refine gr_7_9 S hG q336 dX7_weigh_35 (fun r4 => ?_)
      refine grN_6_3 S hG q337 dX7_weigh_38 (fun r5 => ?_)
      refine v_iload_n S hl 1 rfl rfl dX7_weigh_41 ?_
      refine v_iald S hG dX7_weigh_42 ?_
      refine v_nm (fun x6 => ?_)
      refine v_istore_n S hl [(3, .int x6), (0, .ref (ad t)), (1, .int p0), (2, .int p1)] rfl dX7_weigh_43 (by decide) rfl (fun ls hl => ?_)
      refine v_aload_n S hl 1 rfl rfl dX7_weigh_44 ?_
      refine gr_7_9 S hG q336 dX7_weigh_45 (fun r7 => ?_)
      refine grN_6_3 S hG q337 dX7_weigh_48 (fun r8 => ?_)
      refine v_iload_n S hl 2 rfl rfl dX7_weigh_51 ?_
      refine v_iload_n S hl 3 rfl rfl dX7_weigh_52 ?_
      refine v_iast S hG dX7_weigh_53 (fun σ9 H locs hG => ?_)
      refine v_iload_n S hl 0 rfl rfl dX7_weigh_54 ?_
      exact v_iretm S hG hr hlk (Nat.le_of_ble_eq_true rfl) (Nat.le_of_ble_eq_true rfl) dX7_weigh_55
    · refine v_aload_n S hl 0 rfl rfl dX7_weigh_28 ?_
      refine v_iconst S 2 dX7_weigh_29 rfl ?_
      refine v_cV_im S hG [.int 2] rfl rfl (by decide) (met_X7_no l g ad true b σ1 t 2) mw_X7_no q338 dX7_weigh_30 rfl rfl hl.1 (Nat.le_of_ble_eq_true rfl) ⟨Nat.le_of_ble_eq_true rfl, Nat.le_of_ble_eq_true rfl⟩ rfl rfl ⟨Nat.le_of_ble_eq_true rfl, Nat.le_of_ble_eq_true rfl⟩ (fun r10 σ11 H locs hG => ?_)
      exact v_iretm S hG hr hlk (Nat.le_of_ble_eq_true rfl) (Nat.le_of_ble_eq_true rfl) dX7_weigh_33
  · refine v_aload_n S hl 0 rfl rfl dX7_weigh_12 ?_
    refine v_iconst S 1 dX7_weigh_13 rfl ?_
    refine v_cV_im S hG [.int 1] rfl rfl (by decide) (met_X7_no l g ad true b σ1 t 1) mw_X7_no q338 dX7_weigh_14 rfl rfl hl.1 (Nat.le_of_ble_eq_true rfl) ⟨Nat.le_of_ble_eq_true rfl, Nat.le_of_ble_eq_true rfl⟩ rfl rfl ⟨Nat.le_of_ble_eq_true rfl, Nat.le_of_ble_eq_true rfl⟩ (fun r12 σ13 H locs hG => ?_)
    exact v_iretm S hG hr hlk (Nat.le_of_ble_eq_true rfl) (Nat.le_of_ble_eq_true rfl) dX7_weigh_17
set_option maxHeartbeats 4000000 in
set_option maxRecDepth 100000 in
theorem met_X6_bare (l : Launch) (g : GT) (ad : Nat → Nat) (_ : Bool) (b : Nat) (σ : Mem) (t : Nat) (p0 : Int32) (p1 : Int32) (σr : Mem) (h : fn_X6_bare σ t p0 p1 = some σr) : Met l yX6_bare (wsy yX6_bare cX6_bare 3 none) ({ frames := 0, cells := 0, slots := 0, locals := 0 } : Room) (va_Pc [.ref (ad t), .int p0, .int p1] (PB g ad σ b)) (va_Qv (fun (u : Mem) => u = σr) (GW g ad) (AA g ad true b)) 0 0 (AA g ad true b) := by
  refine Met.ofW (cc := cX6_bare) (maxL := 3) (ret := none) (by decide) rfl ?_
  intro p e s m args below meth c s₁ B hml hv
  obtain ⟨rfl, hv⟩ := hv
  have S : CallFix p m c cX6_bare 3 s _ AL RX6 := ⟨B.exec, B.bytes, hml, findClass_of_methodNamed B.named, fun w h => atoms_spec (ws := wsy yX6_bare cX6_bare 3 none) B.pre w (List.mem_cons_of_mem _ h)⟩
  have hr := B.returns
  have hlk := B.notSynchronized
  have hG : GA g ad σ true b s s.heap [] := GA_start hv
  have hl := lv_entry ([.ref (ad t), .int p0, .int p1]) (n := 3) (Nat.le_of_ble_eq_true rfl)
  rw [lg_entry_eq]
  generalize (lg_sl ([.ref (ad t), .int p0, .int p1]) ++ List.replicate (3 - (lg_sl ([.ref (ad t), .int p0, .int p1])).length) Slot.unset).toArray = ls at hl ⊢
  have hl : lv_has ls 3 [(0, .ref (ad t)), (1, .int p0), (2, .int p1)] := hl
  revert h
  unfold fn_X6_bare
  refine v_aload_n S hl 0 rfl rfl dX6_bare_0 ?_
  refine gr_6_4 S hG q342 dX6_bare_1 (fun r1 => ?_)
  refine v_iload_n S hl 1 rfl rfl dX6_bare_4 ?_
  refine v_iload_n S hl 2 rfl rfl dX6_bare_5 ?_
  refine v_iast S hG dX6_bare_6 (fun σ2 H locs hG => ?_)
  refine v_aload_n S hl 0 rfl rfl dX6_bare_7 ?_
  refine gr_6_5 S hG q343 dX6_bare_8 (fun r3 => ?_)
  refine v_iload_n S hl 1 rfl rfl dX6_bare_11 ?_
  refine v_iconst S 0 dX6_bare_12 rfl ?_
  refine v_iast S hG dX6_bare_13 (fun σ4 H locs hG => ?_)
  exact v_vretm S hG hr hlk (Nat.le_of_ble_eq_true rfl) (Nat.le_of_ble_eq_true rfl) dX6_bare_14
set_option maxHeartbeats 4000000 in
set_option maxRecDepth 100000 in
theorem met_X7_fit (l : Launch) (g : GT) (ad : Nat → Nat) (_ : Bool) (b : Nat) (σ : Mem) (t : Nat) (p0 : Int32) (p1 : Int32) (p2 : Int32) (rr : Int32) (σr : Mem) (h : fn_X7_fit σ t p0 p1 p2 = some (rr, σr)) : Met l yX7_fit (wsy yX7_fit cX7_fit 5 (some .int)) ({ frames := 2, cells := 0, slots := 0, locals := 42 } : Room) (va_Pc [.ref (ad t), .int p0, .int p1, .int p2] (PB g ad σ b)) (va_Qi (fun (r' : Int32) (u : Mem) => r' = rr ∧ u = σr) (GW g ad) (AA g ad true b)) 0 0 (AA g ad true b) := by
  refine Met.ofW (cc := cX7_fit) (maxL := 5) (ret := (some .int)) (by decide) rfl ?_
  intro p e s m args below meth c s₁ B hml hv
  obtain ⟨rfl, hv⟩ := hv
  have S : CallFix p m c cX7_fit 5 s _ AL RX7 := ⟨B.exec, B.bytes, hml, findClass_of_methodNamed B.named, fun w h => atoms_spec (ws := wsy yX7_fit cX7_fit 5 (some .int)) B.pre w (List.mem_cons_of_mem _ h)⟩
  have hr := B.returns
  have hlk := B.notSynchronized
  have hG : GA g ad σ true b s s.heap [] := GA_start hv
  have hl := lv_entry ([.ref (ad t), .int p0, .int p1, .int p2]) (n := 5) (Nat.le_of_ble_eq_true rfl)
  rw [lg_entry_eq]
  generalize (lg_sl ([.ref (ad t), .int p0, .int p1, .int p2]) ++ List.replicate (5 - (lg_sl ([.ref (ad t), .int p0, .int p1, .int p2])).length) Slot.unset).toArray = ls at hl ⊢
  have hl : lv_has ls 5 [(0, .ref (ad t)), (1, .int p0), (2, .int p1), (3, .int p2)] := hl
  revert h
  unfold fn_X7_fit
  refine v_aload_n S hl 0 rfl rfl dX7_fit_0 ?_
  refine v_iconst S 0 dX7_fit_1 rfl ?_
  refine pf_7_0 S hG q320 dX7_fit_2 (fun σ1 H locs hG => ?_)
  refine v_iload_n S hl 1 rfl rfl dX7_fit_5 ?_
  refine v_cS_iR S hG [.int p0] (met_X7_isBell l g ad true b σ1 p0) mw_X7_isBell q333 dX7_fit_6 rfl rfl hl.1 (Nat.le_of_ble_eq_true rfl) ⟨Nat.le_of_ble_eq_true rfl, Nat.le_of_ble_eq_true rfl⟩ rfl rfl ⟨Nat.le_of_ble_eq_true rfl, Nat.le_of_ble_eq_true rfl⟩ (fun r2 H locs hG => ?_)
  refine v_if_eq S 19 dX7_fit_9 (by decide) ?_ ?_
  · refine v_aload_n S hl 0 rfl rfl dX7_fit_19 ?_
    refine v_iconst S 1 dX7_fit_20 rfl ?_
    refine v_cV_im S hG [.int 1] rfl rfl (by decide) (met_X7_no l g ad true b σ1 t 1) mw_X7_no q338 dX7_fit_21 rfl rfl hl.1 (Nat.le_of_ble_eq_true rfl) ⟨Nat.le_of_ble_eq_true rfl, Nat.le_of_ble_eq_true rfl⟩ rfl rfl ⟨Nat.le_of_ble_eq_true rfl, Nat.le_of_ble_eq_true rfl⟩ (fun r3 σ4 H locs hG => ?_)
    exact v_iretm S hG hr hlk (Nat.le_of_ble_eq_true rfl) (Nat.le_of_ble_eq_true rfl) dX7_fit_24
  · refine v_iload_n S hl 2 rfl rfl dX7_fit_12 ?_
    refine v_cS_iR S hG [.int p1] (met_X7_isSide l g ad true b σ1 p1) mw_X7_isSide q344 dX7_fit_13 rfl rfl hl.1 (Nat.le_of_ble_eq_true rfl) ⟨Nat.le_of_ble_eq_true rfl, Nat.le_of_ble_eq_true rfl⟩ rfl rfl ⟨Nat.le_of_ble_eq_true rfl, Nat.le_of_ble_eq_true rfl⟩ (fun r5 H locs hG => ?_)
    refine v_if_ne S 25 dX7_fit_16 (by decide) ?_ ?_
    · refine v_iload_n S hl 3 rfl rfl dX7_fit_25 ?_
      refine v_iconst S 0 dX7_fit_26 rfl ?_
      refine v_bipush S 9 dX7_fit_27 (by decide) ?_
      refine v_cS_iR S hG [.int p2, .int 0, .int 9] (met_X7_isIn l g ad true b σ1 p2 0 9) mw_X7_isIn q321 dX7_fit_29 rfl rfl hl.1 (Nat.le_of_ble_eq_true rfl) ⟨Nat.le_of_ble_eq_true rfl, Nat.le_of_ble_eq_true rfl⟩ rfl rfl ⟨Nat.le_of_ble_eq_true rfl, Nat.le_of_ble_eq_true rfl⟩ (fun r6 H locs hG => ?_)
      refine v_if_ne S 41 dX7_fit_32 (by decide) ?_ ?_
      · refine v_iload_n S hl 3 rfl rfl dX7_fit_41 ?_
        refine v_if_le S 61 dX7_fit_42 (by decide) ?_ ?_
        · refine v_aload_n S hl 0 rfl rfl dX7_fit_61 ?_
          refine gr_7_9 S hG q336 dX7_fit_62 (fun r7 => ?_)
          refine grN_6_4 S hG q347 dX7_fit_65 (fun r8 => ?_)
          refine v_iconst S 2 dX7_fit_68 rfl ?_
          refine v_iload_n S hl 1 rfl rfl dX7_fit_69 ?_
          refine v_imul S dX7_fit_70 ?_
          refine v_iload_n S hl 2 rfl rfl dX7_fit_71 ?_
          refine v_iadd S dX7_fit_72 ?_
          refine v_iald S hG dX7_fit_73 ?_
          refine v_nm (fun x9 => ?_)
          refine v_istore S hl [(4, .int x9), (0, .ref (ad t)), (1, .int p0), (2, .int p1), (3, .int p2)] dX7_fit_74 (by decide) rfl (fun ls hl => ?_)
          refine v_aload_n S hl 1 rfl rfl dX7_fit_76 ?_
          refine gr_7_9 S hG q336 dX7_fit_77 (fun r10 => ?_)
          refine v_iconst S 2 dX7_fit_80 rfl ?_
          refine v_iload_n S hl 2 rfl rfl dX7_fit_81 ?_
          refine v_imul S dX7_fit_82 ?_
          refine v_iload_n S hl 3 rfl rfl dX7_fit_83 ?_
          refine v_iadd S dX7_fit_84 ?_
          refine v_iload_n S hl 4 rfl rfl dX7_fit_85 ?_
          refine v_cV_vm S hG [.int ((2 * p0) + p1), .int p2] rfl rfl (by decide) (met_X6_bare l g ad true b σ1 r10 ((2 * p0) + p1) p2) mw_X6_bare q348 dX7_fit_86 rfl rfl hl.1 (Nat.le_of_ble_eq_true rfl) ⟨Nat.le_of_ble_eq_true rfl, Nat.le_of_ble_eq_true rfl⟩ rfl rfl ⟨Nat.le_of_ble_eq_true rfl, Nat.le_of_ble_eq_true rfl⟩ (fun σ11 H locs hG => ?_)
          refine v_aload_n S hl 1 rfl rfl dX7_fit_89 ?_
          refine gr_7_9 S hG q336 dX7_fit_90 (fun r12 => ?_)
          refine v_dup S dX7_fit_93 rfl ?_
          refine gfN_6_1 S hG q353 dX7_fit_94 ?_
          refine v_iload_n S hl 4 rfl rfl dX7_fit_97 ?_
          refine v_if_le S 105 dX7_fit_98 (by decide) ?_ ?_
          · refine v_iconst S 0 dX7_fit_105 rfl ?_
            refine v_isub S dX7_fit_106 ?_
            refine pfN_6_1 S hG q353 dX7_fit_107 (fun σ13 H locs hG => ?_)
            refine v_iload S hl 0 rfl dX7_fit_110 ?_
            exact v_iretm S hG hr hlk (Nat.le_of_ble_eq_true rfl) (Nat.le_of_ble_eq_true rfl) dX7_fit_112
          · refine v_iconst S 1 dX7_fit_101 rfl ?_
            refine v_goto S 106 dX7_fit_102 (by decide) ?_
            refine v_isub S dX7_fit_106 ?_
            refine pfN_6_1 S hG q353 dX7_fit_107 (fun σ14 H locs hG => ?_)
            refine v_iload S hl 0 rfl dX7_fit_110 ?_
            exact v_iretm S hG hr hlk (Nat.le_of_ble_eq_true rfl) (Nat.le_of_ble_eq_true rfl) dX7_fit_112
        · refine v_aload_n S hl 0 rfl rfl dX7_fit_45 ?_
          refine gr_7_9 S hG q336 dX7_fit_46 (fun r15 => ?_)
          refine gfN_6_1 S hG q353 dX7_fit_49 ?_
          refine v_if_ne S 61 dX7_fit_52 (by decide) ?_ ?_
          · refine v_aload_n S hl 0 rfl rfl dX7_fit_61 ?_
            refine gr_7_9 S hG q336 dX7_fit_62 (fun r16 => ?_)
            refine grN_6_4 S hG q347 dX7_fit_65 (fun r17 => ?_)
            refine v_iconst S 2 dX7_fit_68 rfl ?_
            refine v_iload_n S hl 1 rfl rfl dX7_fit_69 ?_
            refine v_imul S dX7_fit_70 ?_
            refine v_iload_n S hl 2 rfl rfl dX7_fit_71 ?_
            refine v_iadd S dX7_fit_72 ?_
            refine v_iald S hG dX7_fit_73 ?_
            refine v_nm (fun x18 => ?_)
            refine v_istore S hl [(4, .int x18), (0, .ref (ad t)), (1, .int p0), (2, .int p1), (3, .int p2)] dX7_fit_74 (by decide) rfl (fun ls hl => ?_)
            refine v_aload_n S hl 1 rfl rfl dX7_fit_76 ?_
            refine gr_7_9 S hG q336 dX7_fit_77 (fun r19 => ?_)
            refine v_iconst S 2 dX7_fit_80 rfl ?_
            refine v_iload_n S hl 2 rfl rfl dX7_fit_81 ?_
            refine v_imul S dX7_fit_82 ?_
            refine v_iload_n S hl 3 rfl rfl dX7_fit_83 ?_
            refine v_iadd S dX7_fit_84 ?_
            refine v_iload_n S hl 4 rfl rfl dX7_fit_85 ?_
            refine v_cV_vm S hG [.int ((2 * p0) + p1), .int p2] rfl rfl (by decide) (met_X6_bare l g ad true b σ1 r19 ((2 * p0) + p1) p2) mw_X6_bare q348 dX7_fit_86 rfl rfl hl.1 (Nat.le_of_ble_eq_true rfl) ⟨Nat.le_of_ble_eq_true rfl, Nat.le_of_ble_eq_true rfl⟩ rfl rfl ⟨Nat.le_of_ble_eq_true rfl, Nat.le_of_ble_eq_true rfl⟩ (fun σ20 H locs hG => ?_)
            refine v_aload_n S hl 1 rfl rfl dX7_fit_89 ?_
            refine gr_7_9 S hG q336 dX7_fit_90 (fun r21 => ?_)
            refine v_dup S dX7_fit_93 rfl ?_
            refine gfN_6_1 S hG q353 dX7_fit_94 ?_
            refine v_iload_n S hl 4 rfl rfl dX7_fit_97 ?_
            refine v_if_le S 105 dX7_fit_98 (by decide) ?_ ?_
            · refine v_iconst S 0 dX7_fit_105 rfl ?_
              refine v_isub S dX7_fit_106 ?_
              refine pfN_6_1 S hG q353 dX7_fit_107 (fun σ22 H locs hG => ?_)
              refine v_iload S hl 0 rfl dX7_fit_110 ?_
              exact v_iretm S hG hr hlk (Nat.le_of_ble_eq_true rfl) (Nat.le_of_ble_eq_true rfl) dX7_fit_112
            · refine v_iconst S 1 dX7_fit_101 rfl ?_
              refine v_goto S 106 dX7_fit_102 (by decide) ?_
              refine v_isub S dX7_fit_106 ?_
              refine pfN_6_1 S hG q353 dX7_fit_107 (fun σ23 H locs hG => ?_)
              refine v_iload S hl 0 rfl dX7_fit_110 ?_
              exact v_iretm S hG hr hlk (Nat.le_of_ble_eq_true rfl) (Nat.le_of_ble_eq_true rfl) dX7_fit_112
          · refine v_aload_n S hl 0 rfl rfl dX7_fit_55 ?_
            refine v_iconst S 3 dX7_fit_56 rfl ?_
            refine v_cV_im S hG [.int 3] rfl rfl (by decide) (met_X7_no l g ad true b σ1 t 3) mw_X7_no q338 dX7_fit_57 rfl rfl hl.1 (Nat.le_of_ble_eq_true rfl) ⟨Nat.le_of_ble_eq_true rfl, Nat.le_of_ble_eq_true rfl⟩ rfl rfl ⟨Nat.le_of_ble_eq_true rfl, Nat.le_of_ble_eq_true rfl⟩ (fun r24 σ25 H locs hG => ?_)
            exact v_iretm S hG hr hlk (Nat.le_of_ble_eq_true rfl) (Nat.le_of_ble_eq_true rfl) dX7_fit_60
      · refine v_aload_n S hl 0 rfl rfl dX7_fit_35 ?_
        refine v_iconst S 2 dX7_fit_36 rfl ?_
        refine v_cV_im S hG [.int 2] rfl rfl (by decide) (met_X7_no l g ad true b σ1 t 2) mw_X7_no q338 dX7_fit_37 rfl rfl hl.1 (Nat.le_of_ble_eq_true rfl) ⟨Nat.le_of_ble_eq_true rfl, Nat.le_of_ble_eq_true rfl⟩ rfl rfl ⟨Nat.le_of_ble_eq_true rfl, Nat.le_of_ble_eq_true rfl⟩ (fun r26 σ27 H locs hG => ?_)
        exact v_iretm S hG hr hlk (Nat.le_of_ble_eq_true rfl) (Nat.le_of_ble_eq_true rfl) dX7_fit_40
    · refine v_aload_n S hl 0 rfl rfl dX7_fit_19 ?_
      refine v_iconst S 1 dX7_fit_20 rfl ?_
      refine v_cV_im S hG [.int 1] rfl rfl (by decide) (met_X7_no l g ad true b σ1 t 1) mw_X7_no q338 dX7_fit_21 rfl rfl hl.1 (Nat.le_of_ble_eq_true rfl) ⟨Nat.le_of_ble_eq_true rfl, Nat.le_of_ble_eq_true rfl⟩ rfl rfl ⟨Nat.le_of_ble_eq_true rfl, Nat.le_of_ble_eq_true rfl⟩ (fun r28 σ29 H locs hG => ?_)
      exact v_iretm S hG hr hlk (Nat.le_of_ble_eq_true rfl) (Nat.le_of_ble_eq_true rfl) dX7_fit_24
set_option maxHeartbeats 4000000 in
set_option maxRecDepth 100000 in
theorem met_X7_store (l : Launch) (g : GT) (ad : Nat → Nat) (_ : Bool) (b : Nat) (σ : Mem) (t : Nat) (p0 : Int32) (rr : Int32) (σr : Mem) (h : fn_X7_store σ t p0 = some (rr, σr)) : Met l yX7_store (wsy yX7_store cX7_store 2 (some .int)) ({ frames := 1, cells := 0, slots := 0, locals := 22 } : Room) (va_Pc [.ref (ad t), .int p0] (PB g ad σ b)) (va_Qi (fun (r' : Int32) (u : Mem) => r' = rr ∧ u = σr) (GW g ad) (AA g ad true b)) 0 0 (AA g ad true b) := by
  refine Met.ofW (cc := cX7_store) (maxL := 2) (ret := (some .int)) (by decide) rfl ?_
  intro p e s m args below meth c s₁ B hml hv
  obtain ⟨rfl, hv⟩ := hv
  have S : CallFix p m c cX7_store 2 s _ AL RX7 := ⟨B.exec, B.bytes, hml, findClass_of_methodNamed B.named, fun w h => atoms_spec (ws := wsy yX7_store cX7_store 2 (some .int)) B.pre w (List.mem_cons_of_mem _ h)⟩
  have hr := B.returns
  have hlk := B.notSynchronized
  have hG : GA g ad σ true b s s.heap [] := GA_start hv
  have hl := lv_entry ([.ref (ad t), .int p0]) (n := 2) (Nat.le_of_ble_eq_true rfl)
  rw [lg_entry_eq]
  generalize (lg_sl ([.ref (ad t), .int p0]) ++ List.replicate (2 - (lg_sl ([.ref (ad t), .int p0])).length) Slot.unset).toArray = ls at hl ⊢
  have hl : lv_has ls 2 [(0, .ref (ad t)), (1, .int p0)] := hl
  revert h
  unfold fn_X7_store
  refine v_aload_n S hl 0 rfl rfl dX7_store_0 ?_
  refine v_iconst S 0 dX7_store_1 rfl ?_
  refine pf_7_0 S hG q320 dX7_store_2 (fun σ1 H locs hG => ?_)
  refine v_iload_n S hl 1 rfl rfl dX7_store_5 ?_
  refine v_iconst S 1 dX7_store_6 rfl ?_
  refine v_bipush S 50 dX7_store_7 (by decide) ?_
  refine v_cS_iR S hG [.int p0, .int 1, .int 50] (met_X7_isIn l g ad true b σ1 p0 1 50) mw_X7_isIn q321 dX7_store_9 rfl rfl hl.1 (Nat.le_of_ble_eq_true rfl) ⟨Nat.le_of_ble_eq_true rfl, Nat.le_of_ble_eq_true rfl⟩ rfl rfl ⟨Nat.le_of_ble_eq_true rfl, Nat.le_of_ble_eq_true rfl⟩ (fun r2 H locs hG => ?_)
  refine v_if_ne S 21 dX7_store_12 (by decide) ?_ ?_
  · refine v_aload_n S hl 0 rfl rfl dX7_store_21 ?_
    refine gr_7_9 S hG q336 dX7_store_22 (fun r3 => ?_)
    refine v_bipush S 99 dX7_store_25 (by decide) ?_
    refine v_aload_n S hl 0 rfl rfl dX7_store_27 ?_
    refine gr_7_9 S hG q336 dX7_store_28 (fun r4 => ?_)
    refine gfN_6_1 S hG q353 dX7_store_31 ?_
    refine v_iload_n S hl 1 rfl rfl dX7_store_34 ?_
    refine v_iadd S dX7_store_35 ?_
    refine v_mmin S q354 mw_min hl.1 (Nat.le_of_ble_eq_true rfl) (Nat.le_of_ble_eq_true rfl) (Nat.le_of_ble_eq_true rfl) (Nat.le_of_ble_eq_true rfl) dX7_store_36 ?_
    refine pfN_6_1 S hG q353 dX7_store_39 (fun σ5 H locs hG => ?_)
    refine v_aload_n S hl 0 rfl rfl dX7_store_42 ?_
    refine gr_7_9 S hG q336 dX7_store_43 (fun r6 => ?_)
    refine gfN_6_1 S hG q353 dX7_store_46 ?_
    exact v_iretm S hG hr hlk (Nat.le_of_ble_eq_true rfl) (Nat.le_of_ble_eq_true rfl) dX7_store_49
  · refine v_aload_n S hl 0 rfl rfl dX7_store_15 ?_
    refine v_iconst S 1 dX7_store_16 rfl ?_
    refine v_cV_im S hG [.int 1] rfl rfl (by decide) (met_X7_no l g ad true b σ1 t 1) mw_X7_no q338 dX7_store_17 rfl rfl hl.1 (Nat.le_of_ble_eq_true rfl) ⟨Nat.le_of_ble_eq_true rfl, Nat.le_of_ble_eq_true rfl⟩ rfl rfl ⟨Nat.le_of_ble_eq_true rfl, Nat.le_of_ble_eq_true rfl⟩ (fun r7 σ8 H locs hG => ?_)
    exact v_iretm S hG hr hlk (Nat.le_of_ble_eq_true rfl) (Nat.le_of_ble_eq_true rfl) dX7_store_20
set_option maxHeartbeats 4000000 in
set_option maxRecDepth 100000 in
theorem met_X7_lastsOn (l : Launch) (g : GT) (ad : Nat → Nat) (w : Bool) (b : Nat) (σ : Mem) (t : Nat) (p0 : Int32) (p1 : Int32) (rr : Int32) (h : fn_X7_lastsOn σ t p0 p1 = some rr) : Met l yX7_lastsOn (wsy yX7_lastsOn cX7_lastsOn 4 (some .int)) ({ frames := 0, cells := 0, slots := 0, locals := 0 } : Room) (va_Pc [.ref (ad t), .int p0, .int p1] (PB g ad σ b)) (va_Qi (fun (r' : Int32) (u : Mem) => r' = rr ∧ u = σ) (GW g ad) (AA g ad w b)) 0 0 (AA g ad w b) := by
  refine Met.ofW (cc := cX7_lastsOn) (maxL := 4) (ret := (some .int)) (by decide) rfl ?_
  intro p e s m args below meth c s₁ B hml hv
  obtain ⟨rfl, hv⟩ := hv
  have S : CallFix p m c cX7_lastsOn 4 s _ AL RX7 := ⟨B.exec, B.bytes, hml, findClass_of_methodNamed B.named, fun w h => atoms_spec (ws := wsy yX7_lastsOn cX7_lastsOn 4 (some .int)) B.pre w (List.mem_cons_of_mem _ h)⟩
  have hr := B.returns
  have hlk := B.notSynchronized
  have hG : GA g ad σ w b s s.heap [] := GA_start hv
  have hl := lv_entry ([.ref (ad t), .int p0, .int p1]) (n := 4) (Nat.le_of_ble_eq_true rfl)
  rw [lg_entry_eq]
  generalize (lg_sl ([.ref (ad t), .int p0, .int p1]) ++ List.replicate (4 - (lg_sl ([.ref (ad t), .int p0, .int p1])).length) Slot.unset).toArray = ls at hl ⊢
  have hl : lv_has ls 4 [(0, .ref (ad t)), (1, .int p0), (2, .int p1)] := hl
  revert h
  unfold fn_X7_lastsOn
  refine v_bipush S 10 dX7_lastsOn_0 (by decide) ?_
  refine v_aload_n S hl 0 rfl rfl dX7_lastsOn_2 ?_
  refine gr_7_9 S hG q336 dX7_lastsOn_3 (fun r1 => ?_)
  refine grN_6_4 S hG q347 dX7_lastsOn_6 (fun r2 => ?_)
  refine v_iconst S 2 dX7_lastsOn_9 rfl ?_
  refine v_iload_n S hl 1 rfl rfl dX7_lastsOn_10 ?_
  refine v_imul S dX7_lastsOn_11 ?_
  refine v_iload_n S hl 2 rfl rfl dX7_lastsOn_12 ?_
  refine v_iadd S dX7_lastsOn_13 ?_
  refine v_iald S hG dX7_lastsOn_14 ?_
  refine v_imul S dX7_lastsOn_15 ?_
  refine v_aload_n S hl 0 rfl rfl dX7_lastsOn_16 ?_
  refine gr_7_9 S hG q336 dX7_lastsOn_17 (fun r3 => ?_)
  refine grN_6_5 S hG q355 dX7_lastsOn_20 (fun r4 => ?_)
  refine v_iconst S 2 dX7_lastsOn_23 rfl ?_
  refine v_iload_n S hl 1 rfl rfl dX7_lastsOn_24 ?_
  refine v_imul S dX7_lastsOn_25 ?_
  refine v_iload_n S hl 2 rfl rfl dX7_lastsOn_26 ?_
  refine v_iadd S dX7_lastsOn_27 ?_
  refine v_iald S hG dX7_lastsOn_28 ?_
  refine v_isub S dX7_lastsOn_29 ?_
  refine v_nm (fun x5 => ?_)
  refine v_istore_n S hl [(3, .int x5), (0, .ref (ad t)), (1, .int p0), (2, .int p1)] rfl dX7_lastsOn_30 (by decide) rfl (fun ls hl => ?_)
  refine v_iload_n S hl 0 rfl rfl dX7_lastsOn_31 ?_
  refine v_aload_n S hl 1 rfl rfl dX7_lastsOn_32 ?_
  refine gr_7_9 S hG q336 dX7_lastsOn_33 (fun r6 => ?_)
  refine grN_6_3 S hG q337 dX7_lastsOn_36 (fun r7 => ?_)
  refine v_iload_n S hl 2 rfl rfl dX7_lastsOn_39 ?_
  refine v_iald S hG dX7_lastsOn_40 ?_
  refine v_iadd S dX7_lastsOn_41 ?_
  refine v_iconst S 1 dX7_lastsOn_42 rfl ?_
  refine v_isub S dX7_lastsOn_43 ?_
  refine v_aload_n S hl 1 rfl rfl dX7_lastsOn_44 ?_
  refine gr_7_9 S hG q336 dX7_lastsOn_45 (fun r8 => ?_)
  refine grN_6_3 S hG q337 dX7_lastsOn_48 (fun r9 => ?_)
  refine v_iload_n S hl 2 rfl rfl dX7_lastsOn_51 ?_
  refine v_iald S hG dX7_lastsOn_52 ?_
  refine v_idiv S dX7_lastsOn_53 ?_
  exact v_iretR S hG hr hlk (Nat.le_of_ble_eq_true rfl) (Nat.le_of_ble_eq_true rfl) dX7_lastsOn_54
set_option maxHeartbeats 4000000 in
set_option maxRecDepth 100000 in
theorem met_X7_lasts (l : Launch) (g : GT) (ad : Nat → Nat) (_ : Bool) (b : Nat) (σ : Mem) (t : Nat) (p0 : Int32) (p1 : Int32) (rr : Int32) (σr : Mem) (h : fn_X7_lasts σ t p0 p1 = some (rr, σr)) : Met l yX7_lasts (wsy yX7_lasts cX7_lasts 3 (some .int)) ({ frames := 2, cells := 0, slots := 0, locals := 42 } : Room) (va_Pc [.ref (ad t), .int p0, .int p1] (PB g ad σ b)) (va_Qi (fun (r' : Int32) (u : Mem) => r' = rr ∧ u = σr) (GW g ad) (AA g ad true b)) 0 0 (AA g ad true b) := by
  refine Met.ofW (cc := cX7_lasts) (maxL := 3) (ret := (some .int)) (by decide) rfl ?_
  intro p e s m args below meth c s₁ B hml hv
  obtain ⟨rfl, hv⟩ := hv
  have S : CallFix p m c cX7_lasts 3 s _ AL RX7 := ⟨B.exec, B.bytes, hml, findClass_of_methodNamed B.named, fun w h => atoms_spec (ws := wsy yX7_lasts cX7_lasts 3 (some .int)) B.pre w (List.mem_cons_of_mem _ h)⟩
  have hr := B.returns
  have hlk := B.notSynchronized
  have hG : GA g ad σ true b s s.heap [] := GA_start hv
  have hl := lv_entry ([.ref (ad t), .int p0, .int p1]) (n := 3) (Nat.le_of_ble_eq_true rfl)
  rw [lg_entry_eq]
  generalize (lg_sl ([.ref (ad t), .int p0, .int p1]) ++ List.replicate (3 - (lg_sl ([.ref (ad t), .int p0, .int p1])).length) Slot.unset).toArray = ls at hl ⊢
  have hl : lv_has ls 3 [(0, .ref (ad t)), (1, .int p0), (2, .int p1)] := hl
  revert h
  unfold fn_X7_lasts
  refine v_aload_n S hl 0 rfl rfl dX7_lasts_0 ?_
  refine v_iconst S 0 dX7_lasts_1 rfl ?_
  refine pf_7_0 S hG q320 dX7_lasts_2 (fun σ1 H locs hG => ?_)
  refine v_iload_n S hl 1 rfl rfl dX7_lasts_5 ?_
  refine v_cS_iR S hG [.int p0] (met_X7_isBell l g ad true b σ1 p0) mw_X7_isBell q333 dX7_lasts_6 rfl rfl hl.1 (Nat.le_of_ble_eq_true rfl) ⟨Nat.le_of_ble_eq_true rfl, Nat.le_of_ble_eq_true rfl⟩ rfl rfl ⟨Nat.le_of_ble_eq_true rfl, Nat.le_of_ble_eq_true rfl⟩ (fun r2 H locs hG => ?_)
  refine v_if_eq S 28 dX7_lasts_9 (by decide) ?_ ?_
  · refine v_aload_n S hl 0 rfl rfl dX7_lasts_28 ?_
    refine v_iconst S 1 dX7_lasts_29 rfl ?_
    refine v_cV_im S hG [.int 1] rfl rfl (by decide) (met_X7_no l g ad true b σ1 t 1) mw_X7_no q338 dX7_lasts_30 rfl rfl hl.1 (Nat.le_of_ble_eq_true rfl) ⟨Nat.le_of_ble_eq_true rfl, Nat.le_of_ble_eq_true rfl⟩ rfl rfl ⟨Nat.le_of_ble_eq_true rfl, Nat.le_of_ble_eq_true rfl⟩ (fun r3 σ4 H locs hG => ?_)
    exact v_iretm S hG hr hlk (Nat.le_of_ble_eq_true rfl) (Nat.le_of_ble_eq_true rfl) dX7_lasts_33
  · refine v_iload_n S hl 2 rfl rfl dX7_lasts_12 ?_
    refine v_cS_iR S hG [.int p1] (met_X7_isSide l g ad true b σ1 p1) mw_X7_isSide q344 dX7_lasts_13 rfl rfl hl.1 (Nat.le_of_ble_eq_true rfl) ⟨Nat.le_of_ble_eq_true rfl, Nat.le_of_ble_eq_true rfl⟩ rfl rfl ⟨Nat.le_of_ble_eq_true rfl, Nat.le_of_ble_eq_true rfl⟩ (fun r5 H locs hG => ?_)
    refine v_if_eq S 28 dX7_lasts_16 (by decide) ?_ ?_
    · refine v_aload_n S hl 0 rfl rfl dX7_lasts_28 ?_
      refine v_iconst S 1 dX7_lasts_29 rfl ?_
      refine v_cV_im S hG [.int 1] rfl rfl (by decide) (met_X7_no l g ad true b σ1 t 1) mw_X7_no q338 dX7_lasts_30 rfl rfl hl.1 (Nat.le_of_ble_eq_true rfl) ⟨Nat.le_of_ble_eq_true rfl, Nat.le_of_ble_eq_true rfl⟩ rfl rfl ⟨Nat.le_of_ble_eq_true rfl, Nat.le_of_ble_eq_true rfl⟩ (fun r6 σ7 H locs hG => ?_)
      exact v_iretm S hG hr hlk (Nat.le_of_ble_eq_true rfl) (Nat.le_of_ble_eq_true rfl) dX7_lasts_33
    · refine v_aload_n S hl 0 rfl rfl dX7_lasts_19 ?_
      refine v_iload_n S hl 1 rfl rfl dX7_lasts_20 ?_
      refine v_iload_n S hl 2 rfl rfl dX7_lasts_21 ?_
      refine v_cV_iR S hG [.int p0, .int p1] rfl rfl (by decide) (met_X7_lastsOn l g ad true b σ1 t p0 p1) mw_X7_lastsOn q356 dX7_lasts_22 rfl rfl hl.1 (Nat.le_of_ble_eq_true rfl) ⟨Nat.le_of_ble_eq_true rfl, Nat.le_of_ble_eq_true rfl⟩ rfl rfl ⟨Nat.le_of_ble_eq_true rfl, Nat.le_of_ble_eq_true rfl⟩ (fun r8 H locs hG => ?_)
      refine v_goto S 33 dX7_lasts_25 (by decide) ?_
      exact v_iretm S hG hr hlk (Nat.le_of_ble_eq_true rfl) (Nat.le_of_ble_eq_true rfl) dX7_lasts_33
set_option maxHeartbeats 4000000 in
set_option maxRecDepth 100000 in
theorem wl_X6_first_2 {p : Program} {l : Launch} {e : Env} {s : State} {m : MethodId} {args : Array Value} {below : List Frame} {meth : Method} {c : Code} {g : GT} {ad : Nat → Nat} {w : Bool} {b : Nat} (S : CallFix p m c cX6_first 3 s args AL RX6) (hr : meth.sig.returnType = some .int) (hlk : meth.locks = false) (σ : Mem) (a0 : Nat) (a1 : Int32) {rr : Int32} {K : Int32 → Option Int32} (kx : ∀ (y2 : Int32) (H : Heap) (locs : List Loc) (ls : Array Slot), lv_has ls 3 [(0, .ref (ad a0)), (1, .int a1), (2, .int y2)] → GA g ad σ w b s H locs → K y2 = some rr → W p l e ({ frames := 0, cells := 0, slots := 0, locals := 0 } : Room) s m args below meth c H locs 0 0 (MQ below (va_Qi (fun (r' : Int32) (u : Mem) => r' = rr ∧ u = σ) (GW g ad) (AA g ad w b)) args s 0 0 (AA g ad w b)) (F0 m 41 ls [])) : ∀ (fuel : Nat) (y2 : Int32) (H : Heap) (locs : List Loc) (ls : Array Slot), lv_has ls 3 [(0, .ref (ad a0)), (1, .int a1), (2, .int y2)] → GA g ad σ w b s H locs → lp_X6_first_2 σ a0 a1 K fuel y2 = some rr → W p l e ({ frames := 0, cells := 0, slots := 0, locals := 0 } : Room) s m args below meth c H locs 0 0 (MQ below (va_Qi (fun (r' : Int32) (u : Mem) => r' = rr ∧ u = σ) (GW g ad) (AA g ad w b)) args s 0 0 (AA g ad w b)) (F0 m 2 ls []) := by
  intro fuel
  induction fuel with
  | zero =>
    intro y2 H locs ls hl hG h
    rw [lp_X6_first_2.eq_1] at h
    cases h
  | succ fuel ih =>
    intro y2 H locs ls hl hG
    rw [lp_X6_first_2.eq_2]
    refine v_iload_n S hl 2 rfl rfl dX6_first_2 ?_
    refine v_aload_n S hl 0 rfl rfl dX6_first_3 ?_
    refine gf_6_2 S hG q360 dX6_first_4 ?_
    refine v_icmp_ge S 41 dX6_first_7 (by decide) ?_ ?_
    · exact kx y2 _ _ ls (lv_sub hl [0, 1, 2] rfl) hG
    · refine v_aload_n S hl 0 rfl rfl dX6_first_10 ?_
      refine gr_6_16 S hG q361 dX6_first_11 (fun r1 => ?_)
      refine grN_7_4 S hG q362 dX6_first_14 (fun r2 => ?_)
      refine v_iload_n S hl 2 rfl rfl dX6_first_17 ?_
      refine v_iald S hG dX6_first_18 ?_
      refine v_iload_n S hl 1 rfl rfl dX6_first_19 ?_
      refine v_icmp_ne S 35 dX6_first_20 (by decide) ?_ ?_
      · refine v_iinc S hl 2 rfl dX6_first_35 rfl (by decide) (fun z => [(2, .int z), (0, .ref (ad a0)), (1, .int a1)]) (fun _ => rfl) (fun x3 ls hl => ?_)
        refine v_goto S 2 dX6_first_38 (by decide) ?_
        exact ih x3 _ _ ls (lv_sub hl [1, 2, 0] rfl) hG
      · refine v_aload_n S hl 0 rfl rfl dX6_first_23 ?_
        refine gr_6_15 S hG q363 dX6_first_24 (fun r4 => ?_)
        refine v_iload_n S hl 2 rfl rfl dX6_first_27 ?_
        refine v_iald S hG dX6_first_28 ?_
        refine v_iconst S (-1) dX6_first_29 rfl ?_
        refine v_icmp_ne S 35 dX6_first_30 (by decide) ?_ ?_
        · refine v_iinc S hl 2 rfl dX6_first_35 rfl (by decide) (fun z => [(2, .int z), (0, .ref (ad a0)), (1, .int a1)]) (fun _ => rfl) (fun x5 ls hl => ?_)
          refine v_goto S 2 dX6_first_38 (by decide) ?_
          exact ih x5 _ _ ls (lv_sub hl [1, 2, 0] rfl) hG
        · refine v_iload_n S hl 2 rfl rfl dX6_first_33 ?_
          exact v_iretR S hG hr hlk (Nat.le_of_ble_eq_true rfl) (Nat.le_of_ble_eq_true rfl) dX6_first_34
set_option maxHeartbeats 4000000 in
set_option maxRecDepth 100000 in
theorem met_X6_first (l : Launch) (g : GT) (ad : Nat → Nat) (w : Bool) (b : Nat) (σ : Mem) (t : Nat) (p0 : Int32) (rr : Int32) (h : fn_X6_first σ t p0 = some rr) : Met l yX6_first (wsy yX6_first cX6_first 3 (some .int)) ({ frames := 0, cells := 0, slots := 0, locals := 0 } : Room) (va_Pc [.ref (ad t), .int p0] (PB g ad σ b)) (va_Qi (fun (r' : Int32) (u : Mem) => r' = rr ∧ u = σ) (GW g ad) (AA g ad w b)) 0 0 (AA g ad w b) := by
  refine Met.ofW (cc := cX6_first) (maxL := 3) (ret := (some .int)) (by decide) rfl ?_
  intro p e s m args below meth c s₁ B hml hv
  obtain ⟨rfl, hv⟩ := hv
  have S : CallFix p m c cX6_first 3 s _ AL RX6 := ⟨B.exec, B.bytes, hml, findClass_of_methodNamed B.named, fun w h => atoms_spec (ws := wsy yX6_first cX6_first 3 (some .int)) B.pre w (List.mem_cons_of_mem _ h)⟩
  have hr := B.returns
  have hlk := B.notSynchronized
  have hG : GA g ad σ w b s s.heap [] := GA_start hv
  have hl := lv_entry ([.ref (ad t), .int p0]) (n := 3) (Nat.le_of_ble_eq_true rfl)
  rw [lg_entry_eq]
  generalize (lg_sl ([.ref (ad t), .int p0]) ++ List.replicate (3 - (lg_sl ([.ref (ad t), .int p0])).length) Slot.unset).toArray = ls at hl ⊢
  have hl : lv_has ls 3 [(0, .ref (ad t)), (1, .int p0)] := hl
  revert h
  unfold fn_X6_first
  refine v_iconst S 0 dX6_first_0 rfl ?_
  refine v_istore_n S hl [(2, .int 0), (0, .ref (ad t)), (1, .int p0)] rfl dX6_first_1 (by decide) rfl (fun ls hl => ?_)
  refine wl_X6_first_2 S hr hlk σ t p0 (fun x6 H locs ls hl hG => ?_) 30 0 _ _ ls (lv_sub hl [1, 2, 0] rfl) hG
  refine v_iconst S (-1) dX6_first_41 rfl ?_
  exact v_iretR S hG hr hlk (Nat.le_of_ble_eq_true rfl) (Nat.le_of_ble_eq_true rfl) dX6_first_42
set_option maxHeartbeats 4000000 in
set_option maxRecDepth 100000 in
theorem wl_X7_bellTold_5 {p : Program} {l : Launch} {e : Env} {s : State} {m : MethodId} {args : Array Value} {below : List Frame} {meth : Method} {c : Code} {g : GT} {ad : Nat → Nat} {b : Nat} (S : CallFix p m c cX7_bellTold 5 s args AL RX7) (hr : meth.sig.returnType = some .int) (hlk : meth.locks = false) (σ : Mem) (a0 : Nat) (a1 : Int32) (a2 : Int32) {rr : Int32} {K : Int32 → Int32 → Option Int32} (kx : ∀ (y3 : Int32) (y4 : Int32) (H : Heap) (locs : List Loc) (ls : Array Slot), lv_has ls 5 [(0, .ref (ad a0)), (1, .int a1), (2, .int a2), (3, .int y3), (4, .int y4)] → GA g ad σ false b s H locs → K y3 y4 = some rr → W p l e ({ frames := 1, cells := 1, slots := 9, locals := 22 } : Room) s m args below meth c H locs 0 0 (MQ below (va_Qi (fun (r' : Int32) (u : Mem) => r' = rr ∧ u = σ) (GW g ad) (AA g ad false b)) args s 1 9 (AA g ad false b)) (F0 m 53 ls [])) : ∀ (fuel : Nat) (y3 : Int32) (y4 : Int32) (H : Heap) (locs : List Loc) (ls : Array Slot), lv_has ls 5 [(0, .ref (ad a0)), (1, .int a1), (2, .int a2), (3, .int y3), (4, .int y4)] → GA g ad σ false b s H locs → lp_X7_bellTold_5 σ a0 a1 a2 K fuel y3 y4 = some rr → W p l e ({ frames := 1, cells := 1, slots := 9, locals := 22 } : Room) s m args below meth c H locs 0 0 (MQ below (va_Qi (fun (r' : Int32) (u : Mem) => r' = rr ∧ u = σ) (GW g ad) (AA g ad false b)) args s 1 9 (AA g ad false b)) (F0 m 5 ls []) := by
  intro fuel
  induction fuel with
  | zero =>
    intro y3 y4 H locs ls hl hG h
    rw [lp_X7_bellTold_5.eq_1] at h
    cases h
  | succ fuel ih =>
    intro y3 y4 H locs ls hl hG
    rw [lp_X7_bellTold_5.eq_2]
    refine v_iload S hl 4 rfl dX7_bellTold_5 ?_
    refine v_aload_n S hl 0 rfl rfl dX7_bellTold_7 ?_
    refine gf_7_3 S hG q326 dX7_bellTold_8 ?_
    refine v_icmp_ge S 53 dX7_bellTold_11 (by decide) ?_ ?_
    · exact kx y3 y4 _ _ ls (lv_sub hl [0, 1, 2, 3, 4] rfl) hG
    · refine v_iload_n S hl 3 rfl rfl dX7_bellTold_14 ?_
      refine v_aload_n S hl 0 rfl rfl dX7_bellTold_15 ?_
      refine gr_7_4 S hG q364 dX7_bellTold_16 (fun r1 => ?_)
      refine v_iload S hl 4 rfl dX7_bellTold_19 ?_
      refine v_iald S hG dX7_bellTold_21 ?_
      refine v_iload_n S hl 1 rfl rfl dX7_bellTold_22 ?_
      refine v_icmp_ne S 44 dX7_bellTold_23 (by decide) ?_ ?_
      · refine v_iconst S 0 dX7_bellTold_44 rfl ?_
        refine v_iadd S dX7_bellTold_45 ?_
        refine v_nm (fun x2 => ?_)
        refine v_istore_n S hl [(3, .int x2), (0, .ref (ad a0)), (1, .int a1), (2, .int a2), (4, .int y4)] rfl dX7_bellTold_46 (by decide) rfl (fun ls hl => ?_)
        refine v_iinc S hl 4 rfl dX7_bellTold_47 rfl (by decide) (fun z => [(4, .int z), (3, .int x2), (0, .ref (ad a0)), (1, .int a1), (2, .int a2)]) (fun _ => rfl) (fun x3 ls hl => ?_)
        refine v_goto S 5 dX7_bellTold_50 (by decide) ?_
        exact ih x2 x3 _ _ ls (lv_sub hl [2, 3, 4, 1, 0] rfl) hG
      · refine v_aload_n S hl 0 rfl rfl dX7_bellTold_26 ?_
        refine gr_7_9 S hG q336 dX7_bellTold_27 (fun r4 => ?_)
        refine grN_6_15 S hG q365 dX7_bellTold_30 (fun r5 => ?_)
        refine v_iload S hl 4 rfl dX7_bellTold_33 ?_
        refine v_iald S hG dX7_bellTold_35 ?_
        refine v_iconst S (-1) dX7_bellTold_36 rfl ?_
        refine v_icmp_ne S 44 dX7_bellTold_37 (by decide) ?_ ?_
        · refine v_iconst S 0 dX7_bellTold_44 rfl ?_
          refine v_iadd S dX7_bellTold_45 ?_
          refine v_nm (fun x6 => ?_)
          refine v_istore_n S hl [(3, .int x6), (0, .ref (ad a0)), (1, .int a1), (2, .int a2), (4, .int y4)] rfl dX7_bellTold_46 (by decide) rfl (fun ls hl => ?_)
          refine v_iinc S hl 4 rfl dX7_bellTold_47 rfl (by decide) (fun z => [(4, .int z), (3, .int x6), (0, .ref (ad a0)), (1, .int a1), (2, .int a2)]) (fun _ => rfl) (fun x7 ls hl => ?_)
          refine v_goto S 5 dX7_bellTold_50 (by decide) ?_
          exact ih x6 x7 _ _ ls (lv_sub hl [2, 3, 4, 1, 0] rfl) hG
        · refine v_iconst S 1 dX7_bellTold_40 rfl ?_
          refine v_goto S 45 dX7_bellTold_41 (by decide) ?_
          refine v_iadd S dX7_bellTold_45 ?_
          refine v_nm (fun x8 => ?_)
          refine v_istore_n S hl [(3, .int x8), (0, .ref (ad a0)), (1, .int a1), (2, .int a2), (4, .int y4)] rfl dX7_bellTold_46 (by decide) rfl (fun ls hl => ?_)
          refine v_iinc S hl 4 rfl dX7_bellTold_47 rfl (by decide) (fun z => [(4, .int z), (3, .int x8), (0, .ref (ad a0)), (1, .int a1), (2, .int a2)]) (fun _ => rfl) (fun x9 ls hl => ?_)
          refine v_goto S 5 dX7_bellTold_50 (by decide) ?_
          exact ih x8 x9 _ _ ls (lv_sub hl [2, 3, 4, 1, 0] rfl) hG
set_option maxHeartbeats 4000000 in
set_option maxRecDepth 100000 in
theorem met0_X7_bellTold (l : Launch) (g : GT) (ad : Nat → Nat) (b : Nat) (σ : Mem) (t : Nat) (p0 : Int32) (p1 : Int32) (rr : Int32) (h : fn_X7_bellTold σ t p0 p1 = some rr) : Met l yX7_bellTold (wsy yX7_bellTold cX7_bellTold 5 (some .int)) ({ frames := 1, cells := 1, slots := 9, locals := 22 } : Room) (va_Pc [.ref (ad t), .int p0, .int p1] (PB g ad σ b)) (va_Qi (fun (r' : Int32) (u : Mem) => r' = rr ∧ u = σ) (GW g ad) (AA g ad false b)) 1 9 (AA g ad false b) := by
  refine Met.ofW (cc := cX7_bellTold) (maxL := 5) (ret := (some .int)) (by decide) rfl ?_
  intro p e s m args below meth c s₁ B hml hv
  obtain ⟨rfl, hv⟩ := hv
  have S : CallFix p m c cX7_bellTold 5 s _ AL RX7 := ⟨B.exec, B.bytes, hml, findClass_of_methodNamed B.named, fun w h => atoms_spec (ws := wsy yX7_bellTold cX7_bellTold 5 (some .int)) B.pre w (List.mem_cons_of_mem _ h)⟩
  have hr := B.returns
  have hlk := B.notSynchronized
  have hG : GA g ad σ false b s s.heap [] := GA_start hv
  have hl := lv_entry ([.ref (ad t), .int p0, .int p1]) (n := 5) (Nat.le_of_ble_eq_true rfl)
  rw [lg_entry_eq]
  generalize (lg_sl ([.ref (ad t), .int p0, .int p1]) ++ List.replicate (5 - (lg_sl ([.ref (ad t), .int p0, .int p1])).length) Slot.unset).toArray = ls at hl ⊢
  have hl : lv_has ls 5 [(0, .ref (ad t)), (1, .int p0), (2, .int p1)] := hl
  revert h
  unfold fn_X7_bellTold
  refine v_iconst S 0 dX7_bellTold_0 rfl ?_
  refine v_istore_n S hl [(3, .int 0), (0, .ref (ad t)), (1, .int p0), (2, .int p1)] rfl dX7_bellTold_1 (by decide) rfl (fun ls hl => ?_)
  refine v_iconst S 0 dX7_bellTold_2 rfl ?_
  refine v_istore S hl [(4, .int 0), (3, .int 0), (0, .ref (ad t)), (1, .int p0), (2, .int p1)] dX7_bellTold_3 (by decide) rfl (fun ls hl => ?_)
  refine wl_X7_bellTold_5 S hr hlk σ t p0 p1 (fun x10 x11 H locs ls hl hG => ?_) 30 0 0 _ _ ls (lv_sub hl [2, 3, 4, 1, 0] rfl) hG
  refine v_bipush S 9 dX7_bellTold_53 (by decide) ?_
  refine v_tnew S hG (n := 9) q366 dX7_bellTold_55 (by decide) rfl (Nat.le_of_ble_eq_true rfl) (Nat.le_of_ble_eq_true rfl) (Nat.le_of_ble_eq_true rfl) (fun f12 qt13 H hG hT => ?_)
  refine v_dup S dX7_bellTold_57 rfl ?_
  refine v_iconst S 0 dX7_bellTold_58 rfl ?_
  refine v_aload_n S hl 0 rfl rfl dX7_bellTold_59 ?_
  refine gr_7_9 S hG q336 dX7_bellTold_60 (fun r14 => ?_)
  refine grN_6_3 S hG q337 dX7_bellTold_63 (fun r15 => ?_)
  refine v_iload_n S hl 1 rfl rfl dX7_bellTold_66 ?_
  refine v_iald S hG dX7_bellTold_67 ?_
  refine v_tast S hG hT dX7_bellTold_68 (fun f16 H locs hG hT => ?_)
  refine v_dup S dX7_bellTold_69 rfl ?_
  refine v_iconst S 1 dX7_bellTold_70 rfl ?_
  refine v_aload_n S hl 0 rfl rfl dX7_bellTold_71 ?_
  refine gr_7_9 S hG q336 dX7_bellTold_72 (fun r17 => ?_)
  refine grN_6_4 S hG q347 dX7_bellTold_75 (fun r18 => ?_)
  refine v_iconst S 2 dX7_bellTold_78 rfl ?_
  refine v_iload_n S hl 1 rfl rfl dX7_bellTold_79 ?_
  refine v_imul S dX7_bellTold_80 ?_
  refine v_iald S hG dX7_bellTold_81 ?_
  refine v_tast S hG hT dX7_bellTold_82 (fun f19 H locs hG hT => ?_)
  refine v_dup S dX7_bellTold_83 rfl ?_
  refine v_iconst S 2 dX7_bellTold_84 rfl ?_
  refine v_aload_n S hl 0 rfl rfl dX7_bellTold_85 ?_
  refine gr_7_9 S hG q336 dX7_bellTold_86 (fun r20 => ?_)
  refine grN_6_4 S hG q347 dX7_bellTold_89 (fun r21 => ?_)
  refine v_iconst S 2 dX7_bellTold_92 rfl ?_
  refine v_iload_n S hl 1 rfl rfl dX7_bellTold_93 ?_
  refine v_imul S dX7_bellTold_94 ?_
  refine v_iconst S 1 dX7_bellTold_95 rfl ?_
  refine v_iadd S dX7_bellTold_96 ?_
  refine v_iald S hG dX7_bellTold_97 ?_
  refine v_tast S hG hT dX7_bellTold_98 (fun f22 H locs hG hT => ?_)
  refine v_dup S dX7_bellTold_99 rfl ?_
  refine v_iconst S 3 dX7_bellTold_100 rfl ?_
  refine v_aload_n S hl 0 rfl rfl dX7_bellTold_101 ?_
  refine gr_7_9 S hG q336 dX7_bellTold_102 (fun r23 => ?_)
  refine grN_6_6 S hG q367 dX7_bellTold_105 (fun r24 => ?_)
  refine v_iload_n S hl 1 rfl rfl dX7_bellTold_108 ?_
  refine v_iald S hG dX7_bellTold_109 ?_
  refine v_tast S hG hT dX7_bellTold_110 (fun f25 H locs hG hT => ?_)
  refine v_dup S dX7_bellTold_111 rfl ?_
  refine v_iconst S 4 dX7_bellTold_112 rfl ?_
  refine v_aload_n S hl 0 rfl rfl dX7_bellTold_113 ?_
  refine gr_7_9 S hG q336 dX7_bellTold_114 (fun r26 => ?_)
  refine grN_6_7 S hG q368 dX7_bellTold_117 (fun r27 => ?_)
  refine v_iload_n S hl 1 rfl rfl dX7_bellTold_120 ?_
  refine v_iald S hG dX7_bellTold_121 ?_
  refine v_tast S hG hT dX7_bellTold_122 (fun f28 H locs hG hT => ?_)
  refine v_dup S dX7_bellTold_123 rfl ?_
  refine v_iconst S 5 dX7_bellTold_124 rfl ?_
  refine v_aload_n S hl 0 rfl rfl dX7_bellTold_125 ?_
  refine gr_7_9 S hG q336 dX7_bellTold_126 (fun r29 => ?_)
  refine v_iload_n S hl 1 rfl rfl dX7_bellTold_129 ?_
  refine v_cVT_i S hG hT [.int p0] rfl rfl (by decide) (fun b9 => met_X6_first l g ad false b9 σ r29 p0) mw_X6_first q369 dX7_bellTold_130 rfl rfl hl.1 (Nat.le_of_ble_eq_true rfl) ⟨Nat.le_of_ble_eq_true rfl, Nat.le_of_ble_eq_true rfl⟩ rfl rfl ⟨Nat.le_of_ble_eq_true rfl, Nat.le_of_ble_eq_true rfl⟩ (fun r30 H locs hG hT => ?_)
  refine v_tast S hG hT dX7_bellTold_133 (fun f31 H locs hG hT => ?_)
  refine v_dup S dX7_bellTold_134 rfl ?_
  refine v_bipush S 6 dX7_bellTold_135 (by decide) ?_
  refine v_aload_n S hl 0 rfl rfl dX7_bellTold_137 ?_
  refine gr_7_9 S hG q336 dX7_bellTold_138 (fun r32 => ?_)
  refine grN_6_8 S hG q373 dX7_bellTold_141 (fun r33 => ?_)
  refine v_iload_n S hl 1 rfl rfl dX7_bellTold_144 ?_
  refine v_iald S hG dX7_bellTold_145 ?_
  refine v_tast S hG hT dX7_bellTold_146 (fun f34 H locs hG hT => ?_)
  refine v_dup S dX7_bellTold_147 rfl ?_
  refine v_bipush S 7 dX7_bellTold_148 (by decide) ?_
  refine v_iload_n S hl 3 rfl rfl dX7_bellTold_150 ?_
  refine v_tast S hG hT dX7_bellTold_151 (fun f35 H locs hG hT => ?_)
  refine v_dup S dX7_bellTold_152 rfl ?_
  refine v_bipush S 8 dX7_bellTold_153 (by decide) ?_
  refine v_aload_n S hl 0 rfl rfl dX7_bellTold_155 ?_
  refine gr_7_9 S hG q336 dX7_bellTold_156 (fun r36 => ?_)
  refine grN_6_9 S hG q374 dX7_bellTold_159 (fun r37 => ?_)
  refine v_iload_n S hl 1 rfl rfl dX7_bellTold_162 ?_
  refine v_iald S hG dX7_bellTold_163 ?_
  refine v_tast S hG hT dX7_bellTold_164 (fun f38 H locs hG hT => ?_)
  refine v_astore S hl [(4, .ref qt13), (0, .ref (ad t)), (1, .int p0), (2, .int p1), (3, .int x10)] dX7_bellTold_165 (by decide) rfl (fun ls hl => ?_)
  refine v_aload S hl 0 rfl dX7_bellTold_167 ?_
  refine v_iload_n S hl 3 rfl rfl dX7_bellTold_169 ?_
  refine v_tald S hG hT dX7_bellTold_170 ?_
  exact v_iretR S hG hr hlk (Nat.le_of_ble_eq_true rfl) (Nat.le_of_ble_eq_true rfl) dX7_bellTold_171
theorem met_X7_bellTold (l : Launch) (g : GT) (ad : Nat → Nat) (w : Bool) (b : Nat) (σ : Mem) (t : Nat) (p0 : Int32) (p1 : Int32) (rr : Int32) (h : fn_X7_bellTold σ t p0 p1 = some rr) : Met l yX7_bellTold (wsy yX7_bellTold cX7_bellTold 5 (some .int)) ({ frames := 1, cells := 1, slots := 9, locals := 22 } : Room) (va_Pc [.ref (ad t), .int p0, .int p1] (PB g ad σ b)) (va_Qi (fun (r' : Int32) (u : Mem) => r' = rr ∧ u = σ) (GW g ad) (AA g ad w b)) 1 9 (AA g ad w b) := Met_up w (met0_X7_bellTold l g ad b σ t p0 p1 rr h)
set_option maxHeartbeats 4000000 in
set_option maxRecDepth 100000 in
theorem met_X7_bell (l : Launch) (g : GT) (ad : Nat → Nat) (_ : Bool) (b : Nat) (σ : Mem) (t : Nat) (p0 : Int32) (p1 : Int32) (rr : Int32) (σr : Mem) (h : fn_X7_bell σ t p0 p1 = some (rr, σr)) : Met l yX7_bell (wsy yX7_bell cX7_bell 3 (some .int)) ({ frames := 2, cells := 1, slots := 9, locals := 46 } : Room) (va_Pc [.ref (ad t), .int p0, .int p1] (PB g ad σ b)) (va_Qi (fun (r' : Int32) (u : Mem) => r' = rr ∧ u = σr) (GW g ad) (AA g ad true b)) 1 9 (AA g ad true b) := by
  refine Met.ofW (cc := cX7_bell) (maxL := 3) (ret := (some .int)) (by decide) rfl ?_
  intro p e s m args below meth c s₁ B hml hv
  obtain ⟨rfl, hv⟩ := hv
  have S : CallFix p m c cX7_bell 3 s _ AL RX7 := ⟨B.exec, B.bytes, hml, findClass_of_methodNamed B.named, fun w h => atoms_spec (ws := wsy yX7_bell cX7_bell 3 (some .int)) B.pre w (List.mem_cons_of_mem _ h)⟩
  have hr := B.returns
  have hlk := B.notSynchronized
  have hG : GA g ad σ true b s s.heap [] := GA_start hv
  have hl := lv_entry ([.ref (ad t), .int p0, .int p1]) (n := 3) (Nat.le_of_ble_eq_true rfl)
  rw [lg_entry_eq]
  generalize (lg_sl ([.ref (ad t), .int p0, .int p1]) ++ List.replicate (3 - (lg_sl ([.ref (ad t), .int p0, .int p1])).length) Slot.unset).toArray = ls at hl ⊢
  have hl : lv_has ls 3 [(0, .ref (ad t)), (1, .int p0), (2, .int p1)] := hl
  revert h
  unfold fn_X7_bell
  refine v_aload_n S hl 0 rfl rfl dX7_bell_0 ?_
  refine v_iconst S 0 dX7_bell_1 rfl ?_
  refine pf_7_0 S hG q320 dX7_bell_2 (fun σ1 H locs hG => ?_)
  refine v_iload_n S hl 1 rfl rfl dX7_bell_5 ?_
  refine v_cS_iR S hG [.int p0] (met_X7_isBell l g ad true b σ1 p0) mw_X7_isBell q333 dX7_bell_6 rfl rfl hl.1 (Nat.le_of_ble_eq_true rfl) ⟨Nat.le_of_ble_eq_true rfl, Nat.le_of_ble_eq_true rfl⟩ rfl rfl ⟨Nat.le_of_ble_eq_true rfl, Nat.le_of_ble_eq_true rfl⟩ (fun r2 H locs hG => ?_)
  refine v_if_eq S 31 dX7_bell_9 (by decide) ?_ ?_
  · refine v_aload_n S hl 0 rfl rfl dX7_bell_31 ?_
    refine v_iconst S 1 dX7_bell_32 rfl ?_
    refine v_cV_im S hG [.int 1] rfl rfl (by decide) (met_X7_no l g ad true b σ1 t 1) mw_X7_no q338 dX7_bell_33 rfl rfl hl.1 (Nat.le_of_ble_eq_true rfl) ⟨Nat.le_of_ble_eq_true rfl, Nat.le_of_ble_eq_true rfl⟩ rfl rfl ⟨Nat.le_of_ble_eq_true rfl, Nat.le_of_ble_eq_true rfl⟩ (fun r3 σ4 H locs hG => ?_)
    exact v_iretm S hG hr hlk (Nat.le_of_ble_eq_true rfl) (Nat.le_of_ble_eq_true rfl) dX7_bell_36
  · refine v_iload_n S hl 2 rfl rfl dX7_bell_12 ?_
    refine v_iconst S 0 dX7_bell_13 rfl ?_
    refine v_bipush S 8 dX7_bell_14 (by decide) ?_
    refine v_cS_iR S hG [.int p1, .int 0, .int 8] (met_X7_isIn l g ad true b σ1 p1 0 8) mw_X7_isIn q321 dX7_bell_16 rfl rfl hl.1 (Nat.le_of_ble_eq_true rfl) ⟨Nat.le_of_ble_eq_true rfl, Nat.le_of_ble_eq_true rfl⟩ rfl rfl ⟨Nat.le_of_ble_eq_true rfl, Nat.le_of_ble_eq_true rfl⟩ (fun r5 H locs hG => ?_)
    refine v_if_eq S 31 dX7_bell_19 (by decide) ?_ ?_
    · refine v_aload_n S hl 0 rfl rfl dX7_bell_31 ?_
      refine v_iconst S 1 dX7_bell_32 rfl ?_
      refine v_cV_im S hG [.int 1] rfl rfl (by decide) (met_X7_no l g ad true b σ1 t 1) mw_X7_no q338 dX7_bell_33 rfl rfl hl.1 (Nat.le_of_ble_eq_true rfl) ⟨Nat.le_of_ble_eq_true rfl, Nat.le_of_ble_eq_true rfl⟩ rfl rfl ⟨Nat.le_of_ble_eq_true rfl, Nat.le_of_ble_eq_true rfl⟩ (fun r6 σ7 H locs hG => ?_)
      exact v_iretm S hG hr hlk (Nat.le_of_ble_eq_true rfl) (Nat.le_of_ble_eq_true rfl) dX7_bell_36
    · refine v_aload_n S hl 0 rfl rfl dX7_bell_22 ?_
      refine v_iload_n S hl 1 rfl rfl dX7_bell_23 ?_
      refine v_iload_n S hl 2 rfl rfl dX7_bell_24 ?_
      refine v_cV_iR S hG [.int p0, .int p1] rfl rfl (by decide) (met_X7_bellTold l g ad true b σ1 t p0 p1) mw_X7_bellTold q375 dX7_bell_25 rfl rfl hl.1 (Nat.le_of_ble_eq_true rfl) ⟨Nat.le_of_ble_eq_true rfl, Nat.le_of_ble_eq_true rfl⟩ rfl rfl ⟨Nat.le_of_ble_eq_true rfl, Nat.le_of_ble_eq_true rfl⟩ (fun r8 H locs hG => ?_)
      refine v_goto S 36 dX7_bell_28 (by decide) ?_
      exact v_iretm S hG hr hlk (Nat.le_of_ble_eq_true rfl) (Nat.le_of_ble_eq_true rfl) dX7_bell_36
set_option maxHeartbeats 4000000 in
set_option maxRecDepth 100000 in
theorem met_X7_ringer (l : Launch) (g : GT) (ad : Nat → Nat) (_ : Bool) (b : Nat) (σ : Mem) (t : Nat) (p0 : Int32) (rr : Int32) (σr : Mem) (h : fn_X7_ringer σ t p0 = some (rr, σr)) : Met l yX7_ringer (wsy yX7_ringer cX7_ringer 2 (some .int)) ({ frames := 1, cells := 0, slots := 0, locals := 22 } : Room) (va_Pc [.ref (ad t), .int p0] (PB g ad σ b)) (va_Qi (fun (r' : Int32) (u : Mem) => r' = rr ∧ u = σr) (GW g ad) (AA g ad true b)) 0 0 (AA g ad true b) := by
  refine Met.ofW (cc := cX7_ringer) (maxL := 2) (ret := (some .int)) (by decide) rfl ?_
  intro p e s m args below meth c s₁ B hml hv
  obtain ⟨rfl, hv⟩ := hv
  have S : CallFix p m c cX7_ringer 2 s _ AL RX7 := ⟨B.exec, B.bytes, hml, findClass_of_methodNamed B.named, fun w h => atoms_spec (ws := wsy yX7_ringer cX7_ringer 2 (some .int)) B.pre w (List.mem_cons_of_mem _ h)⟩
  have hr := B.returns
  have hlk := B.notSynchronized
  have hG : GA g ad σ true b s s.heap [] := GA_start hv
  have hl := lv_entry ([.ref (ad t), .int p0]) (n := 2) (Nat.le_of_ble_eq_true rfl)
  rw [lg_entry_eq]
  generalize (lg_sl ([.ref (ad t), .int p0]) ++ List.replicate (2 - (lg_sl ([.ref (ad t), .int p0])).length) Slot.unset).toArray = ls at hl ⊢
  have hl : lv_has ls 2 [(0, .ref (ad t)), (1, .int p0)] := hl
  revert h
  unfold fn_X7_ringer
  refine v_aload_n S hl 0 rfl rfl dX7_ringer_0 ?_
  refine v_iconst S 0 dX7_ringer_1 rfl ?_
  refine pf_7_0 S hG q320 dX7_ringer_2 (fun σ1 H locs hG => ?_)
  refine v_iload_n S hl 1 rfl rfl dX7_ringer_5 ?_
  refine v_iconst S 1 dX7_ringer_6 rfl ?_
  refine v_bipush S 9 dX7_ringer_7 (by decide) ?_
  refine v_cS_iR S hG [.int p0, .int 1, .int 9] (met_X7_isIn l g ad true b σ1 p0 1 9) mw_X7_isIn q321 dX7_ringer_9 rfl rfl hl.1 (Nat.le_of_ble_eq_true rfl) ⟨Nat.le_of_ble_eq_true rfl, Nat.le_of_ble_eq_true rfl⟩ rfl rfl ⟨Nat.le_of_ble_eq_true rfl, Nat.le_of_ble_eq_true rfl⟩ (fun r2 H locs hG => ?_)
  refine v_if_ne S 21 dX7_ringer_12 (by decide) ?_ ?_
  · refine v_aload_n S hl 0 rfl rfl dX7_ringer_21 ?_
    refine gf_7_1 S hG q325 dX7_ringer_22 ?_
    refine v_bipush S 12 dX7_ringer_25 (by decide) ?_
    refine v_icmp_ne S 36 dX7_ringer_27 (by decide) ?_ ?_
    · refine v_aload_n S hl 0 rfl rfl dX7_ringer_36 ?_
      refine gr_7_2 S hG q379 dX7_ringer_37 (fun r3 => ?_)
      refine v_aload_n S hl 0 rfl rfl dX7_ringer_40 ?_
      refine gf_7_1 S hG q325 dX7_ringer_41 ?_
      refine v_iload_n S hl 1 rfl rfl dX7_ringer_44 ?_
      refine v_iast S hG dX7_ringer_45 (fun σ4 H locs hG => ?_)
      refine v_aload_n S hl 0 rfl rfl dX7_ringer_46 ?_
      refine v_dup S dX7_ringer_47 rfl ?_
      refine gf_7_1 S hG q325 dX7_ringer_48 ?_
      refine v_iconst S 1 dX7_ringer_51 rfl ?_
      refine v_iadd S dX7_ringer_52 ?_
      refine pf_7_1 S hG q325 dX7_ringer_53 (fun σ5 H locs hG => ?_)
      refine v_aload_n S hl 0 rfl rfl dX7_ringer_56 ?_
      refine gf_7_1 S hG q325 dX7_ringer_57 ?_
      refine v_iconst S 1 dX7_ringer_60 rfl ?_
      refine v_isub S dX7_ringer_61 ?_
      exact v_iretm S hG hr hlk (Nat.le_of_ble_eq_true rfl) (Nat.le_of_ble_eq_true rfl) dX7_ringer_62
    · refine v_aload_n S hl 0 rfl rfl dX7_ringer_30 ?_
      refine v_iconst S 2 dX7_ringer_31 rfl ?_
      refine v_cV_im S hG [.int 2] rfl rfl (by decide) (met_X7_no l g ad true b σ1 t 2) mw_X7_no q338 dX7_ringer_32 rfl rfl hl.1 (Nat.le_of_ble_eq_true rfl) ⟨Nat.le_of_ble_eq_true rfl, Nat.le_of_ble_eq_true rfl⟩ rfl rfl ⟨Nat.le_of_ble_eq_true rfl, Nat.le_of_ble_eq_true rfl⟩ (fun r6 σ7 H locs hG => ?_)
      exact v_iretm S hG hr hlk (Nat.le_of_ble_eq_true rfl) (Nat.le_of_ble_eq_true rfl) dX7_ringer_35
  · refine v_aload_n S hl 0 rfl rfl dX7_ringer_15 ?_
    refine v_iconst S 1 dX7_ringer_16 rfl ?_
    refine v_cV_im S hG [.int 1] rfl rfl (by decide) (met_X7_no l g ad true b σ1 t 1) mw_X7_no q338 dX7_ringer_17 rfl rfl hl.1 (Nat.le_of_ble_eq_true rfl) ⟨Nat.le_of_ble_eq_true rfl, Nat.le_of_ble_eq_true rfl⟩ rfl rfl ⟨Nat.le_of_ble_eq_true rfl, Nat.le_of_ble_eq_true rfl⟩ (fun r8 σ9 H locs hG => ?_)
    exact v_iretm S hG hr hlk (Nat.le_of_ble_eq_true rfl) (Nat.le_of_ble_eq_true rfl) dX7_ringer_20
set_option maxHeartbeats 4000000 in
set_option maxRecDepth 100000 in
theorem wl_X6_bellOf_2 {p : Program} {l : Launch} {e : Env} {s : State} {m : MethodId} {args : Array Value} {below : List Frame} {meth : Method} {c : Code} {g : GT} {ad : Nat → Nat} {w : Bool} {b : Nat} (S : CallFix p m c cX6_bellOf 3 s args AL RX6) (hr : meth.sig.returnType = some .int) (hlk : meth.locks = false) (σ : Mem) (a0 : Nat) (a1 : Int32) {rr : Int32} {K : Int32 → Option Int32} (kx : ∀ (y2 : Int32) (H : Heap) (locs : List Loc) (ls : Array Slot), lv_has ls 3 [(0, .ref (ad a0)), (1, .int a1), (2, .int y2)] → GA g ad σ w b s H locs → K y2 = some rr → W p l e ({ frames := 0, cells := 0, slots := 0, locals := 0 } : Room) s m args below meth c H locs 0 0 (MQ below (va_Qi (fun (r' : Int32) (u : Mem) => r' = rr ∧ u = σ) (GW g ad) (AA g ad w b)) args s 0 0 (AA g ad w b)) (F0 m 25 ls [])) : ∀ (fuel : Nat) (y2 : Int32) (H : Heap) (locs : List Loc) (ls : Array Slot), lv_has ls 3 [(0, .ref (ad a0)), (1, .int a1), (2, .int y2)] → GA g ad σ w b s H locs → lp_X6_bellOf_2 σ a0 a1 K fuel y2 = some rr → W p l e ({ frames := 0, cells := 0, slots := 0, locals := 0 } : Room) s m args below meth c H locs 0 0 (MQ below (va_Qi (fun (r' : Int32) (u : Mem) => r' = rr ∧ u = σ) (GW g ad) (AA g ad w b)) args s 0 0 (AA g ad w b)) (F0 m 2 ls []) := by
  intro fuel
  induction fuel with
  | zero =>
    intro y2 H locs ls hl hG h
    rw [lp_X6_bellOf_2.eq_1] at h
    cases h
  | succ fuel ih =>
    intro y2 H locs ls hl hG
    rw [lp_X6_bellOf_2.eq_2]
    refine v_iload_n S hl 2 rfl rfl dX6_bellOf_2 ?_
    refine v_iconst S 4 dX6_bellOf_3 rfl ?_
    refine v_icmp_ge S 25 dX6_bellOf_4 (by decide) ?_ ?_
    · exact kx y2 _ _ ls (lv_sub hl [0, 1, 2] rfl) hG
    · refine v_aload_n S hl 0 rfl rfl dX6_bellOf_7 ?_
      refine gr_6_7 S hG q380 dX6_bellOf_8 (fun r1 => ?_)
      refine v_iload_n S hl 2 rfl rfl dX6_bellOf_11 ?_
      refine v_iald S hG dX6_bellOf_12 ?_
      refine v_iload_n S hl 1 rfl rfl dX6_bellOf_13 ?_
      refine v_icmp_ne S 19 dX6_bellOf_14 (by decide) ?_ ?_
      · refine v_iinc S hl 2 rfl dX6_bellOf_19 rfl (by decide) (fun z => [(2, .int z), (0, .ref (ad a0)), (1, .int a1)]) (fun _ => rfl) (fun x2 ls hl => ?_)
        refine v_goto S 2 dX6_bellOf_22 (by decide) ?_
        exact ih x2 _ _ ls (lv_sub hl [1, 2, 0] rfl) hG
      · refine v_iload_n S hl 2 rfl rfl dX6_bellOf_17 ?_
        exact v_iretR S hG hr hlk (Nat.le_of_ble_eq_true rfl) (Nat.le_of_ble_eq_true rfl) dX6_bellOf_18
set_option maxHeartbeats 4000000 in
set_option maxRecDepth 100000 in
theorem met_X6_bellOf (l : Launch) (g : GT) (ad : Nat → Nat) (w : Bool) (b : Nat) (σ : Mem) (t : Nat) (p0 : Int32) (rr : Int32) (h : fn_X6_bellOf σ t p0 = some rr) : Met l yX6_bellOf (wsy yX6_bellOf cX6_bellOf 3 (some .int)) ({ frames := 0, cells := 0, slots := 0, locals := 0 } : Room) (va_Pc [.ref (ad t), .int p0] (PB g ad σ b)) (va_Qi (fun (r' : Int32) (u : Mem) => r' = rr ∧ u = σ) (GW g ad) (AA g ad w b)) 0 0 (AA g ad w b) := by
  refine Met.ofW (cc := cX6_bellOf) (maxL := 3) (ret := (some .int)) (by decide) rfl ?_
  intro p e s m args below meth c s₁ B hml hv
  obtain ⟨rfl, hv⟩ := hv
  have S : CallFix p m c cX6_bellOf 3 s _ AL RX6 := ⟨B.exec, B.bytes, hml, findClass_of_methodNamed B.named, fun w h => atoms_spec (ws := wsy yX6_bellOf cX6_bellOf 3 (some .int)) B.pre w (List.mem_cons_of_mem _ h)⟩
  have hr := B.returns
  have hlk := B.notSynchronized
  have hG : GA g ad σ w b s s.heap [] := GA_start hv
  have hl := lv_entry ([.ref (ad t), .int p0]) (n := 3) (Nat.le_of_ble_eq_true rfl)
  rw [lg_entry_eq]
  generalize (lg_sl ([.ref (ad t), .int p0]) ++ List.replicate (3 - (lg_sl ([.ref (ad t), .int p0])).length) Slot.unset).toArray = ls at hl ⊢
  have hl : lv_has ls 3 [(0, .ref (ad t)), (1, .int p0)] := hl
  revert h
  unfold fn_X6_bellOf
  refine v_iconst S 0 dX6_bellOf_0 rfl ?_
  refine v_istore_n S hl [(2, .int 0), (0, .ref (ad t)), (1, .int p0)] rfl dX6_bellOf_1 (by decide) rfl (fun ls hl => ?_)
  refine wl_X6_bellOf_2 S hr hlk σ t p0 (fun x3 H locs ls hl hG => ?_) 30 0 _ _ ls (lv_sub hl [1, 2, 0] rfl) hG
  refine v_iconst S (-1) dX6_bellOf_25 rfl ?_
  exact v_iretR S hG hr hlk (Nat.le_of_ble_eq_true rfl) (Nat.le_of_ble_eq_true rfl) dX6_bellOf_26
set_option maxHeartbeats 4000000 in
set_option maxRecDepth 100000 in
theorem met_X7_send (l : Launch) (g : GT) (ad : Nat → Nat) (_ : Bool) (b : Nat) (σ : Mem) (t : Nat) (p0 : Int32) (p1 : Int32) (rr : Int32) (σr : Mem) (h : fn_X7_send σ t p0 p1 = some (rr, σr)) : Met l yX7_send (wsy yX7_send cX7_send 4 (some .int)) ({ frames := 2, cells := 0, slots := 0, locals := 43 } : Room) (va_Pc [.ref (ad t), .int p0, .int p1] (PB g ad σ b)) (va_Qi (fun (r' : Int32) (u : Mem) => r' = rr ∧ u = σr) (GW g ad) (AA g ad true b)) 0 0 (AA g ad true b) := by
  refine Met.ofW (cc := cX7_send) (maxL := 4) (ret := (some .int)) (by decide) rfl ?_
  intro p e s m args below meth c s₁ B hml hv
  obtain ⟨rfl, hv⟩ := hv
  have S : CallFix p m c cX7_send 4 s _ AL RX7 := ⟨B.exec, B.bytes, hml, findClass_of_methodNamed B.named, fun w h => atoms_spec (ws := wsy yX7_send cX7_send 4 (some .int)) B.pre w (List.mem_cons_of_mem _ h)⟩
  have hr := B.returns
  have hlk := B.notSynchronized
  have hG : GA g ad σ true b s s.heap [] := GA_start hv
  have hl := lv_entry ([.ref (ad t), .int p0, .int p1]) (n := 4) (Nat.le_of_ble_eq_true rfl)
  rw [lg_entry_eq]
  generalize (lg_sl ([.ref (ad t), .int p0, .int p1]) ++ List.replicate (4 - (lg_sl ([.ref (ad t), .int p0, .int p1])).length) Slot.unset).toArray = ls at hl ⊢
  have hl : lv_has ls 4 [(0, .ref (ad t)), (1, .int p0), (2, .int p1)] := hl
  revert h
  unfold fn_X7_send
  refine v_aload_n S hl 0 rfl rfl dX7_send_0 ?_
  refine v_iconst S 0 dX7_send_1 rfl ?_
  refine pf_7_0 S hG q320 dX7_send_2 (fun σ1 H locs hG => ?_)
  refine v_iload_n S hl 1 rfl rfl dX7_send_5 ?_
  refine v_cS_iR S hG [.int p0] (met_X7_isBell l g ad true b σ1 p0) mw_X7_isBell q333 dX7_send_6 rfl rfl hl.1 (Nat.le_of_ble_eq_true rfl) ⟨Nat.le_of_ble_eq_true rfl, Nat.le_of_ble_eq_true rfl⟩ rfl rfl ⟨Nat.le_of_ble_eq_true rfl, Nat.le_of_ble_eq_true rfl⟩ (fun r2 H locs hG => ?_)
  refine v_if_eq S 20 dX7_send_9 (by decide) ?_ ?_
  · refine v_aload_n S hl 0 rfl rfl dX7_send_20 ?_
    refine v_iconst S 1 dX7_send_21 rfl ?_
    refine v_cV_im S hG [.int 1] rfl rfl (by decide) (met_X7_no l g ad true b σ1 t 1) mw_X7_no q338 dX7_send_22 rfl rfl hl.1 (Nat.le_of_ble_eq_true rfl) ⟨Nat.le_of_ble_eq_true rfl, Nat.le_of_ble_eq_true rfl⟩ rfl rfl ⟨Nat.le_of_ble_eq_true rfl, Nat.le_of_ble_eq_true rfl⟩ (fun r3 σ4 H locs hG => ?_)
    exact v_iretm S hG hr hlk (Nat.le_of_ble_eq_true rfl) (Nat.le_of_ble_eq_true rfl) dX7_send_25
  · refine v_aload_n S hl 0 rfl rfl dX7_send_12 ?_
    refine v_iload_n S hl 2 rfl rfl dX7_send_13 ?_
    refine v_cV_iR S hG [.int p1] rfl rfl (by decide) (met_X7_isRinger l g ad true b σ1 t p1) mw_X7_isRinger q381 dX7_send_14 rfl rfl hl.1 (Nat.le_of_ble_eq_true rfl) ⟨Nat.le_of_ble_eq_true rfl, Nat.le_of_ble_eq_true rfl⟩ rfl rfl ⟨Nat.le_of_ble_eq_true rfl, Nat.le_of_ble_eq_true rfl⟩ (fun r5 H locs hG => ?_)
    refine v_if_ne S 26 dX7_send_17 (by decide) ?_ ?_
    · refine v_aload_n S hl 0 rfl rfl dX7_send_26 ?_
      refine gr_7_9 S hG q336 dX7_send_27 (fun r6 => ?_)
      refine v_iload_n S hl 2 rfl rfl dX7_send_30 ?_
      refine v_cV_iR S hG [.int p1] rfl rfl (by decide) (met_X6_bellOf l g ad true b σ1 r6 p1) mw_X6_bellOf q385 dX7_send_31 rfl rfl hl.1 (Nat.le_of_ble_eq_true rfl) ⟨Nat.le_of_ble_eq_true rfl, Nat.le_of_ble_eq_true rfl⟩ rfl rfl ⟨Nat.le_of_ble_eq_true rfl, Nat.le_of_ble_eq_true rfl⟩ (fun r7 H locs hG => ?_)
      refine v_iconst S (-1) dX7_send_34 rfl ?_
      refine v_icmp_eq S 44 dX7_send_35 (by decide) ?_ ?_
      · refine v_aload_n S hl 0 rfl rfl dX7_send_44 ?_
        refine gr_7_9 S hG q336 dX7_send_45 (fun r8 => ?_)
        refine grN_6_7 S hG q368 dX7_send_48 (fun r9 => ?_)
        refine v_iload_n S hl 1 rfl rfl dX7_send_51 ?_
        refine v_iald S hG dX7_send_52 ?_
        refine v_nm (fun x10 => ?_)
        refine v_istore_n S hl [(3, .int x10), (0, .ref (ad t)), (1, .int p0), (2, .int p1)] rfl dX7_send_53 (by decide) rfl (fun ls hl => ?_)
        refine v_aload_n S hl 1 rfl rfl dX7_send_54 ?_
        refine gr_7_9 S hG q336 dX7_send_55 (fun r11 => ?_)
        refine grN_6_7 S hG q368 dX7_send_58 (fun r12 => ?_)
        refine v_iload_n S hl 2 rfl rfl dX7_send_61 ?_
        refine v_iload_n S hl 3 rfl rfl dX7_send_62 ?_
        refine v_iast S hG dX7_send_63 (fun σ13 H locs hG => ?_)
        refine v_iload_n S hl 0 rfl rfl dX7_send_64 ?_
        exact v_iretm S hG hr hlk (Nat.le_of_ble_eq_true rfl) (Nat.le_of_ble_eq_true rfl) dX7_send_65
      · refine v_aload_n S hl 0 rfl rfl dX7_send_38 ?_
        refine v_iconst S 2 dX7_send_39 rfl ?_
        refine v_cV_im S hG [.int 2] rfl rfl (by decide) (met_X7_no l g ad true b σ1 t 2) mw_X7_no q338 dX7_send_40 rfl rfl hl.1 (Nat.le_of_ble_eq_true rfl) ⟨Nat.le_of_ble_eq_true rfl, Nat.le_of_ble_eq_true rfl⟩ rfl rfl ⟨Nat.le_of_ble_eq_true rfl, Nat.le_of_ble_eq_true rfl⟩ (fun r14 σ15 H locs hG => ?_)
        exact v_iretm S hG hr hlk (Nat.le_of_ble_eq_true rfl) (Nat.le_of_ble_eq_true rfl) dX7_send_43
    · refine v_aload_n S hl 0 rfl rfl dX7_send_20 ?_
      refine v_iconst S 1 dX7_send_21 rfl ?_
      refine v_cV_im S hG [.int 1] rfl rfl (by decide) (met_X7_no l g ad true b σ1 t 1) mw_X7_no q338 dX7_send_22 rfl rfl hl.1 (Nat.le_of_ble_eq_true rfl) ⟨Nat.le_of_ble_eq_true rfl, Nat.le_of_ble_eq_true rfl⟩ rfl rfl ⟨Nat.le_of_ble_eq_true rfl, Nat.le_of_ble_eq_true rfl⟩ (fun r16 σ17 H locs hG => ?_)
      exact v_iretm S hG hr hlk (Nat.le_of_ble_eq_true rfl) (Nat.le_of_ble_eq_true rfl) dX7_send_25
set_option maxHeartbeats 4000000 in
set_option maxRecDepth 100000 in
theorem met0_X7_ringerTold (l : Launch) (g : GT) (ad : Nat → Nat) (b : Nat) (σ : Mem) (t : Nat) (p0 : Int32) (p1 : Int32) (rr : Int32) (h : fn_X7_ringerTold σ t p0 p1 = some rr) : Met l yX7_ringerTold (wsy yX7_ringerTold cX7_ringerTold 4 (some .int)) ({ frames := 1, cells := 1, slots := 5, locals := 22 } : Room) (va_Pc [.ref (ad t), .int p0, .int p1] (PB g ad σ b)) (va_Qi (fun (r' : Int32) (u : Mem) => r' = rr ∧ u = σ) (GW g ad) (AA g ad false b)) 1 5 (AA g ad false b) := by
  refine Met.ofW (cc := cX7_ringerTold) (maxL := 4) (ret := (some .int)) (by decide) rfl ?_
  intro p e s m args below meth c s₁ B hml hv
  obtain ⟨rfl, hv⟩ := hv
  have S : CallFix p m c cX7_ringerTold 4 s _ AL RX7 := ⟨B.exec, B.bytes, hml, findClass_of_methodNamed B.named, fun w h => atoms_spec (ws := wsy yX7_ringerTold cX7_ringerTold 4 (some .int)) B.pre w (List.mem_cons_of_mem _ h)⟩
  have hr := B.returns
  have hlk := B.notSynchronized
  have hG : GA g ad σ false b s s.heap [] := GA_start hv
  have hl := lv_entry ([.ref (ad t), .int p0, .int p1]) (n := 4) (Nat.le_of_ble_eq_true rfl)
  rw [lg_entry_eq]
  generalize (lg_sl ([.ref (ad t), .int p0, .int p1]) ++ List.replicate (4 - (lg_sl ([.ref (ad t), .int p0, .int p1])).length) Slot.unset).toArray = ls at hl ⊢
  have hl : lv_has ls 4 [(0, .ref (ad t)), (1, .int p0), (2, .int p1)] := hl
  revert h
  unfold fn_X7_ringerTold
  refine v_iconst S 5 dX7_ringerTold_0 rfl ?_
  refine v_tnew S hG (n := 5) q366 dX7_ringerTold_1 (by decide) rfl (Nat.le_of_ble_eq_true rfl) (Nat.le_of_ble_eq_true rfl) (Nat.le_of_ble_eq_true rfl) (fun f1 qt2 H hG hT => ?_)
  refine v_dup S dX7_ringerTold_3 rfl ?_
  refine v_iconst S 0 dX7_ringerTold_4 rfl ?_
  refine v_aload_n S hl 0 rfl rfl dX7_ringerTold_5 ?_
  refine gr_7_2 S hG q379 dX7_ringerTold_6 (fun r3 => ?_)
  refine v_iload_n S hl 1 rfl rfl dX7_ringerTold_9 ?_
  refine v_iald S hG dX7_ringerTold_10 ?_
  refine v_tast S hG hT dX7_ringerTold_11 (fun f4 H locs hG hT => ?_)
  refine v_dup S dX7_ringerTold_12 rfl ?_
  refine v_iconst S 1 dX7_ringerTold_13 rfl ?_
  refine v_aload_n S hl 0 rfl rfl dX7_ringerTold_14 ?_
  refine gr_7_9 S hG q336 dX7_ringerTold_15 (fun r5 => ?_)
  refine grN_6_10 S hG q389 dX7_ringerTold_18 (fun r6 => ?_)
  refine v_iload_n S hl 1 rfl rfl dX7_ringerTold_21 ?_
  refine v_iald S hG dX7_ringerTold_22 ?_
  refine v_tast S hG hT dX7_ringerTold_23 (fun f7 H locs hG hT => ?_)
  refine v_dup S dX7_ringerTold_24 rfl ?_
  refine v_iconst S 2 dX7_ringerTold_25 rfl ?_
  refine v_aload_n S hl 0 rfl rfl dX7_ringerTold_26 ?_
  refine gr_7_9 S hG q336 dX7_ringerTold_27 (fun r8 => ?_)
  refine v_iload_n S hl 1 rfl rfl dX7_ringerTold_30 ?_
  refine v_cVT_i S hG hT [.int p0] rfl rfl (by decide) (fun b9 => met_X6_bellOf l g ad false b9 σ r8 p0) mw_X6_bellOf q385 dX7_ringerTold_31 rfl rfl hl.1 (Nat.le_of_ble_eq_true rfl) ⟨Nat.le_of_ble_eq_true rfl, Nat.le_of_ble_eq_true rfl⟩ rfl rfl ⟨Nat.le_of_ble_eq_true rfl, Nat.le_of_ble_eq_true rfl⟩ (fun r9 H locs hG hT => ?_)
  refine v_tast S hG hT dX7_ringerTold_34 (fun f10 H locs hG hT => ?_)
  refine v_dup S dX7_ringerTold_35 rfl ?_
  refine v_iconst S 3 dX7_ringerTold_36 rfl ?_
  refine v_aload_n S hl 0 rfl rfl dX7_ringerTold_37 ?_
  refine gr_7_9 S hG q336 dX7_ringerTold_38 (fun r11 => ?_)
  refine grN_6_11 S hG q390 dX7_ringerTold_41 (fun r12 => ?_)
  refine v_iload_n S hl 1 rfl rfl dX7_ringerTold_44 ?_
  refine v_iald S hG dX7_ringerTold_45 ?_
  refine v_tast S hG hT dX7_ringerTold_46 (fun f13 H locs hG hT => ?_)
  refine v_dup S dX7_ringerTold_47 rfl ?_
  refine v_iconst S 4 dX7_ringerTold_48 rfl ?_
  refine v_aload_n S hl 0 rfl rfl dX7_ringerTold_49 ?_
  refine gr_7_9 S hG q336 dX7_ringerTold_50 (fun r14 => ?_)
  refine grN_6_12 S hG q391 dX7_ringerTold_53 (fun r15 => ?_)
  refine v_iload_n S hl 1 rfl rfl dX7_ringerTold_56 ?_
  refine v_iald S hG dX7_ringerTold_57 ?_
  refine v_tast S hG hT dX7_ringerTold_58 (fun f16 H locs hG hT => ?_)
  refine v_astore_n S hl [(3, .ref qt2), (0, .ref (ad t)), (1, .int p0), (2, .int p1)] rfl dX7_ringerTold_59 (by decide) rfl (fun ls hl => ?_)
  refine v_aload_n S hl 0 rfl rfl dX7_ringerTold_60 ?_
  refine v_iload_n S hl 3 rfl rfl dX7_ringerTold_61 ?_
  refine v_tald S hG hT dX7_ringerTold_62 ?_
  exact v_iretR S hG hr hlk (Nat.le_of_ble_eq_true rfl) (Nat.le_of_ble_eq_true rfl) dX7_ringerTold_63
theorem met_X7_ringerTold (l : Launch) (g : GT) (ad : Nat → Nat) (w : Bool) (b : Nat) (σ : Mem) (t : Nat) (p0 : Int32) (p1 : Int32) (rr : Int32) (h : fn_X7_ringerTold σ t p0 p1 = some rr) : Met l yX7_ringerTold (wsy yX7_ringerTold cX7_ringerTold 4 (some .int)) ({ frames := 1, cells := 1, slots := 5, locals := 22 } : Room) (va_Pc [.ref (ad t), .int p0, .int p1] (PB g ad σ b)) (va_Qi (fun (r' : Int32) (u : Mem) => r' = rr ∧ u = σ) (GW g ad) (AA g ad w b)) 1 5 (AA g ad w b) := Met_up w (met0_X7_ringerTold l g ad b σ t p0 p1 rr h)
set_option maxHeartbeats 4000000 in
set_option maxRecDepth 100000 in
theorem met_X7_told (l : Launch) (g : GT) (ad : Nat → Nat) (_ : Bool) (b : Nat) (σ : Mem) (t : Nat) (p0 : Int32) (p1 : Int32) (rr : Int32) (σr : Mem) (h : fn_X7_told σ t p0 p1 = some (rr, σr)) : Met l yX7_told (wsy yX7_told cX7_told 3 (some .int)) ({ frames := 2, cells := 1, slots := 5, locals := 45 } : Room) (va_Pc [.ref (ad t), .int p0, .int p1] (PB g ad σ b)) (va_Qi (fun (r' : Int32) (u : Mem) => r' = rr ∧ u = σr) (GW g ad) (AA g ad true b)) 1 5 (AA g ad true b) := by
  refine Met.ofW (cc := cX7_told) (maxL := 3) (ret := (some .int)) (by decide) rfl ?_
  intro p e s m args below meth c s₁ B hml hv
  obtain ⟨rfl, hv⟩ := hv
  have S : CallFix p m c cX7_told 3 s _ AL RX7 := ⟨B.exec, B.bytes, hml, findClass_of_methodNamed B.named, fun w h => atoms_spec (ws := wsy yX7_told cX7_told 3 (some .int)) B.pre w (List.mem_cons_of_mem _ h)⟩
  have hr := B.returns
  have hlk := B.notSynchronized
  have hG : GA g ad σ true b s s.heap [] := GA_start hv
  have hl := lv_entry ([.ref (ad t), .int p0, .int p1]) (n := 3) (Nat.le_of_ble_eq_true rfl)
  rw [lg_entry_eq]
  generalize (lg_sl ([.ref (ad t), .int p0, .int p1]) ++ List.replicate (3 - (lg_sl ([.ref (ad t), .int p0, .int p1])).length) Slot.unset).toArray = ls at hl ⊢
  have hl : lv_has ls 3 [(0, .ref (ad t)), (1, .int p0), (2, .int p1)] := hl
  revert h
  unfold fn_X7_told
  refine v_aload_n S hl 0 rfl rfl dX7_told_0 ?_
  refine v_iconst S 0 dX7_told_1 rfl ?_
  refine pf_7_0 S hG q320 dX7_told_2 (fun σ1 H locs hG => ?_)
  refine v_aload_n S hl 0 rfl rfl dX7_told_5 ?_
  refine v_iload_n S hl 1 rfl rfl dX7_told_6 ?_
  refine v_cV_iR S hG [.int p0] rfl rfl (by decide) (met_X7_isRinger l g ad true b σ1 t p0) mw_X7_isRinger q381 dX7_told_7 rfl rfl hl.1 (Nat.le_of_ble_eq_true rfl) ⟨Nat.le_of_ble_eq_true rfl, Nat.le_of_ble_eq_true rfl⟩ rfl rfl ⟨Nat.le_of_ble_eq_true rfl, Nat.le_of_ble_eq_true rfl⟩ (fun r2 H locs hG => ?_)
  refine v_if_eq S 31 dX7_told_10 (by decide) ?_ ?_
  · refine v_aload_n S hl 0 rfl rfl dX7_told_31 ?_
    refine v_iconst S 1 dX7_told_32 rfl ?_
    refine v_cV_im S hG [.int 1] rfl rfl (by decide) (met_X7_no l g ad true b σ1 t 1) mw_X7_no q338 dX7_told_33 rfl rfl hl.1 (Nat.le_of_ble_eq_true rfl) ⟨Nat.le_of_ble_eq_true rfl, Nat.le_of_ble_eq_true rfl⟩ rfl rfl ⟨Nat.le_of_ble_eq_true rfl, Nat.le_of_ble_eq_true rfl⟩ (fun r3 σ4 H locs hG => ?_)
    exact v_iretm S hG hr hlk (Nat.le_of_ble_eq_true rfl) (Nat.le_of_ble_eq_true rfl) dX7_told_36
  · refine v_iload_n S hl 2 rfl rfl dX7_told_13 ?_
    refine v_iconst S 0 dX7_told_14 rfl ?_
    refine v_iconst S 4 dX7_told_15 rfl ?_
    refine v_cS_iR S hG [.int p1, .int 0, .int 4] (met_X7_isIn l g ad true b σ1 p1 0 4) mw_X7_isIn q321 dX7_told_16 rfl rfl hl.1 (Nat.le_of_ble_eq_true rfl) ⟨Nat.le_of_ble_eq_true rfl, Nat.le_of_ble_eq_true rfl⟩ rfl rfl ⟨Nat.le_of_ble_eq_true rfl, Nat.le_of_ble_eq_true rfl⟩ (fun r5 H locs hG => ?_)
    refine v_if_eq S 31 dX7_told_19 (by decide) ?_ ?_
    · refine v_aload_n S hl 0 rfl rfl dX7_told_31 ?_
      refine v_iconst S 1 dX7_told_32 rfl ?_
      refine v_cV_im S hG [.int 1] rfl rfl (by decide) (met_X7_no l g ad true b σ1 t 1) mw_X7_no q338 dX7_told_33 rfl rfl hl.1 (Nat.le_of_ble_eq_true rfl) ⟨Nat.le_of_ble_eq_true rfl, Nat.le_of_ble_eq_true rfl⟩ rfl rfl ⟨Nat.le_of_ble_eq_true rfl, Nat.le_of_ble_eq_true rfl⟩ (fun r6 σ7 H locs hG => ?_)
      exact v_iretm S hG hr hlk (Nat.le_of_ble_eq_true rfl) (Nat.le_of_ble_eq_true rfl) dX7_told_36
    · refine v_aload_n S hl 0 rfl rfl dX7_told_22 ?_
      refine v_iload_n S hl 1 rfl rfl dX7_told_23 ?_
      refine v_iload_n S hl 2 rfl rfl dX7_told_24 ?_
      refine v_cV_iR S hG [.int p0, .int p1] rfl rfl (by decide) (met_X7_ringerTold l g ad true b σ1 t p0 p1) mw_X7_ringerTold q392 dX7_told_25 rfl rfl hl.1 (Nat.le_of_ble_eq_true rfl) ⟨Nat.le_of_ble_eq_true rfl, Nat.le_of_ble_eq_true rfl⟩ rfl rfl ⟨Nat.le_of_ble_eq_true rfl, Nat.le_of_ble_eq_true rfl⟩ (fun r8 H locs hG => ?_)
      refine v_goto S 36 dX7_told_28 (by decide) ?_
      exact v_iretm S hG hr hlk (Nat.le_of_ble_eq_true rfl) (Nat.le_of_ble_eq_true rfl) dX7_told_36
set_option maxHeartbeats 4000000 in
set_option maxRecDepth 100000 in
theorem met_X7_tell (l : Launch) (g : GT) (ad : Nat → Nat) (_ : Bool) (b : Nat) (σ : Mem) (t : Nat) (p0 : Int32) (p1 : Int32) (p2 : Int32) (p3 : Int32) (p4 : Int32) (σr : Mem) (h : fn_X7_tell σ t p0 p1 p2 p3 p4 = some σr) : Met l yX7_tell (wsy yX7_tell cX7_tell 6 none) ({ frames := 0, cells := 0, slots := 0, locals := 0 } : Room) (va_Pc [.ref (ad t), .int p0, .int p1, .int p2, .int p3, .int p4] (PB g ad σ b)) (va_Qv (fun (u : Mem) => u = σr) (GW g ad) (AA g ad true b)) 0 0 (AA g ad true b) := by
  refine Met.ofW (cc := cX7_tell) (maxL := 6) (ret := none) (by decide) rfl ?_
  intro p e s m args below meth c s₁ B hml hv
  obtain ⟨rfl, hv⟩ := hv
  have S : CallFix p m c cX7_tell 6 s _ AL RX7 := ⟨B.exec, B.bytes, hml, findClass_of_methodNamed B.named, fun w h => atoms_spec (ws := wsy yX7_tell cX7_tell 6 none) B.pre w (List.mem_cons_of_mem _ h)⟩
  have hr := B.returns
  have hlk := B.notSynchronized
  have hG : GA g ad σ true b s s.heap [] := GA_start hv
  have hl := lv_entry ([.ref (ad t), .int p0, .int p1, .int p2, .int p3, .int p4]) (n := 6) (Nat.le_of_ble_eq_true rfl)
  rw [lg_entry_eq]
  generalize (lg_sl ([.ref (ad t), .int p0, .int p1, .int p2, .int p3, .int p4]) ++ List.replicate (6 - (lg_sl ([.ref (ad t), .int p0, .int p1, .int p2, .int p3, .int p4])).length) Slot.unset).toArray = ls at hl ⊢
  have hl : lv_has ls 6 [(0, .ref (ad t)), (1, .int p0), (2, .int p1), (3, .int p2), (4, .int p3), (5, .int p4)] := hl
  revert h
  unfold fn_X7_tell
  refine v_aload_n S hl 0 rfl rfl dX7_tell_0 ?_
  refine gr_7_4 S hG q364 dX7_tell_1 (fun r1 => ?_)
  refine v_iload_n S hl 1 rfl rfl dX7_tell_4 ?_
  refine v_iload_n S hl 2 rfl rfl dX7_tell_5 ?_
  refine v_iast S hG dX7_tell_6 (fun σ2 H locs hG => ?_)
  refine v_aload_n S hl 0 rfl rfl dX7_tell_7 ?_
  refine gr_7_5 S hG q327 dX7_tell_8 (fun r3 => ?_)
  refine v_iload_n S hl 1 rfl rfl dX7_tell_11 ?_
  refine v_iload_n S hl 3 rfl rfl dX7_tell_12 ?_
  refine v_iast S hG dX7_tell_13 (fun σ4 H locs hG => ?_)
  refine v_aload_n S hl 0 rfl rfl dX7_tell_14 ?_
  refine gr_7_6 S hG q332 dX7_tell_15 (fun r5 => ?_)
  refine v_iload_n S hl 1 rfl rfl dX7_tell_18 ?_
  refine v_iload S hl 4 rfl dX7_tell_19 ?_
  refine v_iast S hG dX7_tell_21 (fun σ6 H locs hG => ?_)
  refine v_aload_n S hl 0 rfl rfl dX7_tell_22 ?_
  refine gr_7_7 S hG q396 dX7_tell_23 (fun r7 => ?_)
  refine v_iload_n S hl 1 rfl rfl dX7_tell_26 ?_
  refine v_iload S hl 5 rfl dX7_tell_27 ?_
  refine v_iast S hG dX7_tell_29 (fun σ8 H locs hG => ?_)
  exact v_vretm S hG hr hlk (Nat.le_of_ble_eq_true rfl) (Nat.le_of_ble_eq_true rfl) dX7_tell_30
set_option maxHeartbeats 4000000 in
set_option maxRecDepth 100000 in
theorem met_X6_come (l : Launch) (g : GT) (ad : Nat → Nat) (_ : Bool) (b : Nat) (σ : Mem) (t : Nat) (rr : Int32) (σr : Mem) (h : fn_X6_come σ t = some (rr, σr)) : Met l yX6_come (wsy yX6_come cX6_come 1 (some .int)) ({ frames := 0, cells := 0, slots := 0, locals := 0 } : Room) (va_Pc [.ref (ad t)] (PB g ad σ b)) (va_Qi (fun (r' : Int32) (u : Mem) => r' = rr ∧ u = σr) (GW g ad) (AA g ad true b)) 0 0 (AA g ad true b) := by
  refine Met.ofW (cc := cX6_come) (maxL := 1) (ret := (some .int)) (by decide) rfl ?_
  intro p e s m args below meth c s₁ B hml hv
  obtain ⟨rfl, hv⟩ := hv
  have S : CallFix p m c cX6_come 1 s _ AL RX6 := ⟨B.exec, B.bytes, hml, findClass_of_methodNamed B.named, fun w h => atoms_spec (ws := wsy yX6_come cX6_come 1 (some .int)) B.pre w (List.mem_cons_of_mem _ h)⟩
  have hr := B.returns
  have hlk := B.notSynchronized
  have hG : GA g ad σ true b s s.heap [] := GA_start hv
  have hl := lv_entry ([.ref (ad t)]) (n := 1) (Nat.le_of_ble_eq_true rfl)
  rw [lg_entry_eq]
  generalize (lg_sl ([.ref (ad t)]) ++ List.replicate (1 - (lg_sl ([.ref (ad t)])).length) Slot.unset).toArray = ls at hl ⊢
  have hl : lv_has ls 1 [(0, .ref (ad t))] := hl
  revert h
  unfold fn_X6_come
  refine v_aload_n S hl 0 rfl rfl dX6_come_0 ?_
  refine gr_6_13 S hG q397 dX6_come_1 (fun r1 => ?_)
  refine v_aload_n S hl 0 rfl rfl dX6_come_4 ?_
  refine gf_6_2 S hG q360 dX6_come_5 ?_
  refine v_iconst S 0 dX6_come_8 rfl ?_
  refine v_iast S hG dX6_come_9 (fun σ2 H locs hG => ?_)
  refine v_aload_n S hl 0 rfl rfl dX6_come_10 ?_
  refine gr_6_14 S hG q398 dX6_come_11 (fun r3 => ?_)
  refine v_aload_n S hl 0 rfl rfl dX6_come_14 ?_
  refine gf_6_2 S hG q360 dX6_come_15 ?_
  refine v_iconst S 0 dX6_come_18 rfl ?_
  refine v_iast S hG dX6_come_19 (fun σ4 H locs hG => ?_)
  refine v_aload_n S hl 0 rfl rfl dX6_come_20 ?_
  refine gr_6_15 S hG q363 dX6_come_21 (fun r5 => ?_)
  refine v_aload_n S hl 0 rfl rfl dX6_come_24 ?_
  refine gf_6_2 S hG q360 dX6_come_25 ?_
  refine v_iconst S (-1) dX6_come_28 rfl ?_
  refine v_iast S hG dX6_come_29 (fun σ6 H locs hG => ?_)
  refine v_aload_n S hl 0 rfl rfl dX6_come_30 ?_
  refine v_dup S dX6_come_31 rfl ?_
  refine gf_6_2 S hG q360 dX6_come_32 ?_
  refine v_iconst S 1 dX6_come_35 rfl ?_
  refine v_iadd S dX6_come_36 ?_
  refine pf_6_2 S hG q360 dX6_come_37 (fun σ7 H locs hG => ?_)
  refine v_aload_n S hl 0 rfl rfl dX6_come_40 ?_
  refine gf_6_2 S hG q360 dX6_come_41 ?_
  refine v_iconst S 1 dX6_come_44 rfl ?_
  refine v_isub S dX6_come_45 ?_
  exact v_iretm S hG hr hlk (Nat.le_of_ble_eq_true rfl) (Nat.le_of_ble_eq_true rfl) dX6_come_46
set_option maxHeartbeats 4000000 in
set_option maxRecDepth 100000 in
theorem met_X7_toll (l : Launch) (g : GT) (ad : Nat → Nat) (_ : Bool) (b : Nat) (σ : Mem) (t : Nat) (p0 : Int32) (p1 : Int32) (p2 : Int32) (p3 : Int32) (rr : Int32) (σr : Mem) (h : fn_X7_toll σ t p0 p1 p2 p3 = some (rr, σr)) : Met l yX7_toll (wsy yX7_toll cX7_toll 5 (some .int)) ({ frames := 2, cells := 0, slots := 0, locals := 44 } : Room) (va_Pc [.ref (ad t), .int p0, .int p1, .int p2, .int p3] (PB g ad σ b)) (va_Qi (fun (r' : Int32) (u : Mem) => r' = rr ∧ u = σr) (GW g ad) (AA g ad true b)) 0 0 (AA g ad true b) := by
  refine Met.ofW (cc := cX7_toll) (maxL := 5) (ret := (some .int)) (by decide) rfl ?_
  intro p e s m args below meth c s₁ B hml hv
  obtain ⟨rfl, hv⟩ := hv
  have S : CallFix p m c cX7_toll 5 s _ AL RX7 := ⟨B.exec, B.bytes, hml, findClass_of_methodNamed B.named, fun w h => atoms_spec (ws := wsy yX7_toll cX7_toll 5 (some .int)) B.pre w (List.mem_cons_of_mem _ h)⟩
  have hr := B.returns
  have hlk := B.notSynchronized
  have hG : GA g ad σ true b s s.heap [] := GA_start hv
  have hl := lv_entry ([.ref (ad t), .int p0, .int p1, .int p2, .int p3]) (n := 5) (Nat.le_of_ble_eq_true rfl)
  rw [lg_entry_eq]
  generalize (lg_sl ([.ref (ad t), .int p0, .int p1, .int p2, .int p3]) ++ List.replicate (5 - (lg_sl ([.ref (ad t), .int p0, .int p1, .int p2, .int p3])).length) Slot.unset).toArray = ls at hl ⊢
  have hl : lv_has ls 5 [(0, .ref (ad t)), (1, .int p0), (2, .int p1), (3, .int p2), (4, .int p3)] := hl
  revert h
  unfold fn_X7_toll
  refine v_aload_n S hl 0 rfl rfl dX7_toll_0 ?_
  refine v_iconst S 0 dX7_toll_1 rfl ?_
  refine pf_7_0 S hG q320 dX7_toll_2 (fun σ1 H locs hG => ?_)
  refine v_iload_n S hl 1 rfl rfl dX7_toll_5 ?_
  refine v_cS_iR S hG [.int p0] (met_X7_isBell l g ad true b σ1 p0) mw_X7_isBell q333 dX7_toll_6 rfl rfl hl.1 (Nat.le_of_ble_eq_true rfl) ⟨Nat.le_of_ble_eq_true rfl, Nat.le_of_ble_eq_true rfl⟩ rfl rfl ⟨Nat.le_of_ble_eq_true rfl, Nat.le_of_ble_eq_true rfl⟩ (fun r2 H locs hG => ?_)
  refine v_if_ne S 18 dX7_toll_9 (by decide) ?_ ?_
  · refine v_iload_n S hl 2 rfl rfl dX7_toll_18 ?_
    refine v_iload_n S hl 3 rfl rfl dX7_toll_19 ?_
    refine v_iload S hl 4 rfl dX7_toll_20 ?_
    refine v_cS_iR S hG [.int p1, .int p2, .int p3] (met_X7_isKind l g ad true b σ1 p1 p2 p3) mw_X7_isKind q399 dX7_toll_22 rfl rfl hl.1 (Nat.le_of_ble_eq_true rfl) ⟨Nat.le_of_ble_eq_true rfl, Nat.le_of_ble_eq_true rfl⟩ rfl rfl ⟨Nat.le_of_ble_eq_true rfl, Nat.le_of_ble_eq_true rfl⟩ (fun r3 H locs hG => ?_)
    refine v_if_ne S 34 dX7_toll_25 (by decide) ?_ ?_
    · refine v_aload_n S hl 0 rfl rfl dX7_toll_34 ?_
      refine gf_7_3 S hG q326 dX7_toll_35 ?_
      refine v_bipush S 20 dX7_toll_38 (by decide) ?_
      refine v_icmp_ne S 49 dX7_toll_40 (by decide) ?_ ?_
      · refine v_aload_n S hl 0 rfl rfl dX7_toll_49 ?_
        refine v_aload_n S hl 0 rfl rfl dX7_toll_50 ?_
        refine gf_7_3 S hG q326 dX7_toll_51 ?_
        refine v_iload_n S hl 1 rfl rfl dX7_toll_54 ?_
        refine v_iload_n S hl 2 rfl rfl dX7_toll_55 ?_
        refine v_iload_n S hl 3 rfl rfl dX7_toll_56 ?_
        refine v_iload S hl 4 rfl dX7_toll_57 ?_
        refine v_cV_vm S hG [.int (σ1 t 3), .int p0, .int p1, .int p2, .int p3] rfl rfl (by decide) (met_X7_tell l g ad true b σ1 t (σ1 t 3) p0 p1 p2 p3) mw_X7_tell q402 dX7_toll_59 rfl rfl hl.1 (Nat.le_of_ble_eq_true rfl) ⟨Nat.le_of_ble_eq_true rfl, Nat.le_of_ble_eq_true rfl⟩ rfl rfl ⟨Nat.le_of_ble_eq_true rfl, Nat.le_of_ble_eq_true rfl⟩ (fun σ4 H locs hG => ?_)
        refine v_aload_n S hl 0 rfl rfl dX7_toll_62 ?_
        refine v_dup S dX7_toll_63 rfl ?_
        refine gf_7_3 S hG q326 dX7_toll_64 ?_
        refine v_iconst S 1 dX7_toll_67 rfl ?_
        refine v_iadd S dX7_toll_68 ?_
        refine pf_7_3 S hG q326 dX7_toll_69 (fun σ5 H locs hG => ?_)
        refine v_aload_n S hl 0 rfl rfl dX7_toll_72 ?_
        refine gr_7_9 S hG q336 dX7_toll_73 (fun r6 => ?_)
        refine v_cV_im S hG [] rfl rfl (by decide) (met_X6_come l g ad true b σ5 r6) mw_X6_come q406 dX7_toll_76 rfl rfl hl.1 (Nat.le_of_ble_eq_true rfl) ⟨Nat.le_of_ble_eq_true rfl, Nat.le_of_ble_eq_true rfl⟩ rfl rfl ⟨Nat.le_of_ble_eq_true rfl, Nat.le_of_ble_eq_true rfl⟩ (fun r7 σ8 H locs hG => ?_)
        exact v_iretm S hG hr hlk (Nat.le_of_ble_eq_true rfl) (Nat.le_of_ble_eq_true rfl) dX7_toll_79
      · refine v_aload_n S hl 0 rfl rfl dX7_toll_43 ?_
        refine v_iconst S 3 dX7_toll_44 rfl ?_
        refine v_cV_im S hG [.int 3] rfl rfl (by decide) (met_X7_no l g ad true b σ1 t 3) mw_X7_no q338 dX7_toll_45 rfl rfl hl.1 (Nat.le_of_ble_eq_true rfl) ⟨Nat.le_of_ble_eq_true rfl, Nat.le_of_ble_eq_true rfl⟩ rfl rfl ⟨Nat.le_of_ble_eq_true rfl, Nat.le_of_ble_eq_true rfl⟩ (fun r9 σ10 H locs hG => ?_)
        exact v_iretm S hG hr hlk (Nat.le_of_ble_eq_true rfl) (Nat.le_of_ble_eq_true rfl) dX7_toll_48
    · refine v_aload_n S hl 0 rfl rfl dX7_toll_28 ?_
      refine v_iconst S 2 dX7_toll_29 rfl ?_
      refine v_cV_im S hG [.int 2] rfl rfl (by decide) (met_X7_no l g ad true b σ1 t 2) mw_X7_no q338 dX7_toll_30 rfl rfl hl.1 (Nat.le_of_ble_eq_true rfl) ⟨Nat.le_of_ble_eq_true rfl, Nat.le_of_ble_eq_true rfl⟩ rfl rfl ⟨Nat.le_of_ble_eq_true rfl, Nat.le_of_ble_eq_true rfl⟩ (fun r11 σ12 H locs hG => ?_)
      exact v_iretm S hG hr hlk (Nat.le_of_ble_eq_true rfl) (Nat.le_of_ble_eq_true rfl) dX7_toll_33
  · refine v_aload_n S hl 0 rfl rfl dX7_toll_12 ?_
    refine v_iconst S 1 dX7_toll_13 rfl ?_
    refine v_cV_im S hG [.int 1] rfl rfl (by decide) (met_X7_no l g ad true b σ1 t 1) mw_X7_no q338 dX7_toll_14 rfl rfl hl.1 (Nat.le_of_ble_eq_true rfl) ⟨Nat.le_of_ble_eq_true rfl, Nat.le_of_ble_eq_true rfl⟩ rfl rfl ⟨Nat.le_of_ble_eq_true rfl, Nat.le_of_ble_eq_true rfl⟩ (fun r13 σ14 H locs hG => ?_)
    exact v_iretm S hG hr hlk (Nat.le_of_ble_eq_true rfl) (Nat.le_of_ble_eq_true rfl) dX7_toll_17
set_option maxHeartbeats 4000000 in
set_option maxRecDepth 100000 in
theorem met_X6_end (l : Launch) (g : GT) (ad : Nat → Nat) (_ : Bool) (b : Nat) (σ : Mem) (t : Nat) (p0 : Int32) (σr : Mem) (h : fn_X6_end σ t p0 = some σr) : Met l yX6_end (wsy yX6_end cX6_end 4 none) ({ frames := 1, cells := 0, slots := 0, locals := 22 } : Room) (va_Pc [.ref (ad t), .int p0] (PB g ad σ b)) (va_Qv (fun (u : Mem) => u = σr) (GW g ad) (AA g ad true b)) 0 0 (AA g ad true b) := by
  refine Met.ofW (cc := cX6_end) (maxL := 4) (ret := none) (by decide) rfl ?_
  intro p e s m args below meth c s₁ B hml hv
  obtain ⟨rfl, hv⟩ := hv
  have S : CallFix p m c cX6_end 4 s _ AL RX6 := ⟨B.exec, B.bytes, hml, findClass_of_methodNamed B.named, fun w h => atoms_spec (ws := wsy yX6_end cX6_end 4 none) B.pre w (List.mem_cons_of_mem _ h)⟩
  have hr := B.returns
  have hlk := B.notSynchronized
  have hG : GA g ad σ true b s s.heap [] := GA_start hv
  have hl := lv_entry ([.ref (ad t), .int p0]) (n := 4) (Nat.le_of_ble_eq_true rfl)
  rw [lg_entry_eq]
  generalize (lg_sl ([.ref (ad t), .int p0]) ++ List.replicate (4 - (lg_sl ([.ref (ad t), .int p0])).length) Slot.unset).toArray = ls at hl ⊢
  have hl : lv_has ls 4 [(0, .ref (ad t)), (1, .int p0)] := hl
  revert h
  unfold fn_X6_end
  refine v_aload_n S hl 0 rfl rfl dX6_end_0 ?_
  refine gr_6_16 S hG q361 dX6_end_1 (fun r1 => ?_)
  refine grN_7_4 S hG q362 dX6_end_4 (fun r2 => ?_)
  refine v_iload_n S hl 1 rfl rfl dX6_end_7 ?_
  refine v_iald S hG dX6_end_8 ?_
  refine v_nm (fun x3 => ?_)
  refine v_istore_n S hl [(2, .int x3), (0, .ref (ad t)), (1, .int p0)] rfl dX6_end_9 (by decide) rfl (fun ls hl => ?_)
  refine v_aload_n S hl 1 rfl rfl dX6_end_10 ?_
  refine v_iload_n S hl 0 rfl rfl dX6_end_11 ?_
  refine v_cV_iR S hG [.int x3] rfl rfl (by decide) (met_X6_first l g ad true b σ t x3) mw_X6_first q410 dX6_end_12 rfl rfl hl.1 (Nat.le_of_ble_eq_true rfl) ⟨Nat.le_of_ble_eq_true rfl, Nat.le_of_ble_eq_true rfl⟩ rfl rfl ⟨Nat.le_of_ble_eq_true rfl, Nat.le_of_ble_eq_true rfl⟩ (fun r4 H locs hG => ?_)
  refine v_iload_n S hl 2 rfl rfl dX6_end_15 ?_
  refine v_icmp_ne S 23 dX6_end_16 (by decide) ?_ ?_
  · refine v_iconst S 0 dX6_end_23 rfl ?_
    refine v_istore_n S hl [(3, .int 0), (2, .int x3), (0, .ref (ad t)), (1, .int p0)] rfl dX6_end_24 (by decide) rfl (fun ls hl => ?_)
    refine v_aload_n S hl 2 rfl rfl dX6_end_25 ?_
    refine gr_6_15 S hG q363 dX6_end_26 (fun r5 => ?_)
    refine v_iload_n S hl 3 rfl rfl dX6_end_29 ?_
    refine v_aload_n S hl 2 rfl rfl dX6_end_30 ?_
    refine gf_6_0 S hG q411 dX6_end_31 ?_
    refine v_iast S hG dX6_end_34 (fun σ6 H locs hG => ?_)
    refine v_iload_n S hl 0 rfl rfl dX6_end_35 ?_
    refine v_if_eq_t S 46 (by decide) dX6_end_36 (by decide) ?_
    refine v_aload_n S hl 2 rfl rfl dX6_end_46 ?_
    refine v_iload_n S hl 1 rfl rfl dX6_end_47 ?_
    refine v_cV_iR S hG [.int x3] rfl rfl (by decide) (met_X6_first l g ad true b σ6 t x3) mw_X6_first q410 dX6_end_48 rfl rfl hl.1 (Nat.le_of_ble_eq_true rfl) ⟨Nat.le_of_ble_eq_true rfl, Nat.le_of_ble_eq_true rfl⟩ rfl rfl ⟨Nat.le_of_ble_eq_true rfl, Nat.le_of_ble_eq_true rfl⟩ (fun r7 H locs hG => ?_)
    refine v_iconst S (-1) dX6_end_51 rfl ?_
    refine v_icmp_ne S 62 dX6_end_52 (by decide) ?_ ?_
    · exact v_vretm S hG hr hlk (Nat.le_of_ble_eq_true rfl) (Nat.le_of_ble_eq_true rfl) dX6_end_62
    · refine v_aload_n S hl 2 rfl rfl dX6_end_55 ?_
      refine gr_6_7 S hG q380 dX6_end_56 (fun r8 => ?_)
      refine v_iload_n S hl 1 rfl rfl dX6_end_59 ?_
      refine v_iconst S (-1) dX6_end_60 rfl ?_
      refine v_iast S hG dX6_end_61 (fun σ9 H locs hG => ?_)
      exact v_vretm S hG hr hlk (Nat.le_of_ble_eq_true rfl) (Nat.le_of_ble_eq_true rfl) dX6_end_62
  · refine v_iconst S 1 dX6_end_19 rfl ?_
    refine v_goto S 24 dX6_end_20 (by decide) ?_
    refine v_istore_n S hl [(3, .int 1), (2, .int x3), (0, .ref (ad t)), (1, .int p0)] rfl dX6_end_24 (by decide) rfl (fun ls hl => ?_)
    refine v_aload_n S hl 2 rfl rfl dX6_end_25 ?_
    refine gr_6_15 S hG q363 dX6_end_26 (fun r10 => ?_)
    refine v_iload_n S hl 3 rfl rfl dX6_end_29 ?_
    refine v_aload_n S hl 2 rfl rfl dX6_end_30 ?_
    refine gf_6_0 S hG q411 dX6_end_31 ?_
    refine v_iast S hG dX6_end_34 (fun σ11 H locs hG => ?_)
    refine v_iload_n S hl 0 rfl rfl dX6_end_35 ?_
    refine v_if_eq_f S 46 (by decide) dX6_end_36 (by decide) ?_
    refine v_aload_n S hl 2 rfl rfl dX6_end_39 ?_
    refine gr_6_8 S hG q412 dX6_end_40 (fun r12 => ?_)
    refine v_iload_n S hl 1 rfl rfl dX6_end_43 ?_
    refine v_iconst S 0 dX6_end_44 rfl ?_
    refine v_iast S hG dX6_end_45 (fun σ13 H locs hG => ?_)
    refine v_aload_n S hl 2 rfl rfl dX6_end_46 ?_
    refine v_iload_n S hl 1 rfl rfl dX6_end_47 ?_
    refine v_cV_iR S hG [.int x3] rfl rfl (by decide) (met_X6_first l g ad true b σ13 t x3) mw_X6_first q410 dX6_end_48 rfl rfl hl.1 (Nat.le_of_ble_eq_true rfl) ⟨Nat.le_of_ble_eq_true rfl, Nat.le_of_ble_eq_true rfl⟩ rfl rfl ⟨Nat.le_of_ble_eq_true rfl, Nat.le_of_ble_eq_true rfl⟩ (fun r14 H locs hG => ?_)
    refine v_iconst S (-1) dX6_end_51 rfl ?_
    refine v_icmp_ne S 62 dX6_end_52 (by decide) ?_ ?_
    · exact v_vretm S hG hr hlk (Nat.le_of_ble_eq_true rfl) (Nat.le_of_ble_eq_true rfl) dX6_end_62
    · refine v_aload_n S hl 2 rfl rfl dX6_end_55 ?_
      refine gr_6_7 S hG q380 dX6_end_56 (fun r15 => ?_)
      refine v_iload_n S hl 1 rfl rfl dX6_end_59 ?_
      refine v_iconst S (-1) dX6_end_60 rfl ?_
      refine v_iast S hG dX6_end_61 (fun σ16 H locs hG => ?_)
      exact v_vretm S hG hr hlk (Nat.le_of_ble_eq_true rfl) (Nat.le_of_ble_eq_true rfl) dX6_end_62
set_option maxHeartbeats 4000000 in
set_option maxRecDepth 100000 in
theorem met_X7_stop (l : Launch) (g : GT) (ad : Nat → Nat) (_ : Bool) (b : Nat) (σ : Mem) (t : Nat) (p0 : Int32) (rr : Int32) (σr : Mem) (h : fn_X7_stop σ t p0 = some (rr, σr)) : Met l yX7_stop (wsy yX7_stop cX7_stop 2 (some .int)) ({ frames := 2, cells := 0, slots := 0, locals := 45 } : Room) (va_Pc [.ref (ad t), .int p0] (PB g ad σ b)) (va_Qi (fun (r' : Int32) (u : Mem) => r' = rr ∧ u = σr) (GW g ad) (AA g ad true b)) 0 0 (AA g ad true b) := by
  refine Met.ofW (cc := cX7_stop) (maxL := 2) (ret := (some .int)) (by decide) rfl ?_
  intro p e s m args below meth c s₁ B hml hv
  obtain ⟨rfl, hv⟩ := hv
  have S : CallFix p m c cX7_stop 2 s _ AL RX7 := ⟨B.exec, B.bytes, hml, findClass_of_methodNamed B.named, fun w h => atoms_spec (ws := wsy yX7_stop cX7_stop 2 (some .int)) B.pre w (List.mem_cons_of_mem _ h)⟩
  have hr := B.returns
  have hlk := B.notSynchronized
  have hG : GA g ad σ true b s s.heap [] := GA_start hv
  have hl := lv_entry ([.ref (ad t), .int p0]) (n := 2) (Nat.le_of_ble_eq_true rfl)
  rw [lg_entry_eq]
  generalize (lg_sl ([.ref (ad t), .int p0]) ++ List.replicate (2 - (lg_sl ([.ref (ad t), .int p0])).length) Slot.unset).toArray = ls at hl ⊢
  have hl : lv_has ls 2 [(0, .ref (ad t)), (1, .int p0)] := hl
  revert h
  unfold fn_X7_stop
  refine v_aload_n S hl 0 rfl rfl dX7_stop_0 ?_
  refine v_iconst S 0 dX7_stop_1 rfl ?_
  refine pf_7_0 S hG q320 dX7_stop_2 (fun σ1 H locs hG => ?_)
  refine v_aload_n S hl 0 rfl rfl dX7_stop_5 ?_
  refine v_iload_n S hl 1 rfl rfl dX7_stop_6 ?_
  refine v_cV_iR S hG [.int p0] rfl rfl (by decide) (met_X7_isToll l g ad true b σ1 t p0) mw_X7_isToll q413 dX7_stop_7 rfl rfl hl.1 (Nat.le_of_ble_eq_true rfl) ⟨Nat.le_of_ble_eq_true rfl, Nat.le_of_ble_eq_true rfl⟩ rfl rfl ⟨Nat.le_of_ble_eq_true rfl, Nat.le_of_ble_eq_true rfl⟩ (fun r2 H locs hG => ?_)
  refine v_if_ne S 19 dX7_stop_10 (by decide) ?_ ?_
  · refine v_aload_n S hl 0 rfl rfl dX7_stop_19 ?_
    refine gr_7_9 S hG q336 dX7_stop_20 (fun r3 => ?_)
    refine grN_6_15 S hG q365 dX7_stop_23 (fun r4 => ?_)
    refine v_iload_n S hl 1 rfl rfl dX7_stop_26 ?_
    refine v_iald S hG dX7_stop_27 ?_
    refine v_iconst S (-1) dX7_stop_28 rfl ?_
    refine v_icmp_eq S 38 dX7_stop_29 (by decide) ?_ ?_
    · refine v_aload_n S hl 0 rfl rfl dX7_stop_38 ?_
      refine gr_7_9 S hG q336 dX7_stop_39 (fun r5 => ?_)
      refine v_iload_n S hl 1 rfl rfl dX7_stop_42 ?_
      refine v_cV_vm S hG [.int p0] rfl rfl (by decide) (met_X6_end l g ad true b σ1 r5 p0) mw_X6_end q417 dX7_stop_43 rfl rfl hl.1 (Nat.le_of_ble_eq_true rfl) ⟨Nat.le_of_ble_eq_true rfl, Nat.le_of_ble_eq_true rfl⟩ rfl rfl ⟨Nat.le_of_ble_eq_true rfl, Nat.le_of_ble_eq_true rfl⟩ (fun σ6 H locs hG => ?_)
      refine v_aload_n S hl 0 rfl rfl dX7_stop_46 ?_
      refine v_iload_n S hl 1 rfl rfl dX7_stop_47 ?_
      refine v_cV_iR S hG [.int p0] rfl rfl (by decide) (met_X7_all l g ad true b σ6 t p0) mw_X7_all q421 dX7_stop_48 rfl rfl hl.1 (Nat.le_of_ble_eq_true rfl) ⟨Nat.le_of_ble_eq_true rfl, Nat.le_of_ble_eq_true rfl⟩ rfl rfl ⟨Nat.le_of_ble_eq_true rfl, Nat.le_of_ble_eq_true rfl⟩ (fun r7 H locs hG => ?_)
      refine v_aload_n S hl 0 rfl rfl dX7_stop_51 ?_
      refine gr_7_9 S hG q336 dX7_stop_52 (fun r8 => ?_)
      refine grN_6_13 S hG q425 dX7_stop_55 (fun r9 => ?_)
      refine v_iload_n S hl 1 rfl rfl dX7_stop_58 ?_
      refine v_iald S hG dX7_stop_59 ?_
      refine v_isub S dX7_stop_60 ?_
      exact v_iretm S hG hr hlk (Nat.le_of_ble_eq_true rfl) (Nat.le_of_ble_eq_true rfl) dX7_stop_61
    · refine v_aload_n S hl 0 rfl rfl dX7_stop_32 ?_
      refine v_iconst S 2 dX7_stop_33 rfl ?_
      refine v_cV_im S hG [.int 2] rfl rfl (by decide) (met_X7_no l g ad true b σ1 t 2) mw_X7_no q338 dX7_stop_34 rfl rfl hl.1 (Nat.le_of_ble_eq_true rfl) ⟨Nat.le_of_ble_eq_true rfl, Nat.le_of_ble_eq_true rfl⟩ rfl rfl ⟨Nat.le_of_ble_eq_true rfl, Nat.le_of_ble_eq_true rfl⟩ (fun r10 σ11 H locs hG => ?_)
      exact v_iretm S hG hr hlk (Nat.le_of_ble_eq_true rfl) (Nat.le_of_ble_eq_true rfl) dX7_stop_37
  · refine v_aload_n S hl 0 rfl rfl dX7_stop_13 ?_
    refine v_iconst S 1 dX7_stop_14 rfl ?_
    refine v_cV_im S hG [.int 1] rfl rfl (by decide) (met_X7_no l g ad true b σ1 t 1) mw_X7_no q338 dX7_stop_15 rfl rfl hl.1 (Nat.le_of_ble_eq_true rfl) ⟨Nat.le_of_ble_eq_true rfl, Nat.le_of_ble_eq_true rfl⟩ rfl rfl ⟨Nat.le_of_ble_eq_true rfl, Nat.le_of_ble_eq_true rfl⟩ (fun r12 σ13 H locs hG => ?_)
    exact v_iretm S hG hr hlk (Nat.le_of_ble_eq_true rfl) (Nat.le_of_ble_eq_true rfl) dX7_stop_18
set_option maxHeartbeats 4000000 in
set_option maxRecDepth 100000 in
theorem wj_X7_tollTold_34 {p : Program} {l : Launch} {e : Env} {s : State} {m : MethodId} {args : Array Value} {below : List Frame} {meth : Method} {c : Code} {g : GT} {ad : Nat → Nat} {b : Nat} (S : CallFix p m c cX7_tollTold 5 s args AL RX7) (hr : meth.sig.returnType = some .int) (hlk : meth.locks = false) (σ : Mem) (a0 : Nat) (a1 : Int32) (a2 : Int32) (b0 : Int32) {rr : Int32} (H : Heap) (locs : List Loc) (ls : Array Slot) (hl : lv_has ls 5 [(0, .ref (ad a0)), (1, .int a1), (2, .int a2)]) (hG : GA g ad σ false b s H locs) : jn_X7_tollTold_34 σ a0 a1 a2 b0 = some rr → W p l e ({ frames := 1, cells := 1, slots := 9, locals := 21 } : Room) s m args below meth c H locs 0 0 (MQ below (va_Qi (fun (r' : Int32) (u : Mem) => r' = rr ∧ u = σ) (GW g ad) (AA g ad false b)) args s 1 9 (AA g ad false b)) (F0 m 34 ls [.int b0]) := by
  unfold jn_X7_tollTold_34
  refine v_istore_n S hl [(3, .int b0), (0, .ref (ad a0)), (1, .int a1), (2, .int a2)] rfl dX7_tollTold_34 (by decide) rfl (fun ls hl => ?_)
  refine v_bipush S 9 dX7_tollTold_35 (by decide) ?_
  refine v_tnew S hG (n := 9) q366 dX7_tollTold_37 (by decide) rfl (Nat.le_of_ble_eq_true rfl) (Nat.le_of_ble_eq_true rfl) (Nat.le_of_ble_eq_true rfl) (fun f5 qt6 H hG hT => ?_)
  refine v_dup S dX7_tollTold_39 rfl ?_
  refine v_iconst S 0 dX7_tollTold_40 rfl ?_
  refine v_aload_n S hl 1 rfl rfl dX7_tollTold_41 ?_
  refine gr_7_4 S hG q364 dX7_tollTold_42 (fun r7 => ?_)
  refine v_iload_n S hl 2 rfl rfl dX7_tollTold_45 ?_
  refine v_iald S hG dX7_tollTold_46 ?_
  refine v_tast S hG hT dX7_tollTold_47 (fun f8 H locs hG hT => ?_)
  refine v_dup S dX7_tollTold_48 rfl ?_
  refine v_iconst S 1 dX7_tollTold_49 rfl ?_
  refine v_aload_n S hl 1 rfl rfl dX7_tollTold_50 ?_
  refine gr_7_5 S hG q327 dX7_tollTold_51 (fun r9 => ?_)
  refine v_iload_n S hl 2 rfl rfl dX7_tollTold_54 ?_
  refine v_iald S hG dX7_tollTold_55 ?_
  refine v_tast S hG hT dX7_tollTold_56 (fun f10 H locs hG hT => ?_)
  refine v_dup S dX7_tollTold_57 rfl ?_
  refine v_iconst S 2 dX7_tollTold_58 rfl ?_
  refine v_aload_n S hl 1 rfl rfl dX7_tollTold_59 ?_
  refine gr_7_6 S hG q332 dX7_tollTold_60 (fun r11 => ?_)
  refine v_iload_n S hl 2 rfl rfl dX7_tollTold_63 ?_
  refine v_iald S hG dX7_tollTold_64 ?_
  refine v_tast S hG hT dX7_tollTold_65 (fun f12 H locs hG hT => ?_)
  refine v_dup S dX7_tollTold_66 rfl ?_
  refine v_iconst S 3 dX7_tollTold_67 rfl ?_
  refine v_aload_n S hl 1 rfl rfl dX7_tollTold_68 ?_
  refine gr_7_7 S hG q396 dX7_tollTold_69 (fun r13 => ?_)
  refine v_iload_n S hl 2 rfl rfl dX7_tollTold_72 ?_
  refine v_iald S hG dX7_tollTold_73 ?_
  refine v_tast S hG hT dX7_tollTold_74 (fun f14 H locs hG hT => ?_)
  refine v_dup S dX7_tollTold_75 rfl ?_
  refine v_iconst S 4 dX7_tollTold_76 rfl ?_
  refine v_aload_n S hl 1 rfl rfl dX7_tollTold_77 ?_
  refine gr_7_9 S hG q336 dX7_tollTold_78 (fun r15 => ?_)
  refine grN_6_13 S hG q425 dX7_tollTold_81 (fun r16 => ?_)
  refine v_iload_n S hl 2 rfl rfl dX7_tollTold_84 ?_
  refine v_iald S hG dX7_tollTold_85 ?_
  refine v_tast S hG hT dX7_tollTold_86 (fun f17 H locs hG hT => ?_)
  refine v_dup S dX7_tollTold_87 rfl ?_
  refine v_iconst S 5 dX7_tollTold_88 rfl ?_
  refine v_aload_n S hl 1 rfl rfl dX7_tollTold_89 ?_
  refine gr_7_9 S hG q336 dX7_tollTold_90 (fun r18 => ?_)
  refine grN_6_14 S hG q426 dX7_tollTold_93 (fun r19 => ?_)
  refine v_iload_n S hl 2 rfl rfl dX7_tollTold_96 ?_
  refine v_iald S hG dX7_tollTold_97 ?_
  refine v_tast S hG hT dX7_tollTold_98 (fun f20 H locs hG hT => ?_)
  refine v_dup S dX7_tollTold_99 rfl ?_
  refine v_bipush S 6 dX7_tollTold_100 (by decide) ?_
  refine v_iconst S 0 dX7_tollTold_102 rfl ?_
  refine v_aload_n S hl 1 rfl rfl dX7_tollTold_103 ?_
  refine gr_7_9 S hG q336 dX7_tollTold_104 (fun r21 => ?_)
  refine grN_6_13 S hG q425 dX7_tollTold_107 (fun r22 => ?_)
  refine v_iload_n S hl 2 rfl rfl dX7_tollTold_110 ?_
  refine v_iald S hG dX7_tollTold_111 ?_
  refine v_aload_n S hl 1 rfl rfl dX7_tollTold_112 ?_
  refine v_iload_n S hl 2 rfl rfl dX7_tollTold_113 ?_
  refine v_cVT_i S hG hT [.int a1] rfl rfl (by decide) (fun b9 => met_X7_tellers l g ad false b9 σ a0 a1) mw_X7_tellers q328 dX7_tollTold_114 rfl rfl hl.1 (Nat.le_of_ble_eq_true rfl) ⟨Nat.le_of_ble_eq_true rfl, Nat.le_of_ble_eq_true rfl⟩ rfl rfl ⟨Nat.le_of_ble_eq_true rfl, Nat.le_of_ble_eq_true rfl⟩ (fun r23 H locs hG hT => ?_)
  refine v_isub S dX7_tollTold_117 ?_
  refine v_mmax S q427 mw_max hl.1 (Nat.le_of_ble_eq_true rfl) (Nat.le_of_ble_eq_true rfl) (Nat.le_of_ble_eq_true rfl) (Nat.le_of_ble_eq_true rfl) dX7_tollTold_118 ?_
  refine v_tast S hG hT dX7_tollTold_121 (fun f24 H locs hG hT => ?_)
  refine v_dup S dX7_tollTold_122 rfl ?_
  refine v_bipush S 7 dX7_tollTold_123 (by decide) ?_
  refine v_iload_n S hl 0 rfl rfl dX7_tollTold_125 ?_
  refine v_tast S hG hT dX7_tollTold_126 (fun f25 H locs hG hT => ?_)
  refine v_dup S dX7_tollTold_127 rfl ?_
  refine v_bipush S 8 dX7_tollTold_128 (by decide) ?_
  refine v_aload_n S hl 1 rfl rfl dX7_tollTold_130 ?_
  refine gr_7_9 S hG q336 dX7_tollTold_131 (fun r26 => ?_)
  refine grN_6_15 S hG q365 dX7_tollTold_134 (fun r27 => ?_)
  refine v_iload_n S hl 2 rfl rfl dX7_tollTold_137 ?_
  refine v_iald S hG dX7_tollTold_138 ?_
  refine v_tast S hG hT dX7_tollTold_139 (fun f28 H locs hG hT => ?_)
  refine v_astore S hl [(4, .ref qt6), (3, .int b0), (0, .ref (ad a0)), (1, .int a1), (2, .int a2)] dX7_tollTold_140 (by decide) rfl (fun ls hl => ?_)
  refine v_aload S hl 0 rfl dX7_tollTold_142 ?_
  refine v_iload_n S hl 4 rfl rfl dX7_tollTold_144 ?_
  refine v_tald S hG hT dX7_tollTold_145 ?_
  exact v_iretR S hG hr hlk (Nat.le_of_ble_eq_true rfl) (Nat.le_of_ble_eq_true rfl) dX7_tollTold_146
set_option maxHeartbeats 4000000 in
set_option maxRecDepth 100000 in
theorem met0_X7_tollTold (l : Launch) (g : GT) (ad : Nat → Nat) (b : Nat) (σ : Mem) (t : Nat) (p0 : Int32) (p1 : Int32) (rr : Int32) (h : fn_X7_tollTold σ t p0 p1 = some rr) : Met l yX7_tollTold (wsy yX7_tollTold cX7_tollTold 5 (some .int)) ({ frames := 1, cells := 1, slots := 9, locals := 21 } : Room) (va_Pc [.ref (ad t), .int p0, .int p1] (PB g ad σ b)) (va_Qi (fun (r' : Int32) (u : Mem) => r' = rr ∧ u = σ) (GW g ad) (AA g ad false b)) 1 9 (AA g ad false b) := by
  refine Met.ofW (cc := cX7_tollTold) (maxL := 5) (ret := (some .int)) (by decide) rfl ?_
  intro p e s m args below meth c s₁ B hml hv
  obtain ⟨rfl, hv⟩ := hv
  have S : CallFix p m c cX7_tollTold 5 s _ AL RX7 := ⟨B.exec, B.bytes, hml, findClass_of_methodNamed B.named, fun w h => atoms_spec (ws := wsy yX7_tollTold cX7_tollTold 5 (some .int)) B.pre w (List.mem_cons_of_mem _ h)⟩
  have hr := B.returns
  have hlk := B.notSynchronized
  have hG : GA g ad σ false b s s.heap [] := GA_start hv
  have hl := lv_entry ([.ref (ad t), .int p0, .int p1]) (n := 5) (Nat.le_of_ble_eq_true rfl)
  rw [lg_entry_eq]
  generalize (lg_sl ([.ref (ad t), .int p0, .int p1]) ++ List.replicate (5 - (lg_sl ([.ref (ad t), .int p0, .int p1])).length) Slot.unset).toArray = ls at hl ⊢
  have hl : lv_has ls 5 [(0, .ref (ad t)), (1, .int p0), (2, .int p1)] := hl
  revert h
  unfold fn_X7_tollTold
  refine v_aload_n S hl 0 rfl rfl dX7_tollTold_0 ?_
  refine gr_7_9 S hG q336 dX7_tollTold_1 (fun r1 => ?_)
  refine grN_6_15 S hG q365 dX7_tollTold_4 (fun r2 => ?_)
  refine v_iload_n S hl 1 rfl rfl dX7_tollTold_7 ?_
  refine v_iald S hG dX7_tollTold_8 ?_
  refine v_iconst S (-1) dX7_tollTold_9 rfl ?_
  refine v_icmp_eq S 17 dX7_tollTold_10 (by decide) ?_ ?_
  · refine v_aload_n S hl 0 rfl rfl dX7_tollTold_17 ?_
    refine gr_7_9 S hG q336 dX7_tollTold_18 (fun r3 => ?_)
    refine grN_6_13 S hG q425 dX7_tollTold_21 (fun r4 => ?_)
    refine v_iload_n S hl 1 rfl rfl dX7_tollTold_24 ?_
    refine v_iald S hG dX7_tollTold_25 ?_
    refine v_if_le S 33 dX7_tollTold_26 (by decide) ?_ ?_
    · refine v_iconst S 0 dX7_tollTold_33 rfl ?_
      exact wj_X7_tollTold_34 S hr hlk σ t p0 p1 0 _ _ ls (lv_sub hl [0, 1, 2] rfl) hG
    · refine v_iconst S 1 dX7_tollTold_29 rfl ?_
      refine v_goto S 34 dX7_tollTold_30 (by decide) ?_
      exact wj_X7_tollTold_34 S hr hlk σ t p0 p1 1 _ _ ls (lv_sub hl [0, 1, 2] rfl) hG
  · refine v_iconst S 2 dX7_tollTold_13 rfl ?_
    refine v_goto S 34 dX7_tollTold_14 (by decide) ?_
    exact wj_X7_tollTold_34 S hr hlk σ t p0 p1 2 _ _ ls (lv_sub hl [0, 1, 2] rfl) hG
theorem met_X7_tollTold (l : Launch) (g : GT) (ad : Nat → Nat) (w : Bool) (b : Nat) (σ : Mem) (t : Nat) (p0 : Int32) (p1 : Int32) (rr : Int32) (h : fn_X7_tollTold σ t p0 p1 = some rr) : Met l yX7_tollTold (wsy yX7_tollTold cX7_tollTold 5 (some .int)) ({ frames := 1, cells := 1, slots := 9, locals := 21 } : Room) (va_Pc [.ref (ad t), .int p0, .int p1] (PB g ad σ b)) (va_Qi (fun (r' : Int32) (u : Mem) => r' = rr ∧ u = σ) (GW g ad) (AA g ad w b)) 1 9 (AA g ad w b) := Met_up w (met0_X7_tollTold l g ad b σ t p0 p1 rr h)
set_option maxHeartbeats 4000000 in
set_option maxRecDepth 100000 in
theorem met_X7_about (l : Launch) (g : GT) (ad : Nat → Nat) (_ : Bool) (b : Nat) (σ : Mem) (t : Nat) (p0 : Int32) (p1 : Int32) (rr : Int32) (σr : Mem) (h : fn_X7_about σ t p0 p1 = some (rr, σr)) : Met l yX7_about (wsy yX7_about cX7_about 3 (some .int)) ({ frames := 2, cells := 1, slots := 9, locals := 45 } : Room) (va_Pc [.ref (ad t), .int p0, .int p1] (PB g ad σ b)) (va_Qi (fun (r' : Int32) (u : Mem) => r' = rr ∧ u = σr) (GW g ad) (AA g ad true b)) 1 9 (AA g ad true b) := by
  refine Met.ofW (cc := cX7_about) (maxL := 3) (ret := (some .int)) (by decide) rfl ?_
  intro p e s m args below meth c s₁ B hml hv
  obtain ⟨rfl, hv⟩ := hv
  have S : CallFix p m c cX7_about 3 s _ AL RX7 := ⟨B.exec, B.bytes, hml, findClass_of_methodNamed B.named, fun w h => atoms_spec (ws := wsy yX7_about cX7_about 3 (some .int)) B.pre w (List.mem_cons_of_mem _ h)⟩
  have hr := B.returns
  have hlk := B.notSynchronized
  have hG : GA g ad σ true b s s.heap [] := GA_start hv
  have hl := lv_entry ([.ref (ad t), .int p0, .int p1]) (n := 3) (Nat.le_of_ble_eq_true rfl)
  rw [lg_entry_eq]
  generalize (lg_sl ([.ref (ad t), .int p0, .int p1]) ++ List.replicate (3 - (lg_sl ([.ref (ad t), .int p0, .int p1])).length) Slot.unset).toArray = ls at hl ⊢
  have hl : lv_has ls 3 [(0, .ref (ad t)), (1, .int p0), (2, .int p1)] := hl
  revert h
  unfold fn_X7_about
  refine v_aload_n S hl 0 rfl rfl dX7_about_0 ?_
  refine v_iconst S 0 dX7_about_1 rfl ?_
  refine pf_7_0 S hG q320 dX7_about_2 (fun σ1 H locs hG => ?_)
  refine v_aload_n S hl 0 rfl rfl dX7_about_5 ?_
  refine v_iload_n S hl 1 rfl rfl dX7_about_6 ?_
  refine v_cV_iR S hG [.int p0] rfl rfl (by decide) (met_X7_isToll l g ad true b σ1 t p0) mw_X7_isToll q413 dX7_about_7 rfl rfl hl.1 (Nat.le_of_ble_eq_true rfl) ⟨Nat.le_of_ble_eq_true rfl, Nat.le_of_ble_eq_true rfl⟩ rfl rfl ⟨Nat.le_of_ble_eq_true rfl, Nat.le_of_ble_eq_true rfl⟩ (fun r2 H locs hG => ?_)
  refine v_if_eq S 32 dX7_about_10 (by decide) ?_ ?_
  · refine v_aload_n S hl 0 rfl rfl dX7_about_32 ?_
    refine v_iconst S 1 dX7_about_33 rfl ?_
    refine v_cV_im S hG [.int 1] rfl rfl (by decide) (met_X7_no l g ad true b σ1 t 1) mw_X7_no q338 dX7_about_34 rfl rfl hl.1 (Nat.le_of_ble_eq_true rfl) ⟨Nat.le_of_ble_eq_true rfl, Nat.le_of_ble_eq_true rfl⟩ rfl rfl ⟨Nat.le_of_ble_eq_true rfl, Nat.le_of_ble_eq_true rfl⟩ (fun r3 σ4 H locs hG => ?_)
    exact v_iretm S hG hr hlk (Nat.le_of_ble_eq_true rfl) (Nat.le_of_ble_eq_true rfl) dX7_about_37
  · refine v_iload_n S hl 2 rfl rfl dX7_about_13 ?_
    refine v_iconst S 0 dX7_about_14 rfl ?_
    refine v_bipush S 8 dX7_about_15 (by decide) ?_
    refine v_cS_iR S hG [.int p1, .int 0, .int 8] (met_X7_isIn l g ad true b σ1 p1 0 8) mw_X7_isIn q321 dX7_about_17 rfl rfl hl.1 (Nat.le_of_ble_eq_true rfl) ⟨Nat.le_of_ble_eq_true rfl, Nat.le_of_ble_eq_true rfl⟩ rfl rfl ⟨Nat.le_of_ble_eq_true rfl, Nat.le_of_ble_eq_true rfl⟩ (fun r5 H locs hG => ?_)
    refine v_if_eq S 32 dX7_about_20 (by decide) ?_ ?_
    · refine v_aload_n S hl 0 rfl rfl dX7_about_32 ?_
      refine v_iconst S 1 dX7_about_33 rfl ?_
      refine v_cV_im S hG [.int 1] rfl rfl (by decide) (met_X7_no l g ad true b σ1 t 1) mw_X7_no q338 dX7_about_34 rfl rfl hl.1 (Nat.le_of_ble_eq_true rfl) ⟨Nat.le_of_ble_eq_true rfl, Nat.le_of_ble_eq_true rfl⟩ rfl rfl ⟨Nat.le_of_ble_eq_true rfl, Nat.le_of_ble_eq_true rfl⟩ (fun r6 σ7 H locs hG => ?_)
      exact v_iretm S hG hr hlk (Nat.le_of_ble_eq_true rfl) (Nat.le_of_ble_eq_true rfl) dX7_about_37
    · refine v_aload_n S hl 0 rfl rfl dX7_about_23 ?_
      refine v_iload_n S hl 1 rfl rfl dX7_about_24 ?_
      refine v_iload_n S hl 2 rfl rfl dX7_about_25 ?_
      refine v_cV_iR S hG [.int p0, .int p1] rfl rfl (by decide) (met_X7_tollTold l g ad true b σ1 t p0 p1) mw_X7_tollTold q428 dX7_about_26 rfl rfl hl.1 (Nat.le_of_ble_eq_true rfl) ⟨Nat.le_of_ble_eq_true rfl, Nat.le_of_ble_eq_true rfl⟩ rfl rfl ⟨Nat.le_of_ble_eq_true rfl, Nat.le_of_ble_eq_true rfl⟩ (fun r8 H locs hG => ?_)
      refine v_goto S 37 dX7_about_29 (by decide) ?_
      exact v_iretm S hG hr hlk (Nat.le_of_ble_eq_true rfl) (Nat.le_of_ble_eq_true rfl) dX7_about_37
set_option maxHeartbeats 4000000 in
set_option maxRecDepth 100000 in
theorem wl_X7_heardOf_5 {p : Program} {l : Launch} {e : Env} {s : State} {m : MethodId} {args : Array Value} {below : List Frame} {meth : Method} {c : Code} {g : GT} {ad : Nat → Nat} {w : Bool} {b : Nat} (S : CallFix p m c cX7_heardOf 5 s args AL RX7) (hr : meth.sig.returnType = some .int) (hlk : meth.locks = false) (σ : Mem) (a0 : Nat) (a1 : Int32) {rr : Int32} {K : Int32 → Int32 → Option Int32} (kx : ∀ (y3 : Int32) (y4 : Int32) (H : Heap) (locs : List Loc) (ls : Array Slot), lv_has ls 5 [(0, .ref (ad a0)), (1, .int a1), (3, .int y3), (4, .int y4)] → GA g ad σ w b s H locs → K y3 y4 = some rr → W p l e ({ frames := 0, cells := 0, slots := 0, locals := 0 } : Room) s m args below meth c H locs 0 0 (MQ below (va_Qi (fun (r' : Int32) (u : Mem) => r' = rr ∧ u = σ) (GW g ad) (AA g ad w b)) args s 0 0 (AA g ad w b)) (F0 m 33 ls [])) : ∀ (fuel : Nat) (y3 : Int32) (y4 : Int32) (H : Heap) (locs : List Loc) (ls : Array Slot), lv_has ls 5 [(0, .ref (ad a0)), (1, .int a1), (3, .int y3), (4, .int y4)] → GA g ad σ w b s H locs → lp_X7_heardOf_5 σ a0 a1 K fuel y3 y4 = some rr → W p l e ({ frames := 0, cells := 0, slots := 0, locals := 0 } : Room) s m args below meth c H locs 0 0 (MQ below (va_Qi (fun (r' : Int32) (u : Mem) => r' = rr ∧ u = σ) (GW g ad) (AA g ad w b)) args s 0 0 (AA g ad w b)) (F0 m 5 ls []) := by
  intro fuel
  induction fuel with
  | zero =>
    intro y3 y4 H locs ls hl hG h
    rw [lp_X7_heardOf_5.eq_1] at h
    cases h
  | succ fuel ih =>
    intro y3 y4 H locs ls hl hG
    rw [lp_X7_heardOf_5.eq_2]
    refine v_iload S hl 3 rfl dX7_heardOf_5 ?_
    refine v_bipush S 91 dX7_heardOf_7 (by decide) ?_
    refine v_icmp_ge S 33 dX7_heardOf_9 (by decide) ?_ ?_
    · exact kx y3 y4 _ _ ls (lv_sub hl [0, 1, 2, 3] rfl) hG
    · refine v_iload_n S hl 2 rfl rfl dX7_heardOf_12 ?_
      refine v_aload_n S hl 0 rfl rfl dX7_heardOf_13 ?_
      refine gr_7_8 S hG q432 dX7_heardOf_14 (fun r1 => ?_)
      refine v_bipush S 91 dX7_heardOf_17 (by decide) ?_
      refine v_iload_n S hl 1 rfl rfl dX7_heardOf_19 ?_
      refine v_imul S dX7_heardOf_20 ?_
      refine v_iload S hl 3 rfl dX7_heardOf_21 ?_
      refine v_iadd S dX7_heardOf_23 ?_
      refine v_iald S hG dX7_heardOf_24 ?_
      refine v_iadd S dX7_heardOf_25 ?_
      refine v_nm (fun x2 => ?_)
      refine v_istore_n S hl [(3, .int x2), (0, .ref (ad a0)), (1, .int a1), (4, .int y4)] rfl dX7_heardOf_26 (by decide) rfl (fun ls hl => ?_)
      refine v_iinc S hl 3 rfl dX7_heardOf_27 rfl (by decide) (fun z => [(4, .int z), (3, .int x2), (0, .ref (ad a0)), (1, .int a1)]) (fun _ => rfl) (fun x3 ls hl => ?_)
      refine v_goto S 5 dX7_heardOf_30 (by decide) ?_
      exact ih x2 x3 _ _ ls (lv_sub hl [2, 3, 1, 0] rfl) hG
set_option maxHeartbeats 4000000 in
set_option maxRecDepth 100000 in
theorem met_X7_heardOf (l : Launch) (g : GT) (ad : Nat → Nat) (w : Bool) (b : Nat) (σ : Mem) (t : Nat) (p0 : Int32) (p1 : Int32) (rr : Int32) (h : fn_X7_heardOf σ t p0 p1 = some rr) : Met l yX7_heardOf (wsy yX7_heardOf cX7_heardOf 5 (some .int)) ({ frames := 0, cells := 0, slots := 0, locals := 0 } : Room) (va_Pc [.ref (ad t), .int p0, .int p1] (PB g ad σ b)) (va_Qi (fun (r' : Int32) (u : Mem) => r' = rr ∧ u = σ) (GW g ad) (AA g ad w b)) 0 0 (AA g ad w b) := by
  refine Met.ofW (cc := cX7_heardOf) (maxL := 5) (ret := (some .int)) (by decide) rfl ?_
  intro p e s m args below meth c s₁ B hml hv
  obtain ⟨rfl, hv⟩ := hv
  have S : CallFix p m c cX7_heardOf 5 s _ AL RX7 := ⟨B.exec, B.bytes, hml, findClass_of_methodNamed B.named, fun w h => atoms_spec (ws := wsy yX7_heardOf cX7_heardOf 5 (some .int)) B.pre w (List.mem_cons_of_mem _ h)⟩
  have hr := B.returns
  have hlk := B.notSynchronized
  have hG : GA g ad σ w b s s.heap [] := GA_start hv
  have hl := lv_entry ([.ref (ad t), .int p0, .int p1]) (n := 5) (Nat.le_of_ble_eq_true rfl)
  rw [lg_entry_eq]
  generalize (lg_sl ([.ref (ad t), .int p0, .int p1]) ++ List.replicate (5 - (lg_sl ([.ref (ad t), .int p0, .int p1])).length) Slot.unset).toArray = ls at hl ⊢
  have hl : lv_has ls 5 [(0, .ref (ad t)), (1, .int p0), (2, .int p1)] := hl
  revert h
  unfold fn_X7_heardOf
  refine v_iconst S 0 dX7_heardOf_0 rfl ?_
  refine v_istore_n S hl [(3, .int 0), (0, .ref (ad t)), (1, .int p0), (2, .int p1)] rfl dX7_heardOf_1 (by decide) rfl (fun ls hl => ?_)
  refine v_iload_n S hl 3 rfl rfl dX7_heardOf_2 ?_
  refine v_istore S hl [(4, .int p1), (3, .int 0), (0, .ref (ad t)), (1, .int p0), (2, .int p1)] dX7_heardOf_3 (by decide) rfl (fun ls hl => ?_)
  refine wl_X7_heardOf_5 S hr hlk σ t p0 (fun x4 x5 H locs ls hl hG => ?_) 93 0 p1 _ _ ls (lv_sub hl [2, 3, 1, 0] rfl) hG
  refine v_iload_n S hl 2 rfl rfl dX7_heardOf_33 ?_
  exact v_iretR S hG hr hlk (Nat.le_of_ble_eq_true rfl) (Nat.le_of_ble_eq_true rfl) dX7_heardOf_34
set_option maxHeartbeats 4000000 in
set_option maxRecDepth 100000 in
theorem met_X7_heard (l : Launch) (g : GT) (ad : Nat → Nat) (_ : Bool) (b : Nat) (σ : Mem) (t : Nat) (p0 : Int32) (p1 : Int32) (rr : Int32) (σr : Mem) (h : fn_X7_heard σ t p0 p1 = some (rr, σr)) : Met l yX7_heard (wsy yX7_heard cX7_heard 3 (some .int)) ({ frames := 2, cells := 0, slots := 0, locals := 43 } : Room) (va_Pc [.ref (ad t), .int p0, .int p1] (PB g ad σ b)) (va_Qi (fun (r' : Int32) (u : Mem) => r' = rr ∧ u = σr) (GW g ad) (AA g ad true b)) 0 0 (AA g ad true b) := by
  refine Met.ofW (cc := cX7_heard) (maxL := 3) (ret := (some .int)) (by decide) rfl ?_
  intro p e s m args below meth c s₁ B hml hv
  obtain ⟨rfl, hv⟩ := hv
  have S : CallFix p m c cX7_heard 3 s _ AL RX7 := ⟨B.exec, B.bytes, hml, findClass_of_methodNamed B.named, fun w h => atoms_spec (ws := wsy yX7_heard cX7_heard 3 (some .int)) B.pre w (List.mem_cons_of_mem _ h)⟩
  have hr := B.returns
  have hlk := B.notSynchronized
  have hG : GA g ad σ true b s s.heap [] := GA_start hv
  have hl := lv_entry ([.ref (ad t), .int p0, .int p1]) (n := 3) (Nat.le_of_ble_eq_true rfl)
  rw [lg_entry_eq]
  generalize (lg_sl ([.ref (ad t), .int p0, .int p1]) ++ List.replicate (3 - (lg_sl ([.ref (ad t), .int p0, .int p1])).length) Slot.unset).toArray = ls at hl ⊢
  have hl : lv_has ls 3 [(0, .ref (ad t)), (1, .int p0), (2, .int p1)] := hl
  revert h
  unfold fn_X7_heard
  refine v_aload_n S hl 0 rfl rfl dX7_heard_0 ?_
  refine v_iconst S 0 dX7_heard_1 rfl ?_
  refine pf_7_0 S hG q320 dX7_heard_2 (fun σ1 H locs hG => ?_)
  refine v_aload_n S hl 0 rfl rfl dX7_heard_5 ?_
  refine v_iload_n S hl 1 rfl rfl dX7_heard_6 ?_
  refine v_cV_iR S hG [.int p0] rfl rfl (by decide) (met_X7_isToll l g ad true b σ1 t p0) mw_X7_isToll q413 dX7_heard_7 rfl rfl hl.1 (Nat.le_of_ble_eq_true rfl) ⟨Nat.le_of_ble_eq_true rfl, Nat.le_of_ble_eq_true rfl⟩ rfl rfl ⟨Nat.le_of_ble_eq_true rfl, Nat.le_of_ble_eq_true rfl⟩ (fun r2 H locs hG => ?_)
  refine v_if_ne S 19 dX7_heard_10 (by decide) ?_ ?_
  · refine v_iload_n S hl 2 rfl rfl dX7_heard_19 ?_
    refine v_iconst S 0 dX7_heard_20 rfl ?_
    refine v_bipush S 90 dX7_heard_21 (by decide) ?_
    refine v_cS_iR S hG [.int p1, .int 0, .int 90] (met_X7_isIn l g ad true b σ1 p1 0 90) mw_X7_isIn q321 dX7_heard_23 rfl rfl hl.1 (Nat.le_of_ble_eq_true rfl) ⟨Nat.le_of_ble_eq_true rfl, Nat.le_of_ble_eq_true rfl⟩ rfl rfl ⟨Nat.le_of_ble_eq_true rfl, Nat.le_of_ble_eq_true rfl⟩ (fun r3 H locs hG => ?_)
    refine v_if_eq S 38 dX7_heard_26 (by decide) ?_ ?_
    · refine v_aload_n S hl 0 rfl rfl dX7_heard_38 ?_
      refine v_iconst S 2 dX7_heard_39 rfl ?_
      refine v_cV_im S hG [.int 2] rfl rfl (by decide) (met_X7_no l g ad true b σ1 t 2) mw_X7_no q338 dX7_heard_40 rfl rfl hl.1 (Nat.le_of_ble_eq_true rfl) ⟨Nat.le_of_ble_eq_true rfl, Nat.le_of_ble_eq_true rfl⟩ rfl rfl ⟨Nat.le_of_ble_eq_true rfl, Nat.le_of_ble_eq_true rfl⟩ (fun r4 σ5 H locs hG => ?_)
      exact v_iretm S hG hr hlk (Nat.le_of_ble_eq_true rfl) (Nat.le_of_ble_eq_true rfl) dX7_heard_43
    · refine v_aload_n S hl 0 rfl rfl dX7_heard_29 ?_
      refine v_iload_n S hl 1 rfl rfl dX7_heard_30 ?_
      refine v_iload_n S hl 2 rfl rfl dX7_heard_31 ?_
      refine v_cV_iR S hG [.int p0, .int p1] rfl rfl (by decide) (met_X7_heardOf l g ad true b σ1 t p0 p1) mw_X7_heardOf q433 dX7_heard_32 rfl rfl hl.1 (Nat.le_of_ble_eq_true rfl) ⟨Nat.le_of_ble_eq_true rfl, Nat.le_of_ble_eq_true rfl⟩ rfl rfl ⟨Nat.le_of_ble_eq_true rfl, Nat.le_of_ble_eq_true rfl⟩ (fun r6 H locs hG => ?_)
      refine v_goto S 43 dX7_heard_35 (by decide) ?_
      exact v_iretm S hG hr hlk (Nat.le_of_ble_eq_true rfl) (Nat.le_of_ble_eq_true rfl) dX7_heard_43
  · refine v_aload_n S hl 0 rfl rfl dX7_heard_13 ?_
    refine v_iconst S 1 dX7_heard_14 rfl ?_
    refine v_cV_im S hG [.int 1] rfl rfl (by decide) (met_X7_no l g ad true b σ1 t 1) mw_X7_no q338 dX7_heard_15 rfl rfl hl.1 (Nat.le_of_ble_eq_true rfl) ⟨Nat.le_of_ble_eq_true rfl, Nat.le_of_ble_eq_true rfl⟩ rfl rfl ⟨Nat.le_of_ble_eq_true rfl, Nat.le_of_ble_eq_true rfl⟩ (fun r7 σ8 H locs hG => ?_)
    exact v_iretm S hG hr hlk (Nat.le_of_ble_eq_true rfl) (Nat.le_of_ble_eq_true rfl) dX7_heard_18
set_option maxHeartbeats 4000000 in
set_option maxRecDepth 100000 in
theorem wl_X6_counted_61 {p : Program} {l : Launch} {e : Env} {s : State} {m : MethodId} {args : Array Value} {below : List Frame} {meth : Method} {c : Code} {g : GT} {ad : Nat → Nat} {b : Nat} (S : CallFix p m c cX6_counted 7 s args AL RX6) (hr : meth.sig.returnType = some .int) (hlk : meth.locks = false) (σ : Mem) (a0 : Nat) (a1 : Int32) (qt : Nat) {rr : Int32} {K : Int32 → (Nat → Int32) → Option Int32} (kx : ∀ (y3 : Int32) (fT : Nat → Int32) (H : Heap) (locs : List Loc) (ls : Array Slot), lv_has ls 7 [(0, .ref (ad a0)), (1, .int a1), (2, .ref qt), (3, .int y3)] → GA g ad σ false b s H locs → TA g ad qt 9 fT s H → K y3 fT = some rr → W p l e ({ frames := 0, cells := 1, slots := 9, locals := 0 } : Room) s m args below meth c H locs (0 + 1) (0 + 9) (MQ below (va_Qi (fun (r' : Int32) (u : Mem) => r' = rr ∧ u = σ) (GW g ad) (AA g ad false b)) args s 1 9 (AA g ad false b)) (F0 m 105 ls [])) : ∀ (fuel : Nat) (y3 : Int32) (fT : Nat → Int32) (H : Heap) (locs : List Loc) (ls : Array Slot), lv_has ls 7 [(0, .ref (ad a0)), (1, .int a1), (2, .ref qt), (3, .int y3)] → GA g ad σ false b s H locs → TA g ad qt 9 fT s H → lp_X6_counted_61 σ a0 a1 K fuel y3 fT = some rr → W p l e ({ frames := 0, cells := 1, slots := 9, locals := 0 } : Room) s m args below meth c H locs (0 + 1) (0 + 9) (MQ below (va_Qi (fun (r' : Int32) (u : Mem) => r' = rr ∧ u = σ) (GW g ad) (AA g ad false b)) args s 1 9 (AA g ad false b)) (F0 m 61 ls []) := by
  intro fuel
  induction fuel with
  | zero =>
    intro y3 fT H locs ls hl hG hT h
    rw [lp_X6_counted_61.eq_1] at h
    cases h
  | succ fuel ih =>
    intro y3 fT H locs ls hl hG hT
    rw [lp_X6_counted_61.eq_2]
    refine v_iload_n S hl 3 rfl rfl dX6_counted_61 ?_
    refine v_iconst S 4 dX6_counted_62 rfl ?_
    refine v_icmp_ge S 105 dX6_counted_63 (by decide) ?_ ?_
    · exact kx y3 fT _ _ ls (lv_sub hl [0, 1, 2, 3] rfl) hG hT
    · refine v_aload_n S hl 2 rfl rfl dX6_counted_66 ?_
      refine v_iconst S 2 dX6_counted_67 rfl ?_
      refine v_dup2 S dX6_counted_68 rfl rfl ?_
      refine v_tald S hG hT dX6_counted_69 ?_
      refine v_aload_n S hl 0 rfl rfl dX6_counted_70 ?_
      refine gr_6_7 S hG q380 dX6_counted_71 (fun r13 => ?_)
      refine v_iload_n S hl 3 rfl rfl dX6_counted_74 ?_
      refine v_iald S hG dX6_counted_75 ?_
      refine v_iconst S (-1) dX6_counted_76 rfl ?_
      refine v_icmp_ne S 84 dX6_counted_77 (by decide) ?_ ?_
      · refine v_iconst S 1 dX6_counted_84 rfl ?_
        refine v_iadd S dX6_counted_85 ?_
        refine v_tast S hG hT dX6_counted_86 (fun f14 H locs hG hT => ?_)
        refine v_aload_n S hl 2 rfl rfl dX6_counted_87 ?_
        refine v_iconst S 5 dX6_counted_88 rfl ?_
        refine v_dup2 S dX6_counted_89 rfl rfl ?_
        refine v_tald S hG hT dX6_counted_90 ?_
        refine v_aload_n S hl 0 rfl rfl dX6_counted_91 ?_
        refine gr_6_9 S hG q439 dX6_counted_92 (fun r15 => ?_)
        refine v_iload_n S hl 3 rfl rfl dX6_counted_95 ?_
        refine v_iald S hG dX6_counted_96 ?_
        refine v_iadd S dX6_counted_97 ?_
        refine v_tast S hG hT dX6_counted_98 (fun f16 H locs hG hT => ?_)
        refine v_iinc S hl 3 rfl dX6_counted_99 rfl (by decide) (fun z => [(3, .int z), (0, .ref (ad a0)), (1, .int a1), (2, .ref qt)]) (fun _ => rfl) (fun x17 ls hl => ?_)
        refine v_goto S 61 dX6_counted_102 (by decide) ?_
        exact ih x17 f16 _ _ ls (lv_sub hl [1, 2, 3, 0] rfl) hG hT
      · refine v_iconst S 0 dX6_counted_80 rfl ?_
        refine v_goto S 85 dX6_counted_81 (by decide) ?_
        refine v_iadd S dX6_counted_85 ?_
        refine v_tast S hG hT dX6_counted_86 (fun f18 H locs hG hT => ?_)
        refine v_aload_n S hl 2 rfl rfl dX6_counted_87 ?_
        refine v_iconst S 5 dX6_counted_88 rfl ?_
        refine v_dup2 S dX6_counted_89 rfl rfl ?_
        refine v_tald S hG hT dX6_counted_90 ?_
        refine v_aload_n S hl 0 rfl rfl dX6_counted_91 ?_
        refine gr_6_9 S hG q439 dX6_counted_92 (fun r19 => ?_)
        refine v_iload_n S hl 3 rfl rfl dX6_counted_95 ?_
        refine v_iald S hG dX6_counted_96 ?_
        refine v_iadd S dX6_counted_97 ?_
        refine v_tast S hG hT dX6_counted_98 (fun f20 H locs hG hT => ?_)
        refine v_iinc S hl 3 rfl dX6_counted_99 rfl (by decide) (fun z => [(3, .int z), (0, .ref (ad a0)), (1, .int a1), (2, .ref qt)]) (fun _ => rfl) (fun x21 ls hl => ?_)
        refine v_goto S 61 dX6_counted_102 (by decide) ?_
        exact ih x21 f20 _ _ ls (lv_sub hl [1, 2, 3, 0] rfl) hG hT
set_option maxHeartbeats 4000000 in
set_option maxRecDepth 100000 in
theorem wl_X6_counted_107 {p : Program} {l : Launch} {e : Env} {s : State} {m : MethodId} {args : Array Value} {below : List Frame} {meth : Method} {c : Code} {g : GT} {ad : Nat → Nat} {b : Nat} (S : CallFix p m c cX6_counted 7 s args AL RX6) (hr : meth.sig.returnType = some .int) (hlk : meth.locks = false) (σ : Mem) (a0 : Nat) (a1 : Int32) (qt : Nat) {rr : Int32} {K : Int32 → (Nat → Int32) → Option Int32} (kx : ∀ (y3 : Int32) (fT : Nat → Int32) (H : Heap) (locs : List Loc) (ls : Array Slot), lv_has ls 7 [(0, .ref (ad a0)), (1, .int a1), (2, .ref qt), (3, .int y3)] → GA g ad σ false b s H locs → TA g ad qt 9 fT s H → K y3 fT = some rr → W p l e ({ frames := 0, cells := 1, slots := 9, locals := 0 } : Room) s m args below meth c H locs (0 + 1) (0 + 9) (MQ below (va_Qi (fun (r' : Int32) (u : Mem) => r' = rr ∧ u = σ) (GW g ad) (AA g ad false b)) args s 1 9 (AA g ad false b)) (F0 m 155 ls [])) : ∀ (fuel : Nat) (y3 : Int32) (fT : Nat → Int32) (H : Heap) (locs : List Loc) (ls : Array Slot), lv_has ls 7 [(0, .ref (ad a0)), (1, .int a1), (2, .ref qt), (3, .int y3)] → GA g ad σ false b s H locs → TA g ad qt 9 fT s H → lp_X6_counted_107 σ a0 a1 K fuel y3 fT = some rr → W p l e ({ frames := 0, cells := 1, slots := 9, locals := 0 } : Room) s m args below meth c H locs (0 + 1) (0 + 9) (MQ below (va_Qi (fun (r' : Int32) (u : Mem) => r' = rr ∧ u = σ) (GW g ad) (AA g ad false b)) args s 1 9 (AA g ad false b)) (F0 m 107 ls []) := by
  intro fuel
  induction fuel with
  | zero =>
    intro y3 fT H locs ls hl hG hT h
    rw [lp_X6_counted_107.eq_1] at h
    cases h
  | succ fuel ih =>
    intro y3 fT H locs ls hl hG hT
    rw [lp_X6_counted_107.eq_2]
    refine v_iload_n S hl 3 rfl rfl dX6_counted_107 ?_
    refine v_aload_n S hl 0 rfl rfl dX6_counted_108 ?_
    refine gf_6_2 S hG q360 dX6_counted_109 ?_
    refine v_icmp_ge S 155 dX6_counted_112 (by decide) ?_ ?_
    · exact kx y3 fT _ _ ls (lv_sub hl [0, 1, 2, 3] rfl) hG hT
    · refine v_aload_n S hl 2 rfl rfl dX6_counted_115 ?_
      refine v_iconst S 4 dX6_counted_116 rfl ?_
      refine v_dup2 S dX6_counted_117 rfl rfl ?_
      refine v_tald S hG hT dX6_counted_118 ?_
      refine v_aload_n S hl 0 rfl rfl dX6_counted_119 ?_
      refine gr_6_15 S hG q363 dX6_counted_120 (fun r24 => ?_)
      refine v_iload_n S hl 3 rfl rfl dX6_counted_123 ?_
      refine v_iald S hG dX6_counted_124 ?_
      refine v_iconst S (-1) dX6_counted_125 rfl ?_
      refine v_icmp_ne S 133 dX6_counted_126 (by decide) ?_ ?_
      · refine v_iconst S 1 dX6_counted_133 rfl ?_
        refine v_iadd S dX6_counted_134 ?_
        refine v_tast S hG hT dX6_counted_135 (fun f25 H locs hG hT => ?_)
        refine v_aload_n S hl 2 rfl rfl dX6_counted_136 ?_
        refine v_bipush S 6 dX6_counted_137 (by decide) ?_
        refine v_dup2 S dX6_counted_139 rfl rfl ?_
        refine v_tald S hG hT dX6_counted_140 ?_
        refine v_aload_n S hl 0 rfl rfl dX6_counted_141 ?_
        refine gr_6_14 S hG q398 dX6_counted_142 (fun r26 => ?_)
        refine v_iload_n S hl 3 rfl rfl dX6_counted_145 ?_
        refine v_iald S hG dX6_counted_146 ?_
        refine v_iadd S dX6_counted_147 ?_
        refine v_tast S hG hT dX6_counted_148 (fun f27 H locs hG hT => ?_)
        refine v_iinc S hl 3 rfl dX6_counted_149 rfl (by decide) (fun z => [(3, .int z), (0, .ref (ad a0)), (1, .int a1), (2, .ref qt)]) (fun _ => rfl) (fun x28 ls hl => ?_)
        refine v_goto S 107 dX6_counted_152 (by decide) ?_
        exact ih x28 f27 _ _ ls (lv_sub hl [1, 2, 3, 0] rfl) hG hT
      · refine v_iconst S 0 dX6_counted_129 rfl ?_
        refine v_goto S 134 dX6_counted_130 (by decide) ?_
        refine v_iadd S dX6_counted_134 ?_
        refine v_tast S hG hT dX6_counted_135 (fun f29 H locs hG hT => ?_)
        refine v_aload_n S hl 2 rfl rfl dX6_counted_136 ?_
        refine v_bipush S 6 dX6_counted_137 (by decide) ?_
        refine v_dup2 S dX6_counted_139 rfl rfl ?_
        refine v_tald S hG hT dX6_counted_140 ?_
        refine v_aload_n S hl 0 rfl rfl dX6_counted_141 ?_
        refine gr_6_14 S hG q398 dX6_counted_142 (fun r30 => ?_)
        refine v_iload_n S hl 3 rfl rfl dX6_counted_145 ?_
        refine v_iald S hG dX6_counted_146 ?_
        refine v_iadd S dX6_counted_147 ?_
        refine v_tast S hG hT dX6_counted_148 (fun f31 H locs hG hT => ?_)
        refine v_iinc S hl 3 rfl dX6_counted_149 rfl (by decide) (fun z => [(3, .int z), (0, .ref (ad a0)), (1, .int a1), (2, .ref qt)]) (fun _ => rfl) (fun x32 ls hl => ?_)
        refine v_goto S 107 dX6_counted_152 (by decide) ?_
        exact ih x32 f31 _ _ ls (lv_sub hl [1, 2, 3, 0] rfl) hG hT
set_option maxHeartbeats 4000000 in
set_option maxRecDepth 100000 in
theorem wl_X6_counted_167 {p : Program} {l : Launch} {e : Env} {s : State} {m : MethodId} {args : Array Value} {below : List Frame} {meth : Method} {c : Code} {g : GT} {ad : Nat → Nat} {b : Nat} (S : CallFix p m c cX6_counted 7 s args AL RX6) (hr : meth.sig.returnType = some .int) (hlk : meth.locks = false) (σ : Mem) (a1 : Int32) (a3 : Nat) (a4 : Int32) (qt : Nat) {rr : Int32} {K : Int32 → (Nat → Int32) → Option Int32} (kx : ∀ (y5 : Int32) (fT : Nat → Int32) (H : Heap) (locs : List Loc) (ls : Array Slot), lv_has ls 7 [(1, .int a1), (2, .ref qt), (3, .ref (ad a3)), (4, .int a4), (5, .int y5)] → GA g ad σ false b s H locs → TA g ad qt 9 fT s H → K y5 fT = some rr → W p l e ({ frames := 0, cells := 1, slots := 9, locals := 0 } : Room) s m args below meth c H locs (0 + 1) (0 + 9) (MQ below (va_Qi (fun (r' : Int32) (u : Mem) => r' = rr ∧ u = σ) (GW g ad) (AA g ad false b)) args s 1 9 (AA g ad false b)) (F0 m 203 ls [])) : ∀ (fuel : Nat) (y5 : Int32) (fT : Nat → Int32) (H : Heap) (locs : List Loc) (ls : Array Slot), lv_has ls 7 [(1, .int a1), (2, .ref qt), (3, .ref (ad a3)), (4, .int a4), (5, .int y5)] → GA g ad σ false b s H locs → TA g ad qt 9 fT s H → lp_X6_counted_167 σ a1 a3 a4 K fuel y5 fT = some rr → W p l e ({ frames := 0, cells := 1, slots := 9, locals := 0 } : Room) s m args below meth c H locs (0 + 1) (0 + 9) (MQ below (va_Qi (fun (r' : Int32) (u : Mem) => r' = rr ∧ u = σ) (GW g ad) (AA g ad false b)) args s 1 9 (AA g ad false b)) (F0 m 167 ls []) := by
  intro fuel
  induction fuel with
  | zero =>
    intro y5 fT H locs ls hl hG hT h
    rw [lp_X6_counted_167.eq_1] at h
    cases h
  | succ fuel ih =>
    intro y5 fT H locs ls hl hG hT
    rw [lp_X6_counted_167.eq_2]
    refine v_iload S hl 4 rfl dX6_counted_167 ?_
    refine v_iload S hl 3 rfl dX6_counted_169 ?_
    refine v_icmp_ge S 203 dX6_counted_171 (by decide) ?_ ?_
    · exact kx y5 fT _ _ ls (lv_sub hl [0, 1, 2, 3, 4] rfl) hG hT
    · refine v_aload_n S hl 2 rfl rfl dX6_counted_174 ?_
      refine v_iload S hl 4 rfl dX6_counted_175 ?_
      refine v_iald S hG dX6_counted_177 ?_
      refine v_nm (fun x37 => ?_)
      refine v_istore S hl [(6, .int x37), (1, .int a1), (2, .ref qt), (3, .ref (ad a3)), (4, .int a4), (5, .int y5)] dX6_counted_178 (by decide) rfl (fun ls hl => ?_)
      refine v_aload_n S hl 2 rfl rfl dX6_counted_180 ?_
      refine v_bipush S 8 dX6_counted_181 (by decide) ?_
      refine v_dup2 S dX6_counted_183 rfl rfl ?_
      refine v_tald S hG hT dX6_counted_184 ?_
      refine v_iload S hl 0 rfl dX6_counted_185 ?_
      refine v_if_le S 194 dX6_counted_187 (by decide) ?_ ?_
      · refine v_iconst S 0 dX6_counted_194 rfl ?_
        refine v_iadd S dX6_counted_195 ?_
        refine v_tast S hG hT dX6_counted_196 (fun f38 H locs hG hT => ?_)
        refine v_iinc S hl 5 rfl dX6_counted_197 rfl (by decide) (fun z => [(5, .int z), (6, .int x37), (1, .int a1), (2, .ref qt), (3, .ref (ad a3)), (4, .int a4)]) (fun _ => rfl) (fun x39 ls hl => ?_)
        refine v_goto S 167 dX6_counted_200 (by decide) ?_
        exact ih x39 f38 _ _ ls (lv_sub hl [2, 3, 4, 5, 0] rfl) hG hT
      · refine v_iconst S 1 dX6_counted_190 rfl ?_
        refine v_goto S 195 dX6_counted_191 (by decide) ?_
        refine v_iadd S dX6_counted_195 ?_
        refine v_tast S hG hT dX6_counted_196 (fun f40 H locs hG hT => ?_)
        refine v_iinc S hl 5 rfl dX6_counted_197 rfl (by decide) (fun z => [(5, .int z), (6, .int x37), (1, .int a1), (2, .ref qt), (3, .ref (ad a3)), (4, .int a4)]) (fun _ => rfl) (fun x41 ls hl => ?_)
        refine v_goto S 167 dX6_counted_200 (by decide) ?_
        exact ih x41 f40 _ _ ls (lv_sub hl [2, 3, 4, 5, 0] rfl) hG hT
set_option maxHeartbeats 4000000 in
set_option maxRecDepth 100000 in
theorem met0_X6_counted (l : Launch) (g : GT) (ad : Nat → Nat) (b : Nat) (σ : Mem) (t : Nat) (p0 : Int32) (rr : Int32) (h : fn_X6_counted σ t p0 = some rr) : Met l yX6_counted (wsy yX6_counted cX6_counted 7 (some .int)) ({ frames := 0, cells := 1, slots := 9, locals := 0 } : Room) (va_Pc [.ref (ad t), .int p0] (PB g ad σ b)) (va_Qi (fun (r' : Int32) (u : Mem) => r' = rr ∧ u = σ) (GW g ad) (AA g ad false b)) 1 9 (AA g ad false b) := by
  refine Met.ofW (cc := cX6_counted) (maxL := 7) (ret := (some .int)) (by decide) rfl ?_
  intro p e s m args below meth c s₁ B hml hv
  obtain ⟨rfl, hv⟩ := hv
  have S : CallFix p m c cX6_counted 7 s _ AL RX6 := ⟨B.exec, B.bytes, hml, findClass_of_methodNamed B.named, fun w h => atoms_spec (ws := wsy yX6_counted cX6_counted 7 (some .int)) B.pre w (List.mem_cons_of_mem _ h)⟩
  have hr := B.returns
  have hlk := B.notSynchronized
  have hG : GA g ad σ false b s s.heap [] := GA_start hv
  have hl := lv_entry ([.ref (ad t), .int p0]) (n := 7) (Nat.le_of_ble_eq_true rfl)
  rw [lg_entry_eq]
  generalize (lg_sl ([.ref (ad t), .int p0]) ++ List.replicate (7 - (lg_sl ([.ref (ad t), .int p0])).length) Slot.unset).toArray = ls at hl ⊢
  have hl : lv_has ls 7 [(0, .ref (ad t)), (1, .int p0)] := hl
  revert h
  unfold fn_X6_counted
  refine v_bipush S 9 dX6_counted_0 (by decide) ?_
  refine v_tnew S hG (n := 9) q366 dX6_counted_2 (by decide) rfl (Nat.le_of_ble_eq_true rfl) (Nat.le_of_ble_eq_true rfl) (Nat.le_of_ble_eq_true rfl) (fun f1 qt2 H hG hT => ?_)
  refine v_dup S dX6_counted_4 rfl ?_
  refine v_iconst S 0 dX6_counted_5 rfl ?_
  refine v_aload_n S hl 0 rfl rfl dX6_counted_6 ?_
  refine gf_6_0 S hG q411 dX6_counted_7 ?_
  refine v_tast S hG hT dX6_counted_10 (fun f3 H locs hG hT => ?_)
  refine v_dup S dX6_counted_11 rfl ?_
  refine v_iconst S 1 dX6_counted_12 rfl ?_
  refine v_aload_n S hl 0 rfl rfl dX6_counted_13 ?_
  refine gr_6_16 S hG q361 dX6_counted_14 (fun r4 => ?_)
  refine gfN_7_1 S hG q437 dX6_counted_17 ?_
  refine v_tast S hG hT dX6_counted_20 (fun f5 H locs hG hT => ?_)
  refine v_dup S dX6_counted_21 rfl ?_
  refine v_iconst S 2 dX6_counted_22 rfl ?_
  refine v_iconst S 0 dX6_counted_23 rfl ?_
  refine v_tast S hG hT dX6_counted_24 (fun f6 H locs hG hT => ?_)
  refine v_dup S dX6_counted_25 rfl ?_
  refine v_iconst S 3 dX6_counted_26 rfl ?_
  refine v_aload_n S hl 0 rfl rfl dX6_counted_27 ?_
  refine gf_6_2 S hG q360 dX6_counted_28 ?_
  refine v_tast S hG hT dX6_counted_31 (fun f7 H locs hG hT => ?_)
  refine v_dup S dX6_counted_32 rfl ?_
  refine v_iconst S 4 dX6_counted_33 rfl ?_
  refine v_iconst S 0 dX6_counted_34 rfl ?_
  refine v_tast S hG hT dX6_counted_35 (fun f8 H locs hG hT => ?_)
  refine v_dup S dX6_counted_36 rfl ?_
  refine v_iconst S 5 dX6_counted_37 rfl ?_
  refine v_iconst S 0 dX6_counted_38 rfl ?_
  refine v_tast S hG hT dX6_counted_39 (fun f9 H locs hG hT => ?_)
  refine v_dup S dX6_counted_40 rfl ?_
  refine v_bipush S 6 dX6_counted_41 (by decide) ?_
  refine v_iconst S 0 dX6_counted_43 rfl ?_
  refine v_tast S hG hT dX6_counted_44 (fun f10 H locs hG hT => ?_)
  refine v_dup S dX6_counted_45 rfl ?_
  refine v_bipush S 7 dX6_counted_46 (by decide) ?_
  refine v_aload_n S hl 0 rfl rfl dX6_counted_48 ?_
  refine gf_6_1 S hG q438 dX6_counted_49 ?_
  refine v_tast S hG hT dX6_counted_52 (fun f11 H locs hG hT => ?_)
  refine v_dup S dX6_counted_53 rfl ?_
  refine v_bipush S 8 dX6_counted_54 (by decide) ?_
  refine v_iconst S 0 dX6_counted_56 rfl ?_
  refine v_tast S hG hT dX6_counted_57 (fun f12 H locs hG hT => ?_)
  refine v_astore_n S hl [(2, .ref qt2), (0, .ref (ad t)), (1, .int p0)] rfl dX6_counted_58 (by decide) rfl (fun ls hl => ?_)
  refine v_iconst S 0 dX6_counted_59 rfl ?_
  refine v_istore_n S hl [(3, .int 0), (2, .ref qt2), (0, .ref (ad t)), (1, .int p0)] rfl dX6_counted_60 (by decide) rfl (fun ls hl => ?_)
  refine wl_X6_counted_61 S hr hlk σ t p0 qt2 (fun x22 f23 H locs ls hl hG hT => ?_) 30 0 f12 _ _ ls (lv_sub hl [2, 3, 1, 0] rfl) hG hT
  refine v_iconst S 0 dX6_counted_105 rfl ?_
  refine v_istore_n S hl [(3, .int 0), (0, .ref (ad t)), (1, .int p0), (2, .ref qt2)] rfl dX6_counted_106 (by decide) rfl (fun ls hl => ?_)
  refine wl_X6_counted_107 S hr hlk σ t p0 qt2 (fun x33 f34 H locs ls hl hG hT => ?_) 30 0 f23 _ _ ls (lv_sub hl [1, 2, 3, 0] rfl) hG hT
  refine v_aload_n S hl 0 rfl rfl dX6_counted_155 ?_
  refine gr_6_4 S hG q342 dX6_counted_156 (fun r35 => ?_)
  refine v_astore_n S hl [(3, .ref (ad r35)), (0, .ref (ad t)), (1, .int p0), (2, .ref qt2)] rfl dX6_counted_159 (by decide) rfl (fun ls hl => ?_)
  refine v_aload_n S hl 0 rfl rfl dX6_counted_160 ?_
  refine v_alen_8 S hG dX6_counted_161 ?_
  refine v_nm (fun x36 => ?_)
  refine v_istore S hl [(4, .int x36), (3, .ref (ad r35)), (0, .ref (ad t)), (1, .int p0), (2, .ref qt2)] dX6_counted_162 (by decide) rfl (fun ls hl => ?_)
  refine v_iconst S 0 dX6_counted_164 rfl ?_
  refine v_istore S hl [(5, .int 0), (4, .int x36), (3, .ref (ad r35)), (0, .ref (ad t)), (1, .int p0), (2, .ref qt2)] dX6_counted_165 (by decide) rfl (fun ls hl => ?_)
  refine wl_X6_counted_167 S hr hlk σ p0 r35 x36 qt2 (fun x42 f43 H locs ls hl hG hT => ?_) 30 0 f34 _ _ ls (lv_sub hl [4, 5, 2, 1, 0] rfl) hG hT
  refine v_aload_n S hl 1 rfl rfl dX6_counted_203 ?_
  refine v_iload_n S hl 0 rfl rfl dX6_counted_204 ?_
  refine v_tald S hG hT dX6_counted_205 ?_
  exact v_iretR S hG hr hlk (Nat.le_of_ble_eq_true rfl) (Nat.le_of_ble_eq_true rfl) dX6_counted_206
theorem met_X6_counted (l : Launch) (g : GT) (ad : Nat → Nat) (w : Bool) (b : Nat) (σ : Mem) (t : Nat) (p0 : Int32) (rr : Int32) (h : fn_X6_counted σ t p0 = some rr) : Met l yX6_counted (wsy yX6_counted cX6_counted 7 (some .int)) ({ frames := 0, cells := 1, slots := 9, locals := 0 } : Room) (va_Pc [.ref (ad t), .int p0] (PB g ad σ b)) (va_Qi (fun (r' : Int32) (u : Mem) => r' = rr ∧ u = σ) (GW g ad) (AA g ad w b)) 1 9 (AA g ad w b) := Met_up w (met0_X6_counted l g ad b σ t p0 rr h)
set_option maxHeartbeats 4000000 in
set_option maxRecDepth 100000 in
theorem met_X7_count (l : Launch) (g : GT) (ad : Nat → Nat) (_ : Bool) (b : Nat) (σ : Mem) (t : Nat) (p0 : Int32) (rr : Int32) (σr : Mem) (h : fn_X7_count σ t p0 = some (rr, σr)) : Met l yX7_count (wsy yX7_count cX7_count 2 (some .int)) ({ frames := 1, cells := 1, slots := 9, locals := 26 } : Room) (va_Pc [.ref (ad t), .int p0] (PB g ad σ b)) (va_Qi (fun (r' : Int32) (u : Mem) => r' = rr ∧ u = σr) (GW g ad) (AA g ad true b)) 1 9 (AA g ad true b) := by
  refine Met.ofW (cc := cX7_count) (maxL := 2) (ret := (some .int)) (by decide) rfl ?_
  intro p e s m args below meth c s₁ B hml hv
  obtain ⟨rfl, hv⟩ := hv
  have S : CallFix p m c cX7_count 2 s _ AL RX7 := ⟨B.exec, B.bytes, hml, findClass_of_methodNamed B.named, fun w h => atoms_spec (ws := wsy yX7_count cX7_count 2 (some .int)) B.pre w (List.mem_cons_of_mem _ h)⟩
  have hr := B.returns
  have hlk := B.notSynchronized
  have hG : GA g ad σ true b s s.heap [] := GA_start hv
  have hl := lv_entry ([.ref (ad t), .int p0]) (n := 2) (Nat.le_of_ble_eq_true rfl)
  rw [lg_entry_eq]
  generalize (lg_sl ([.ref (ad t), .int p0]) ++ List.replicate (2 - (lg_sl ([.ref (ad t), .int p0])).length) Slot.unset).toArray = ls at hl ⊢
  have hl : lv_has ls 2 [(0, .ref (ad t)), (1, .int p0)] := hl
  revert h
  unfold fn_X7_count
  refine v_aload_n S hl 0 rfl rfl dX7_count_0 ?_
  refine v_iconst S 0 dX7_count_1 rfl ?_
  refine pf_7_0 S hG q320 dX7_count_2 (fun σ1 H locs hG => ?_)
  refine v_iload_n S hl 1 rfl rfl dX7_count_5 ?_
  refine v_iconst S 0 dX7_count_6 rfl ?_
  refine v_bipush S 8 dX7_count_7 (by decide) ?_
  refine v_cS_iR S hG [.int p0, .int 0, .int 8] (met_X7_isIn l g ad true b σ1 p0 0 8) mw_X7_isIn q321 dX7_count_9 rfl rfl hl.1 (Nat.le_of_ble_eq_true rfl) ⟨Nat.le_of_ble_eq_true rfl, Nat.le_of_ble_eq_true rfl⟩ rfl rfl ⟨Nat.le_of_ble_eq_true rfl, Nat.le_of_ble_eq_true rfl⟩ (fun r2 H locs hG => ?_)
  refine v_if_eq S 26 dX7_count_12 (by decide) ?_ ?_
  · refine v_aload_n S hl 0 rfl rfl dX7_count_26 ?_
    refine v_iconst S 1 dX7_count_27 rfl ?_
    refine v_cV_im S hG [.int 1] rfl rfl (by decide) (met_X7_no l g ad true b σ1 t 1) mw_X7_no q338 dX7_count_28 rfl rfl hl.1 (Nat.le_of_ble_eq_true rfl) ⟨Nat.le_of_ble_eq_true rfl, Nat.le_of_ble_eq_true rfl⟩ rfl rfl ⟨Nat.le_of_ble_eq_true rfl, Nat.le_of_ble_eq_true rfl⟩ (fun r3 σ4 H locs hG => ?_)
    exact v_iretm S hG hr hlk (Nat.le_of_ble_eq_true rfl) (Nat.le_of_ble_eq_true rfl) dX7_count_31
  · refine v_aload_n S hl 0 rfl rfl dX7_count_15 ?_
    refine gr_7_9 S hG q336 dX7_count_16 (fun r5 => ?_)
    refine v_iload_n S hl 1 rfl rfl dX7_count_19 ?_
    refine v_cV_iR S hG [.int p0] rfl rfl (by decide) (met_X6_counted l g ad true b σ1 r5 p0) mw_X6_counted q440 dX7_count_20 rfl rfl hl.1 (Nat.le_of_ble_eq_true rfl) ⟨Nat.le_of_ble_eq_true rfl, Nat.le_of_ble_eq_true rfl⟩ rfl rfl ⟨Nat.le_of_ble_eq_true rfl, Nat.le_of_ble_eq_true rfl⟩ (fun r6 H locs hG => ?_)
    refine v_goto S 31 dX7_count_23 (by decide) ?_
    exact v_iretm S hG hr hlk (Nat.le_of_ble_eq_true rfl) (Nat.le_of_ble_eq_true rfl) dX7_count_31
set_option maxHeartbeats 4000000 in
set_option maxRecDepth 100000 in
theorem met_X6_canPull (l : Launch) (g : GT) (ad : Nat → Nat) (w : Bool) (b : Nat) (σ : Mem) (t : Nat) (p0 : Int32) (p1 : Int32) (rr : Int32) (h : fn_X6_canPull σ t p0 p1 = some rr) : Met l yX6_canPull (wsy yX6_canPull cX6_canPull 3 (some .boolean)) ({ frames := 0, cells := 0, slots := 0, locals := 0 } : Room) (va_Pc [.ref (ad t), .int p0, .int p1] (PB g ad σ b)) (va_Qi (fun (r' : Int32) (u : Mem) => r' = rr ∧ u = σ) (GW g ad) (AA g ad w b)) 0 0 (AA g ad w b) := by
  refine Met.ofW (cc := cX6_canPull) (maxL := 3) (ret := (some .boolean)) (by decide) rfl ?_
  intro p e s m args below meth c s₁ B hml hv
  obtain ⟨rfl, hv⟩ := hv
  have S : CallFix p m c cX6_canPull 3 s _ AL RX6 := ⟨B.exec, B.bytes, hml, findClass_of_methodNamed B.named, fun w h => atoms_spec (ws := wsy yX6_canPull cX6_canPull 3 (some .boolean)) B.pre w (List.mem_cons_of_mem _ h)⟩
  have hr := B.returns
  have hlk := B.notSynchronized
  have hG : GA g ad σ w b s s.heap [] := GA_start hv
  have hl := lv_entry ([.ref (ad t), .int p0, .int p1]) (n := 3) (Nat.le_of_ble_eq_true rfl)
  rw [lg_entry_eq]
  generalize (lg_sl ([.ref (ad t), .int p0, .int p1]) ++ List.replicate (3 - (lg_sl ([.ref (ad t), .int p0, .int p1])).length) Slot.unset).toArray = ls at hl ⊢
  have hl : lv_has ls 3 [(0, .ref (ad t)), (1, .int p0), (2, .int p1)] := hl
  revert h
  unfold fn_X6_canPull
  refine v_aload_n S hl 0 rfl rfl dX6_canPull_0 ?_
  refine gr_6_10 S hG q444 dX6_canPull_1 (fun r1 => ?_)
  refine v_iload_n S hl 1 rfl rfl dX6_canPull_4 ?_
  refine v_iald S hG dX6_canPull_5 ?_
  refine v_aload_n S hl 0 rfl rfl dX6_canPull_6 ?_
  refine gr_6_3 S hG q445 dX6_canPull_7 (fun r2 => ?_)
  refine v_iload_n S hl 2 rfl rfl dX6_canPull_10 ?_
  refine v_iald S hG dX6_canPull_11 ?_
  refine v_iadd S dX6_canPull_12 ?_
  refine v_bipush S 10 dX6_canPull_13 (by decide) ?_
  refine v_aload_n S hl 0 rfl rfl dX6_canPull_15 ?_
  refine gr_6_16 S hG q361 dX6_canPull_16 (fun r3 => ?_)
  refine grN_7_2 S hG q446 dX6_canPull_19 (fun r4 => ?_)
  refine v_iload_n S hl 1 rfl rfl dX6_canPull_22 ?_
  refine v_iald S hG dX6_canPull_23 ?_
  refine v_imul S dX6_canPull_24 ?_
  refine v_icmp_gt S 32 dX6_canPull_25 (by decide) ?_ ?_
  · refine v_iconst S 0 dX6_canPull_32 rfl ?_
    exact v_zretR S hG hr hlk rfl (Nat.le_of_ble_eq_true rfl) (Nat.le_of_ble_eq_true rfl) dX6_canPull_33
  · refine v_iconst S 1 dX6_canPull_28 rfl ?_
    refine v_goto S 33 dX6_canPull_29 (by decide) ?_
    exact v_zretR S hG hr hlk rfl (Nat.le_of_ble_eq_true rfl) (Nat.le_of_ble_eq_true rfl) dX6_canPull_33
set_option maxHeartbeats 4000000 in
set_option maxRecDepth 100000 in
theorem wl_X6_isManned_30 {p : Program} {l : Launch} {e : Env} {s : State} {m : MethodId} {args : Array Value} {below : List Frame} {meth : Method} {c : Code} {g : GT} {ad : Nat → Nat} {b : Nat} (S : CallFix p m c cX6_isManned 4 s args AL RX6) (hr : meth.sig.returnType = some .boolean) (hlk : meth.locks = false) (σ : Mem) (a0 : Nat) (a1 : Int32) {rr : Int32} {σr : Mem} {K : Int32 → Int32 → Option (Int32 × Mem)} (kx : ∀ (y2 : Int32) (y3 : Int32) (H : Heap) (locs : List Loc) (ls : Array Slot), lv_has ls 4 [(0, .ref (ad a0)), (1, .int a1), (2, .int y2), (3, .int y3)] → GA g ad σ true b s H locs → K y2 y3 = some (rr, σr) → W p l e ({ frames := 1, cells := 0, slots := 0, locals := 22 } : Room) s m args below meth c H locs 0 0 (MQ below (va_Qi (fun (r' : Int32) (u : Mem) => r' = rr ∧ u = σr) (GW g ad) (AA g ad true b)) args s 0 0 (AA g ad true b)) (F0 m 87 ls [])) : ∀ (fuel : Nat) (y2 : Int32) (y3 : Int32) (H : Heap) (locs : List Loc) (ls : Array Slot), lv_has ls 4 [(0, .ref (ad a0)), (1, .int a1), (2, .int y2), (3, .int y3)] → GA g ad σ true b s H locs → lp_X6_isManned_30 σ a0 a1 K fuel y2 y3 = some (rr, σr) → W p l e ({ frames := 1, cells := 0, slots := 0, locals := 22 } : Room) s m args below meth c H locs 0 0 (MQ below (va_Qi (fun (r' : Int32) (u : Mem) => r' = rr ∧ u = σr) (GW g ad) (AA g ad true b)) args s 0 0 (AA g ad true b)) (F0 m 30 ls []) := by
  intro fuel
  induction fuel with
  | zero =>
    intro y2 y3 H locs ls hl hG h
    rw [lp_X6_isManned_30.eq_1] at h
    cases h
  | succ fuel ih =>
    intro y2 y3 H locs ls hl hG
    rw [lp_X6_isManned_30.eq_2]
    refine v_iload_n S hl 3 rfl rfl dX6_isManned_30 ?_
    refine v_aload_n S hl 0 rfl rfl dX6_isManned_31 ?_
    refine gr_6_16 S hG q361 dX6_isManned_32 (fun r2 => ?_)
    refine gfN_7_1 S hG q437 dX6_isManned_35 ?_
    refine v_icmp_ge S 87 dX6_isManned_38 (by decide) ?_ ?_
    · exact kx y2 y3 _ _ ls (lv_sub hl [0, 1, 2, 3] rfl) hG
    · refine v_aload_n S hl 0 rfl rfl dX6_isManned_41 ?_
      refine v_iload_n S hl 3 rfl rfl dX6_isManned_42 ?_
      refine v_cV_iR S hG [.int y3] rfl rfl (by decide) (met_X6_bellOf l g ad true b σ a0 y3) mw_X6_bellOf q447 dX6_isManned_43 rfl rfl hl.1 (Nat.le_of_ble_eq_true rfl) ⟨Nat.le_of_ble_eq_true rfl, Nat.le_of_ble_eq_true rfl⟩ rfl rfl ⟨Nat.le_of_ble_eq_true rfl, Nat.le_of_ble_eq_true rfl⟩ (fun r3 H locs hG => ?_)
      refine v_iconst S (-1) dX6_isManned_46 rfl ?_
      refine v_icmp_ne S 81 dX6_isManned_47 (by decide) ?_ ?_
      · refine v_iinc S hl 3 rfl dX6_isManned_81 rfl (by decide) (fun z => [(3, .int z), (0, .ref (ad a0)), (1, .int a1), (2, .int y2)]) (fun _ => rfl) (fun x4 ls hl => ?_)
        refine v_goto S 30 dX6_isManned_84 (by decide) ?_
        exact ih y2 x4 _ _ ls (lv_sub hl [1, 2, 3, 0] rfl) hG
      · refine v_aload_n S hl 0 rfl rfl dX6_isManned_50 ?_
        refine v_iload_n S hl 3 rfl rfl dX6_isManned_51 ?_
        refine v_iload_n S hl 1 rfl rfl dX6_isManned_52 ?_
        refine v_cV_iR S hG [.int y3, .int a1] rfl rfl (by decide) (met_X6_canPull l g ad true b σ a0 y3 a1) mw_X6_canPull q448 dX6_isManned_53 rfl rfl hl.1 (Nat.le_of_ble_eq_true rfl) ⟨Nat.le_of_ble_eq_true rfl, Nat.le_of_ble_eq_true rfl⟩ rfl rfl ⟨Nat.le_of_ble_eq_true rfl, Nat.le_of_ble_eq_true rfl⟩ (fun r5 H locs hG => ?_)
        refine v_if_eq S 81 dX6_isManned_56 (by decide) ?_ ?_
        · refine v_iinc S hl 3 rfl dX6_isManned_81 rfl (by decide) (fun z => [(3, .int z), (0, .ref (ad a0)), (1, .int a1), (2, .int y2)]) (fun _ => rfl) (fun x6 ls hl => ?_)
          refine v_goto S 30 dX6_isManned_84 (by decide) ?_
          exact ih y2 x6 _ _ ls (lv_sub hl [1, 2, 3, 0] rfl) hG
        · refine v_iload_n S hl 2 rfl rfl dX6_isManned_59 ?_
          refine v_iconst S (-1) dX6_isManned_60 rfl ?_
          refine v_icmp_eq S 79 dX6_isManned_61 (by decide) ?_ ?_
          · refine v_iload_n S hl 3 rfl rfl dX6_isManned_79 ?_
            refine v_istore_n S hl [(2, .int y3), (0, .ref (ad a0)), (1, .int a1), (3, .int y3)] rfl dX6_isManned_80 (by decide) rfl (fun ls hl => ?_)
            refine v_iinc S hl 3 rfl dX6_isManned_81 rfl (by decide) (fun z => [(3, .int z), (2, .int y3), (0, .ref (ad a0)), (1, .int a1)]) (fun _ => rfl) (fun x7 ls hl => ?_)
            refine v_goto S 30 dX6_isManned_84 (by decide) ?_
            exact ih y3 x7 _ _ ls (lv_sub hl [2, 3, 1, 0] rfl) hG
          · refine v_aload_n S hl 0 rfl rfl dX6_isManned_64 ?_
            refine gr_6_10 S hG q444 dX6_isManned_65 (fun r8 => ?_)
            refine v_iload_n S hl 3 rfl rfl dX6_isManned_68 ?_
            refine v_iald S hG dX6_isManned_69 ?_
            refine v_aload_n S hl 0 rfl rfl dX6_isManned_70 ?_
            refine gr_6_10 S hG q444 dX6_isManned_71 (fun r9 => ?_)
            refine v_iload_n S hl 2 rfl rfl dX6_isManned_74 ?_
            refine v_iald S hG dX6_isManned_75 ?_
            refine v_icmp_ge S 81 dX6_isManned_76 (by decide) ?_ ?_
            · refine v_iinc S hl 3 rfl dX6_isManned_81 rfl (by decide) (fun z => [(3, .int z), (0, .ref (ad a0)), (1, .int a1), (2, .int y2)]) (fun _ => rfl) (fun x10 ls hl => ?_)
              refine v_goto S 30 dX6_isManned_84 (by decide) ?_
              exact ih y2 x10 _ _ ls (lv_sub hl [1, 2, 3, 0] rfl) hG
            · refine v_iload_n S hl 3 rfl rfl dX6_isManned_79 ?_
              refine v_istore_n S hl [(2, .int y3), (0, .ref (ad a0)), (1, .int a1), (3, .int y3)] rfl dX6_isManned_80 (by decide) rfl (fun ls hl => ?_)
              refine v_iinc S hl 3 rfl dX6_isManned_81 rfl (by decide) (fun z => [(3, .int z), (2, .int y3), (0, .ref (ad a0)), (1, .int a1)]) (fun _ => rfl) (fun x11 ls hl => ?_)
              refine v_goto S 30 dX6_isManned_84 (by decide) ?_
              exact ih y3 x11 _ _ ls (lv_sub hl [2, 3, 1, 0] rfl) hG
set_option maxHeartbeats 4000000 in
set_option maxRecDepth 100000 in
theorem met_X6_isManned (l : Launch) (g : GT) (ad : Nat → Nat) (_ : Bool) (b : Nat) (σ : Mem) (t : Nat) (p0 : Int32) (rr : Int32) (σr : Mem) (h : fn_X6_isManned σ t p0 = some (rr, σr)) : Met l yX6_isManned (wsy yX6_isManned cX6_isManned 4 (some .boolean)) ({ frames := 1, cells := 0, slots := 0, locals := 22 } : Room) (va_Pc [.ref (ad t), .int p0] (PB g ad σ b)) (va_Qi (fun (r' : Int32) (u : Mem) => r' = rr ∧ u = σr) (GW g ad) (AA g ad true b)) 0 0 (AA g ad true b) := by
  refine Met.ofW (cc := cX6_isManned) (maxL := 4) (ret := (some .boolean)) (by decide) rfl ?_
  intro p e s m args below meth c s₁ B hml hv
  obtain ⟨rfl, hv⟩ := hv
  have S : CallFix p m c cX6_isManned 4 s _ AL RX6 := ⟨B.exec, B.bytes, hml, findClass_of_methodNamed B.named, fun w h => atoms_spec (ws := wsy yX6_isManned cX6_isManned 4 (some .boolean)) B.pre w (List.mem_cons_of_mem _ h)⟩
  have hr := B.returns
  have hlk := B.notSynchronized
  have hG : GA g ad σ true b s s.heap [] := GA_start hv
  have hl := lv_entry ([.ref (ad t), .int p0]) (n := 4) (Nat.le_of_ble_eq_true rfl)
  rw [lg_entry_eq]
  generalize (lg_sl ([.ref (ad t), .int p0]) ++ List.replicate (4 - (lg_sl ([.ref (ad t), .int p0])).length) Slot.unset).toArray = ls at hl ⊢
  have hl : lv_has ls 4 [(0, .ref (ad t)), (1, .int p0)] := hl
  revert h
  unfold fn_X6_isManned
  refine v_aload_n S hl 0 rfl rfl dX6_isManned_0 ?_
  refine gr_6_7 S hG q380 dX6_isManned_1 (fun r1 => ?_)
  refine v_iload_n S hl 1 rfl rfl dX6_isManned_4 ?_
  refine v_iald S hG dX6_isManned_5 ?_
  refine v_iconst S (-1) dX6_isManned_6 rfl ?_
  refine v_icmp_eq S 26 dX6_isManned_7 (by decide) ?_ ?_
  · refine v_iconst S (-1) dX6_isManned_26 rfl ?_
    refine v_istore_n S hl [(2, .int (-1)), (0, .ref (ad t)), (1, .int p0)] rfl dX6_isManned_27 (by decide) rfl (fun ls hl => ?_)
    refine v_iconst S 0 dX6_isManned_28 rfl ?_
    refine v_istore_n S hl [(3, .int 0), (2, .int (-1)), (0, .ref (ad t)), (1, .int p0)] rfl dX6_isManned_29 (by decide) rfl (fun ls hl => ?_)
    refine wl_X6_isManned_30 S hr hlk σ t p0 (fun x12 x13 H locs ls hl hG => ?_) 30 (-1) 0 _ _ ls (lv_sub hl [2, 3, 1, 0] rfl) hG
    refine v_iload_n S hl 2 rfl rfl dX6_isManned_87 ?_
    refine v_iconst S (-1) dX6_isManned_88 rfl ?_
    refine v_icmp_ne S 94 dX6_isManned_89 (by decide) ?_ ?_
    · refine v_aload_n S hl 0 rfl rfl dX6_isManned_94 ?_
      refine gr_6_7 S hG q380 dX6_isManned_95 (fun r14 => ?_)
      refine v_iload_n S hl 1 rfl rfl dX6_isManned_98 ?_
      refine v_iload_n S hl 2 rfl rfl dX6_isManned_99 ?_
      refine v_iast S hG dX6_isManned_100 (fun σ15 H locs hG => ?_)
      refine v_aload_n S hl 0 rfl rfl dX6_isManned_101 ?_
      refine gr_6_12 S hG q452 dX6_isManned_102 (fun r16 => ?_)
      refine v_iload_n S hl 2 rfl rfl dX6_isManned_105 ?_
      refine v_dup2 S dX6_isManned_106 rfl rfl ?_
      refine v_iald S hG dX6_isManned_107 ?_
      refine v_iconst S 1 dX6_isManned_108 rfl ?_
      refine v_iadd S dX6_isManned_109 ?_
      refine v_iast S hG dX6_isManned_110 (fun σ17 H locs hG => ?_)
      refine v_iconst S 1 dX6_isManned_111 rfl ?_
      exact v_zretm S hG hr hlk rfl (Nat.le_of_ble_eq_true rfl) (Nat.le_of_ble_eq_true rfl) dX6_isManned_112
    · refine v_iconst S 0 dX6_isManned_92 rfl ?_
      exact v_zretm S hG hr hlk rfl (Nat.le_of_ble_eq_true rfl) (Nat.le_of_ble_eq_true rfl) dX6_isManned_93
  · refine v_aload_n S hl 0 rfl rfl dX6_isManned_10 ?_
    refine v_aload_n S hl 0 rfl rfl dX6_isManned_11 ?_
    refine gr_6_7 S hG q380 dX6_isManned_12 (fun r18 => ?_)
    refine v_iload_n S hl 1 rfl rfl dX6_isManned_15 ?_
    refine v_iald S hG dX6_isManned_16 ?_
    refine v_iload_n S hl 1 rfl rfl dX6_isManned_17 ?_
    refine v_cV_iR S hG [.int (σ r18 (Int32.toNatClampNeg p0)), .int p0] rfl rfl (by decide) (met_X6_canPull l g ad true b σ t (σ r18 (Int32.toNatClampNeg p0)) p0) mw_X6_canPull q448 dX6_isManned_18 rfl rfl hl.1 (Nat.le_of_ble_eq_true rfl) ⟨Nat.le_of_ble_eq_true rfl, Nat.le_of_ble_eq_true rfl⟩ rfl rfl ⟨Nat.le_of_ble_eq_true rfl, Nat.le_of_ble_eq_true rfl⟩ (fun r19 H locs hG => ?_)
    refine v_if_eq S 26 dX6_isManned_21 (by decide) ?_ ?_
    · refine v_iconst S (-1) dX6_isManned_26 rfl ?_
      refine v_istore_n S hl [(2, .int (-1)), (0, .ref (ad t)), (1, .int p0)] rfl dX6_isManned_27 (by decide) rfl (fun ls hl => ?_)
      refine v_iconst S 0 dX6_isManned_28 rfl ?_
      refine v_istore_n S hl [(3, .int 0), (2, .int (-1)), (0, .ref (ad t)), (1, .int p0)] rfl dX6_isManned_29 (by decide) rfl (fun ls hl => ?_)
      refine wl_X6_isManned_30 S hr hlk σ t p0 (fun x20 x21 H locs ls hl hG => ?_) 30 (-1) 0 _ _ ls (lv_sub hl [2, 3, 1, 0] rfl) hG
      refine v_iload_n S hl 2 rfl rfl dX6_isManned_87 ?_
      refine v_iconst S (-1) dX6_isManned_88 rfl ?_
      refine v_icmp_ne S 94 dX6_isManned_89 (by decide) ?_ ?_
      · refine v_aload_n S hl 0 rfl rfl dX6_isManned_94 ?_
        refine gr_6_7 S hG q380 dX6_isManned_95 (fun r22 => ?_)
        refine v_iload_n S hl 1 rfl rfl dX6_isManned_98 ?_
        refine v_iload_n S hl 2 rfl rfl dX6_isManned_99 ?_
        refine v_iast S hG dX6_isManned_100 (fun σ23 H locs hG => ?_)
        refine v_aload_n S hl 0 rfl rfl dX6_isManned_101 ?_
        refine gr_6_12 S hG q452 dX6_isManned_102 (fun r24 => ?_)
        refine v_iload_n S hl 2 rfl rfl dX6_isManned_105 ?_
        refine v_dup2 S dX6_isManned_106 rfl rfl ?_
        refine v_iald S hG dX6_isManned_107 ?_
        refine v_iconst S 1 dX6_isManned_108 rfl ?_
        refine v_iadd S dX6_isManned_109 ?_
        refine v_iast S hG dX6_isManned_110 (fun σ25 H locs hG => ?_)
        refine v_iconst S 1 dX6_isManned_111 rfl ?_
        exact v_zretm S hG hr hlk rfl (Nat.le_of_ble_eq_true rfl) (Nat.le_of_ble_eq_true rfl) dX6_isManned_112
      · refine v_iconst S 0 dX6_isManned_92 rfl ?_
        exact v_zretm S hG hr hlk rfl (Nat.le_of_ble_eq_true rfl) (Nat.le_of_ble_eq_true rfl) dX6_isManned_93
    · refine v_iconst S 1 dX6_isManned_24 rfl ?_
      exact v_zretm S hG hr hlk rfl (Nat.le_of_ble_eq_true rfl) (Nat.le_of_ble_eq_true rfl) dX6_isManned_25
set_option maxHeartbeats 4000000 in
set_option maxRecDepth 100000 in
theorem wj_X6_stroke_251 {p : Program} {l : Launch} {e : Env} {s : State} {m : MethodId} {args : Array Value} {below : List Frame} {meth : Method} {c : Code} {g : GT} {ad : Nat → Nat} {b : Nat} (S : CallFix p m c cX6_stroke 7 s args AL RX6) (hr : meth.sig.returnType = none) (hlk : meth.locks = false) (σ : Mem) (a0 : Nat) (a1 : Int32) (a2 : Int32) (b0 : Int32) {σr : Mem} (H : Heap) (locs : List Loc) (ls : Array Slot) (hl : lv_has ls 7 [(0, .ref (ad a0)), (1, .int a1), (2, .int a2)]) (hG : GA g ad σ true b s H locs) : jn_X6_stroke_251 σ a0 a1 a2 b0 = some σr → W p l e ({ frames := 2, cells := 0, slots := 0, locals := 45 } : Room) s m args below meth c H locs 0 0 (MQ below (va_Qv (fun (u : Mem) => u = σr) (GW g ad) (AA g ad true b)) args s 0 0 (AA g ad true b)) (F0 m 251 ls [.int b0]) := by
  unfold jn_X6_stroke_251
  refine v_istore S hl [(6, .int b0), (0, .ref (ad a0)), (1, .int a1), (2, .int a2)] dX6_stroke_251 (by decide) rfl (fun ls hl => ?_)
  refine v_aload_n S hl 1 rfl rfl dX6_stroke_253 ?_
  refine gr_6_8 S hG q412 dX6_stroke_254 (fun r29 => ?_)
  refine v_iload_n S hl 2 rfl rfl dX6_stroke_257 ?_
  refine v_aload_n S hl 1 rfl rfl dX6_stroke_258 ?_
  refine gr_6_16 S hG q361 dX6_stroke_259 (fun r30 => ?_)
  refine grN_7_7 S hG q456 dX6_stroke_262 (fun r31 => ?_)
  refine v_iload_n S hl 3 rfl rfl dX6_stroke_265 ?_
  refine v_iald S hG dX6_stroke_266 ?_
  refine v_iconst S 1 dX6_stroke_267 rfl ?_
  refine v_isub S dX6_stroke_268 ?_
  refine v_iload S hl 0 rfl dX6_stroke_269 ?_
  refine v_if_eq S 286 dX6_stroke_271 (by decide) ?_ ?_
  · refine v_iconst S 0 dX6_stroke_286 rfl ?_
    refine v_iadd S dX6_stroke_287 ?_
    refine v_iast S hG dX6_stroke_288 (fun σ32 H locs hG => ?_)
    refine v_aload_n S hl 1 rfl rfl dX6_stroke_289 ?_
    refine gr_6_13 S hG q397 dX6_stroke_290 (fun r33 => ?_)
    refine v_iload_n S hl 3 rfl rfl dX6_stroke_293 ?_
    refine v_iald S hG dX6_stroke_294 ?_
    refine v_aload_n S hl 1 rfl rfl dX6_stroke_295 ?_
    refine gr_6_16 S hG q361 dX6_stroke_296 (fun r34 => ?_)
    refine v_iload_n S hl 3 rfl rfl dX6_stroke_299 ?_
    refine v_cN_iR S hG [.int a2] rfl rfl (by decide) (met_X7_all l g ad true b σ32 r34 a2) mw_X7_all q457 dX6_stroke_300 rfl rfl hl.1 (Nat.le_of_ble_eq_true rfl) ⟨Nat.le_of_ble_eq_true rfl, Nat.le_of_ble_eq_true rfl⟩ rfl rfl ⟨Nat.le_of_ble_eq_true rfl, Nat.le_of_ble_eq_true rfl⟩ (fun r35 H locs hG => ?_)
    refine v_icmp_ne S 311 dX6_stroke_303 (by decide) ?_ ?_
    · exact v_vretm S hG hr hlk (Nat.le_of_ble_eq_true rfl) (Nat.le_of_ble_eq_true rfl) dX6_stroke_311
    · refine v_aload_n S hl 1 rfl rfl dX6_stroke_306 ?_
      refine v_iload_n S hl 3 rfl rfl dX6_stroke_307 ?_
      refine v_cV_vm S hG [.int a2] rfl rfl (by decide) (met_X6_end l g ad true b σ32 a0 a2) mw_X6_end q458 dX6_stroke_308 rfl rfl hl.1 (Nat.le_of_ble_eq_true rfl) ⟨Nat.le_of_ble_eq_true rfl, Nat.le_of_ble_eq_true rfl⟩ rfl rfl ⟨Nat.le_of_ble_eq_true rfl, Nat.le_of_ble_eq_true rfl⟩ (fun σ36 H locs hG => ?_)
      exact v_vretm S hG hr hlk (Nat.le_of_ble_eq_true rfl) (Nat.le_of_ble_eq_true rfl) dX6_stroke_311
  · refine v_aload_n S hl 1 rfl rfl dX6_stroke_274 ?_
    refine gr_6_16 S hG q361 dX6_stroke_275 (fun r37 => ?_)
    refine grN_7_7 S hG q456 dX6_stroke_278 (fun r38 => ?_)
    refine v_iload_n S hl 3 rfl rfl dX6_stroke_281 ?_
    refine v_iald S hG dX6_stroke_282 ?_
    refine v_goto S 287 dX6_stroke_283 (by decide) ?_
    refine v_iadd S dX6_stroke_287 ?_
    refine v_iast S hG dX6_stroke_288 (fun σ39 H locs hG => ?_)
    refine v_aload_n S hl 1 rfl rfl dX6_stroke_289 ?_
    refine gr_6_13 S hG q397 dX6_stroke_290 (fun r40 => ?_)
    refine v_iload_n S hl 3 rfl rfl dX6_stroke_293 ?_
    refine v_iald S hG dX6_stroke_294 ?_
    refine v_aload_n S hl 1 rfl rfl dX6_stroke_295 ?_
    refine gr_6_16 S hG q361 dX6_stroke_296 (fun r41 => ?_)
    refine v_iload_n S hl 3 rfl rfl dX6_stroke_299 ?_
    refine v_cN_iR S hG [.int a2] rfl rfl (by decide) (met_X7_all l g ad true b σ39 r41 a2) mw_X7_all q457 dX6_stroke_300 rfl rfl hl.1 (Nat.le_of_ble_eq_true rfl) ⟨Nat.le_of_ble_eq_true rfl, Nat.le_of_ble_eq_true rfl⟩ rfl rfl ⟨Nat.le_of_ble_eq_true rfl, Nat.le_of_ble_eq_true rfl⟩ (fun r42 H locs hG => ?_)
    refine v_icmp_ne S 311 dX6_stroke_303 (by decide) ?_ ?_
    · exact v_vretm S hG hr hlk (Nat.le_of_ble_eq_true rfl) (Nat.le_of_ble_eq_true rfl) dX6_stroke_311
    · refine v_aload_n S hl 1 rfl rfl dX6_stroke_306 ?_
      refine v_iload_n S hl 3 rfl rfl dX6_stroke_307 ?_
      refine v_cV_vm S hG [.int a2] rfl rfl (by decide) (met_X6_end l g ad true b σ39 a0 a2) mw_X6_end q458 dX6_stroke_308 rfl rfl hl.1 (Nat.le_of_ble_eq_true rfl) ⟨Nat.le_of_ble_eq_true rfl, Nat.le_of_ble_eq_true rfl⟩ rfl rfl ⟨Nat.le_of_ble_eq_true rfl, Nat.le_of_ble_eq_true rfl⟩ (fun σ43 H locs hG => ?_)
      exact v_vretm S hG hr hlk (Nat.le_of_ble_eq_true rfl) (Nat.le_of_ble_eq_true rfl) dX6_stroke_311
set_option maxHeartbeats 4000000 in
set_option maxRecDepth 100000 in
theorem wj_X6_stroke_250 {p : Program} {l : Launch} {e : Env} {s : State} {m : MethodId} {args : Array Value} {below : List Frame} {meth : Method} {c : Code} {g : GT} {ad : Nat → Nat} {b : Nat} (S : CallFix p m c cX6_stroke 7 s args AL RX6) (hr : meth.sig.returnType = none) (hlk : meth.locks = false) (σ : Mem) (a0 : Nat) (a1 : Int32) (a2 : Int32) {σr : Mem} (H : Heap) (locs : List Loc) (ls : Array Slot) (hl : lv_has ls 7 [(0, .ref (ad a0)), (1, .int a1), (2, .int a2)]) (hG : GA g ad σ true b s H locs) : jn_X6_stroke_250 σ a0 a1 a2 = some σr → W p l e ({ frames := 2, cells := 0, slots := 0, locals := 45 } : Room) s m args below meth c H locs 0 0 (MQ below (va_Qv (fun (u : Mem) => u = σr) (GW g ad) (AA g ad true b)) args s 0 0 (AA g ad true b)) (F0 m 250 ls []) := by
  unfold jn_X6_stroke_250
  refine v_iconst S 0 dX6_stroke_250 rfl ?_
  exact wj_X6_stroke_251 S hr hlk σ a0 a1 a2 0 _ _ ls (lv_sub hl [0, 1, 2] rfl) hG
set_option maxHeartbeats 4000000 in
set_option maxRecDepth 100000 in
theorem wj_X6_stroke_194 {p : Program} {l : Launch} {e : Env} {s : State} {m : MethodId} {args : Array Value} {below : List Frame} {meth : Method} {c : Code} {g : GT} {ad : Nat → Nat} {b : Nat} (S : CallFix p m c cX6_stroke 7 s args AL RX6) (hr : meth.sig.returnType = none) (hlk : meth.locks = false) (σ : Mem) (a0 : Nat) (a1 : Int32) (a2 : Int32) {σr : Mem} (H : Heap) (locs : List Loc) (ls : Array Slot) (hl : lv_has ls 7 [(0, .ref (ad a0)), (1, .int a1), (2, .int a2)]) (hG : GA g ad σ true b s H locs) : jn_X6_stroke_194 σ a0 a1 a2 = some σr → W p l e ({ frames := 2, cells := 0, slots := 0, locals := 45 } : Room) s m args below meth c H locs 0 0 (MQ below (va_Qv (fun (u : Mem) => u = σr) (GW g ad) (AA g ad true b)) args s 0 0 (AA g ad true b)) (F0 m 194 ls []) := by
  unfold jn_X6_stroke_194
  refine v_aload_n S hl 0 rfl rfl dX6_stroke_194 ?_
  refine gr_6_6 S hG q453 dX6_stroke_195 (fun r23 => ?_)
  refine v_iload_n S hl 1 rfl rfl dX6_stroke_198 ?_
  refine v_iconst S 1 dX6_stroke_199 rfl ?_
  refine v_aload_n S hl 0 rfl rfl dX6_stroke_200 ?_
  refine gr_6_6 S hG q453 dX6_stroke_201 (fun r24 => ?_)
  refine v_iload_n S hl 1 rfl rfl dX6_stroke_204 ?_
  refine v_iald S hG dX6_stroke_205 ?_
  refine v_isub S dX6_stroke_206 ?_
  refine v_iast S hG dX6_stroke_207 (fun σ25 H locs hG => ?_)
  refine v_aload_n S hl 0 rfl rfl dX6_stroke_208 ?_
  refine gr_6_13 S hG q397 dX6_stroke_209 (fun r26 => ?_)
  refine v_iload_n S hl 2 rfl rfl dX6_stroke_212 ?_
  refine v_iald S hG dX6_stroke_213 ?_
  refine v_aload_n S hl 0 rfl rfl dX6_stroke_214 ?_
  refine gr_6_16 S hG q361 dX6_stroke_215 (fun r27 => ?_)
  refine v_iload_n S hl 2 rfl rfl dX6_stroke_218 ?_
  refine v_cN_iR S hG [.int a2] rfl rfl (by decide) (met_X7_tellers l g ad true b σ25 r27 a2) mw_X7_tellers q455 dX6_stroke_219 rfl rfl hl.1 (Nat.le_of_ble_eq_true rfl) ⟨Nat.le_of_ble_eq_true rfl, Nat.le_of_ble_eq_true rfl⟩ rfl rfl ⟨Nat.le_of_ble_eq_true rfl, Nat.le_of_ble_eq_true rfl⟩ (fun r28 H locs hG => ?_)
  refine v_icmp_gt S 250 dX6_stroke_222 (by decide) ?_ ?_
  · exact wj_X6_stroke_250 S hr hlk σ25 a0 a1 a2 _ _ ls (lv_sub hl [0, 1, 2] rfl) hG
  · refine v_aload_n S hl 0 rfl rfl dX6_stroke_225 ?_
    refine gr_6_13 S hG q397 dX6_stroke_226 (fun r44 => ?_)
    refine v_iload_n S hl 2 rfl rfl dX6_stroke_229 ?_
    refine v_iald S hG dX6_stroke_230 ?_
    refine v_aload_n S hl 0 rfl rfl dX6_stroke_231 ?_
    refine gr_6_16 S hG q361 dX6_stroke_232 (fun r45 => ?_)
    refine grN_7_5 S hG q459 dX6_stroke_235 (fun r46 => ?_)
    refine v_iload_n S hl 2 rfl rfl dX6_stroke_238 ?_
    refine v_iald S hG dX6_stroke_239 ?_
    refine v_iconst S 1 dX6_stroke_240 rfl ?_
    refine v_iadd S dX6_stroke_241 ?_
    refine v_irem S dX6_stroke_242 ?_
    refine v_if_ne S 250 dX6_stroke_243 (by decide) ?_ ?_
    · exact wj_X6_stroke_250 S hr hlk σ25 a0 a1 a2 _ _ ls (lv_sub hl [0, 1, 2] rfl) hG
    · refine v_iconst S 1 dX6_stroke_246 rfl ?_
      refine v_goto S 251 dX6_stroke_247 (by decide) ?_
      exact wj_X6_stroke_251 S hr hlk σ25 a0 a1 a2 1 _ _ ls (lv_sub hl [0, 1, 2] rfl) hG
set_option maxHeartbeats 4000000 in
set_option maxRecDepth 100000 in
theorem wj_X6_stroke_128 {p : Program} {l : Launch} {e : Env} {s : State} {m : MethodId} {args : Array Value} {below : List Frame} {meth : Method} {c : Code} {g : GT} {ad : Nat → Nat} {b : Nat} (S : CallFix p m c cX6_stroke 7 s args AL RX6) (hr : meth.sig.returnType = none) (hlk : meth.locks = false) (σ : Mem) (a0 : Nat) (a1 : Int32) (a2 : Int32) (a4 : Int32) {σr : Mem} (H : Heap) (locs : List Loc) (ls : Array Slot) (hl : lv_has ls 7 [(0, .ref (ad a0)), (1, .int a1), (2, .int a2), (4, .int a4)]) (hG : GA g ad σ true b s H locs) : jn_X6_stroke_128 σ a0 a1 a2 a4 = some σr → W p l e ({ frames := 2, cells := 0, slots := 0, locals := 45 } : Room) s m args below meth c H locs 0 0 (MQ below (va_Qv (fun (u : Mem) => u = σr) (GW g ad) (AA g ad true b)) args s 0 0 (AA g ad true b)) (F0 m 128 ls []) := by
  unfold jn_X6_stroke_128
  refine v_aload_n S hl 0 rfl rfl dX6_stroke_128 ?_
  refine gr_6_4 S hG q342 dX6_stroke_129 (fun r17 => ?_)
  refine v_iload S hl 3 rfl dX6_stroke_132 ?_
  refine v_iald S hG dX6_stroke_134 ?_
  refine v_if_ne S 151 dX6_stroke_135 (by decide) ?_ ?_
  · refine v_aload_n S hl 0 rfl rfl dX6_stroke_151 ?_
    refine gr_6_5 S hG q343 dX6_stroke_152 (fun r18 => ?_)
    refine v_iload S hl 3 rfl dX6_stroke_155 ?_
    refine v_dup2 S dX6_stroke_157 rfl rfl ?_
    refine v_iald S hG dX6_stroke_158 ?_
    refine v_aload_n S hl 0 rfl rfl dX6_stroke_159 ?_
    refine gr_6_3 S hG q445 dX6_stroke_160 (fun r19 => ?_)
    refine v_iload_n S hl 1 rfl rfl dX6_stroke_163 ?_
    refine v_iald S hG dX6_stroke_164 ?_
    refine v_iadd S dX6_stroke_165 ?_
    refine v_iast S hG dX6_stroke_166 (fun σ20 H locs hG => ?_)
    refine v_aload_n S hl 0 rfl rfl dX6_stroke_167 ?_
    refine gr_6_5 S hG q343 dX6_stroke_168 (fun r21 => ?_)
    refine v_iload S hl 3 rfl dX6_stroke_171 ?_
    refine v_iald S hG dX6_stroke_173 ?_
    refine v_bipush S 10 dX6_stroke_174 (by decide) ?_
    refine v_aload_n S hl 0 rfl rfl dX6_stroke_176 ?_
    refine gr_6_4 S hG q342 dX6_stroke_177 (fun r22 => ?_)
    refine v_iload S hl 3 rfl dX6_stroke_180 ?_
    refine v_iald S hG dX6_stroke_182 ?_
    refine v_imul S dX6_stroke_183 ?_
    refine v_icmp_lt S 194 dX6_stroke_184 (by decide) ?_ ?_
    · exact wj_X6_stroke_194 S hr hlk σ20 a0 a1 a2 _ _ ls (lv_sub hl [0, 1, 2] rfl) hG
    · refine v_aload_n S hl 0 rfl rfl dX6_stroke_187 ?_
      refine v_iload S hl 3 rfl dX6_stroke_188 ?_
      refine v_iconst S 0 dX6_stroke_190 rfl ?_
      refine v_cV_vm S hG [.int a4, .int 0] rfl rfl (by decide) (met_X6_bare l g ad true b σ20 a0 a4 0) mw_X6_bare q460 dX6_stroke_191 rfl rfl hl.1 (Nat.le_of_ble_eq_true rfl) ⟨Nat.le_of_ble_eq_true rfl, Nat.le_of_ble_eq_true rfl⟩ rfl rfl ⟨Nat.le_of_ble_eq_true rfl, Nat.le_of_ble_eq_true rfl⟩ (fun σ47 H locs hG => ?_)
      exact wj_X6_stroke_194 S hr hlk σ47 a0 a1 a2 _ _ ls (lv_sub hl [0, 1, 2] rfl) hG
  · refine v_aload_n S hl 0 rfl rfl dX6_stroke_138 ?_
    refine gr_6_14 S hG q398 dX6_stroke_139 (fun r48 => ?_)
    refine v_iload_n S hl 2 rfl rfl dX6_stroke_142 ?_
    refine v_dup2 S dX6_stroke_143 rfl rfl ?_
    refine v_iald S hG dX6_stroke_144 ?_
    refine v_iconst S 1 dX6_stroke_145 rfl ?_
    refine v_iadd S dX6_stroke_146 ?_
    refine v_iast S hG dX6_stroke_147 (fun σ49 H locs hG => ?_)
    refine v_goto S 194 dX6_stroke_148 (by decide) ?_
    exact wj_X6_stroke_194 S hr hlk σ49 a0 a1 a2 _ _ ls (lv_sub hl [0, 1, 2] rfl) hG
set_option maxHeartbeats 4000000 in
set_option maxRecDepth 100000 in
theorem met_X6_stroke (l : Launch) (g : GT) (ad : Nat → Nat) (_ : Bool) (b : Nat) (σ : Mem) (t : Nat) (p0 : Int32) (p1 : Int32) (p2 : Int32) (σr : Mem) (h : fn_X6_stroke σ t p0 p1 p2 = some σr) : Met l yX6_stroke (wsy yX6_stroke cX6_stroke 7 none) ({ frames := 2, cells := 0, slots := 0, locals := 45 } : Room) (va_Pc [.ref (ad t), .int p0, .int p1, .int p2] (PB g ad σ b)) (va_Qv (fun (u : Mem) => u = σr) (GW g ad) (AA g ad true b)) 0 0 (AA g ad true b) := by
  refine Met.ofW (cc := cX6_stroke) (maxL := 7) (ret := none) (by decide) rfl ?_
  intro p e s m args below meth c s₁ B hml hv
  obtain ⟨rfl, hv⟩ := hv
  have S : CallFix p m c cX6_stroke 7 s _ AL RX6 := ⟨B.exec, B.bytes, hml, findClass_of_methodNamed B.named, fun w h => atoms_spec (ws := wsy yX6_stroke cX6_stroke 7 none) B.pre w (List.mem_cons_of_mem _ h)⟩
  have hr := B.returns
  have hlk := B.notSynchronized
  have hG : GA g ad σ true b s s.heap [] := GA_start hv
  have hl := lv_entry ([.ref (ad t), .int p0, .int p1, .int p2]) (n := 7) (Nat.le_of_ble_eq_true rfl)
  rw [lg_entry_eq]
  generalize (lg_sl ([.ref (ad t), .int p0, .int p1, .int p2]) ++ List.replicate (7 - (lg_sl ([.ref (ad t), .int p0, .int p1, .int p2])).length) Slot.unset).toArray = ls at hl ⊢
  have hl : lv_has ls 7 [(0, .ref (ad t)), (1, .int p0), (2, .int p1), (3, .int p2)] := hl
  revert h
  unfold fn_X6_stroke
  refine v_iconst S 2 dX6_stroke_0 rfl ?_
  refine v_iload_n S hl 1 rfl rfl dX6_stroke_1 ?_
  refine v_imul S dX6_stroke_2 ?_
  refine v_aload_n S hl 0 rfl rfl dX6_stroke_3 ?_
  refine gr_6_6 S hG q453 dX6_stroke_4 (fun r1 => ?_)
  refine v_iload_n S hl 1 rfl rfl dX6_stroke_7 ?_
  refine v_iald S hG dX6_stroke_8 ?_
  refine v_iadd S dX6_stroke_9 ?_
  refine v_nm (fun x2 => ?_)
  refine v_istore S hl [(4, .int x2), (0, .ref (ad t)), (1, .int p0), (2, .int p1), (3, .int p2)] dX6_stroke_10 (by decide) rfl (fun ls hl => ?_)
  refine v_bipush S 10 dX6_stroke_12 (by decide) ?_
  refine v_aload_n S hl 1 rfl rfl dX6_stroke_14 ?_
  refine gr_6_3 S hG q445 dX6_stroke_15 (fun r3 => ?_)
  refine v_iload_n S hl 2 rfl rfl dX6_stroke_18 ?_
  refine v_iald S hG dX6_stroke_19 ?_
  refine v_imul S dX6_stroke_20 ?_
  refine v_iconst S 1 dX6_stroke_21 rfl ?_
  refine v_aload_n S hl 1 rfl rfl dX6_stroke_22 ?_
  refine gr_6_4 S hG q342 dX6_stroke_23 (fun r4 => ?_)
  refine v_iload S hl 0 rfl dX6_stroke_26 ?_
  refine v_iald S hG dX6_stroke_28 ?_
  refine v_iadd S dX6_stroke_29 ?_
  refine v_idiv S dX6_stroke_30 ?_
  refine v_nm (fun x5 => ?_)
  refine v_istore S hl [(5, .int x5), (4, .int x2), (0, .ref (ad t)), (1, .int p0), (2, .int p1), (3, .int p2)] dX6_stroke_31 (by decide) rfl (fun ls hl => ?_)
  refine v_aload_n S hl 2 rfl rfl dX6_stroke_33 ?_
  refine gr_6_10 S hG q444 dX6_stroke_34 (fun r6 => ?_)
  refine v_aload_n S hl 2 rfl rfl dX6_stroke_37 ?_
  refine gr_6_7 S hG q380 dX6_stroke_38 (fun r7 => ?_)
  refine v_iload_n S hl 3 rfl rfl dX6_stroke_41 ?_
  refine v_iald S hG dX6_stroke_42 ?_
  refine v_dup2 S dX6_stroke_43 rfl rfl ?_
  refine v_iald S hG dX6_stroke_44 ?_
  refine v_aload_n S hl 2 rfl rfl dX6_stroke_45 ?_
  refine gr_6_3 S hG q445 dX6_stroke_46 (fun r8 => ?_)
  refine v_iload_n S hl 3 rfl rfl dX6_stroke_49 ?_
  refine v_iald S hG dX6_stroke_50 ?_
  refine v_iadd S dX6_stroke_51 ?_
  refine v_iast S hG dX6_stroke_52 (fun σ9 H locs hG => ?_)
  refine v_aload_n S hl 2 rfl rfl dX6_stroke_53 ?_
  refine gr_6_11 S hG q454 dX6_stroke_54 (fun r10 => ?_)
  refine v_aload_n S hl 2 rfl rfl dX6_stroke_57 ?_
  refine gr_6_7 S hG q380 dX6_stroke_58 (fun r11 => ?_)
  refine v_iload_n S hl 3 rfl rfl dX6_stroke_61 ?_
  refine v_iald S hG dX6_stroke_62 ?_
  refine v_dup2 S dX6_stroke_63 rfl rfl ?_
  refine v_iald S hG dX6_stroke_64 ?_
  refine v_iconst S 1 dX6_stroke_65 rfl ?_
  refine v_iadd S dX6_stroke_66 ?_
  refine v_iast S hG dX6_stroke_67 (fun σ12 H locs hG => ?_)
  refine v_aload_n S hl 2 rfl rfl dX6_stroke_68 ?_
  refine gr_6_9 S hG q439 dX6_stroke_69 (fun r13 => ?_)
  refine v_iload_n S hl 3 rfl rfl dX6_stroke_72 ?_
  refine v_dup2 S dX6_stroke_73 rfl rfl ?_
  refine v_iald S hG dX6_stroke_74 ?_
  refine v_iconst S 1 dX6_stroke_75 rfl ?_
  refine v_iadd S dX6_stroke_76 ?_
  refine v_iast S hG dX6_stroke_77 (fun σ14 H locs hG => ?_)
  refine v_aload_n S hl 2 rfl rfl dX6_stroke_78 ?_
  refine gr_6_13 S hG q397 dX6_stroke_79 (fun r15 => ?_)
  refine v_iload_n S hl 4 rfl rfl dX6_stroke_82 ?_
  refine v_dup2 S dX6_stroke_83 rfl rfl ?_
  refine v_iald S hG dX6_stroke_84 ?_
  refine v_iconst S 1 dX6_stroke_85 rfl ?_
  refine v_iadd S dX6_stroke_86 ?_
  refine v_iast S hG dX6_stroke_87 (fun σ16 H locs hG => ?_)
  refine v_iload_n S hl 5 rfl rfl dX6_stroke_88 ?_
  refine v_if_eq S 128 dX6_stroke_89 (by decide) ?_ ?_
  · exact wj_X6_stroke_128 S hr hlk σ16 t p0 p1 x2 _ _ ls (lv_sub hl [2, 3, 4, 1] rfl) hG
  · refine v_aload_n S hl 2 rfl rfl dX6_stroke_92 ?_
    refine gr_6_13 S hG q397 dX6_stroke_93 (fun r50 => ?_)
    refine v_iload_n S hl 4 rfl rfl dX6_stroke_96 ?_
    refine v_iald S hG dX6_stroke_97 ?_
    refine v_aload_n S hl 2 rfl rfl dX6_stroke_98 ?_
    refine gr_6_16 S hG q361 dX6_stroke_99 (fun r51 => ?_)
    refine v_iload_n S hl 4 rfl rfl dX6_stroke_102 ?_
    refine v_cN_iR S hG [.int p1] rfl rfl (by decide) (met_X7_tellers l g ad true b σ16 r51 p1) mw_X7_tellers q455 dX6_stroke_103 rfl rfl hl.1 (Nat.le_of_ble_eq_true rfl) ⟨Nat.le_of_ble_eq_true rfl, Nat.le_of_ble_eq_true rfl⟩ rfl rfl ⟨Nat.le_of_ble_eq_true rfl, Nat.le_of_ble_eq_true rfl⟩ (fun r52 H locs hG => ?_)
    refine v_icmp_le S 128 dX6_stroke_106 (by decide) ?_ ?_
    · exact wj_X6_stroke_128 S hr hlk σ16 t p0 p1 x2 _ _ ls (lv_sub hl [2, 3, 4, 1] rfl) hG
    · refine v_aload_n S hl 2 rfl rfl dX6_stroke_109 ?_
      refine gr_6_16 S hG q361 dX6_stroke_110 (fun r53 => ?_)
      refine grN_7_8 S hG q461 dX6_stroke_113 (fun r54 => ?_)
      refine v_bipush S 91 dX6_stroke_116 (by decide) ?_
      refine v_iload_n S hl 4 rfl rfl dX6_stroke_118 ?_
      refine v_imul S dX6_stroke_119 ?_
      refine v_iload S hl 0 rfl dX6_stroke_120 ?_
      refine v_iadd S dX6_stroke_122 ?_
      refine v_dup2 S dX6_stroke_123 rfl rfl ?_
      refine v_iald S hG dX6_stroke_124 ?_
      refine v_iconst S 1 dX6_stroke_125 rfl ?_
      refine v_iadd S dX6_stroke_126 ?_
      refine v_iast S hG dX6_stroke_127 (fun σ55 H locs hG => ?_)
      exact wj_X6_stroke_128 S hr hlk σ55 t p0 p1 x2 _ _ ls (lv_sub hl [2, 3, 4, 1] rfl) hG
set_option maxHeartbeats 4000000 in
set_option maxRecDepth 100000 in
theorem wl_X6_pass_4 {p : Program} {l : Launch} {e : Env} {s : State} {m : MethodId} {args : Array Value} {below : List Frame} {meth : Method} {c : Code} {g : GT} {ad : Nat → Nat} {b : Nat} (S : CallFix p m c cX6_pass 5 s args AL RX6) (hr : meth.sig.returnType = some .int) (hlk : meth.locks = false) (a0 : Nat) (a1 : Int32) {rr : Int32} {σr : Mem} {K : Int32 → Int32 → Mem → Option (Int32 × Mem)} (kx : ∀ (y2 : Int32) (y3 : Int32) (σ : Mem) (H : Heap) (locs : List Loc) (ls : Array Slot), lv_has ls 5 [(0, .ref (ad a0)), (1, .int a1), (2, .int y2), (3, .int y3)] → GA g ad σ true b s H locs → K y2 y3 σ = some (rr, σr) → W p l e ({ frames := 3, cells := 0, slots := 0, locals := 71 } : Room) s m args below meth c H locs 0 0 (MQ below (va_Qi (fun (r' : Int32) (u : Mem) => r' = rr ∧ u = σr) (GW g ad) (AA g ad true b)) args s 0 0 (AA g ad true b)) (F0 m 72 ls [])) : ∀ (fuel : Nat) (y2 : Int32) (y3 : Int32) (σ : Mem) (H : Heap) (locs : List Loc) (ls : Array Slot), lv_has ls 5 [(0, .ref (ad a0)), (1, .int a1), (2, .int y2), (3, .int y3)] → GA g ad σ true b s H locs → lp_X6_pass_4 a0 a1 K fuel y2 y3 σ = some (rr, σr) → W p l e ({ frames := 3, cells := 0, slots := 0, locals := 71 } : Room) s m args below meth c H locs 0 0 (MQ below (va_Qi (fun (r' : Int32) (u : Mem) => r' = rr ∧ u = σr) (GW g ad) (AA g ad true b)) args s 0 0 (AA g ad true b)) (F0 m 4 ls []) := by
  intro fuel
  induction fuel with
  | zero =>
    intro y2 y3 σ H locs ls hl hG h
    rw [lp_X6_pass_4.eq_1] at h
    cases h
  | succ fuel ih =>
    intro y2 y3 σ H locs ls hl hG
    rw [lp_X6_pass_4.eq_2]
    refine v_iload_n S hl 3 rfl rfl dX6_pass_4 ?_
    refine v_iconst S 4 dX6_pass_5 rfl ?_
    refine v_icmp_ge S 72 dX6_pass_6 (by decide) ?_ ?_
    · exact kx y2 y3 σ _ _ ls (lv_sub hl [0, 1, 2, 3] rfl) hG
    · refine v_aload_n S hl 0 rfl rfl dX6_pass_9 ?_
      refine v_iload_n S hl 3 rfl rfl dX6_pass_10 ?_
      refine v_cV_iR S hG [.int y3] rfl rfl (by decide) (met_X6_first l g ad true b σ a0 y3) mw_X6_first q410 dX6_pass_11 rfl rfl hl.1 (Nat.le_of_ble_eq_true rfl) ⟨Nat.le_of_ble_eq_true rfl, Nat.le_of_ble_eq_true rfl⟩ rfl rfl ⟨Nat.le_of_ble_eq_true rfl, Nat.le_of_ble_eq_true rfl⟩ (fun r1 H locs hG => ?_)
      refine v_istore S hl [(4, .int r1), (0, .ref (ad a0)), (1, .int a1), (2, .int y2), (3, .int y3)] dX6_pass_14 (by decide) rfl (fun ls hl => ?_)
      refine v_iload S hl 0 rfl dX6_pass_16 ?_
      refine v_iconst S (-1) dX6_pass_18 rfl ?_
      refine v_icmp_ne S 25 dX6_pass_19 (by decide) ?_ ?_
      · refine v_aload_n S hl 1 rfl rfl dX6_pass_25 ?_
        refine gr_6_8 S hG q412 dX6_pass_26 (fun r2 => ?_)
        refine v_iload_n S hl 4 rfl rfl dX6_pass_29 ?_
        refine v_iald S hG dX6_pass_30 ?_
        refine v_if_le S 47 dX6_pass_31 (by decide) ?_ ?_
        · refine v_aload_n S hl 1 rfl rfl dX6_pass_47 ?_
          refine v_iload_n S hl 4 rfl rfl dX6_pass_48 ?_
          refine v_cV_im S hG [.int y3] rfl rfl (by decide) (met_X6_isManned l g ad true b σ a0 y3) mw_X6_isManned q462 dX6_pass_49 rfl rfl hl.1 (Nat.le_of_ble_eq_true rfl) ⟨Nat.le_of_ble_eq_true rfl, Nat.le_of_ble_eq_true rfl⟩ rfl rfl ⟨Nat.le_of_ble_eq_true rfl, Nat.le_of_ble_eq_true rfl⟩ (fun r3 σ4 H locs hG => ?_)
          refine v_if_eq S 66 dX6_pass_52 (by decide) ?_ ?_
          · refine v_iinc S hl 4 rfl dX6_pass_66 rfl (by decide) (fun z => [(3, .int z), (4, .int r1), (0, .ref (ad a0)), (1, .int a1), (2, .int y2)]) (fun _ => rfl) (fun x5 ls hl => ?_)
            refine v_goto S 4 dX6_pass_69 (by decide) ?_
            exact ih y2 x5 σ4 _ _ ls (lv_sub hl [2, 3, 4, 0] rfl) hG
          · refine v_aload_n S hl 1 rfl rfl dX6_pass_55 ?_
            refine v_iload_n S hl 4 rfl rfl dX6_pass_56 ?_
            refine v_iload S hl 0 rfl dX6_pass_57 ?_
            refine v_iload_n S hl 2 rfl rfl dX6_pass_59 ?_
            refine v_cV_vm S hG [.int y3, .int r1, .int a1] rfl rfl (by decide) (met_X6_stroke l g ad true b σ4 a0 y3 r1 a1) mw_X6_stroke q466 dX6_pass_60 rfl rfl hl.1 (Nat.le_of_ble_eq_true rfl) ⟨Nat.le_of_ble_eq_true rfl, Nat.le_of_ble_eq_true rfl⟩ rfl rfl ⟨Nat.le_of_ble_eq_true rfl, Nat.le_of_ble_eq_true rfl⟩ (fun σ6 H locs hG => ?_)
            refine v_iinc S hl 3 rfl dX6_pass_63 rfl (by decide) (fun z => [(2, .int z), (4, .int r1), (0, .ref (ad a0)), (1, .int a1), (3, .int y3)]) (fun _ => rfl) (fun x7 ls hl => ?_)
            refine v_iinc S hl 4 rfl dX6_pass_66 rfl (by decide) (fun z => [(3, .int z), (2, .int x7), (4, .int r1), (0, .ref (ad a0)), (1, .int a1)]) (fun _ => rfl) (fun x8 ls hl => ?_)
            refine v_goto S 4 dX6_pass_69 (by decide) ?_
            exact ih x7 x8 σ6 _ _ ls (lv_sub hl [3, 4, 1, 0] rfl) hG
        · refine v_aload_n S hl 1 rfl rfl dX6_pass_34 ?_
          refine gr_6_8 S hG q412 dX6_pass_35 (fun r9 => ?_)
          refine v_iload_n S hl 4 rfl rfl dX6_pass_38 ?_
          refine v_dup2 S dX6_pass_39 rfl rfl ?_
          refine v_iald S hG dX6_pass_40 ?_
          refine v_iconst S 1 dX6_pass_41 rfl ?_
          refine v_isub S dX6_pass_42 ?_
          refine v_iast S hG dX6_pass_43 (fun σ10 H locs hG => ?_)
          refine v_goto S 66 dX6_pass_44 (by decide) ?_
          refine v_iinc S hl 4 rfl dX6_pass_66 rfl (by decide) (fun z => [(3, .int z), (4, .int r1), (0, .ref (ad a0)), (1, .int a1), (2, .int y2)]) (fun _ => rfl) (fun x11 ls hl => ?_)
          refine v_goto S 4 dX6_pass_69 (by decide) ?_
          exact ih y2 x11 σ10 _ _ ls (lv_sub hl [2, 3, 4, 0] rfl) hG
      · refine v_goto S 66 dX6_pass_22 (by decide) ?_
        refine v_iinc S hl 4 rfl dX6_pass_66 rfl (by decide) (fun z => [(3, .int z), (4, .int r1), (0, .ref (ad a0)), (1, .int a1), (2, .int y2)]) (fun _ => rfl) (fun x12 ls hl => ?_)
        refine v_goto S 4 dX6_pass_69 (by decide) ?_
        exact ih y2 x12 σ _ _ ls (lv_sub hl [2, 3, 4, 0] rfl) hG
set_option maxHeartbeats 4000000 in
set_option maxRecDepth 100000 in
theorem wl_X6_pass_74 {p : Program} {l : Launch} {e : Env} {s : State} {m : MethodId} {args : Array Value} {below : List Frame} {meth : Method} {c : Code} {g : GT} {ad : Nat → Nat} {b : Nat} (S : CallFix p m c cX6_pass 5 s args AL RX6) (hr : meth.sig.returnType = some .int) (hlk : meth.locks = false) (a0 : Nat) (a2 : Int32) {rr : Int32} {σr : Mem} {K : Int32 → Mem → Option (Int32 × Mem)} (kx : ∀ (y3 : Int32) (σ : Mem) (H : Heap) (locs : List Loc) (ls : Array Slot), lv_has ls 5 [(0, .ref (ad a0)), (2, .int a2), (3, .int y3)] → GA g ad σ true b s H locs → K y3 σ = some (rr, σr) → W p l e ({ frames := 3, cells := 0, slots := 0, locals := 71 } : Room) s m args below meth c H locs 0 0 (MQ below (va_Qi (fun (r' : Int32) (u : Mem) => r' = rr ∧ u = σr) (GW g ad) (AA g ad true b)) args s 0 0 (AA g ad true b)) (F0 m 118 ls [])) : ∀ (fuel : Nat) (y3 : Int32) (σ : Mem) (H : Heap) (locs : List Loc) (ls : Array Slot), lv_has ls 5 [(0, .ref (ad a0)), (2, .int a2), (3, .int y3)] → GA g ad σ true b s H locs → lp_X6_pass_74 a0 a2 K fuel y3 σ = some (rr, σr) → W p l e ({ frames := 3, cells := 0, slots := 0, locals := 71 } : Room) s m args below meth c H locs 0 0 (MQ below (va_Qi (fun (r' : Int32) (u : Mem) => r' = rr ∧ u = σr) (GW g ad) (AA g ad true b)) args s 0 0 (AA g ad true b)) (F0 m 74 ls []) := by
  intro fuel
  induction fuel with
  | zero =>
    intro y3 σ H locs ls hl hG h
    rw [lp_X6_pass_74.eq_1] at h
    cases h
  | succ fuel ih =>
    intro y3 σ H locs ls hl hG
    rw [lp_X6_pass_74.eq_2]
    refine v_iload_n S hl 2 rfl rfl dX6_pass_74 ?_
    refine v_aload_n S hl 0 rfl rfl dX6_pass_75 ?_
    refine gr_6_16 S hG q361 dX6_pass_76 (fun r16 => ?_)
    refine gfN_7_1 S hG q437 dX6_pass_79 ?_
    refine v_icmp_ge S 118 dX6_pass_82 (by decide) ?_ ?_
    · exact kx y3 σ _ _ ls (lv_sub hl [0, 1, 2] rfl) hG
    · refine v_aload_n S hl 0 rfl rfl dX6_pass_85 ?_
      refine v_iload_n S hl 2 rfl rfl dX6_pass_86 ?_
      refine v_cV_iR S hG [.int y3] rfl rfl (by decide) (met_X6_bellOf l g ad true b σ a0 y3) mw_X6_bellOf q447 dX6_pass_87 rfl rfl hl.1 (Nat.le_of_ble_eq_true rfl) ⟨Nat.le_of_ble_eq_true rfl, Nat.le_of_ble_eq_true rfl⟩ rfl rfl ⟨Nat.le_of_ble_eq_true rfl, Nat.le_of_ble_eq_true rfl⟩ (fun r17 H locs hG => ?_)
      refine v_iconst S (-1) dX6_pass_90 rfl ?_
      refine v_icmp_ne S 112 dX6_pass_91 (by decide) ?_ ?_
      · refine v_iinc S hl 2 rfl dX6_pass_112 rfl (by decide) (fun z => [(3, .int z), (0, .ref (ad a0)), (2, .int a2)]) (fun _ => rfl) (fun x18 ls hl => ?_)
        refine v_goto S 74 dX6_pass_115 (by decide) ?_
        exact ih x18 σ _ _ ls (lv_sub hl [1, 2, 0] rfl) hG
      · refine v_aload_n S hl 0 rfl rfl dX6_pass_94 ?_
        refine gr_6_10 S hG q444 dX6_pass_95 (fun r19 => ?_)
        refine v_iload_n S hl 2 rfl rfl dX6_pass_98 ?_
        refine v_iconst S 0 dX6_pass_99 rfl ?_
        refine v_aload_n S hl 0 rfl rfl dX6_pass_100 ?_
        refine gr_6_10 S hG q444 dX6_pass_101 (fun r20 => ?_)
        refine v_iload_n S hl 2 rfl rfl dX6_pass_104 ?_
        refine v_iald S hG dX6_pass_105 ?_
        refine v_iconst S 2 dX6_pass_106 rfl ?_
        refine v_isub S dX6_pass_107 ?_
        refine v_mmax S q470 mw_max hl.1 (Nat.le_of_ble_eq_true rfl) (Nat.le_of_ble_eq_true rfl) (Nat.le_of_ble_eq_true rfl) (Nat.le_of_ble_eq_true rfl) dX6_pass_108 ?_
        refine v_iast S hG dX6_pass_111 (fun σ21 H locs hG => ?_)
        refine v_iinc S hl 2 rfl dX6_pass_112 rfl (by decide) (fun z => [(3, .int z), (0, .ref (ad a0)), (2, .int a2)]) (fun _ => rfl) (fun x22 ls hl => ?_)
        refine v_goto S 74 dX6_pass_115 (by decide) ?_
        exact ih x22 σ21 _ _ ls (lv_sub hl [1, 2, 0] rfl) hG
set_option maxHeartbeats 4000000 in
set_option maxRecDepth 100000 in
theorem met_X6_pass (l : Launch) (g : GT) (ad : Nat → Nat) (_ : Bool) (b : Nat) (σ : Mem) (t : Nat) (p0 : Int32) (rr : Int32) (σr : Mem) (h : fn_X6_pass σ t p0 = some (rr, σr)) : Met l yX6_pass (wsy yX6_pass cX6_pass 5 (some .int)) ({ frames := 3, cells := 0, slots := 0, locals := 71 } : Room) (va_Pc [.ref (ad t), .int p0] (PB g ad σ b)) (va_Qi (fun (r' : Int32) (u : Mem) => r' = rr ∧ u = σr) (GW g ad) (AA g ad true b)) 0 0 (AA g ad true b) := by
  refine Met.ofW (cc := cX6_pass) (maxL := 5) (ret := (some .int)) (by decide) rfl ?_
  intro p e s m args below meth c s₁ B hml hv
  obtain ⟨rfl, hv⟩ := hv
  have S : CallFix p m c cX6_pass 5 s _ AL RX6 := ⟨B.exec, B.bytes, hml, findClass_of_methodNamed B.named, fun w h => atoms_spec (ws := wsy yX6_pass cX6_pass 5 (some .int)) B.pre w (List.mem_cons_of_mem _ h)⟩
  have hr := B.returns
  have hlk := B.notSynchronized
  have hG : GA g ad σ true b s s.heap [] := GA_start hv
  have hl := lv_entry ([.ref (ad t), .int p0]) (n := 5) (Nat.le_of_ble_eq_true rfl)
  rw [lg_entry_eq]
  generalize (lg_sl ([.ref (ad t), .int p0]) ++ List.replicate (5 - (lg_sl ([.ref (ad t), .int p0])).length) Slot.unset).toArray = ls at hl ⊢
  have hl : lv_has ls 5 [(0, .ref (ad t)), (1, .int p0)] := hl
  revert h
  unfold fn_X6_pass
  refine v_iconst S 0 dX6_pass_0 rfl ?_
  refine v_istore_n S hl [(2, .int 0), (0, .ref (ad t)), (1, .int p0)] rfl dX6_pass_1 (by decide) rfl (fun ls hl => ?_)
  refine v_iconst S 0 dX6_pass_2 rfl ?_
  refine v_istore_n S hl [(3, .int 0), (2, .int 0), (0, .ref (ad t)), (1, .int p0)] rfl dX6_pass_3 (by decide) rfl (fun ls hl => ?_)
  refine wl_X6_pass_4 S hr hlk t p0 (fun x13 x14 σ15 H locs ls hl hG => ?_) 30 0 0 σ _ _ ls (lv_sub hl [2, 3, 1, 0] rfl) hG
  refine v_iconst S 0 dX6_pass_72 rfl ?_
  refine v_istore_n S hl [(3, .int 0), (0, .ref (ad t)), (1, .int p0), (2, .int x13)] rfl dX6_pass_73 (by decide) rfl (fun ls hl => ?_)
  refine wl_X6_pass_74 S hr hlk t x13 (fun x23 σ24 H locs ls hl hG => ?_) 30 0 σ15 _ _ ls (lv_sub hl [1, 3, 0] rfl) hG
  refine v_aload_n S hl 0 rfl rfl dX6_pass_118 ?_
  refine v_dup S dX6_pass_119 rfl ?_
  refine gf_6_0 S hG q411 dX6_pass_120 ?_
  refine v_iconst S 1 dX6_pass_123 rfl ?_
  refine v_iadd S dX6_pass_124 ?_
  refine pf_6_0 S hG q411 dX6_pass_125 (fun σ25 H locs hG => ?_)
  refine v_iload_n S hl 1 rfl rfl dX6_pass_128 ?_
  exact v_iretm S hG hr hlk (Nat.le_of_ble_eq_true rfl) (Nat.le_of_ble_eq_true rfl) dX6_pass_129
set_option maxHeartbeats 4000000 in
set_option maxRecDepth 100000 in
theorem wl_X7_pass_26 {p : Program} {l : Launch} {e : Env} {s : State} {m : MethodId} {args : Array Value} {below : List Frame} {meth : Method} {c : Code} {g : GT} {ad : Nat → Nat} {b : Nat} (S : CallFix p m c cX7_pass 4 s args AL RX7) (hr : meth.sig.returnType = some .int) (hlk : meth.locks = false) (a0 : Nat) (a1 : Int32) {rr : Int32} {σr : Mem} {K : Int32 → Int32 → Mem → Option (Int32 × Mem)} (kx : ∀ (y2 : Int32) (y3 : Int32) (σ : Mem) (H : Heap) (locs : List Loc) (ls : Array Slot), lv_has ls 4 [(0, .ref (ad a0)), (1, .int a1), (2, .int y2), (3, .int y3)] → GA g ad σ true b s H locs → K y2 y3 σ = some (rr, σr) → W p l e ({ frames := 4, cells := 0, slots := 0, locals := 95 } : Room) s m args below meth c H locs 0 0 (MQ below (va_Qi (fun (r' : Int32) (u : Mem) => r' = rr ∧ u = σr) (GW g ad) (AA g ad true b)) args s 0 0 (AA g ad true b)) (F0 m 48 ls [])) : ∀ (fuel : Nat) (y2 : Int32) (y3 : Int32) (σ : Mem) (H : Heap) (locs : List Loc) (ls : Array Slot), lv_has ls 4 [(0, .ref (ad a0)), (1, .int a1), (2, .int y2), (3, .int y3)] → GA g ad σ true b s H locs → lp_X7_pass_26 a0 a1 K fuel y2 y3 σ = some (rr, σr) → W p l e ({ frames := 4, cells := 0, slots := 0, locals := 95 } : Room) s m args below meth c H locs 0 0 (MQ below (va_Qi (fun (r' : Int32) (u : Mem) => r' = rr ∧ u = σr) (GW g ad) (AA g ad true b)) args s 0 0 (AA g ad true b)) (F0 m 26 ls []) := by
  intro fuel
  induction fuel with
  | zero =>
    intro y2 y3 σ H locs ls hl hG h
    rw [lp_X7_pass_26.eq_1] at h
    cases h
  | succ fuel ih =>
    intro y2 y3 σ H locs ls hl hG
    rw [lp_X7_pass_26.eq_2]
    refine v_iload_n S hl 3 rfl rfl dX7_pass_26 ?_
    refine v_iload_n S hl 1 rfl rfl dX7_pass_27 ?_
    refine v_icmp_ge S 48 dX7_pass_28 (by decide) ?_ ?_
    · exact kx y2 y3 σ _ _ ls (lv_sub hl [0, 1, 2, 3] rfl) hG
    · refine v_iload_n S hl 2 rfl rfl dX7_pass_31 ?_
      refine v_aload_n S hl 0 rfl rfl dX7_pass_32 ?_
      refine gr_7_9 S hG q336 dX7_pass_33 (fun r3 => ?_)
      refine v_iconst S 1 dX7_pass_36 rfl ?_
      refine v_cV_im S hG [.int 1] rfl rfl (by decide) (met_X6_pass l g ad true b σ r3 1) mw_X6_pass q471 dX7_pass_37 rfl rfl hl.1 (Nat.le_of_ble_eq_true rfl) ⟨Nat.le_of_ble_eq_true rfl, Nat.le_of_ble_eq_true rfl⟩ rfl rfl ⟨Nat.le_of_ble_eq_true rfl, Nat.le_of_ble_eq_true rfl⟩ (fun r4 σ5 H locs hG => ?_)
      refine v_iadd S dX7_pass_40 ?_
      refine v_nm (fun x6 => ?_)
      refine v_istore_n S hl [(2, .int x6), (0, .ref (ad a0)), (1, .int a1), (3, .int y3)] rfl dX7_pass_41 (by decide) rfl (fun ls hl => ?_)
      refine v_iinc S hl 3 rfl dX7_pass_42 rfl (by decide) (fun z => [(3, .int z), (2, .int x6), (0, .ref (ad a0)), (1, .int a1)]) (fun _ => rfl) (fun x7 ls hl => ?_)
      refine v_goto S 26 dX7_pass_45 (by decide) ?_
      exact ih x6 x7 σ5 _ _ ls (lv_sub hl [2, 3, 1, 0] rfl) hG
set_option maxHeartbeats 4000000 in
set_option maxRecDepth 100000 in
theorem met_X7_pass (l : Launch) (g : GT) (ad : Nat → Nat) (_ : Bool) (b : Nat) (σ : Mem) (t : Nat) (p0 : Int32) (rr : Int32) (σr : Mem) (h : fn_X7_pass σ t p0 = some (rr, σr)) : Met l yX7_pass (wsy yX7_pass cX7_pass 4 (some .int)) ({ frames := 4, cells := 0, slots := 0, locals := 95 } : Room) (va_Pc [.ref (ad t), .int p0] (PB g ad σ b)) (va_Qi (fun (r' : Int32) (u : Mem) => r' = rr ∧ u = σr) (GW g ad) (AA g ad true b)) 0 0 (AA g ad true b) := by
  refine Met.ofW (cc := cX7_pass) (maxL := 4) (ret := (some .int)) (by decide) rfl ?_
  intro p e s m args below meth c s₁ B hml hv
  obtain ⟨rfl, hv⟩ := hv
  have S : CallFix p m c cX7_pass 4 s _ AL RX7 := ⟨B.exec, B.bytes, hml, findClass_of_methodNamed B.named, fun w h => atoms_spec (ws := wsy yX7_pass cX7_pass 4 (some .int)) B.pre w (List.mem_cons_of_mem _ h)⟩
  have hr := B.returns
  have hlk := B.notSynchronized
  have hG : GA g ad σ true b s s.heap [] := GA_start hv
  have hl := lv_entry ([.ref (ad t), .int p0]) (n := 4) (Nat.le_of_ble_eq_true rfl)
  rw [lg_entry_eq]
  generalize (lg_sl ([.ref (ad t), .int p0]) ++ List.replicate (4 - (lg_sl ([.ref (ad t), .int p0])).length) Slot.unset).toArray = ls at hl ⊢
  have hl : lv_has ls 4 [(0, .ref (ad t)), (1, .int p0)] := hl
  revert h
  unfold fn_X7_pass
  refine v_aload_n S hl 0 rfl rfl dX7_pass_0 ?_
  refine v_iconst S 0 dX7_pass_1 rfl ?_
  refine pf_7_0 S hG q320 dX7_pass_2 (fun σ1 H locs hG => ?_)
  refine v_iload_n S hl 1 rfl rfl dX7_pass_5 ?_
  refine v_iconst S 1 dX7_pass_6 rfl ?_
  refine v_sipush S 240 dX7_pass_7 (by decide) ?_
  refine v_cS_iR S hG [.int p0, .int 1, .int 240] (met_X7_isIn l g ad true b σ1 p0 1 240) mw_X7_isIn q321 dX7_pass_10 rfl rfl hl.1 (Nat.le_of_ble_eq_true rfl) ⟨Nat.le_of_ble_eq_true rfl, Nat.le_of_ble_eq_true rfl⟩ rfl rfl ⟨Nat.le_of_ble_eq_true rfl, Nat.le_of_ble_eq_true rfl⟩ (fun r2 H locs hG => ?_)
  refine v_if_ne S 22 dX7_pass_13 (by decide) ?_ ?_
  · refine v_iconst S 0 dX7_pass_22 rfl ?_
    refine v_istore_n S hl [(2, .int 0), (0, .ref (ad t)), (1, .int p0)] rfl dX7_pass_23 (by decide) rfl (fun ls hl => ?_)
    refine v_iconst S 0 dX7_pass_24 rfl ?_
    refine v_istore_n S hl [(3, .int 0), (2, .int 0), (0, .ref (ad t)), (1, .int p0)] rfl dX7_pass_25 (by decide) rfl (fun ls hl => ?_)
    refine wl_X7_pass_26 S hr hlk t p0 (fun x8 x9 σ10 H locs ls hl hG => ?_) 242 0 0 σ1 _ _ ls (lv_sub hl [2, 3, 1, 0] rfl) hG
    refine v_iload_n S hl 2 rfl rfl dX7_pass_48 ?_
    exact v_iretm S hG hr hlk (Nat.le_of_ble_eq_true rfl) (Nat.le_of_ble_eq_true rfl) dX7_pass_49
  · refine v_aload_n S hl 0 rfl rfl dX7_pass_16 ?_
    refine v_iconst S 1 dX7_pass_17 rfl ?_
    refine v_cV_im S hG [.int 1] rfl rfl (by decide) (met_X7_no l g ad true b σ1 t 1) mw_X7_no q338 dX7_pass_18 rfl rfl hl.1 (Nat.le_of_ble_eq_true rfl) ⟨Nat.le_of_ble_eq_true rfl, Nat.le_of_ble_eq_true rfl⟩ rfl rfl ⟨Nat.le_of_ble_eq_true rfl, Nat.le_of_ble_eq_true rfl⟩ (fun r11 σ12 H locs hG => ?_)
    exact v_iretm S hG hr hlk (Nat.le_of_ble_eq_true rfl) (Nat.le_of_ble_eq_true rfl) dX7_pass_21
set_option maxHeartbeats 4000000 in
set_option maxRecDepth 100000 in
theorem wl_X7_endOf_2 {p : Program} {l : Launch} {e : Env} {s : State} {m : MethodId} {args : Array Value} {below : List Frame} {meth : Method} {c : Code} {g : GT} {ad : Nat → Nat} {b : Nat} (S : CallFix p m c cX7_endOf 3 s args AL RX7) (hr : meth.sig.returnType = some .int) (hlk : meth.locks = false) (a0 : Nat) (a1 : Int32) {rr : Int32} {σr : Mem} {K : Int32 → Mem → Option (Int32 × Mem)} (kx : ∀ (y2 : Int32) (σ : Mem) (H : Heap) (locs : List Loc) (ls : Array Slot), lv_has ls 3 [(0, .ref (ad a0)), (1, .int a1), (2, .int y2)] → GA g ad σ true b s H locs → K y2 σ = some (rr, σr) → W p l e ({ frames := 4, cells := 0, slots := 0, locals := 95 } : Room) s m args below meth c H locs 0 0 (MQ below (va_Qi (fun (r' : Int32) (u : Mem) => r' = rr ∧ u = σr) (GW g ad) (AA g ad true b)) args s 0 0 (AA g ad true b)) (F0 m 39 ls [])) : ∀ (fuel : Nat) (y2 : Int32) (σ : Mem) (H : Heap) (locs : List Loc) (ls : Array Slot), lv_has ls 3 [(0, .ref (ad a0)), (1, .int a1), (2, .int y2)] → GA g ad σ true b s H locs → lp_X7_endOf_2 a0 a1 K fuel y2 σ = some (rr, σr) → W p l e ({ frames := 4, cells := 0, slots := 0, locals := 95 } : Room) s m args below meth c H locs 0 0 (MQ below (va_Qi (fun (r' : Int32) (u : Mem) => r' = rr ∧ u = σr) (GW g ad) (AA g ad true b)) args s 0 0 (AA g ad true b)) (F0 m 2 ls []) := by
  intro fuel
  induction fuel with
  | zero =>
    intro y2 σ H locs ls hl hG h
    rw [lp_X7_endOf_2.eq_1] at h
    cases h
  | succ fuel ih =>
    intro y2 σ H locs ls hl hG
    rw [lp_X7_endOf_2.eq_2]
    refine v_iload_n S hl 2 rfl rfl dX7_endOf_2 ?_
    refine v_sipush S 600 dX7_endOf_3 (by decide) ?_
    refine v_icmp_gt S 39 dX7_endOf_6 (by decide) ?_ ?_
    · exact kx y2 σ _ _ ls (lv_sub hl [0, 1, 2] rfl) hG
    · refine v_aload_n S hl 0 rfl rfl dX7_endOf_9 ?_
      refine gr_7_10 S hG q475 dX7_endOf_10 (fun r1 => ?_)
      refine grN_6_15 S hG q365 dX7_endOf_13 (fun r2 => ?_)
      refine v_iload_n S hl 1 rfl rfl dX7_endOf_16 ?_
      refine v_iald S hG dX7_endOf_17 ?_
      refine v_iconst S (-1) dX7_endOf_18 rfl ?_
      refine v_icmp_eq S 24 dX7_endOf_19 (by decide) ?_ ?_
      · refine v_aload_n S hl 0 rfl rfl dX7_endOf_24 ?_
        refine gr_7_10 S hG q475 dX7_endOf_25 (fun r3 => ?_)
        refine v_iconst S 0 dX7_endOf_28 rfl ?_
        refine v_cV_im S hG [.int 0] rfl rfl (by decide) (met_X6_pass l g ad true b σ r3 0) mw_X6_pass q471 dX7_endOf_29 rfl rfl hl.1 (Nat.le_of_ble_eq_true rfl) ⟨Nat.le_of_ble_eq_true rfl, Nat.le_of_ble_eq_true rfl⟩ rfl rfl ⟨Nat.le_of_ble_eq_true rfl, Nat.le_of_ble_eq_true rfl⟩ (fun r4 σ5 H locs hG => ?_)
        refine v_pop S dX7_endOf_32 rfl ?_
        refine v_iinc S hl 2 rfl dX7_endOf_33 rfl (by decide) (fun z => [(2, .int z), (0, .ref (ad a0)), (1, .int a1)]) (fun _ => rfl) (fun x6 ls hl => ?_)
        refine v_goto S 2 dX7_endOf_36 (by decide) ?_
        exact ih x6 σ5 _ _ ls (lv_sub hl [1, 2, 0] rfl) hG
      · refine v_iload_n S hl 2 rfl rfl dX7_endOf_22 ?_
        exact v_iretm S hG hr hlk (Nat.le_of_ble_eq_true rfl) (Nat.le_of_ble_eq_true rfl) dX7_endOf_23
set_option maxHeartbeats 4000000 in
set_option maxRecDepth 100000 in
theorem met_X7_endOf (l : Launch) (g : GT) (ad : Nat → Nat) (_ : Bool) (b : Nat) (σ : Mem) (t : Nat) (p0 : Int32) (rr : Int32) (σr : Mem) (h : fn_X7_endOf σ t p0 = some (rr, σr)) : Met l yX7_endOf (wsy yX7_endOf cX7_endOf 3 (some .int)) ({ frames := 4, cells := 0, slots := 0, locals := 95 } : Room) (va_Pc [.ref (ad t), .int p0] (PB g ad σ b)) (va_Qi (fun (r' : Int32) (u : Mem) => r' = rr ∧ u = σr) (GW g ad) (AA g ad true b)) 0 0 (AA g ad true b) := by
  refine Met.ofW (cc := cX7_endOf) (maxL := 3) (ret := (some .int)) (by decide) rfl ?_
  intro p e s m args below meth c s₁ B hml hv
  obtain ⟨rfl, hv⟩ := hv
  have S : CallFix p m c cX7_endOf 3 s _ AL RX7 := ⟨B.exec, B.bytes, hml, findClass_of_methodNamed B.named, fun w h => atoms_spec (ws := wsy yX7_endOf cX7_endOf 3 (some .int)) B.pre w (List.mem_cons_of_mem _ h)⟩
  have hr := B.returns
  have hlk := B.notSynchronized
  have hG : GA g ad σ true b s s.heap [] := GA_start hv
  have hl := lv_entry ([.ref (ad t), .int p0]) (n := 3) (Nat.le_of_ble_eq_true rfl)
  rw [lg_entry_eq]
  generalize (lg_sl ([.ref (ad t), .int p0]) ++ List.replicate (3 - (lg_sl ([.ref (ad t), .int p0])).length) Slot.unset).toArray = ls at hl ⊢
  have hl : lv_has ls 3 [(0, .ref (ad t)), (1, .int p0)] := hl
  revert h
  unfold fn_X7_endOf
  refine v_iconst S 0 dX7_endOf_0 rfl ?_
  refine v_istore_n S hl [(2, .int 0), (0, .ref (ad t)), (1, .int p0)] rfl dX7_endOf_1 (by decide) rfl (fun ls hl => ?_)
  refine wl_X7_endOf_2 S hr hlk t p0 (fun x7 σ8 H locs ls hl hG => ?_) 602 0 σ _ _ ls (lv_sub hl [1, 2, 0] rfl) hG
  refine v_iconst S (-1) dX7_endOf_39 rfl ?_
  exact v_iretm S hG hr hlk (Nat.le_of_ble_eq_true rfl) (Nat.le_of_ble_eq_true rfl) dX7_endOf_40
set_option maxHeartbeats 4000000 in
set_option maxRecDepth 100000 in
theorem met_X6_copy (l : Launch) (g : GT) (ad : Nat → Nat) (_ : Bool) (b : Nat) (σ : Mem) (t : Nat) (p0 : Nat) (p1 : Nat) (σr : Mem) (h : fn_X6_copy σ t p0 p1 = some σr) : Met l yX6_copy (wsy yX6_copy cX6_copy 3 none) ({ frames := 1, cells := 0, slots := 0, locals := 60 } : Room) (va_Pc [.ref (ad t), .ref (ad p0), .ref (ad p1)] (PB g ad σ b)) (va_Qv (fun (u : Mem) => u = σr) (GW g ad) (AA g ad true b)) 0 0 (AA g ad true b) := by
  refine Met.ofW (cc := cX6_copy) (maxL := 3) (ret := none) (by decide) rfl ?_
  intro p e s m args below meth c s₁ B hml hv
  obtain ⟨rfl, hv⟩ := hv
  have S : CallFix p m c cX6_copy 3 s _ AL RX6 := ⟨B.exec, B.bytes, hml, findClass_of_methodNamed B.named, fun w h => atoms_spec (ws := wsy yX6_copy cX6_copy 3 none) B.pre w (List.mem_cons_of_mem _ h)⟩
  have hr := B.returns
  have hlk := B.notSynchronized
  have hG : GA g ad σ true b s s.heap [] := GA_start hv
  have hl := lv_entry ([.ref (ad t), .ref (ad p0), .ref (ad p1)]) (n := 3) (Nat.le_of_ble_eq_true rfl)
  rw [lg_entry_eq]
  generalize (lg_sl ([.ref (ad t), .ref (ad p0), .ref (ad p1)]) ++ List.replicate (3 - (lg_sl ([.ref (ad t), .ref (ad p0), .ref (ad p1)])).length) Slot.unset).toArray = ls at hl ⊢
  have hl : lv_has ls 3 [(0, .ref (ad t)), (1, .ref (ad p0)), (2, .ref (ad p1))] := hl
  revert h
  unfold fn_X6_copy
  refine v_aload_n S hl 1 rfl rfl dX6_copy_0 ?_
  refine v_iconst S 0 dX6_copy_1 rfl ?_
  refine v_aload_n S hl 2 rfl rfl dX6_copy_2 ?_
  refine v_iconst S 0 dX6_copy_3 rfl ?_
  refine v_aload_n S hl 1 rfl rfl dX6_copy_4 ?_
  refine v_alen_8 S hG dX6_copy_5 ?_
  refine v_copy S hG q476 mw_copy hl.1 (Nat.le_of_ble_eq_true rfl) (Nat.le_of_ble_eq_true rfl) dX6_copy_6 (fun σ1 H locs hG => ?_)
  exact v_vretm S hG hr hlk (Nat.le_of_ble_eq_true rfl) (Nat.le_of_ble_eq_true rfl) dX6_copy_9
set_option maxHeartbeats 4000000 in
set_option maxRecDepth 100000 in
theorem met_X6_become (l : Launch) (g : GT) (ad : Nat → Nat) (_ : Bool) (b : Nat) (σ : Mem) (t : Nat) (p0 : Nat) (σr : Mem) (h : fn_X6_become σ t p0 = some σr) : Met l yX6_become (wsy yX6_become cX6_become 2 none) ({ frames := 2, cells := 0, slots := 0, locals := 82 } : Room) (va_Pc [.ref (ad t), .ref (ad p0)] (PB g ad σ b)) (va_Qv (fun (u : Mem) => u = σr) (GW g ad) (AA g ad true b)) 0 0 (AA g ad true b) := by
  refine Met.ofW (cc := cX6_become) (maxL := 2) (ret := none) (by decide) rfl ?_
  intro p e s m args below meth c s₁ B hml hv
  obtain ⟨rfl, hv⟩ := hv
  have S : CallFix p m c cX6_become 2 s _ AL RX6 := ⟨B.exec, B.bytes, hml, findClass_of_methodNamed B.named, fun w h => atoms_spec (ws := wsy yX6_become cX6_become 2 none) B.pre w (List.mem_cons_of_mem _ h)⟩
  have hr := B.returns
  have hlk := B.notSynchronized
  have hG : GA g ad σ true b s s.heap [] := GA_start hv
  have hl := lv_entry ([.ref (ad t), .ref (ad p0)]) (n := 2) (Nat.le_of_ble_eq_true rfl)
  rw [lg_entry_eq]
  generalize (lg_sl ([.ref (ad t), .ref (ad p0)]) ++ List.replicate (2 - (lg_sl ([.ref (ad t), .ref (ad p0)])).length) Slot.unset).toArray = ls at hl ⊢
  have hl : lv_has ls 2 [(0, .ref (ad t)), (1, .ref (ad p0))] := hl
  revert h
  unfold fn_X6_become
  refine v_aload_n S hl 0 rfl rfl dX6_become_0 ?_
  refine v_aload_n S hl 1 rfl rfl dX6_become_1 ?_
  refine gf_6_0 S hG q411 dX6_become_2 ?_
  refine pf_6_0 S hG q411 dX6_become_5 (fun σ1 H locs hG => ?_)
  refine v_aload_n S hl 0 rfl rfl dX6_become_8 ?_
  refine v_aload_n S hl 1 rfl rfl dX6_become_9 ?_
  refine gf_6_1 S hG q438 dX6_become_10 ?_
  refine pf_6_1 S hG q438 dX6_become_13 (fun σ2 H locs hG => ?_)
  refine v_aload_n S hl 0 rfl rfl dX6_become_16 ?_
  refine v_aload_n S hl 1 rfl rfl dX6_become_17 ?_
  refine gf_6_2 S hG q360 dX6_become_18 ?_
  refine pf_6_2 S hG q360 dX6_become_21 (fun σ3 H locs hG => ?_)
  refine v_aload_n S hl 0 rfl rfl dX6_become_24 ?_
  refine v_aload_n S hl 1 rfl rfl dX6_become_25 ?_
  refine gr_6_3 S hG q445 dX6_become_26 (fun r4 => ?_)
  refine v_aload_n S hl 0 rfl rfl dX6_become_29 ?_
  refine gr_6_3 S hG q445 dX6_become_30 (fun r5 => ?_)
  refine v_cV_vm S hG [.ref (ad r4), .ref (ad r5)] rfl rfl (by decide) (met_X6_copy l g ad true b σ3 t r4 r5) mw_X6_copy q477 dX6_become_33 rfl rfl hl.1 (Nat.le_of_ble_eq_true rfl) ⟨Nat.le_of_ble_eq_true rfl, Nat.le_of_ble_eq_true rfl⟩ rfl rfl ⟨Nat.le_of_ble_eq_true rfl, Nat.le_of_ble_eq_true rfl⟩ (fun σ6 H locs hG => ?_)
  refine v_aload_n S hl 0 rfl rfl dX6_become_36 ?_
  refine v_aload_n S hl 1 rfl rfl dX6_become_37 ?_
  refine gr_6_4 S hG q342 dX6_become_38 (fun r7 => ?_)
  refine v_aload_n S hl 0 rfl rfl dX6_become_41 ?_
  refine gr_6_4 S hG q342 dX6_become_42 (fun r8 => ?_)
  refine v_cV_vm S hG [.ref (ad r7), .ref (ad r8)] rfl rfl (by decide) (met_X6_copy l g ad true b σ6 t r7 r8) mw_X6_copy q477 dX6_become_45 rfl rfl hl.1 (Nat.le_of_ble_eq_true rfl) ⟨Nat.le_of_ble_eq_true rfl, Nat.le_of_ble_eq_true rfl⟩ rfl rfl ⟨Nat.le_of_ble_eq_true rfl, Nat.le_of_ble_eq_true rfl⟩ (fun σ9 H locs hG => ?_)
  refine v_aload_n S hl 0 rfl rfl dX6_become_48 ?_
  refine v_aload_n S hl 1 rfl rfl dX6_become_49 ?_
  refine gr_6_5 S hG q343 dX6_become_50 (fun r10 => ?_)
  refine v_aload_n S hl 0 rfl rfl dX6_become_53 ?_
  refine gr_6_5 S hG q343 dX6_become_54 (fun r11 => ?_)
  refine v_cV_vm S hG [.ref (ad r10), .ref (ad r11)] rfl rfl (by decide) (met_X6_copy l g ad true b σ9 t r10 r11) mw_X6_copy q477 dX6_become_57 rfl rfl hl.1 (Nat.le_of_ble_eq_true rfl) ⟨Nat.le_of_ble_eq_true rfl, Nat.le_of_ble_eq_true rfl⟩ rfl rfl ⟨Nat.le_of_ble_eq_true rfl, Nat.le_of_ble_eq_true rfl⟩ (fun σ12 H locs hG => ?_)
  refine v_aload_n S hl 0 rfl rfl dX6_become_60 ?_
  refine v_aload_n S hl 1 rfl rfl dX6_become_61 ?_
  refine gr_6_6 S hG q453 dX6_become_62 (fun r13 => ?_)
  refine v_aload_n S hl 0 rfl rfl dX6_become_65 ?_
  refine gr_6_6 S hG q453 dX6_become_66 (fun r14 => ?_)
  refine v_cV_vm S hG [.ref (ad r13), .ref (ad r14)] rfl rfl (by decide) (met_X6_copy l g ad true b σ12 t r13 r14) mw_X6_copy q477 dX6_become_69 rfl rfl hl.1 (Nat.le_of_ble_eq_true rfl) ⟨Nat.le_of_ble_eq_true rfl, Nat.le_of_ble_eq_true rfl⟩ rfl rfl ⟨Nat.le_of_ble_eq_true rfl, Nat.le_of_ble_eq_true rfl⟩ (fun σ15 H locs hG => ?_)
  refine v_aload_n S hl 0 rfl rfl dX6_become_72 ?_
  refine v_aload_n S hl 1 rfl rfl dX6_become_73 ?_
  refine gr_6_7 S hG q380 dX6_become_74 (fun r16 => ?_)
  refine v_aload_n S hl 0 rfl rfl dX6_become_77 ?_
  refine gr_6_7 S hG q380 dX6_become_78 (fun r17 => ?_)
  refine v_cV_vm S hG [.ref (ad r16), .ref (ad r17)] rfl rfl (by decide) (met_X6_copy l g ad true b σ15 t r16 r17) mw_X6_copy q477 dX6_become_81 rfl rfl hl.1 (Nat.le_of_ble_eq_true rfl) ⟨Nat.le_of_ble_eq_true rfl, Nat.le_of_ble_eq_true rfl⟩ rfl rfl ⟨Nat.le_of_ble_eq_true rfl, Nat.le_of_ble_eq_true rfl⟩ (fun σ18 H locs hG => ?_)
  refine v_aload_n S hl 0 rfl rfl dX6_become_84 ?_
  refine v_aload_n S hl 1 rfl rfl dX6_become_85 ?_
  refine gr_6_8 S hG q412 dX6_become_86 (fun r19 => ?_)
  refine v_aload_n S hl 0 rfl rfl dX6_become_89 ?_
  refine gr_6_8 S hG q412 dX6_become_90 (fun r20 => ?_)
  refine v_cV_vm S hG [.ref (ad r19), .ref (ad r20)] rfl rfl (by decide) (met_X6_copy l g ad true b σ18 t r19 r20) mw_X6_copy q477 dX6_become_93 rfl rfl hl.1 (Nat.le_of_ble_eq_true rfl) ⟨Nat.le_of_ble_eq_true rfl, Nat.le_of_ble_eq_true rfl⟩ rfl rfl ⟨Nat.le_of_ble_eq_true rfl, Nat.le_of_ble_eq_true rfl⟩ (fun σ21 H locs hG => ?_)
  refine v_aload_n S hl 0 rfl rfl dX6_become_96 ?_
  refine v_aload_n S hl 1 rfl rfl dX6_become_97 ?_
  refine gr_6_9 S hG q439 dX6_become_98 (fun r22 => ?_)
  refine v_aload_n S hl 0 rfl rfl dX6_become_101 ?_
  refine gr_6_9 S hG q439 dX6_become_102 (fun r23 => ?_)
  refine v_cV_vm S hG [.ref (ad r22), .ref (ad r23)] rfl rfl (by decide) (met_X6_copy l g ad true b σ21 t r22 r23) mw_X6_copy q477 dX6_become_105 rfl rfl hl.1 (Nat.le_of_ble_eq_true rfl) ⟨Nat.le_of_ble_eq_true rfl, Nat.le_of_ble_eq_true rfl⟩ rfl rfl ⟨Nat.le_of_ble_eq_true rfl, Nat.le_of_ble_eq_true rfl⟩ (fun σ24 H locs hG => ?_)
  refine v_aload_n S hl 0 rfl rfl dX6_become_108 ?_
  refine v_aload_n S hl 1 rfl rfl dX6_become_109 ?_
  refine gr_6_10 S hG q444 dX6_become_110 (fun r25 => ?_)
  refine v_aload_n S hl 0 rfl rfl dX6_become_113 ?_
  refine gr_6_10 S hG q444 dX6_become_114 (fun r26 => ?_)
  refine v_cV_vm S hG [.ref (ad r25), .ref (ad r26)] rfl rfl (by decide) (met_X6_copy l g ad true b σ24 t r25 r26) mw_X6_copy q477 dX6_become_117 rfl rfl hl.1 (Nat.le_of_ble_eq_true rfl) ⟨Nat.le_of_ble_eq_true rfl, Nat.le_of_ble_eq_true rfl⟩ rfl rfl ⟨Nat.le_of_ble_eq_true rfl, Nat.le_of_ble_eq_true rfl⟩ (fun σ27 H locs hG => ?_)
  refine v_aload_n S hl 0 rfl rfl dX6_become_120 ?_
  refine v_aload_n S hl 1 rfl rfl dX6_become_121 ?_
  refine gr_6_11 S hG q454 dX6_become_122 (fun r28 => ?_)
  refine v_aload_n S hl 0 rfl rfl dX6_become_125 ?_
  refine gr_6_11 S hG q454 dX6_become_126 (fun r29 => ?_)
  refine v_cV_vm S hG [.ref (ad r28), .ref (ad r29)] rfl rfl (by decide) (met_X6_copy l g ad true b σ27 t r28 r29) mw_X6_copy q477 dX6_become_129 rfl rfl hl.1 (Nat.le_of_ble_eq_true rfl) ⟨Nat.le_of_ble_eq_true rfl, Nat.le_of_ble_eq_true rfl⟩ rfl rfl ⟨Nat.le_of_ble_eq_true rfl, Nat.le_of_ble_eq_true rfl⟩ (fun σ30 H locs hG => ?_)
  refine v_aload_n S hl 0 rfl rfl dX6_become_132 ?_
  refine v_aload_n S hl 1 rfl rfl dX6_become_133 ?_
  refine gr_6_12 S hG q452 dX6_become_134 (fun r31 => ?_)
  refine v_aload_n S hl 0 rfl rfl dX6_become_137 ?_
  refine gr_6_12 S hG q452 dX6_become_138 (fun r32 => ?_)
  refine v_cV_vm S hG [.ref (ad r31), .ref (ad r32)] rfl rfl (by decide) (met_X6_copy l g ad true b σ30 t r31 r32) mw_X6_copy q477 dX6_become_141 rfl rfl hl.1 (Nat.le_of_ble_eq_true rfl) ⟨Nat.le_of_ble_eq_true rfl, Nat.le_of_ble_eq_true rfl⟩ rfl rfl ⟨Nat.le_of_ble_eq_true rfl, Nat.le_of_ble_eq_true rfl⟩ (fun σ33 H locs hG => ?_)
  refine v_aload_n S hl 0 rfl rfl dX6_become_144 ?_
  refine v_aload_n S hl 1 rfl rfl dX6_become_145 ?_
  refine gr_6_13 S hG q397 dX6_become_146 (fun r34 => ?_)
  refine v_aload_n S hl 0 rfl rfl dX6_become_149 ?_
  refine gr_6_13 S hG q397 dX6_become_150 (fun r35 => ?_)
  refine v_cV_vm S hG [.ref (ad r34), .ref (ad r35)] rfl rfl (by decide) (met_X6_copy l g ad true b σ33 t r34 r35) mw_X6_copy q477 dX6_become_153 rfl rfl hl.1 (Nat.le_of_ble_eq_true rfl) ⟨Nat.le_of_ble_eq_true rfl, Nat.le_of_ble_eq_true rfl⟩ rfl rfl ⟨Nat.le_of_ble_eq_true rfl, Nat.le_of_ble_eq_true rfl⟩ (fun σ36 H locs hG => ?_)
  refine v_aload_n S hl 0 rfl rfl dX6_become_156 ?_
  refine v_aload_n S hl 1 rfl rfl dX6_become_157 ?_
  refine gr_6_14 S hG q398 dX6_become_158 (fun r37 => ?_)
  refine v_aload_n S hl 0 rfl rfl dX6_become_161 ?_
  refine gr_6_14 S hG q398 dX6_become_162 (fun r38 => ?_)
  refine v_cV_vm S hG [.ref (ad r37), .ref (ad r38)] rfl rfl (by decide) (met_X6_copy l g ad true b σ36 t r37 r38) mw_X6_copy q477 dX6_become_165 rfl rfl hl.1 (Nat.le_of_ble_eq_true rfl) ⟨Nat.le_of_ble_eq_true rfl, Nat.le_of_ble_eq_true rfl⟩ rfl rfl ⟨Nat.le_of_ble_eq_true rfl, Nat.le_of_ble_eq_true rfl⟩ (fun σ39 H locs hG => ?_)
  refine v_aload_n S hl 0 rfl rfl dX6_become_168 ?_
  refine v_aload_n S hl 1 rfl rfl dX6_become_169 ?_
  refine gr_6_15 S hG q363 dX6_become_170 (fun r40 => ?_)
  refine v_aload_n S hl 0 rfl rfl dX6_become_173 ?_
  refine gr_6_15 S hG q363 dX6_become_174 (fun r41 => ?_)
  refine v_cV_vm S hG [.ref (ad r40), .ref (ad r41)] rfl rfl (by decide) (met_X6_copy l g ad true b σ39 t r40 r41) mw_X6_copy q477 dX6_become_177 rfl rfl hl.1 (Nat.le_of_ble_eq_true rfl) ⟨Nat.le_of_ble_eq_true rfl, Nat.le_of_ble_eq_true rfl⟩ rfl rfl ⟨Nat.le_of_ble_eq_true rfl, Nat.le_of_ble_eq_true rfl⟩ (fun σ42 H locs hG => ?_)
  exact v_vretm S hG hr hlk (Nat.le_of_ble_eq_true rfl) (Nat.le_of_ble_eq_true rfl) dX6_become_180
set_option maxHeartbeats 4000000 in
set_option maxRecDepth 100000 in
theorem met_X7_ends (l : Launch) (g : GT) (ad : Nat → Nat) (_ : Bool) (b : Nat) (σ : Mem) (t : Nat) (p0 : Int32) (rr : Int32) (σr : Mem) (h : fn_X7_ends σ t p0 = some (rr, σr)) : Met l yX7_ends (wsy yX7_ends cX7_ends 2 (some .int)) ({ frames := 5, cells := 0, slots := 0, locals := 117 } : Room) (va_Pc [.ref (ad t), .int p0] (PB g ad σ b)) (va_Qi (fun (r' : Int32) (u : Mem) => r' = rr ∧ u = σr) (GW g ad) (AA g ad true b)) 0 0 (AA g ad true b) := by
  refine Met.ofW (cc := cX7_ends) (maxL := 2) (ret := (some .int)) (by decide) rfl ?_
  intro p e s m args below meth c s₁ B hml hv
  obtain ⟨rfl, hv⟩ := hv
  have S : CallFix p m c cX7_ends 2 s _ AL RX7 := ⟨B.exec, B.bytes, hml, findClass_of_methodNamed B.named, fun w h => atoms_spec (ws := wsy yX7_ends cX7_ends 2 (some .int)) B.pre w (List.mem_cons_of_mem _ h)⟩
  have hr := B.returns
  have hlk := B.notSynchronized
  have hG : GA g ad σ true b s s.heap [] := GA_start hv
  have hl := lv_entry ([.ref (ad t), .int p0]) (n := 2) (Nat.le_of_ble_eq_true rfl)
  rw [lg_entry_eq]
  generalize (lg_sl ([.ref (ad t), .int p0]) ++ List.replicate (2 - (lg_sl ([.ref (ad t), .int p0])).length) Slot.unset).toArray = ls at hl ⊢
  have hl : lv_has ls 2 [(0, .ref (ad t)), (1, .int p0)] := hl
  revert h
  unfold fn_X7_ends
  refine v_aload_n S hl 0 rfl rfl dX7_ends_0 ?_
  refine v_iconst S 0 dX7_ends_1 rfl ?_
  refine pf_7_0 S hG q320 dX7_ends_2 (fun σ1 H locs hG => ?_)
  refine v_aload_n S hl 0 rfl rfl dX7_ends_5 ?_
  refine v_iload_n S hl 1 rfl rfl dX7_ends_6 ?_
  refine v_cV_iR S hG [.int p0] rfl rfl (by decide) (met_X7_isToll l g ad true b σ1 t p0) mw_X7_isToll q413 dX7_ends_7 rfl rfl hl.1 (Nat.le_of_ble_eq_true rfl) ⟨Nat.le_of_ble_eq_true rfl, Nat.le_of_ble_eq_true rfl⟩ rfl rfl ⟨Nat.le_of_ble_eq_true rfl, Nat.le_of_ble_eq_true rfl⟩ (fun r2 H locs hG => ?_)
  refine v_if_ne S 19 dX7_ends_10 (by decide) ?_ ?_
  · refine v_aload_n S hl 0 rfl rfl dX7_ends_19 ?_
    refine gr_7_10 S hG q475 dX7_ends_20 (fun r3 => ?_)
    refine v_aload_n S hl 0 rfl rfl dX7_ends_23 ?_
    refine gr_7_9 S hG q336 dX7_ends_24 (fun r4 => ?_)
    refine v_cV_vm S hG [.ref (ad r4)] rfl rfl (by decide) (met_X6_become l g ad true b σ1 r3 r4) mw_X6_become q481 dX7_ends_27 rfl rfl hl.1 (Nat.le_of_ble_eq_true rfl) ⟨Nat.le_of_ble_eq_true rfl, Nat.le_of_ble_eq_true rfl⟩ rfl rfl ⟨Nat.le_of_ble_eq_true rfl, Nat.le_of_ble_eq_true rfl⟩ (fun σ5 H locs hG => ?_)
    refine v_aload_n S hl 0 rfl rfl dX7_ends_30 ?_
    refine v_iload_n S hl 1 rfl rfl dX7_ends_31 ?_
    refine v_cV_im S hG [.int p0] rfl rfl (by decide) (met_X7_endOf l g ad true b σ5 t p0) mw_X7_endOf q485 dX7_ends_32 rfl rfl hl.1 (Nat.le_of_ble_eq_true rfl) ⟨Nat.le_of_ble_eq_true rfl, Nat.le_of_ble_eq_true rfl⟩ rfl rfl ⟨Nat.le_of_ble_eq_true rfl, Nat.le_of_ble_eq_true rfl⟩ (fun r6 σ7 H locs hG => ?_)
    exact v_iretm S hG hr hlk (Nat.le_of_ble_eq_true rfl) (Nat.le_of_ble_eq_true rfl) dX7_ends_35
  · refine v_aload_n S hl 0 rfl rfl dX7_ends_13 ?_
    refine v_iconst S 1 dX7_ends_14 rfl ?_
    refine v_cV_im S hG [.int 1] rfl rfl (by decide) (met_X7_no l g ad true b σ1 t 1) mw_X7_no q338 dX7_ends_15 rfl rfl hl.1 (Nat.le_of_ble_eq_true rfl) ⟨Nat.le_of_ble_eq_true rfl, Nat.le_of_ble_eq_true rfl⟩ rfl rfl ⟨Nat.le_of_ble_eq_true rfl, Nat.le_of_ble_eq_true rfl⟩ (fun r8 σ9 H locs hG => ?_)
    exact v_iretm S hG hr hlk (Nat.le_of_ble_eq_true rfl) (Nat.le_of_ble_eq_true rfl) dX7_ends_18
set_option maxHeartbeats 4000000 in
set_option maxRecDepth 100000 in
theorem wl_X7_foresee_62 {p : Program} {l : Launch} {e : Env} {s : State} {m : MethodId} {args : Array Value} {below : List Frame} {meth : Method} {c : Code} {g : GT} {ad : Nat → Nat} {b : Nat} (S : CallFix p m c cX7_foresee 4 s args AL RX7) (hr : meth.sig.returnType = some .int) (hlk : meth.locks = false) (a0 : Nat) (a1 : Int32) (a2 : Int32) {rr : Int32} {σr : Mem} {K : Int32 → Mem → Option (Int32 × Mem)} (kx : ∀ (y3 : Int32) (σ : Mem) (H : Heap) (locs : List Loc) (ls : Array Slot), lv_has ls 4 [(0, .ref (ad a0)), (1, .int a1), (2, .int a2), (3, .int y3)] → GA g ad σ true b s H locs → K y3 σ = some (rr, σr) → W p l e ({ frames := 4, cells := 1, slots := 9, locals := 103 } : Room) s m args below meth c H locs 0 0 (MQ below (va_Qi (fun (r' : Int32) (u : Mem) => r' = rr ∧ u = σr) (GW g ad) (AA g ad true b)) args s 1 9 (AA g ad true b)) (F0 m 82 ls [])) : ∀ (fuel : Nat) (y3 : Int32) (σ : Mem) (H : Heap) (locs : List Loc) (ls : Array Slot), lv_has ls 4 [(0, .ref (ad a0)), (1, .int a1), (2, .int a2), (3, .int y3)] → GA g ad σ true b s H locs → lp_X7_foresee_62 a0 a1 a2 K fuel y3 σ = some (rr, σr) → W p l e ({ frames := 4, cells := 1, slots := 9, locals := 103 } : Room) s m args below meth c H locs 0 0 (MQ below (va_Qi (fun (r' : Int32) (u : Mem) => r' = rr ∧ u = σr) (GW g ad) (AA g ad true b)) args s 1 9 (AA g ad true b)) (F0 m 62 ls []) := by
  intro fuel
  induction fuel with
  | zero =>
    intro y3 σ H locs ls hl hG h
    rw [lp_X7_foresee_62.eq_1] at h
    cases h
  | succ fuel ih =>
    intro y3 σ H locs ls hl hG
    rw [lp_X7_foresee_62.eq_2]
    refine v_iload_n S hl 3 rfl rfl dX7_foresee_62 ?_
    refine v_iload_n S hl 1 rfl rfl dX7_foresee_63 ?_
    refine v_icmp_ge S 82 dX7_foresee_64 (by decide) ?_ ?_
    · exact kx y3 σ _ _ ls (lv_sub hl [0, 1, 2, 3] rfl) hG
    · refine v_aload_n S hl 0 rfl rfl dX7_foresee_67 ?_
      refine gr_7_10 S hG q475 dX7_foresee_68 (fun r6 => ?_)
      refine v_iconst S 0 dX7_foresee_71 rfl ?_
      refine v_cV_im S hG [.int 0] rfl rfl (by decide) (met_X6_pass l g ad true b σ r6 0) mw_X6_pass q471 dX7_foresee_72 rfl rfl hl.1 (Nat.le_of_ble_eq_true rfl) ⟨Nat.le_of_ble_eq_true rfl, Nat.le_of_ble_eq_true rfl⟩ rfl rfl ⟨Nat.le_of_ble_eq_true rfl, Nat.le_of_ble_eq_true rfl⟩ (fun r7 σ8 H locs hG => ?_)
      refine v_pop S dX7_foresee_75 rfl ?_
      refine v_iinc S hl 3 rfl dX7_foresee_76 rfl (by decide) (fun z => [(3, .int z), (0, .ref (ad a0)), (1, .int a1), (2, .int a2)]) (fun _ => rfl) (fun x9 ls hl => ?_)
      refine v_goto S 62 dX7_foresee_79 (by decide) ?_
      exact ih x9 σ8 _ _ ls (lv_sub hl [1, 2, 3, 0] rfl) hG
set_option maxHeartbeats 4000000 in
set_option maxRecDepth 100000 in
theorem met_X7_foresee (l : Launch) (g : GT) (ad : Nat → Nat) (_ : Bool) (b : Nat) (σ : Mem) (t : Nat) (p0 : Int32) (p1 : Int32) (rr : Int32) (σr : Mem) (h : fn_X7_foresee σ t p0 p1 = some (rr, σr)) : Met l yX7_foresee (wsy yX7_foresee cX7_foresee 4 (some .int)) ({ frames := 4, cells := 1, slots := 9, locals := 103 } : Room) (va_Pc [.ref (ad t), .int p0, .int p1] (PB g ad σ b)) (va_Qi (fun (r' : Int32) (u : Mem) => r' = rr ∧ u = σr) (GW g ad) (AA g ad true b)) 1 9 (AA g ad true b) := by
  refine Met.ofW (cc := cX7_foresee) (maxL := 4) (ret := (some .int)) (by decide) rfl ?_
  intro p e s m args below meth c s₁ B hml hv
  obtain ⟨rfl, hv⟩ := hv
  have S : CallFix p m c cX7_foresee 4 s _ AL RX7 := ⟨B.exec, B.bytes, hml, findClass_of_methodNamed B.named, fun w h => atoms_spec (ws := wsy yX7_foresee cX7_foresee 4 (some .int)) B.pre w (List.mem_cons_of_mem _ h)⟩
  have hr := B.returns
  have hlk := B.notSynchronized
  have hG : GA g ad σ true b s s.heap [] := GA_start hv
  have hl := lv_entry ([.ref (ad t), .int p0, .int p1]) (n := 4) (Nat.le_of_ble_eq_true rfl)
  rw [lg_entry_eq]
  generalize (lg_sl ([.ref (ad t), .int p0, .int p1]) ++ List.replicate (4 - (lg_sl ([.ref (ad t), .int p0, .int p1])).length) Slot.unset).toArray = ls at hl ⊢
  have hl : lv_has ls 4 [(0, .ref (ad t)), (1, .int p0), (2, .int p1)] := hl
  revert h
  unfold fn_X7_foresee
  refine v_aload_n S hl 0 rfl rfl dX7_foresee_0 ?_
  refine v_iconst S 0 dX7_foresee_1 rfl ?_
  refine pf_7_0 S hG q320 dX7_foresee_2 (fun σ1 H locs hG => ?_)
  refine v_iload_n S hl 1 rfl rfl dX7_foresee_5 ?_
  refine v_iconst S 1 dX7_foresee_6 rfl ?_
  refine v_sipush S 240 dX7_foresee_7 (by decide) ?_
  refine v_cS_iR S hG [.int p0, .int 1, .int 240] (met_X7_isIn l g ad true b σ1 p0 1 240) mw_X7_isIn q321 dX7_foresee_10 rfl rfl hl.1 (Nat.le_of_ble_eq_true rfl) ⟨Nat.le_of_ble_eq_true rfl, Nat.le_of_ble_eq_true rfl⟩ rfl rfl ⟨Nat.le_of_ble_eq_true rfl, Nat.le_of_ble_eq_true rfl⟩ (fun r2 H locs hG => ?_)
  refine v_if_ne S 22 dX7_foresee_13 (by decide) ?_ ?_
  · refine v_iload_n S hl 2 rfl rfl dX7_foresee_22 ?_
    refine v_iconst S 2 dX7_foresee_23 rfl ?_
    refine v_icmp_eq S 49 dX7_foresee_24 (by decide) ?_ ?_
    · refine v_aload_n S hl 0 rfl rfl dX7_foresee_49 ?_
      refine gr_7_10 S hG q475 dX7_foresee_50 (fun r3 => ?_)
      refine v_aload_n S hl 0 rfl rfl dX7_foresee_53 ?_
      refine gr_7_9 S hG q336 dX7_foresee_54 (fun r4 => ?_)
      refine v_cV_vm S hG [.ref (ad r4)] rfl rfl (by decide) (met_X6_become l g ad true b σ1 r3 r4) mw_X6_become q481 dX7_foresee_57 rfl rfl hl.1 (Nat.le_of_ble_eq_true rfl) ⟨Nat.le_of_ble_eq_true rfl, Nat.le_of_ble_eq_true rfl⟩ rfl rfl ⟨Nat.le_of_ble_eq_true rfl, Nat.le_of_ble_eq_true rfl⟩ (fun σ5 H locs hG => ?_)
      refine v_iconst S 0 dX7_foresee_60 rfl ?_
      refine v_istore_n S hl [(3, .int 0), (0, .ref (ad t)), (1, .int p0), (2, .int p1)] rfl dX7_foresee_61 (by decide) rfl (fun ls hl => ?_)
      refine wl_X7_foresee_62 S hr hlk t p0 p1 (fun x10 σ11 H locs ls hl hG => ?_) 242 0 σ5 _ _ ls (lv_sub hl [1, 2, 3, 0] rfl) hG
      refine v_aload_n S hl 0 rfl rfl dX7_foresee_82 ?_
      refine gr_7_10 S hG q475 dX7_foresee_83 (fun r12 => ?_)
      refine v_iload_n S hl 2 rfl rfl dX7_foresee_86 ?_
      refine v_cV_iR S hG [.int p1] rfl rfl (by decide) (met_X6_counted l g ad true b σ11 r12 p1) mw_X6_counted q440 dX7_foresee_87 rfl rfl hl.1 (Nat.le_of_ble_eq_true rfl) ⟨Nat.le_of_ble_eq_true rfl, Nat.le_of_ble_eq_true rfl⟩ rfl rfl ⟨Nat.le_of_ble_eq_true rfl, Nat.le_of_ble_eq_true rfl⟩ (fun r13 H locs hG => ?_)
      exact v_iretm S hG hr hlk (Nat.le_of_ble_eq_true rfl) (Nat.le_of_ble_eq_true rfl) dX7_foresee_90
    · refine v_iload_n S hl 2 rfl rfl dX7_foresee_27 ?_
      refine v_bipush S 8 dX7_foresee_28 (by decide) ?_
      refine v_icmp_eq S 49 dX7_foresee_30 (by decide) ?_ ?_
      · refine v_aload_n S hl 0 rfl rfl dX7_foresee_49 ?_
        refine gr_7_10 S hG q475 dX7_foresee_50 (fun r14 => ?_)
        refine v_aload_n S hl 0 rfl rfl dX7_foresee_53 ?_
        refine gr_7_9 S hG q336 dX7_foresee_54 (fun r15 => ?_)
        refine v_cV_vm S hG [.ref (ad r15)] rfl rfl (by decide) (met_X6_become l g ad true b σ1 r14 r15) mw_X6_become q481 dX7_foresee_57 rfl rfl hl.1 (Nat.le_of_ble_eq_true rfl) ⟨Nat.le_of_ble_eq_true rfl, Nat.le_of_ble_eq_true rfl⟩ rfl rfl ⟨Nat.le_of_ble_eq_true rfl, Nat.le_of_ble_eq_true rfl⟩ (fun σ16 H locs hG => ?_)
        refine v_iconst S 0 dX7_foresee_60 rfl ?_
        refine v_istore_n S hl [(3, .int 0), (0, .ref (ad t)), (1, .int p0), (2, .int p1)] rfl dX7_foresee_61 (by decide) rfl (fun ls hl => ?_)
        refine wl_X7_foresee_62 S hr hlk t p0 p1 (fun x17 σ18 H locs ls hl hG => ?_) 242 0 σ16 _ _ ls (lv_sub hl [1, 2, 3, 0] rfl) hG
        refine v_aload_n S hl 0 rfl rfl dX7_foresee_82 ?_
        refine gr_7_10 S hG q475 dX7_foresee_83 (fun r19 => ?_)
        refine v_iload_n S hl 2 rfl rfl dX7_foresee_86 ?_
        refine v_cV_iR S hG [.int p1] rfl rfl (by decide) (met_X6_counted l g ad true b σ18 r19 p1) mw_X6_counted q440 dX7_foresee_87 rfl rfl hl.1 (Nat.le_of_ble_eq_true rfl) ⟨Nat.le_of_ble_eq_true rfl, Nat.le_of_ble_eq_true rfl⟩ rfl rfl ⟨Nat.le_of_ble_eq_true rfl, Nat.le_of_ble_eq_true rfl⟩ (fun r20 H locs hG => ?_)
        exact v_iretm S hG hr hlk (Nat.le_of_ble_eq_true rfl) (Nat.le_of_ble_eq_true rfl) dX7_foresee_90
      · refine v_iload_n S hl 2 rfl rfl dX7_foresee_33 ?_
        refine v_iconst S 4 dX7_foresee_34 rfl ?_
        refine v_bipush S 6 dX7_foresee_35 (by decide) ?_
        refine v_cS_iR S hG [.int p1, .int 4, .int 6] (met_X7_isIn l g ad true b σ1 p1 4 6) mw_X7_isIn q321 dX7_foresee_37 rfl rfl hl.1 (Nat.le_of_ble_eq_true rfl) ⟨Nat.le_of_ble_eq_true rfl, Nat.le_of_ble_eq_true rfl⟩ rfl rfl ⟨Nat.le_of_ble_eq_true rfl, Nat.le_of_ble_eq_true rfl⟩ (fun r21 H locs hG => ?_)
        refine v_if_ne S 49 dX7_foresee_40 (by decide) ?_ ?_
        · refine v_aload_n S hl 0 rfl rfl dX7_foresee_49 ?_
          refine gr_7_10 S hG q475 dX7_foresee_50 (fun r22 => ?_)
          refine v_aload_n S hl 0 rfl rfl dX7_foresee_53 ?_
          refine gr_7_9 S hG q336 dX7_foresee_54 (fun r23 => ?_)
          refine v_cV_vm S hG [.ref (ad r23)] rfl rfl (by decide) (met_X6_become l g ad true b σ1 r22 r23) mw_X6_become q481 dX7_foresee_57 rfl rfl hl.1 (Nat.le_of_ble_eq_true rfl) ⟨Nat.le_of_ble_eq_true rfl, Nat.le_of_ble_eq_true rfl⟩ rfl rfl ⟨Nat.le_of_ble_eq_true rfl, Nat.le_of_ble_eq_true rfl⟩ (fun σ24 H locs hG => ?_)
          refine v_iconst S 0 dX7_foresee_60 rfl ?_
          refine v_istore_n S hl [(3, .int 0), (0, .ref (ad t)), (1, .int p0), (2, .int p1)] rfl dX7_foresee_61 (by decide) rfl (fun ls hl => ?_)
          refine wl_X7_foresee_62 S hr hlk t p0 p1 (fun x25 σ26 H locs ls hl hG => ?_) 242 0 σ24 _ _ ls (lv_sub hl [1, 2, 3, 0] rfl) hG
          refine v_aload_n S hl 0 rfl rfl dX7_foresee_82 ?_
          refine gr_7_10 S hG q475 dX7_foresee_83 (fun r27 => ?_)
          refine v_iload_n S hl 2 rfl rfl dX7_foresee_86 ?_
          refine v_cV_iR S hG [.int p1] rfl rfl (by decide) (met_X6_counted l g ad true b σ26 r27 p1) mw_X6_counted q440 dX7_foresee_87 rfl rfl hl.1 (Nat.le_of_ble_eq_true rfl) ⟨Nat.le_of_ble_eq_true rfl, Nat.le_of_ble_eq_true rfl⟩ rfl rfl ⟨Nat.le_of_ble_eq_true rfl, Nat.le_of_ble_eq_true rfl⟩ (fun r28 H locs hG => ?_)
          exact v_iretm S hG hr hlk (Nat.le_of_ble_eq_true rfl) (Nat.le_of_ble_eq_true rfl) dX7_foresee_90
        · refine v_aload_n S hl 0 rfl rfl dX7_foresee_43 ?_
          refine v_iconst S 2 dX7_foresee_44 rfl ?_
          refine v_cV_im S hG [.int 2] rfl rfl (by decide) (met_X7_no l g ad true b σ1 t 2) mw_X7_no q338 dX7_foresee_45 rfl rfl hl.1 (Nat.le_of_ble_eq_true rfl) ⟨Nat.le_of_ble_eq_true rfl, Nat.le_of_ble_eq_true rfl⟩ rfl rfl ⟨Nat.le_of_ble_eq_true rfl, Nat.le_of_ble_eq_true rfl⟩ (fun r29 σ30 H locs hG => ?_)
          exact v_iretm S hG hr hlk (Nat.le_of_ble_eq_true rfl) (Nat.le_of_ble_eq_true rfl) dX7_foresee_48
  · refine v_aload_n S hl 0 rfl rfl dX7_foresee_16 ?_
    refine v_iconst S 1 dX7_foresee_17 rfl ?_
    refine v_cV_im S hG [.int 1] rfl rfl (by decide) (met_X7_no l g ad true b σ1 t 1) mw_X7_no q338 dX7_foresee_18 rfl rfl hl.1 (Nat.le_of_ble_eq_true rfl) ⟨Nat.le_of_ble_eq_true rfl, Nat.le_of_ble_eq_true rfl⟩ rfl rfl ⟨Nat.le_of_ble_eq_true rfl, Nat.le_of_ble_eq_true rfl⟩ (fun r31 σ32 H locs hG => ?_)
    exact v_iretm S hG hr hlk (Nat.le_of_ble_eq_true rfl) (Nat.le_of_ble_eq_true rfl) dX7_foresee_21
set_option maxHeartbeats 4000000 in
set_option maxRecDepth 100000 in
theorem wl_X7_choose_31 {p : Program} {l : Launch} {e : Env} {s : State} {m : MethodId} {args : Array Value} {below : List Frame} {meth : Method} {c : Code} {g : GT} {ad : Nat → Nat} {b : Nat} (S : CallFix p m c cX7_choose 8 s args AL RX7) (hr : meth.sig.returnType = some .int) (hlk : meth.locks = false) (a0 : Nat) (a1 : Int32) (a2 : Int32) (a3 : Int32) {rr : Int32} {σr : Mem} {K : Int32 → Int32 → Int32 → Mem → Option (Int32 × Mem)} (kx : ∀ (y4 : Int32) (y5 : Int32) (y6 : Int32) (σ : Mem) (H : Heap) (locs : List Loc) (ls : Array Slot), lv_has ls 8 [(0, .ref (ad a0)), (1, .int a1), (2, .int a2), (3, .int a3), (4, .int y4), (5, .int y5), (6, .int y6)] → GA g ad σ true b s H locs → K y4 y5 y6 σ = some (rr, σr) → W p l e ({ frames := 5, cells := 0, slots := 0, locals := 117 } : Room) s m args below meth c H locs 0 0 (MQ below (va_Qi (fun (r' : Int32) (u : Mem) => r' = rr ∧ u = σr) (GW g ad) (AA g ad true b)) args s 0 0 (AA g ad true b)) (F0 m 104 ls [])) : ∀ (fuel : Nat) (y4 : Int32) (y5 : Int32) (y6 : Int32) (σ : Mem) (H : Heap) (locs : List Loc) (ls : Array Slot), lv_has ls 8 [(0, .ref (ad a0)), (1, .int a1), (2, .int a2), (3, .int a3), (4, .int y4), (5, .int y5), (6, .int y6)] → GA g ad σ true b s H locs → lp_X7_choose_31 a0 a1 a2 a3 K fuel y4 y5 y6 σ = some (rr, σr) → W p l e ({ frames := 5, cells := 0, slots := 0, locals := 117 } : Room) s m args below meth c H locs 0 0 (MQ below (va_Qi (fun (r' : Int32) (u : Mem) => r' = rr ∧ u = σr) (GW g ad) (AA g ad true b)) args s 0 0 (AA g ad true b)) (F0 m 31 ls []) := by
  intro fuel
  induction fuel with
  | zero =>
    intro y4 y5 y6 σ H locs ls hl hG h
    rw [lp_X7_choose_31.eq_1] at h
    cases h
  | succ fuel ih =>
    intro y4 y5 y6 σ H locs ls hl hG
    rw [lp_X7_choose_31.eq_2]
    refine v_iload S hl 6 rfl dX7_choose_31 ?_
    refine v_iconst S 4 dX7_choose_33 rfl ?_
    refine v_icmp_ge S 104 dX7_choose_34 (by decide) ?_ ?_
    · exact kx y4 y5 y6 σ _ _ ls (lv_sub hl [0, 1, 2, 3, 4, 5, 6] rfl) hG
    · refine v_aload_n S hl 0 rfl rfl dX7_choose_37 ?_
      refine gr_7_10 S hG q475 dX7_choose_38 (fun r3 => ?_)
      refine v_aload_n S hl 0 rfl rfl dX7_choose_41 ?_
      refine gr_7_9 S hG q336 dX7_choose_42 (fun r4 => ?_)
      refine v_cV_vm S hG [.ref (ad r4)] rfl rfl (by decide) (met_X6_become l g ad true b σ r3 r4) mw_X6_become q481 dX7_choose_45 rfl rfl hl.1 (Nat.le_of_ble_eq_true rfl) ⟨Nat.le_of_ble_eq_true rfl, Nat.le_of_ble_eq_true rfl⟩ rfl rfl ⟨Nat.le_of_ble_eq_true rfl, Nat.le_of_ble_eq_true rfl⟩ (fun σ5 H locs hG => ?_)
      refine v_aload_n S hl 0 rfl rfl dX7_choose_48 ?_
      refine v_aload_n S hl 0 rfl rfl dX7_choose_49 ?_
      refine gf_7_3 S hG q326 dX7_choose_50 ?_
      refine v_iload S hl 6 rfl dX7_choose_53 ?_
      refine v_iload_n S hl 1 rfl rfl dX7_choose_55 ?_
      refine v_iload_n S hl 2 rfl rfl dX7_choose_56 ?_
      refine v_iload_n S hl 3 rfl rfl dX7_choose_57 ?_
      refine v_cV_vm S hG [.int (σ5 a0 3), .int y6, .int a1, .int a2, .int a3] rfl rfl (by decide) (met_X7_tell l g ad true b σ5 a0 (σ5 a0 3) y6 a1 a2 a3) mw_X7_tell q402 dX7_choose_58 rfl rfl hl.1 (Nat.le_of_ble_eq_true rfl) ⟨Nat.le_of_ble_eq_true rfl, Nat.le_of_ble_eq_true rfl⟩ rfl rfl ⟨Nat.le_of_ble_eq_true rfl, Nat.le_of_ble_eq_true rfl⟩ (fun σ6 H locs hG => ?_)
      refine v_aload_n S hl 0 rfl rfl dX7_choose_61 ?_
      refine v_aload_n S hl 0 rfl rfl dX7_choose_62 ?_
      refine gr_7_10 S hG q475 dX7_choose_63 (fun r7 => ?_)
      refine v_cV_im S hG [] rfl rfl (by decide) (met_X6_come l g ad true b σ6 r7) mw_X6_come q406 dX7_choose_66 rfl rfl hl.1 (Nat.le_of_ble_eq_true rfl) ⟨Nat.le_of_ble_eq_true rfl, Nat.le_of_ble_eq_true rfl⟩ rfl rfl ⟨Nat.le_of_ble_eq_true rfl, Nat.le_of_ble_eq_true rfl⟩ (fun r8 σ9 H locs hG => ?_)
      refine v_cV_im S hG [.int r8] rfl rfl (by decide) (met_X7_endOf l g ad true b σ9 a0 r8) mw_X7_endOf q485 dX7_choose_69 rfl rfl hl.1 (Nat.le_of_ble_eq_true rfl) ⟨Nat.le_of_ble_eq_true rfl, Nat.le_of_ble_eq_true rfl⟩ rfl rfl ⟨Nat.le_of_ble_eq_true rfl, Nat.le_of_ble_eq_true rfl⟩ (fun r10 σ11 H locs hG => ?_)
      refine v_istore S hl [(7, .int r10), (0, .ref (ad a0)), (1, .int a1), (2, .int a2), (3, .int a3), (4, .int y4), (5, .int y5), (6, .int y6)] dX7_choose_72 (by decide) rfl (fun ls hl => ?_)
      refine v_iload S hl 0 rfl dX7_choose_74 ?_
      refine v_iconst S (-1) dX7_choose_76 rfl ?_
      refine v_icmp_eq S 98 dX7_choose_77 (by decide) ?_ ?_
      · refine v_iinc S hl 7 rfl dX7_choose_98 rfl (by decide) (fun z => [(6, .int z), (7, .int r10), (0, .ref (ad a0)), (1, .int a1), (2, .int a2), (3, .int a3), (4, .int y4), (5, .int y5)]) (fun _ => rfl) (fun x12 ls hl => ?_)
        refine v_goto S 31 dX7_choose_101 (by decide) ?_
        exact ih y4 y5 x12 σ11 _ _ ls (lv_sub hl [2, 3, 4, 5, 6, 7, 0] rfl) hG
      · refine v_iload S hl 0 rfl dX7_choose_80 ?_
        refine v_iload S hl 6 rfl dX7_choose_82 ?_
        refine v_icmp_lt S 90 dX7_choose_84 (by decide) ?_ ?_
        · refine v_iload S hl 0 rfl dX7_choose_90 ?_
          refine v_istore S hl [(5, .int r10), (7, .int r10), (0, .ref (ad a0)), (1, .int a1), (2, .int a2), (3, .int a3), (4, .int y4), (6, .int y6)] dX7_choose_92 (by decide) rfl (fun ls hl => ?_)
          refine v_iload S hl 7 rfl dX7_choose_94 ?_
          refine v_istore S hl [(4, .int y6), (5, .int r10), (7, .int r10), (0, .ref (ad a0)), (1, .int a1), (2, .int a2), (3, .int a3), (6, .int y6)] dX7_choose_96 (by decide) rfl (fun ls hl => ?_)
          refine v_iinc S hl 7 rfl dX7_choose_98 rfl (by decide) (fun z => [(6, .int z), (4, .int y6), (5, .int r10), (7, .int r10), (0, .ref (ad a0)), (1, .int a1), (2, .int a2), (3, .int a3)]) (fun _ => rfl) (fun x13 ls hl => ?_)
          refine v_goto S 31 dX7_choose_101 (by decide) ?_
          exact ih y6 r10 x13 σ11 _ _ ls (lv_sub hl [4, 5, 6, 7, 1, 2, 0] rfl) hG
        · refine v_goto S 98 dX7_choose_87 (by decide) ?_
          refine v_iinc S hl 7 rfl dX7_choose_98 rfl (by decide) (fun z => [(6, .int z), (7, .int r10), (0, .ref (ad a0)), (1, .int a1), (2, .int a2), (3, .int a3), (4, .int y4), (5, .int y5)]) (fun _ => rfl) (fun x14 ls hl => ?_)
          refine v_goto S 31 dX7_choose_101 (by decide) ?_
          exact ih y4 y5 x14 σ11 _ _ ls (lv_sub hl [2, 3, 4, 5, 6, 7, 0] rfl) hG
set_option maxHeartbeats 4000000 in
set_option maxRecDepth 100000 in
theorem met_X7_choose (l : Launch) (g : GT) (ad : Nat → Nat) (_ : Bool) (b : Nat) (σ : Mem) (t : Nat) (p0 : Int32) (p1 : Int32) (p2 : Int32) (rr : Int32) (σr : Mem) (h : fn_X7_choose σ t p0 p1 p2 = some (rr, σr)) : Met l yX7_choose (wsy yX7_choose cX7_choose 8 (some .int)) ({ frames := 5, cells := 0, slots := 0, locals := 117 } : Room) (va_Pc [.ref (ad t), .int p0, .int p1, .int p2] (PB g ad σ b)) (va_Qi (fun (r' : Int32) (u : Mem) => r' = rr ∧ u = σr) (GW g ad) (AA g ad true b)) 0 0 (AA g ad true b) := by
  refine Met.ofW (cc := cX7_choose) (maxL := 8) (ret := (some .int)) (by decide) rfl ?_
  intro p e s m args below meth c s₁ B hml hv
  obtain ⟨rfl, hv⟩ := hv
  have S : CallFix p m c cX7_choose 8 s _ AL RX7 := ⟨B.exec, B.bytes, hml, findClass_of_methodNamed B.named, fun w h => atoms_spec (ws := wsy yX7_choose cX7_choose 8 (some .int)) B.pre w (List.mem_cons_of_mem _ h)⟩
  have hr := B.returns
  have hlk := B.notSynchronized
  have hG : GA g ad σ true b s s.heap [] := GA_start hv
  have hl := lv_entry ([.ref (ad t), .int p0, .int p1, .int p2]) (n := 8) (Nat.le_of_ble_eq_true rfl)
  rw [lg_entry_eq]
  generalize (lg_sl ([.ref (ad t), .int p0, .int p1, .int p2]) ++ List.replicate (8 - (lg_sl ([.ref (ad t), .int p0, .int p1, .int p2])).length) Slot.unset).toArray = ls at hl ⊢
  have hl : lv_has ls 8 [(0, .ref (ad t)), (1, .int p0), (2, .int p1), (3, .int p2)] := hl
  revert h
  unfold fn_X7_choose
  refine v_aload_n S hl 0 rfl rfl dX7_choose_0 ?_
  refine v_iconst S 0 dX7_choose_1 rfl ?_
  refine pf_7_0 S hG q320 dX7_choose_2 (fun σ1 H locs hG => ?_)
  refine v_iload_n S hl 1 rfl rfl dX7_choose_5 ?_
  refine v_iload_n S hl 2 rfl rfl dX7_choose_6 ?_
  refine v_iload_n S hl 3 rfl rfl dX7_choose_7 ?_
  refine v_cS_iR S hG [.int p0, .int p1, .int p2] (met_X7_isKind l g ad true b σ1 p0 p1 p2) mw_X7_isKind q399 dX7_choose_8 rfl rfl hl.1 (Nat.le_of_ble_eq_true rfl) ⟨Nat.le_of_ble_eq_true rfl, Nat.le_of_ble_eq_true rfl⟩ rfl rfl ⟨Nat.le_of_ble_eq_true rfl, Nat.le_of_ble_eq_true rfl⟩ (fun r2 H locs hG => ?_)
  refine v_if_ne S 20 dX7_choose_11 (by decide) ?_ ?_
  · refine v_iconst S (-1) dX7_choose_20 rfl ?_
    refine v_istore S hl [(4, .int (-1)), (0, .ref (ad t)), (1, .int p0), (2, .int p1), (3, .int p2)] dX7_choose_21 (by decide) rfl (fun ls hl => ?_)
    refine v_sipush S 601 dX7_choose_23 (by decide) ?_
    refine v_istore S hl [(5, .int 601), (4, .int (-1)), (0, .ref (ad t)), (1, .int p0), (2, .int p1), (3, .int p2)] dX7_choose_26 (by decide) rfl (fun ls hl => ?_)
    refine v_iconst S 0 dX7_choose_28 rfl ?_
    refine v_istore S hl [(6, .int 0), (5, .int 601), (4, .int (-1)), (0, .ref (ad t)), (1, .int p0), (2, .int p1), (3, .int p2)] dX7_choose_29 (by decide) rfl (fun ls hl => ?_)
    refine wl_X7_choose_31 S hr hlk t p0 p1 p2 (fun x15 x16 x17 σ18 H locs ls hl hG => ?_) 30 (-1) 601 0 σ1 _ _ ls (lv_sub hl [3, 4, 5, 6, 2, 1, 0] rfl) hG
    refine v_iload S hl 4 rfl dX7_choose_104 ?_
    exact v_iretm S hG hr hlk (Nat.le_of_ble_eq_true rfl) (Nat.le_of_ble_eq_true rfl) dX7_choose_106
  · refine v_aload_n S hl 0 rfl rfl dX7_choose_14 ?_
    refine v_iconst S 1 dX7_choose_15 rfl ?_
    refine v_cV_im S hG [.int 1] rfl rfl (by decide) (met_X7_no l g ad true b σ1 t 1) mw_X7_no q338 dX7_choose_16 rfl rfl hl.1 (Nat.le_of_ble_eq_true rfl) ⟨Nat.le_of_ble_eq_true rfl, Nat.le_of_ble_eq_true rfl⟩ rfl rfl ⟨Nat.le_of_ble_eq_true rfl, Nat.le_of_ble_eq_true rfl⟩ (fun r19 σ20 H locs hG => ?_)
    exact v_iretm S hG hr hlk (Nat.le_of_ble_eq_true rfl) (Nat.le_of_ble_eq_true rfl) dX7_choose_19
set_option maxHeartbeats 4000000 in
set_option maxRecDepth 100000 in
theorem wl_X7_digest_11 {p : Program} {l : Launch} {e : Env} {s : State} {m : MethodId} {args : Array Value} {below : List Frame} {meth : Method} {c : Code} {g : GT} {ad : Nat → Nat} {b : Nat} (S : CallFix p m c cX7_digest 5 s args AL RX7) (hr : meth.sig.returnType = some .long) (hlk : meth.locks = false) (σ : Mem) (a0 : Nat) (cb sb : Nat) (hcb : cb + 10 * 1 ≤ 348) (hsb : sb + 10 * 9 ≤ 2820) {rr : Int64} {σr : Mem} {K : Int64 → Int32 → Option (Int64 × Mem)} (kx : ∀ (y1 : Int64) (y3 : Int32) (H : Heap) (locs : List Loc) (ls : Array Slot), lv_has ls 5 [(0, .ref (ad a0)), (1, .long y1), (3, .int y3)] → GA g ad σ true b s H locs → K y1 y3 = some (rr, σr) → W p l e ({ frames := 2, cells := 348, slots := 2820, locals := 46 } : Room) s m args below meth c H locs (cb + 10 * 1) (sb + 10 * 9) (MQ below (va_Ql (fun (r' : Int64) (u : Mem) => r' = rr ∧ u = σr) (GW g ad) (AA g ad true b)) args s 348 2820 (AA g ad true b)) (F0 m 39 ls [])) : ∀ (fuel : Nat) (hfu : fuel ≤ 10) (y1 : Int64) (y3 : Int32) (H : Heap) (locs : List Loc) (ls : Array Slot), lv_has ls 5 [(0, .ref (ad a0)), (1, .long y1), (3, .int y3)] → GA g ad σ true b s H locs → lp_X7_digest_11 σ a0 K fuel y1 y3 = some (rr, σr) → W p l e ({ frames := 2, cells := 348, slots := 2820, locals := 46 } : Room) s m args below meth c H locs (cb + (10 - fuel) * 1) (sb + (10 - fuel) * 9) (MQ below (va_Ql (fun (r' : Int64) (u : Mem) => r' = rr ∧ u = σr) (GW g ad) (AA g ad true b)) args s 348 2820 (AA g ad true b)) (F0 m 11 ls []) := by
  intro fuel
  induction fuel with
  | zero =>
    intro hfu y1 y3 H locs ls hl hG h
    rw [lp_X7_digest_11.eq_1] at h
    cases h
  | succ fuel ih =>
    intro hfu y1 y3 H locs ls hl hG
    rw [lp_X7_digest_11.eq_2]
    refine v_iload_n S hl 2 rfl rfl dX7_digest_11 ?_
    refine v_bipush S 8 dX7_digest_12 (by decide) ?_
    refine v_icmp_gt S 39 dX7_digest_14 (by decide) ?_ ?_
    · refine v_widen (k := cb + 10 * 1) (n := sb + 10 * 9) (by omega) (by omega) ?_
      exact kx y1 y3 _ _ ls (lv_sub hl [0, 1, 2] rfl) hG
    · refine v_lload_n S hl 1 rfl rfl dX7_digest_17 ?_
      refine v_ldc2 S 31 q490 dX7_digest_18 ?_
      refine v_lmul S dX7_digest_21 ?_
      refine v_aload_n S hl 0 rfl rfl dX7_digest_22 ?_
      refine gr_7_9 S hG q336 dX7_digest_23 (fun r2 => ?_)
      refine v_iload_n S hl 2 rfl rfl dX7_digest_26 ?_
      refine v_cV_iR S hG [.int y3] rfl rfl (by decide) (met_X6_counted l g ad true b σ r2 y3) mw_X6_counted q440 dX7_digest_27 rfl rfl hl.1 (Nat.le_of_ble_eq_true rfl) ⟨Nat.le_of_ble_eq_true rfl, Nat.le_of_ble_eq_true rfl⟩ rfl rfl ⟨(show (cb + (10 - (fuel + 1)) * 1) + 1 ≤ 348 by omega), (show (sb + (10 - (fuel + 1)) * 9) + 9 ≤ 2820 by omega)⟩ (fun r3 H locs hG => ?_)
      refine v_i2l S dX7_digest_30 ?_
      refine v_ladd S dX7_digest_31 ?_
      refine v_nml (fun x4 => ?_)
      refine v_lstore_n S hl [(1, .long x4), (0, .ref (ad a0)), (3, .int y3)] rfl dX7_digest_32 (by decide) rfl (fun ls hl => ?_)
      refine v_iinc S hl 2 rfl dX7_digest_33 rfl (by decide) (fun z => [(3, .int z), (1, .long x4), (0, .ref (ad a0))]) (fun _ => rfl) (fun x5 ls hl => ?_)
      refine v_goto S 11 dX7_digest_36 (by decide) ?_
      refine v_widen (k := cb + (10 - fuel) * 1) (n := sb + (10 - fuel) * 9) (by omega) (by omega) ?_
      exact ih (by omega) x4 x5 _ _ ls (lv_sub hl [2, 1, 0] rfl) hG
set_option maxHeartbeats 4000000 in
set_option maxRecDepth 100000 in
theorem wl_X7_digest_49 {p : Program} {l : Launch} {e : Env} {s : State} {m : MethodId} {args : Array Value} {below : List Frame} {meth : Method} {c : Code} {g : GT} {ad : Nat → Nat} {b : Nat} (S : CallFix p m c cX7_digest 5 s args AL RX7) (hr : meth.sig.returnType = some .long) (hlk : meth.locks = false) (σ : Mem) (a0 : Nat) (a3 : Int32) (cb sb : Nat) (hcb : cb + 10 * 1 ≤ 348) (hsb : sb + 10 * 9 ≤ 2820) {rr : Int64} {σr : Mem} {K : Int64 → Int32 → Option (Int64 × Mem)} (kx : ∀ (y1 : Int64) (y4 : Int32) (H : Heap) (locs : List Loc) (ls : Array Slot), lv_has ls 5 [(0, .ref (ad a0)), (1, .long y1), (3, .int a3), (4, .int y4)] → GA g ad σ true b s H locs → K y1 y4 = some (rr, σr) → W p l e ({ frames := 2, cells := 348, slots := 2820, locals := 46 } : Room) s m args below meth c H locs (cb + 10 * 1) (sb + 10 * 9) (MQ below (va_Ql (fun (r' : Int64) (u : Mem) => r' = rr ∧ u = σr) (GW g ad) (AA g ad true b)) args s 348 2820 (AA g ad true b)) (F0 m 77 ls [])) : ∀ (fuel : Nat) (hfu : fuel ≤ 10) (y1 : Int64) (y4 : Int32) (H : Heap) (locs : List Loc) (ls : Array Slot), lv_has ls 5 [(0, .ref (ad a0)), (1, .long y1), (3, .int a3), (4, .int y4)] → GA g ad σ true b s H locs → lp_X7_digest_49 σ a0 a3 K fuel y1 y4 = some (rr, σr) → W p l e ({ frames := 2, cells := 348, slots := 2820, locals := 46 } : Room) s m args below meth c H locs (cb + (10 - fuel) * 1) (sb + (10 - fuel) * 9) (MQ below (va_Ql (fun (r' : Int64) (u : Mem) => r' = rr ∧ u = σr) (GW g ad) (AA g ad true b)) args s 348 2820 (AA g ad true b)) (F0 m 49 ls []) := by
  intro fuel
  induction fuel with
  | zero =>
    intro hfu y1 y4 H locs ls hl hG h
    rw [lp_X7_digest_49.eq_1] at h
    cases h
  | succ fuel ih =>
    intro hfu y1 y4 H locs ls hl hG
    rw [lp_X7_digest_49.eq_2]
    refine v_iload S hl 3 rfl dX7_digest_49 ?_
    refine v_bipush S 8 dX7_digest_51 (by decide) ?_
    refine v_icmp_gt S 77 dX7_digest_53 (by decide) ?_ ?_
    · refine v_widen (k := cb + 10 * 1) (n := sb + 10 * 9) (by omega) (by omega) ?_
      exact kx y1 y4 _ _ ls (lv_sub hl [0, 1, 2, 3] rfl) hG
    · refine v_lload_n S hl 1 rfl rfl dX7_digest_56 ?_
      refine v_ldc2 S 31 q490 dX7_digest_57 ?_
      refine v_lmul S dX7_digest_60 ?_
      refine v_aload_n S hl 0 rfl rfl dX7_digest_61 ?_
      refine v_iload_n S hl 2 rfl rfl dX7_digest_62 ?_
      refine v_iload S hl 3 rfl dX7_digest_63 ?_
      refine v_cV_iR S hG [.int a3, .int y4] rfl rfl (by decide) (met_X7_bellTold l g ad true b σ a0 a3 y4) mw_X7_bellTold q375 dX7_digest_65 rfl rfl hl.1 (Nat.le_of_ble_eq_true rfl) ⟨Nat.le_of_ble_eq_true rfl, Nat.le_of_ble_eq_true rfl⟩ rfl rfl ⟨(show (cb + (10 - (fuel + 1)) * 1) + 1 ≤ 348 by omega), (show (sb + (10 - (fuel + 1)) * 9) + 9 ≤ 2820 by omega)⟩ (fun r8 H locs hG => ?_)
      refine v_i2l S dX7_digest_68 ?_
      refine v_ladd S dX7_digest_69 ?_
      refine v_nml (fun x9 => ?_)
      refine v_lstore_n S hl [(1, .long x9), (0, .ref (ad a0)), (3, .int a3), (4, .int y4)] rfl dX7_digest_70 (by decide) rfl (fun ls hl => ?_)
      refine v_iinc S hl 3 rfl dX7_digest_71 rfl (by decide) (fun z => [(4, .int z), (1, .long x9), (0, .ref (ad a0)), (3, .int a3)]) (fun _ => rfl) (fun x10 ls hl => ?_)
      refine v_goto S 49 dX7_digest_74 (by decide) ?_
      refine v_widen (k := cb + (10 - fuel) * 1) (n := sb + (10 - fuel) * 9) (by omega) (by omega) ?_
      exact ih (by omega) x9 x10 _ _ ls (lv_sub hl [2, 1, 3, 0] rfl) hG
set_option maxHeartbeats 4000000 in
set_option maxRecDepth 100000 in
theorem wl_X7_digest_80 {p : Program} {l : Launch} {e : Env} {s : State} {m : MethodId} {args : Array Value} {below : List Frame} {meth : Method} {c : Code} {g : GT} {ad : Nat → Nat} {b : Nat} (S : CallFix p m c cX7_digest 5 s args AL RX7) (hr : meth.sig.returnType = some .long) (hlk : meth.locks = false) (σ : Mem) (a0 : Nat) (a3 : Int32) (cb sb : Nat) (hcb : cb + 3 * 0 ≤ 348) (hsb : sb + 3 * 0 ≤ 2820) {rr : Int64} {σr : Mem} {K : Int64 → Int32 → Option (Int64 × Mem)} (kx : ∀ (y1 : Int64) (y4 : Int32) (H : Heap) (locs : List Loc) (ls : Array Slot), lv_has ls 5 [(0, .ref (ad a0)), (1, .long y1), (3, .int a3), (4, .int y4)] → GA g ad σ true b s H locs → K y1 y4 = some (rr, σr) → W p l e ({ frames := 2, cells := 348, slots := 2820, locals := 46 } : Room) s m args below meth c H locs (cb + 3 * 0) (sb + 3 * 0) (MQ below (va_Ql (fun (r' : Int64) (u : Mem) => r' = rr ∧ u = σr) (GW g ad) (AA g ad true b)) args s 348 2820 (AA g ad true b)) (F0 m 107 ls [])) : ∀ (fuel : Nat) (hfu : fuel ≤ 3) (y1 : Int64) (y4 : Int32) (H : Heap) (locs : List Loc) (ls : Array Slot), lv_has ls 5 [(0, .ref (ad a0)), (1, .long y1), (3, .int a3), (4, .int y4)] → GA g ad σ true b s H locs → lp_X7_digest_80 σ a0 a3 K fuel y1 y4 = some (rr, σr) → W p l e ({ frames := 2, cells := 348, slots := 2820, locals := 46 } : Room) s m args below meth c H locs (cb + (3 - fuel) * 0) (sb + (3 - fuel) * 0) (MQ below (va_Ql (fun (r' : Int64) (u : Mem) => r' = rr ∧ u = σr) (GW g ad) (AA g ad true b)) args s 348 2820 (AA g ad true b)) (F0 m 80 ls []) := by
  intro fuel
  induction fuel with
  | zero =>
    intro hfu y1 y4 H locs ls hl hG h
    rw [lp_X7_digest_80.eq_1] at h
    cases h
  | succ fuel ih =>
    intro hfu y1 y4 H locs ls hl hG
    rw [lp_X7_digest_80.eq_2]
    refine v_iload S hl 3 rfl dX7_digest_80 ?_
    refine v_iconst S 2 dX7_digest_82 rfl ?_
    refine v_icmp_ge S 107 dX7_digest_83 (by decide) ?_ ?_
    · refine v_widen (k := cb + 3 * 0) (n := sb + 3 * 0) (by omega) (by omega) ?_
      exact kx y1 y4 _ _ ls (lv_sub hl [0, 1, 2, 3] rfl) hG
    · refine v_lload_n S hl 1 rfl rfl dX7_digest_86 ?_
      refine v_ldc2 S 31 q490 dX7_digest_87 ?_
      refine v_lmul S dX7_digest_90 ?_
      refine v_aload_n S hl 0 rfl rfl dX7_digest_91 ?_
      refine v_iload_n S hl 2 rfl rfl dX7_digest_92 ?_
      refine v_iload S hl 3 rfl dX7_digest_93 ?_
      refine v_cV_iR S hG [.int a3, .int y4] rfl rfl (by decide) (met_X7_lastsOn l g ad true b σ a0 a3 y4) mw_X7_lastsOn q356 dX7_digest_95 rfl rfl hl.1 (Nat.le_of_ble_eq_true rfl) ⟨Nat.le_of_ble_eq_true rfl, Nat.le_of_ble_eq_true rfl⟩ rfl rfl ⟨(show (cb + (3 - (fuel + 1)) * 0) + 0 ≤ 348 by omega), (show (sb + (3 - (fuel + 1)) * 0) + 0 ≤ 2820 by omega)⟩ (fun r13 H locs hG => ?_)
      refine v_i2l S dX7_digest_98 ?_
      refine v_ladd S dX7_digest_99 ?_
      refine v_nml (fun x14 => ?_)
      refine v_lstore_n S hl [(1, .long x14), (0, .ref (ad a0)), (3, .int a3), (4, .int y4)] rfl dX7_digest_100 (by decide) rfl (fun ls hl => ?_)
      refine v_iinc S hl 3 rfl dX7_digest_101 rfl (by decide) (fun z => [(4, .int z), (1, .long x14), (0, .ref (ad a0)), (3, .int a3)]) (fun _ => rfl) (fun x15 ls hl => ?_)
      refine v_goto S 80 dX7_digest_104 (by decide) ?_
      refine v_widen (k := cb + (3 - fuel) * 0) (n := sb + (3 - fuel) * 0) (by omega) (by omega) ?_
      exact ih (by omega) x14 x15 _ _ ls (lv_sub hl [2, 1, 3, 0] rfl) hG
set_option maxHeartbeats 4000000 in
set_option maxRecDepth 100000 in
theorem wl_X7_digest_41 {p : Program} {l : Launch} {e : Env} {s : State} {m : MethodId} {args : Array Value} {below : List Frame} {meth : Method} {c : Code} {g : GT} {ad : Nat → Nat} {b : Nat} (S : CallFix p m c cX7_digest 5 s args AL RX7) (hr : meth.sig.returnType = some .long) (hlk : meth.locks = false) (σ : Mem) (a0 : Nat) (cb sb : Nat) (hcb : cb + 5 * 10 ≤ 348) (hsb : sb + 5 * 90 ≤ 2820) {rr : Int64} {σr : Mem} {K : Int64 → Int32 → Option (Int64 × Mem)} (kx : ∀ (y1 : Int64) (y3 : Int32) (H : Heap) (locs : List Loc) (ls : Array Slot), lv_has ls 5 [(0, .ref (ad a0)), (1, .long y1), (3, .int y3)] → GA g ad σ true b s H locs → K y1 y3 = some (rr, σr) → W p l e ({ frames := 2, cells := 348, slots := 2820, locals := 46 } : Room) s m args below meth c H locs (cb + 5 * 10) (sb + 5 * 90) (MQ below (va_Ql (fun (r' : Int64) (u : Mem) => r' = rr ∧ u = σr) (GW g ad) (AA g ad true b)) args s 348 2820 (AA g ad true b)) (F0 m 113 ls [])) : ∀ (fuel : Nat) (hfu : fuel ≤ 5) (y1 : Int64) (y3 : Int32) (H : Heap) (locs : List Loc) (ls : Array Slot), lv_has ls 5 [(0, .ref (ad a0)), (1, .long y1), (3, .int y3)] → GA g ad σ true b s H locs → lp_X7_digest_41 σ a0 K fuel y1 y3 = some (rr, σr) → W p l e ({ frames := 2, cells := 348, slots := 2820, locals := 46 } : Room) s m args below meth c H locs (cb + (5 - fuel) * 10) (sb + (5 - fuel) * 90) (MQ below (va_Ql (fun (r' : Int64) (u : Mem) => r' = rr ∧ u = σr) (GW g ad) (AA g ad true b)) args s 348 2820 (AA g ad true b)) (F0 m 41 ls []) := by
  intro fuel
  induction fuel with
  | zero =>
    intro hfu y1 y3 H locs ls hl hG h
    rw [lp_X7_digest_41.eq_1] at h
    cases h
  | succ fuel ih =>
    intro hfu y1 y3 H locs ls hl hG
    rw [lp_X7_digest_41.eq_2]
    refine v_iload_n S hl 2 rfl rfl dX7_digest_41 ?_
    refine v_iconst S 4 dX7_digest_42 rfl ?_
    refine v_icmp_ge S 113 dX7_digest_43 (by decide) ?_ ?_
    · refine v_widen (k := cb + 5 * 10) (n := sb + 5 * 90) (by omega) (by omega) ?_
      exact kx y1 y3 _ _ ls (lv_sub hl [0, 1, 2] rfl) hG
    · refine v_iconst S 0 dX7_digest_46 rfl ?_
      refine v_istore S hl [(4, .int 0), (0, .ref (ad a0)), (1, .long y1), (3, .int y3)] dX7_digest_47 (by decide) rfl (fun ls hl => ?_)
      refine v_widen (k := (cb + (5 - (fuel + 1)) * 10) + (10 - 10) * 1) (n := (sb + (5 - (fuel + 1)) * 90) + (10 - 10) * 9) (by omega) (by omega) ?_
      refine wl_X7_digest_49 S hr hlk σ a0 y3 ((cb + (5 - (fuel + 1)) * 10)) ((sb + (5 - (fuel + 1)) * 90)) (show (cb + (5 - (fuel + 1)) * 10) + 10 * 1 ≤ 348 by omega) (show (sb + (5 - (fuel + 1)) * 90) + 10 * 9 ≤ 2820 by omega) (fun x11 x12 H locs ls hl hG => ?_) 10 (Nat.le_refl _) y1 0 _ _ ls (lv_sub hl [1, 2, 3, 0] rfl) hG
      refine v_iconst S 0 dX7_digest_77 rfl ?_
      refine v_istore S hl [(4, .int 0), (0, .ref (ad a0)), (1, .long x11), (3, .int y3)] dX7_digest_78 (by decide) rfl (fun ls hl => ?_)
      refine v_widen (k := ((cb + (5 - (fuel + 1)) * 10) + 10 * 1) + (3 - 3) * 0) (n := ((sb + (5 - (fuel + 1)) * 90) + 10 * 9) + (3 - 3) * 0) (by omega) (by omega) ?_
      refine wl_X7_digest_80 S hr hlk σ a0 y3 (((cb + (5 - (fuel + 1)) * 10) + 10 * 1)) (((sb + (5 - (fuel + 1)) * 90) + 10 * 9)) (show ((cb + (5 - (fuel + 1)) * 10) + 10 * 1) + 3 * 0 ≤ 348 by omega) (show ((sb + (5 - (fuel + 1)) * 90) + 10 * 9) + 3 * 0 ≤ 2820 by omega) (fun x16 x17 H locs ls hl hG => ?_) 3 (Nat.le_refl _) x11 0 _ _ ls (lv_sub hl [1, 2, 3, 0] rfl) hG
      refine v_iinc S hl 2 rfl dX7_digest_107 rfl (by decide) (fun z => [(3, .int z), (0, .ref (ad a0)), (1, .long x16), (4, .int x17)]) (fun _ => rfl) (fun x18 ls hl => ?_)
      refine v_goto S 41 dX7_digest_110 (by decide) ?_
      refine v_widen (k := cb + (5 - fuel) * 10) (n := sb + (5 - fuel) * 90) (by omega) (by omega) ?_
      exact ih (by omega) x16 x18 _ _ ls (lv_sub hl [1, 2, 0] rfl) hG
set_option maxHeartbeats 4000000 in
set_option maxRecDepth 100000 in
theorem wl_X7_digest_126 {p : Program} {l : Launch} {e : Env} {s : State} {m : MethodId} {args : Array Value} {below : List Frame} {meth : Method} {c : Code} {g : GT} {ad : Nat → Nat} {b : Nat} (S : CallFix p m c cX7_digest 5 s args AL RX7) (hr : meth.sig.returnType = some .long) (hlk : meth.locks = false) (σ : Mem) (a0 : Nat) (a3 : Int32) (cb sb : Nat) (hcb : cb + 6 * 1 ≤ 348) (hsb : sb + 6 * 5 ≤ 2820) {rr : Int64} {σr : Mem} {K : Int64 → Int32 → Option (Int64 × Mem)} (kx : ∀ (y1 : Int64) (y4 : Int32) (H : Heap) (locs : List Loc) (ls : Array Slot), lv_has ls 5 [(0, .ref (ad a0)), (1, .long y1), (3, .int a3), (4, .int y4)] → GA g ad σ true b s H locs → K y1 y4 = some (rr, σr) → W p l e ({ frames := 2, cells := 348, slots := 2820, locals := 46 } : Room) s m args below meth c H locs (cb + 6 * 1) (sb + 6 * 5) (MQ below (va_Ql (fun (r' : Int64) (u : Mem) => r' = rr ∧ u = σr) (GW g ad) (AA g ad true b)) args s 348 2820 (AA g ad true b)) (F0 m 153 ls [])) : ∀ (fuel : Nat) (hfu : fuel ≤ 6) (y1 : Int64) (y4 : Int32) (H : Heap) (locs : List Loc) (ls : Array Slot), lv_has ls 5 [(0, .ref (ad a0)), (1, .long y1), (3, .int a3), (4, .int y4)] → GA g ad σ true b s H locs → lp_X7_digest_126 σ a0 a3 K fuel y1 y4 = some (rr, σr) → W p l e ({ frames := 2, cells := 348, slots := 2820, locals := 46 } : Room) s m args below meth c H locs (cb + (6 - fuel) * 1) (sb + (6 - fuel) * 5) (MQ below (va_Ql (fun (r' : Int64) (u : Mem) => r' = rr ∧ u = σr) (GW g ad) (AA g ad true b)) args s 348 2820 (AA g ad true b)) (F0 m 126 ls []) := by
  intro fuel
  induction fuel with
  | zero =>
    intro hfu y1 y4 H locs ls hl hG h
    rw [lp_X7_digest_126.eq_1] at h
    cases h
  | succ fuel ih =>
    intro hfu y1 y4 H locs ls hl hG
    rw [lp_X7_digest_126.eq_2]
    refine v_iload S hl 3 rfl dX7_digest_126 ?_
    refine v_iconst S 4 dX7_digest_128 rfl ?_
    refine v_icmp_gt S 153 dX7_digest_129 (by decide) ?_ ?_
    · refine v_widen (k := cb + 6 * 1) (n := sb + 6 * 5) (by omega) (by omega) ?_
      exact kx y1 y4 _ _ ls (lv_sub hl [0, 1, 2, 3] rfl) hG
    · refine v_lload_n S hl 1 rfl rfl dX7_digest_132 ?_
      refine v_ldc2 S 31 q490 dX7_digest_133 ?_
      refine v_lmul S dX7_digest_136 ?_
      refine v_aload_n S hl 0 rfl rfl dX7_digest_137 ?_
      refine v_iload_n S hl 2 rfl rfl dX7_digest_138 ?_
      refine v_iload S hl 3 rfl dX7_digest_139 ?_
      refine v_cV_iR S hG [.int a3, .int y4] rfl rfl (by decide) (met_X7_ringerTold l g ad true b σ a0 a3 y4) mw_X7_ringerTold q392 dX7_digest_141 rfl rfl hl.1 (Nat.le_of_ble_eq_true rfl) ⟨Nat.le_of_ble_eq_true rfl, Nat.le_of_ble_eq_true rfl⟩ rfl rfl ⟨(show (cb + (6 - (fuel + 1)) * 1) + 1 ≤ 348 by omega), (show (sb + (6 - (fuel + 1)) * 5) + 5 ≤ 2820 by omega)⟩ (fun r21 H locs hG => ?_)
      refine v_i2l S dX7_digest_144 ?_
      refine v_ladd S dX7_digest_145 ?_
      refine v_nml (fun x22 => ?_)
      refine v_lstore_n S hl [(1, .long x22), (0, .ref (ad a0)), (3, .int a3), (4, .int y4)] rfl dX7_digest_146 (by decide) rfl (fun ls hl => ?_)
      refine v_iinc S hl 3 rfl dX7_digest_147 rfl (by decide) (fun z => [(4, .int z), (1, .long x22), (0, .ref (ad a0)), (3, .int a3)]) (fun _ => rfl) (fun x23 ls hl => ?_)
      refine v_goto S 126 dX7_digest_150 (by decide) ?_
      refine v_widen (k := cb + (6 - fuel) * 1) (n := sb + (6 - fuel) * 5) (by omega) (by omega) ?_
      exact ih (by omega) x22 x23 _ _ ls (lv_sub hl [2, 1, 3, 0] rfl) hG
set_option maxHeartbeats 4000000 in
set_option maxRecDepth 100000 in
theorem wl_X7_digest_115 {p : Program} {l : Launch} {e : Env} {s : State} {m : MethodId} {args : Array Value} {below : List Frame} {meth : Method} {c : Code} {g : GT} {ad : Nat → Nat} {b : Nat} (S : CallFix p m c cX7_digest 5 s args AL RX7) (hr : meth.sig.returnType = some .long) (hlk : meth.locks = false) (σ : Mem) (a0 : Nat) (cb sb : Nat) (hcb : cb + 13 * 6 ≤ 348) (hsb : sb + 13 * 30 ≤ 2820) {rr : Int64} {σr : Mem} {K : Int64 → Int32 → Option (Int64 × Mem)} (kx : ∀ (y1 : Int64) (y3 : Int32) (H : Heap) (locs : List Loc) (ls : Array Slot), lv_has ls 5 [(0, .ref (ad a0)), (1, .long y1), (3, .int y3)] → GA g ad σ true b s H locs → K y1 y3 = some (rr, σr) → W p l e ({ frames := 2, cells := 348, slots := 2820, locals := 46 } : Room) s m args below meth c H locs (cb + 13 * 6) (sb + 13 * 30) (MQ below (va_Ql (fun (r' : Int64) (u : Mem) => r' = rr ∧ u = σr) (GW g ad) (AA g ad true b)) args s 348 2820 (AA g ad true b)) (F0 m 159 ls [])) : ∀ (fuel : Nat) (hfu : fuel ≤ 13) (y1 : Int64) (y3 : Int32) (H : Heap) (locs : List Loc) (ls : Array Slot), lv_has ls 5 [(0, .ref (ad a0)), (1, .long y1), (3, .int y3)] → GA g ad σ true b s H locs → lp_X7_digest_115 σ a0 K fuel y1 y3 = some (rr, σr) → W p l e ({ frames := 2, cells := 348, slots := 2820, locals := 46 } : Room) s m args below meth c H locs (cb + (13 - fuel) * 6) (sb + (13 - fuel) * 30) (MQ below (va_Ql (fun (r' : Int64) (u : Mem) => r' = rr ∧ u = σr) (GW g ad) (AA g ad true b)) args s 348 2820 (AA g ad true b)) (F0 m 115 ls []) := by
  intro fuel
  induction fuel with
  | zero =>
    intro hfu y1 y3 H locs ls hl hG h
    rw [lp_X7_digest_115.eq_1] at h
    cases h
  | succ fuel ih =>
    intro hfu y1 y3 H locs ls hl hG
    rw [lp_X7_digest_115.eq_2]
    refine v_iload_n S hl 2 rfl rfl dX7_digest_115 ?_
    refine v_aload_n S hl 0 rfl rfl dX7_digest_116 ?_
    refine gf_7_1 S hG q325 dX7_digest_117 ?_
    refine v_icmp_ge S 159 dX7_digest_120 (by decide) ?_ ?_
    · refine v_widen (k := cb + 13 * 6) (n := sb + 13 * 30) (by omega) (by omega) ?_
      exact kx y1 y3 _ _ ls (lv_sub hl [0, 1, 2] rfl) hG
    · refine v_iconst S 0 dX7_digest_123 rfl ?_
      refine v_istore S hl [(4, .int 0), (0, .ref (ad a0)), (1, .long y1), (3, .int y3)] dX7_digest_124 (by decide) rfl (fun ls hl => ?_)
      refine v_widen (k := (cb + (13 - (fuel + 1)) * 6) + (6 - 6) * 1) (n := (sb + (13 - (fuel + 1)) * 30) + (6 - 6) * 5) (by omega) (by omega) ?_
      refine wl_X7_digest_126 S hr hlk σ a0 y3 ((cb + (13 - (fuel + 1)) * 6)) ((sb + (13 - (fuel + 1)) * 30)) (show (cb + (13 - (fuel + 1)) * 6) + 6 * 1 ≤ 348 by omega) (show (sb + (13 - (fuel + 1)) * 30) + 6 * 5 ≤ 2820 by omega) (fun x24 x25 H locs ls hl hG => ?_) 6 (Nat.le_refl _) y1 0 _ _ ls (lv_sub hl [1, 2, 3, 0] rfl) hG
      refine v_iinc S hl 2 rfl dX7_digest_153 rfl (by decide) (fun z => [(3, .int z), (0, .ref (ad a0)), (1, .long x24), (4, .int x25)]) (fun _ => rfl) (fun x26 ls hl => ?_)
      refine v_goto S 115 dX7_digest_156 (by decide) ?_
      refine v_widen (k := cb + (13 - fuel) * 6) (n := sb + (13 - fuel) * 30) (by omega) (by omega) ?_
      exact ih (by omega) x24 x26 _ _ ls (lv_sub hl [1, 2, 0] rfl) hG
set_option maxHeartbeats 4000000 in
set_option maxRecDepth 100000 in
theorem wl_X7_digest_172 {p : Program} {l : Launch} {e : Env} {s : State} {m : MethodId} {args : Array Value} {below : List Frame} {meth : Method} {c : Code} {g : GT} {ad : Nat → Nat} {b : Nat} (S : CallFix p m c cX7_digest 5 s args AL RX7) (hr : meth.sig.returnType = some .long) (hlk : meth.locks = false) (σ : Mem) (a0 : Nat) (a3 : Int32) (cb sb : Nat) (hcb : cb + 10 * 1 ≤ 348) (hsb : sb + 10 * 9 ≤ 2820) {rr : Int64} {σr : Mem} {K : Int64 → Int32 → Option (Int64 × Mem)} (kx : ∀ (y1 : Int64) (y4 : Int32) (H : Heap) (locs : List Loc) (ls : Array Slot), lv_has ls 5 [(0, .ref (ad a0)), (1, .long y1), (3, .int a3), (4, .int y4)] → GA g ad σ true b s H locs → K y1 y4 = some (rr, σr) → W p l e ({ frames := 2, cells := 348, slots := 2820, locals := 46 } : Room) s m args below meth c H locs (cb + 10 * 1) (sb + 10 * 9) (MQ below (va_Ql (fun (r' : Int64) (u : Mem) => r' = rr ∧ u = σr) (GW g ad) (AA g ad true b)) args s 348 2820 (AA g ad true b)) (F0 m 200 ls [])) : ∀ (fuel : Nat) (hfu : fuel ≤ 10) (y1 : Int64) (y4 : Int32) (H : Heap) (locs : List Loc) (ls : Array Slot), lv_has ls 5 [(0, .ref (ad a0)), (1, .long y1), (3, .int a3), (4, .int y4)] → GA g ad σ true b s H locs → lp_X7_digest_172 σ a0 a3 K fuel y1 y4 = some (rr, σr) → W p l e ({ frames := 2, cells := 348, slots := 2820, locals := 46 } : Room) s m args below meth c H locs (cb + (10 - fuel) * 1) (sb + (10 - fuel) * 9) (MQ below (va_Ql (fun (r' : Int64) (u : Mem) => r' = rr ∧ u = σr) (GW g ad) (AA g ad true b)) args s 348 2820 (AA g ad true b)) (F0 m 172 ls []) := by
  intro fuel
  induction fuel with
  | zero =>
    intro hfu y1 y4 H locs ls hl hG h
    rw [lp_X7_digest_172.eq_1] at h
    cases h
  | succ fuel ih =>
    intro hfu y1 y4 H locs ls hl hG
    rw [lp_X7_digest_172.eq_2]
    refine v_iload S hl 3 rfl dX7_digest_172 ?_
    refine v_bipush S 8 dX7_digest_174 (by decide) ?_
    refine v_icmp_gt S 200 dX7_digest_176 (by decide) ?_ ?_
    · refine v_widen (k := cb + 10 * 1) (n := sb + 10 * 9) (by omega) (by omega) ?_
      exact kx y1 y4 _ _ ls (lv_sub hl [0, 1, 2, 3] rfl) hG
    · refine v_lload_n S hl 1 rfl rfl dX7_digest_179 ?_
      refine v_ldc2 S 31 q490 dX7_digest_180 ?_
      refine v_lmul S dX7_digest_183 ?_
      refine v_aload_n S hl 0 rfl rfl dX7_digest_184 ?_
      refine v_iload_n S hl 2 rfl rfl dX7_digest_185 ?_
      refine v_iload S hl 3 rfl dX7_digest_186 ?_
      refine v_cV_iR S hG [.int a3, .int y4] rfl rfl (by decide) (met_X7_tollTold l g ad true b σ a0 a3 y4) mw_X7_tollTold q428 dX7_digest_188 rfl rfl hl.1 (Nat.le_of_ble_eq_true rfl) ⟨Nat.le_of_ble_eq_true rfl, Nat.le_of_ble_eq_true rfl⟩ rfl rfl ⟨(show (cb + (10 - (fuel + 1)) * 1) + 1 ≤ 348 by omega), (show (sb + (10 - (fuel + 1)) * 9) + 9 ≤ 2820 by omega)⟩ (fun r29 H locs hG => ?_)
      refine v_i2l S dX7_digest_191 ?_
      refine v_ladd S dX7_digest_192 ?_
      refine v_nml (fun x30 => ?_)
      refine v_lstore_n S hl [(1, .long x30), (0, .ref (ad a0)), (3, .int a3), (4, .int y4)] rfl dX7_digest_193 (by decide) rfl (fun ls hl => ?_)
      refine v_iinc S hl 3 rfl dX7_digest_194 rfl (by decide) (fun z => [(4, .int z), (1, .long x30), (0, .ref (ad a0)), (3, .int a3)]) (fun _ => rfl) (fun x31 ls hl => ?_)
      refine v_goto S 172 dX7_digest_197 (by decide) ?_
      refine v_widen (k := cb + (10 - fuel) * 1) (n := sb + (10 - fuel) * 9) (by omega) (by omega) ?_
      exact ih (by omega) x30 x31 _ _ ls (lv_sub hl [2, 1, 3, 0] rfl) hG
set_option maxHeartbeats 4000000 in
set_option maxRecDepth 100000 in
theorem wl_X7_digest_204 {p : Program} {l : Launch} {e : Env} {s : State} {m : MethodId} {args : Array Value} {below : List Frame} {meth : Method} {c : Code} {g : GT} {ad : Nat → Nat} {b : Nat} (S : CallFix p m c cX7_digest 5 s args AL RX7) (hr : meth.sig.returnType = some .long) (hlk : meth.locks = false) (σ : Mem) (a0 : Nat) (a3 : Int32) (cb sb : Nat) (hcb : cb + 10 * 0 ≤ 348) (hsb : sb + 10 * 0 ≤ 2820) {rr : Int64} {σr : Mem} {K : Int64 → Int32 → Option (Int64 × Mem)} (kx : ∀ (y1 : Int64) (y4 : Int32) (H : Heap) (locs : List Loc) (ls : Array Slot), lv_has ls 5 [(0, .ref (ad a0)), (1, .long y1), (3, .int a3), (4, .int y4)] → GA g ad σ true b s H locs → K y1 y4 = some (rr, σr) → W p l e ({ frames := 2, cells := 348, slots := 2820, locals := 46 } : Room) s m args below meth c H locs (cb + 10 * 0) (sb + 10 * 0) (MQ below (va_Ql (fun (r' : Int64) (u : Mem) => r' = rr ∧ u = σr) (GW g ad) (AA g ad true b)) args s 348 2820 (AA g ad true b)) (F0 m 232 ls [])) : ∀ (fuel : Nat) (hfu : fuel ≤ 10) (y1 : Int64) (y4 : Int32) (H : Heap) (locs : List Loc) (ls : Array Slot), lv_has ls 5 [(0, .ref (ad a0)), (1, .long y1), (3, .int a3), (4, .int y4)] → GA g ad σ true b s H locs → lp_X7_digest_204 σ a0 a3 K fuel y1 y4 = some (rr, σr) → W p l e ({ frames := 2, cells := 348, slots := 2820, locals := 46 } : Room) s m args below meth c H locs (cb + (10 - fuel) * 0) (sb + (10 - fuel) * 0) (MQ below (va_Ql (fun (r' : Int64) (u : Mem) => r' = rr ∧ u = σr) (GW g ad) (AA g ad true b)) args s 348 2820 (AA g ad true b)) (F0 m 204 ls []) := by
  intro fuel
  induction fuel with
  | zero =>
    intro hfu y1 y4 H locs ls hl hG h
    rw [lp_X7_digest_204.eq_1] at h
    cases h
  | succ fuel ih =>
    intro hfu y1 y4 H locs ls hl hG
    rw [lp_X7_digest_204.eq_2]
    refine v_iload S hl 3 rfl dX7_digest_204 ?_
    refine v_bipush S 90 dX7_digest_206 (by decide) ?_
    refine v_icmp_gt S 232 dX7_digest_208 (by decide) ?_ ?_
    · refine v_widen (k := cb + 10 * 0) (n := sb + 10 * 0) (by omega) (by omega) ?_
      exact kx y1 y4 _ _ ls (lv_sub hl [0, 1, 2, 3] rfl) hG
    · refine v_lload_n S hl 1 rfl rfl dX7_digest_211 ?_
      refine v_ldc2 S 31 q490 dX7_digest_212 ?_
      refine v_lmul S dX7_digest_215 ?_
      refine v_aload_n S hl 0 rfl rfl dX7_digest_216 ?_
      refine v_iload_n S hl 2 rfl rfl dX7_digest_217 ?_
      refine v_iload S hl 3 rfl dX7_digest_218 ?_
      refine v_cV_iR S hG [.int a3, .int y4] rfl rfl (by decide) (met_X7_heardOf l g ad true b σ a0 a3 y4) mw_X7_heardOf q433 dX7_digest_220 rfl rfl hl.1 (Nat.le_of_ble_eq_true rfl) ⟨Nat.le_of_ble_eq_true rfl, Nat.le_of_ble_eq_true rfl⟩ rfl rfl ⟨(show (cb + (10 - (fuel + 1)) * 0) + 0 ≤ 348 by omega), (show (sb + (10 - (fuel + 1)) * 0) + 0 ≤ 2820 by omega)⟩ (fun r34 H locs hG => ?_)
      refine v_i2l S dX7_digest_223 ?_
      refine v_ladd S dX7_digest_224 ?_
      refine v_nml (fun x35 => ?_)
      refine v_lstore_n S hl [(1, .long x35), (0, .ref (ad a0)), (3, .int a3), (4, .int y4)] rfl dX7_digest_225 (by decide) rfl (fun ls hl => ?_)
      refine v_iinc S hl 3 rfl dX7_digest_226 rfl (by decide) (fun z => [(4, .int z), (1, .long x35), (0, .ref (ad a0)), (3, .int a3)]) (fun _ => rfl) (fun x36 ls hl => ?_)
      refine v_goto S 204 dX7_digest_229 (by decide) ?_
      refine v_widen (k := cb + (10 - fuel) * 0) (n := sb + (10 - fuel) * 0) (by omega) (by omega) ?_
      exact ih (by omega) x35 x36 _ _ ls (lv_sub hl [2, 1, 3, 0] rfl) hG
set_option maxHeartbeats 4000000 in
set_option maxRecDepth 100000 in
theorem wl_X7_digest_161 {p : Program} {l : Launch} {e : Env} {s : State} {m : MethodId} {args : Array Value} {below : List Frame} {meth : Method} {c : Code} {g : GT} {ad : Nat → Nat} {b : Nat} (S : CallFix p m c cX7_digest 5 s args AL RX7) (hr : meth.sig.returnType = some .long) (hlk : meth.locks = false) (σ : Mem) (a0 : Nat) (cb sb : Nat) (hcb : cb + 21 * 10 ≤ 348) (hsb : sb + 21 * 90 ≤ 2820) {rr : Int64} {σr : Mem} {K : Int64 → Int32 → Option (Int64 × Mem)} (kx : ∀ (y1 : Int64) (y3 : Int32) (H : Heap) (locs : List Loc) (ls : Array Slot), lv_has ls 5 [(0, .ref (ad a0)), (1, .long y1), (3, .int y3)] → GA g ad σ true b s H locs → K y1 y3 = some (rr, σr) → W p l e ({ frames := 2, cells := 348, slots := 2820, locals := 46 } : Room) s m args below meth c H locs (cb + 21 * 10) (sb + 21 * 90) (MQ below (va_Ql (fun (r' : Int64) (u : Mem) => r' = rr ∧ u = σr) (GW g ad) (AA g ad true b)) args s 348 2820 (AA g ad true b)) (F0 m 238 ls [])) : ∀ (fuel : Nat) (hfu : fuel ≤ 21) (y1 : Int64) (y3 : Int32) (H : Heap) (locs : List Loc) (ls : Array Slot), lv_has ls 5 [(0, .ref (ad a0)), (1, .long y1), (3, .int y3)] → GA g ad σ true b s H locs → lp_X7_digest_161 σ a0 K fuel y1 y3 = some (rr, σr) → W p l e ({ frames := 2, cells := 348, slots := 2820, locals := 46 } : Room) s m args below meth c H locs (cb + (21 - fuel) * 10) (sb + (21 - fuel) * 90) (MQ below (va_Ql (fun (r' : Int64) (u : Mem) => r' = rr ∧ u = σr) (GW g ad) (AA g ad true b)) args s 348 2820 (AA g ad true b)) (F0 m 161 ls []) := by
  intro fuel
  induction fuel with
  | zero =>
    intro hfu y1 y3 H locs ls hl hG h
    rw [lp_X7_digest_161.eq_1] at h
    cases h
  | succ fuel ih =>
    intro hfu y1 y3 H locs ls hl hG
    rw [lp_X7_digest_161.eq_2]
    refine v_iload_n S hl 2 rfl rfl dX7_digest_161 ?_
    refine v_aload_n S hl 0 rfl rfl dX7_digest_162 ?_
    refine gf_7_3 S hG q326 dX7_digest_163 ?_
    refine v_icmp_ge S 238 dX7_digest_166 (by decide) ?_ ?_
    · refine v_widen (k := cb + 21 * 10) (n := sb + 21 * 90) (by omega) (by omega) ?_
      exact kx y1 y3 _ _ ls (lv_sub hl [0, 1, 2] rfl) hG
    · refine v_iconst S 0 dX7_digest_169 rfl ?_
      refine v_istore S hl [(4, .int 0), (0, .ref (ad a0)), (1, .long y1), (3, .int y3)] dX7_digest_170 (by decide) rfl (fun ls hl => ?_)
      refine v_widen (k := (cb + (21 - (fuel + 1)) * 10) + (10 - 10) * 1) (n := (sb + (21 - (fuel + 1)) * 90) + (10 - 10) * 9) (by omega) (by omega) ?_
      refine wl_X7_digest_172 S hr hlk σ a0 y3 ((cb + (21 - (fuel + 1)) * 10)) ((sb + (21 - (fuel + 1)) * 90)) (show (cb + (21 - (fuel + 1)) * 10) + 10 * 1 ≤ 348 by omega) (show (sb + (21 - (fuel + 1)) * 90) + 10 * 9 ≤ 2820 by omega) (fun x32 x33 H locs ls hl hG => ?_) 10 (Nat.le_refl _) y1 0 _ _ ls (lv_sub hl [1, 2, 3, 0] rfl) hG
      refine v_bipush S 10 dX7_digest_200 (by decide) ?_
      refine v_istore S hl [(4, .int 10), (0, .ref (ad a0)), (1, .long x32), (3, .int y3)] dX7_digest_202 (by decide) rfl (fun ls hl => ?_)
      refine v_widen (k := ((cb + (21 - (fuel + 1)) * 10) + 10 * 1) + (10 - 10) * 0) (n := ((sb + (21 - (fuel + 1)) * 90) + 10 * 9) + (10 - 10) * 0) (by omega) (by omega) ?_
      refine wl_X7_digest_204 S hr hlk σ a0 y3 (((cb + (21 - (fuel + 1)) * 10) + 10 * 1)) (((sb + (21 - (fuel + 1)) * 90) + 10 * 9)) (show ((cb + (21 - (fuel + 1)) * 10) + 10 * 1) + 10 * 0 ≤ 348 by omega) (show ((sb + (21 - (fuel + 1)) * 90) + 10 * 9) + 10 * 0 ≤ 2820 by omega) (fun x37 x38 H locs ls hl hG => ?_) 10 (Nat.le_refl _) x32 10 _ _ ls (lv_sub hl [1, 2, 3, 0] rfl) hG
      refine v_iinc S hl 2 rfl dX7_digest_232 rfl (by decide) (fun z => [(3, .int z), (0, .ref (ad a0)), (1, .long x37), (4, .int x38)]) (fun _ => rfl) (fun x39 ls hl => ?_)
      refine v_goto S 161 dX7_digest_235 (by decide) ?_
      refine v_widen (k := cb + (21 - fuel) * 10) (n := sb + (21 - fuel) * 90) (by omega) (by omega) ?_
      exact ih (by omega) x37 x39 _ _ ls (lv_sub hl [1, 2, 0] rfl) hG
set_option maxHeartbeats 4000000 in
set_option maxRecDepth 100000 in
theorem met_X7_digest (l : Launch) (g : GT) (ad : Nat → Nat) (_ : Bool) (b : Nat) (σ : Mem) (t : Nat) (rr : Int64) (σr : Mem) (h : fn_X7_digest σ t = some (rr, σr)) : Met l yX7_digest (wsy yX7_digest cX7_digest 5 (some .long)) ({ frames := 2, cells := 348, slots := 2820, locals := 46 } : Room) (va_Pc [.ref (ad t)] (PB g ad σ b)) (va_Ql (fun (r' : Int64) (u : Mem) => r' = rr ∧ u = σr) (GW g ad) (AA g ad true b)) 348 2820 (AA g ad true b) := by
  refine Met.ofW (cc := cX7_digest) (maxL := 5) (ret := (some .long)) (by decide) rfl ?_
  intro p e s m args below meth c s₁ B hml hv
  obtain ⟨rfl, hv⟩ := hv
  have S : CallFix p m c cX7_digest 5 s _ AL RX7 := ⟨B.exec, B.bytes, hml, findClass_of_methodNamed B.named, fun w h => atoms_spec (ws := wsy yX7_digest cX7_digest 5 (some .long)) B.pre w (List.mem_cons_of_mem _ h)⟩
  have hr := B.returns
  have hlk := B.notSynchronized
  have hG : GA g ad σ true b s s.heap [] := GA_start hv
  have hl := lv_entry ([.ref (ad t)]) (n := 5) (Nat.le_of_ble_eq_true rfl)
  rw [lg_entry_eq]
  generalize (lg_sl ([.ref (ad t)]) ++ List.replicate (5 - (lg_sl ([.ref (ad t)])).length) Slot.unset).toArray = ls at hl ⊢
  have hl : lv_has ls 5 [(0, .ref (ad t))] := hl
  revert h
  unfold fn_X7_digest
  refine v_aload_n S hl 0 rfl rfl dX7_digest_0 ?_
  refine v_iconst S 0 dX7_digest_1 rfl ?_
  refine pf_7_0 S hG q320 dX7_digest_2 (fun σ1 H locs hG => ?_)
  refine v_ldc2 S 1249 q489 dX7_digest_5 ?_
  refine v_lstore_n S hl [(1, .long 1249), (0, .ref (ad t))] rfl dX7_digest_8 (by decide) rfl (fun ls hl => ?_)
  refine v_iconst S 0 dX7_digest_9 rfl ?_
  refine v_istore_n S hl [(3, .int 0), (1, .long 1249), (0, .ref (ad t))] rfl dX7_digest_10 (by decide) rfl (fun ls hl => ?_)
  refine v_widen (k := 0 + (10 - 10) * 1) (n := 0 + (10 - 10) * 9) (by omega) (by omega) ?_
  refine wl_X7_digest_11 S hr hlk σ1 t (0) (0) (show 0 + 10 * 1 ≤ 348 by omega) (show 0 + 10 * 9 ≤ 2820 by omega) (fun x6 x7 H locs ls hl hG => ?_) 10 (Nat.le_refl _) 1249 0 _ _ ls (lv_sub hl [2, 1, 0] rfl) hG
  refine v_iconst S 0 dX7_digest_39 rfl ?_
  refine v_istore_n S hl [(3, .int 0), (0, .ref (ad t)), (1, .long x6)] rfl dX7_digest_40 (by decide) rfl (fun ls hl => ?_)
  refine v_widen (k := (0 + 10 * 1) + (5 - 5) * 10) (n := (0 + 10 * 9) + (5 - 5) * 90) (by omega) (by omega) ?_
  refine wl_X7_digest_41 S hr hlk σ1 t ((0 + 10 * 1)) ((0 + 10 * 9)) (show (0 + 10 * 1) + 5 * 10 ≤ 348 by omega) (show (0 + 10 * 9) + 5 * 90 ≤ 2820 by omega) (fun x19 x20 H locs ls hl hG => ?_) 5 (Nat.le_refl _) x6 0 _ _ ls (lv_sub hl [1, 2, 0] rfl) hG
  refine v_iconst S 0 dX7_digest_113 rfl ?_
  refine v_istore_n S hl [(3, .int 0), (0, .ref (ad t)), (1, .long x19)] rfl dX7_digest_114 (by decide) rfl (fun ls hl => ?_)
  refine v_widen (k := ((0 + 10 * 1) + 5 * 10) + (13 - 13) * 6) (n := ((0 + 10 * 9) + 5 * 90) + (13 - 13) * 30) (by omega) (by omega) ?_
  refine wl_X7_digest_115 S hr hlk σ1 t (((0 + 10 * 1) + 5 * 10)) (((0 + 10 * 9) + 5 * 90)) (show ((0 + 10 * 1) + 5 * 10) + 13 * 6 ≤ 348 by omega) (show ((0 + 10 * 9) + 5 * 90) + 13 * 30 ≤ 2820 by omega) (fun x27 x28 H locs ls hl hG => ?_) 13 (Nat.le_refl _) x19 0 _ _ ls (lv_sub hl [1, 2, 0] rfl) hG
  refine v_iconst S 0 dX7_digest_159 rfl ?_
  refine v_istore_n S hl [(3, .int 0), (0, .ref (ad t)), (1, .long x27)] rfl dX7_digest_160 (by decide) rfl (fun ls hl => ?_)
  refine v_widen (k := (((0 + 10 * 1) + 5 * 10) + 13 * 6) + (21 - 21) * 10) (n := (((0 + 10 * 9) + 5 * 90) + 13 * 30) + (21 - 21) * 90) (by omega) (by omega) ?_
  refine wl_X7_digest_161 S hr hlk σ1 t ((((0 + 10 * 1) + 5 * 10) + 13 * 6)) ((((0 + 10 * 9) + 5 * 90) + 13 * 30)) (show (((0 + 10 * 1) + 5 * 10) + 13 * 6) + 21 * 10 ≤ 348 by omega) (show (((0 + 10 * 9) + 5 * 90) + 13 * 30) + 21 * 90 ≤ 2820 by omega) (fun x40 x41 H locs ls hl hG => ?_) 21 (Nat.le_refl _) x27 0 _ _ ls (lv_sub hl [1, 2, 0] rfl) hG
  refine v_lload_n S hl 1 rfl rfl dX7_digest_238 ?_
  exact v_lretm S hG hr hlk (show ((((0 + 10 * 1) + 5 * 10) + 13 * 6) + 21 * 10) ≤ 348 by omega) (show ((((0 + 10 * 9) + 5 * 90) + 13 * 30) + 21 * 90) ≤ 2820 by omega) dX7_digest_239
