/-! the start -/
theorem z0 : Cond.instanceMethod yX5_init ∈ AL := AL_in (tq1 (List.mem_of_getElem? (i := 20) rfl)) rfl
theorem z1 : Cond.code yX5_init cX5_init 1 none ∈ AL := AL_in (tq1 (List.mem_of_getElem? (i := 21) rfl)) rfl
theorem mwi_X5_init : Cond.instanceMethod yX5_init ∈ AL ∧ Cond.initialized yX5_init.cls ∈ AL ∧ Cond.code yX5_init cX5_init 1 none ∈ AL ∧ (yX5_init.cls ≠ "java/lang/invoke/MethodHandle" ∧ yX5_init.cls ≠ "java/lang/invoke/VarHandle" ∧ (parseMethodDescriptor yX5_init.desc).map (fun d => d.parameters.length) = some 0) := ⟨z0, q13, z1, by decide +kernel⟩
theorem z2 : Cond.instanceMethod yX7_init ∈ AL := AL_in (tq3 (List.mem_of_getElem? (i := 188) rfl)) rfl
theorem z3 : Cond.code yX7_init cX7_init 1 none ∈ AL := AL_in (tq3 (List.mem_of_getElem? (i := 189) rfl)) rfl
theorem mwi_X7_init : Cond.instanceMethod yX7_init ∈ AL ∧ Cond.initialized yX7_init.cls ∈ AL ∧ Cond.code yX7_init cX7_init 1 none ∈ AL ∧ (yX7_init.cls ≠ "java/lang/invoke/MethodHandle" ∧ yX7_init.cls ≠ "java/lang/invoke/VarHandle" ∧ (parseMethodDescriptor yX7_init.desc).map (fun d => d.parameters.length) = some 0) := ⟨z2, q323, z3, by decide +kernel⟩
theorem z4 : Cond.classLink RL 8 RX5 ∈ AL := AL_in (tq1 (List.mem_of_getElem? (i := 17) rfl)) rfl
theorem z5 : Cond.classLink RL 71 RX7 ∈ AL := AL_in (tq3 (List.mem_of_getElem? (i := 185) rfl)) rfl
theorem z6 : Cond.instantiable RX5 2 ∈ AL := AL_in (tq1 (List.mem_of_getElem? (i := 18) rfl)) rfl
theorem z7 : Cond.instantiable RX7 11 ∈ AL := AL_in (tq3 (List.mem_of_getElem? (i := 186) rfl)) rfl
theorem z8 : Cond.initialized RX5 ∈ AL := AL_in (tq1 (List.mem_of_getElem? (i := 1) rfl)) rfl
theorem z9 : Cond.initialized RX7 ∈ AL := AL_in (tq1 (List.mem_of_getElem? (i := 7) rfl)) rfl
theorem z10 : Cond.methodLink RL 70 yX5_init ∈ AL := AL_in (tq1 (List.mem_of_getElem? (i := 19) rfl)) rfl
theorem z11 : Cond.methodLink RL 73 yX7_init ∈ AL := AL_in (tq3 (List.mem_of_getElem? (i := 187) rfl)) rfl
/-- the constructors' memory, seen as the methods' -/
theorem arrV_cg {cI : ClassId} {N : Nat} {f f' : Nat → Value} (h : ∀ j, j < N → f j = f' j) : arrV cI N f = arrV cI N f' := by
  unfold arrV
  rw [show (fun j : Fin N => f j.val) = (fun j : Fin N => f' j.val) from funext fun j => h j.val j.isLt]
theorem sk_11 : ∀ j ∈ List.range 176, sk j < 12 := by decide +kernel
theorem start_cell {D : va_G} {H : Heap} {cA : Nat → ClassId} {ad : Nat → Nat} {q : Nat} {row : Nat → Int32} {M : Me} {j : Nat} (hj : j < 176) (hk : dk M j = sk j) (hl : sk j < 8 ∨ dl M j = sl j) (hr : ∀ k, k < nfk j → dr M j k = sr j k) (h : va_at D vwCl (q, dcell cA ad (dk M j) (dl M j) (dr M j) row) H) : va_at D vwCl (q, ce cA ad row j) H := by
  have h12 := sk_11 j (List.mem_range.mpr hj)
  rw [hk] at h
  rcases (show sk j = 0 ∨ sk j = 1 ∨ sk j = 2 ∨ sk j = 3 ∨ sk j = 4 ∨ sk j = 5 ∨ sk j = 6 ∨ sk j = 7 ∨ sk j = 8 ∨ sk j = 9 ∨ sk j = 10 ∨ sk j = 11 by omega) with s | s | s | s | s | s | s | s | s | s | s | s
  · have n : nfk j = 8 := by unfold nfk; rw [s]; rfl
    have r0 := hr 0 (by rw [n]; decide)
    have r1 := hr 1 (by rw [n]; decide)
    rw [s] at h
    rw [ce_0 s, ← r0, ← r1]
    exact h
  · have n : nfk j = 2 := by unfold nfk; rw [s]; rfl
    rw [s] at h
    rw [ce_1 s]
    exact h
  · have n : nfk j = 5 := by unfold nfk; rw [s]; rfl
    rw [s] at h
    rw [ce_2 s]
    exact h
  · have n : nfk j = 8 := by unfold nfk; rw [s]; rfl
    have r0 := hr 0 (by rw [n]; decide)
    rw [s] at h
    rw [ce_3 s, ← r0]
    exact h
  · have n : nfk j = 7 := by unfold nfk; rw [s]; rfl
    have r0 := hr 0 (by rw [n]; decide)
    have r1 := hr 1 (by rw [n]; decide)
    have r2 := hr 2 (by rw [n]; decide)
    rw [s] at h
    rw [ce_4 s, ← r0, ← r1, ← r2]
    exact h
  · have n : nfk j = 2 := by unfold nfk; rw [s]; rfl
    have r0 := hr 0 (by rw [n]; decide)
    have r1 := hr 1 (by rw [n]; decide)
    rw [s] at h
    rw [ce_5 s, ← r0, ← r1]
    exact h
  · have n : nfk j = 17 := by unfold nfk; rw [s]; rfl
    have r3 := hr 3 (by rw [n]; decide)
    have r4 := hr 4 (by rw [n]; decide)
    have r5 := hr 5 (by rw [n]; decide)
    have r6 := hr 6 (by rw [n]; decide)
    have r7 := hr 7 (by rw [n]; decide)
    have r8 := hr 8 (by rw [n]; decide)
    have r9 := hr 9 (by rw [n]; decide)
    have r10 := hr 10 (by rw [n]; decide)
    have r11 := hr 11 (by rw [n]; decide)
    have r12 := hr 12 (by rw [n]; decide)
    have r13 := hr 13 (by rw [n]; decide)
    have r14 := hr 14 (by rw [n]; decide)
    have r15 := hr 15 (by rw [n]; decide)
    have r16 := hr 16 (by rw [n]; decide)
    rw [s] at h
    rw [ce_6 s, ← r3, ← r4, ← r5, ← r6, ← r7, ← r8, ← r9, ← r10, ← r11, ← r12, ← r13, ← r14, ← r15, ← r16]
    exact h
  · have n : nfk j = 11 := by unfold nfk; rw [s]; rfl
    have r2 := hr 2 (by rw [n]; decide)
    have r4 := hr 4 (by rw [n]; decide)
    have r5 := hr 5 (by rw [n]; decide)
    have r6 := hr 6 (by rw [n]; decide)
    have r7 := hr 7 (by rw [n]; decide)
    have r8 := hr 8 (by rw [n]; decide)
    have r9 := hr 9 (by rw [n]; decide)
    have r10 := hr 10 (by rw [n]; decide)
    rw [s] at h
    rw [ce_7 s, ← r2, ← r4, ← r5, ← r6, ← r7, ← r8, ← r9, ← r10]
    exact h
  · have l := hl.resolve_left (by omega)
    rw [s, l] at h
    rw [ce_8 s]
    exact h
  · have l := hl.resolve_left (by omega)
    have n : nfk j = sl j := by unfold nfk; rw [s]; rfl
    rw [s, l] at h
    rw [ce_9 s]
    have h : H[q]? = some (vp_cell (cA 1) (sl j, .inr (.inr (.inr (.inr (fun i => (dr M j i).map ad)))))) := h
    show H[q]? = some (vp_cell (cA 1) (sl j, .inr (.inr (.inr (.inr (fun i => (sr j i).map ad))))))
    rw [h, vp_cell_q, vp_cell_q]
    exact congrArg some (arrV_cg (fun i hi => by rw [hr i (by rw [n]; exact hi)]))
  · have l := hl.resolve_left (by omega)
    have n : nfk j = sl j := by unfold nfk; rw [s]; rfl
    rw [s, l] at h
    rw [ce_10 s]
    have h : H[q]? = some (vp_cell (cA 2) (sl j, .inr (.inr (.inr (.inr (fun i => (dr M j i).map ad)))))) := h
    show H[q]? = some (vp_cell (cA 2) (sl j, .inr (.inr (.inr (.inr (fun i => (sr j i).map ad))))))
    rw [h, vp_cell_q, vp_cell_q]
    exact congrArg some (arrV_cg (fun i hi => by rw [hr i (by rw [n]; exact hi)]))
  · have l := hl.resolve_left (by omega)
    have n : nfk j = sl j := by unfold nfk; rw [s]; rfl
    rw [s, l] at h
    rw [ce_11 s]
    have h : H[q]? = some (vp_cell (cA 3) (sl j, .inr (.inr (.inr (.inr (fun i => (dr M j i).map ad)))))) := h
    show H[q]? = some (vp_cell (cA 3) (sl j, .inr (.inr (.inr (.inr (fun i => (sr j i).map ad))))))
    rw [h, vp_cell_q, vp_cell_q]
    exact congrArg some (arrV_cg (fun i hi => by rw [hr i (by rw [n]; exact hi)]))
theorem okM_of {M : Me} (h : okM M = true) : dn M = 176 ∧ ∀ j, j < 176 → dk M j = sk j ∧ (sk j < 8 ∨ dl M j = sl j) ∧ ∀ k, k < nfk j → dr M j k = sr j k := by
  unfold okM at h
  rw [Bool.and_eq_true] at h
  refine ⟨of_decide_eq_true h.1, fun j hj => ?_⟩
  have h1 := List.all_eq_true.mp h.2 j (List.mem_range.mpr hj)
  rw [Bool.and_eq_true, Bool.and_eq_true, Bool.or_eq_true] at h1
  refine ⟨of_decide_eq_true h1.1.1, h1.1.2.elim (fun z => Or.inl (of_decide_eq_true z)) (fun z => Or.inr (of_decide_eq_true z)), fun k hk => ?_⟩
  exact of_decide_eq_true (List.all_eq_true.mp h1.2 k (List.mem_range.mpr hk))
theorem start_P {g : GT} {M : Me} {H : Heap} (hM : okM M = true) (h : va_P (g.1, g.2.1) vwCl (dwl g M) H) : va_P (g.1, g.2.1) vwCl (wl g.2.2.1 (bad g) (di M)) H := by
  obtain ⟨hn, hs⟩ := okM_of hM
  intro k q hk
  obtain ⟨hj, rfl⟩ := wl_of hk
  obtain ⟨s1, s2, s3⟩ := hs k hj
  exact start_cell hj s1 s2 s3 (h k (bad g k, dce g M k) (dwl_get (by rw [hn]; exact hj)))
theorem start_GA {g : GT} {M : Me} {s : State} {H : Heap} {locs : List Loc} (hM : okM M = true) (hA : DA g M s H locs) (hZ : ZQ g s s.heap) (hb : g.2.2.2 = s.heap.size) : GA g (bad g) (di M) true g.2.2.2 s H locs := by
  refine ⟨start_P hM hA.1, hA.2.1, ⟨fun i j p q hp hq e => ?_, fun k q hk => ?_⟩, ⟨hA.2.2.2.1.1, fun q h1 h2 => hA.2.2.2.1.2.1 q h1 (fun z => h2 (Or.inr z)), fun q hq => Or.inr (hA.2.2.2.1.2.2 q hq)⟩, hZ, Nat.le_refl _, Nat.le_of_eq hb, hA.2.2.2.2.1⟩
  · obtain ⟨-, rfl⟩ := wl_of hp
    obtain ⟨-, rfl⟩ := wl_of hq
    exact Nat.add_left_cancel e
  · obtain ⟨-, rfl⟩ := wl_of hk
    exact Nat.le_add_right _ _
theorem ini_M : ∃ M1 M : Me, fn_X5_init (dnew M00 5) 0 = some M1 ∧ dn M1 = 141 ∧ fn_X7_init (dnew M1 7) 141 = some M ∧ MFin = some M ∧ okM M = true := by
  have h1 := mfin1
  have h2 : (match fn_X5_init (dnew M00 5) 0 with | some M1 => decide (dn M1 = 141) | none => false) = true := by decide +kernel
  cases h3 : fn_X5_init (dnew M00 5) 0 with
  | none => rw [h3] at h2; cases h2
  | some M1 =>
    rw [h3] at h2
    have e : MFin = fn_X7_init (dnew M1 7) 141 := by unfold MFin; rw [h3]; rfl
    cases h4 : fn_X7_init (dnew M1 7) 141 with
    | none => rw [e, h4] at h1; cases h1
    | some M =>
      rw [e, h4] at h1
      exact ⟨M1, M, rfl, of_decide_eq_true h2, h4, e.trans h4, h1⟩
theorem ka_arr {args : Array Value} {s : State} {ty : FieldType} (h : (Cond.arrayClass ty).before args s = true) : ∃ cA : ClassId, ArrOfT s cA ty ∧ s.vm.findClass ("[" ++ ty.toString) = some cA := by
  obtain ⟨cA, kA, comp, h1, h2, h3⟩ := Cond.arrayClass_spec h
  exact ⟨cA, fun n z => ⟨(fun k h => by cases h), kA, h2, comp, h3⟩, h1⟩
theorem ka_obj {args : Array Value} {s : State} {C : String} (h : (Cond.arrayOver (.object C)).before args s = true) : ∃ cA : ClassId, ArrOfT s cA (.object C) ∧ va_RA s cA (.object C) := by
  obtain ⟨comp, cA, kA, h1, -, h2, h3, h4⟩ := Cond.arrayOver_spec h
  exact ⟨cA, fun n z => ⟨(fun k h => by cases h), kA, h2, comp, h3⟩, kA, comp, h2, h3, h1, h4⟩
set_option maxRecDepth 100000 in
theorem nx_start {args : Array Value} {s : State} (h : (Jvm.Cond.and given_1 narrow_1).before args s = true) : NX s := by
  have hs := flat_of_before _ h
  have a12 : va_Nc (XN 1) (XN 2) s := va_Nc.of (hs (Cond.not (.castable (XN 1) (XN 2))) (by decide +kernel))
  have a13 : va_Nc (XN 1) (XN 3) s := va_Nc.of (hs (Cond.not (.castable (XN 1) (XN 3))) (by decide +kernel))
  have a21 : va_Nc (XN 2) (XN 1) s := va_Nc.of (hs (Cond.not (.castable (XN 2) (XN 1))) (by decide +kernel))
  have a23 : va_Nc (XN 2) (XN 3) s := va_Nc.of (hs (Cond.not (.castable (XN 2) (XN 3))) (by decide +kernel))
  have a31 : va_Nc (XN 3) (XN 1) s := va_Nc.of (hs (Cond.not (.castable (XN 3) (XN 1))) (by decide +kernel))
  have a32 : va_Nc (XN 3) (XN 2) s := va_Nc.of (hs (Cond.not (.castable (XN 3) (XN 2))) (by decide +kernel))
  intro i j hi hj hij
  simp only [List.mem_cons, List.not_mem_nil, or_false] at hi hj
  rcases hi with rfl | rfl | rfl <;> rcases hj with rfl | rfl | rfl <;> first | exact absurd rfl hij | assumption
set_option maxRecDepth 100000 in
theorem zq_start {args : Array Value} {s : State} {A : Nat → Prop} (h : (Jvm.Cond.and given_1 narrow_1).before args s = true) (hts : ∀ w ∈ lw_tbl, w.before args s = true) (hA : ∀ a : Nat, a < s.heap.size → ¬ A a) : vx_Zq Bundle.tN "UNASSIGNED_STACK" Bundle.steD A s s.heap ∧ vx_Zq Bundle.tN "SUPPRESSED_SENTINEL" Bundle.listD A s s.heap := by
  have hs := flat_of_before _ h
  exact ⟨vx_Zqof (hts _ (show Cond.laysStatic Bundle.tN "UNASSIGNED_STACK" Bundle.steD ∈ lw_tbl from tq2 (List.mem_of_getElem? (i := 92) rfl))) (hts _ (show Cond.initialized Bundle.tN ∈ lw_tbl from tq1 (List.mem_of_getElem? (i := 9) rfl))) (hs (Cond.isRef (.static Bundle.tN "UNASSIGNED_STACK" Bundle.steD)) (by decide +kernel)) hA, vx_Zqof (hts _ (show Cond.laysStatic Bundle.tN "SUPPRESSED_SENTINEL" Bundle.listD ∈ lw_tbl from tq2 (List.mem_of_getElem? (i := 94) rfl))) (hts _ (show Cond.initialized Bundle.tN ∈ lw_tbl from tq1 (List.mem_of_getElem? (i := 9) rfl))) (hs (Cond.isRef (.static Bundle.tN "SUPPRESSED_SENTINEL" Bundle.listD)) (by decide +kernel)) hA⟩
theorem k_start {args : Array Value} {s : State} (hts : ∀ w ∈ lw_tbl, w.before args s = true) : ∃ (dC : Nat → ClassId) (dI : Nat → Nat → Nat) (cA : Nat → ClassId), va_K (dC, dI) vwCl (tyG (dC, dI, cA, s.heap.size)) s := by
  obtain ⟨c0, i0, n0⟩ := u_known (C := RX0) (T := TX0) (N := 8) (n := 8) hts inX0t (hts _ (show Cond.instantiable RX0 8 ∈ lw_tbl from tq1 (List.mem_of_getElem? (i := 33) rfl)))
  obtain ⟨c1, i1, n1⟩ := u_known (C := RX1) (T := TX1) (N := 2) (n := 2) hts inX1t (hts _ (show Cond.instantiable RX1 2 ∈ lw_tbl from tq1 (List.mem_of_getElem? (i := 39) rfl)))
  obtain ⟨c2, i2, n2⟩ := u_known (C := RX2) (T := TX2) (N := 5) (n := 5) hts inX2t (hts _ (show Cond.instantiable RX2 5 ∈ lw_tbl from tq1 (List.mem_of_getElem? (i := 90) rfl)))
  obtain ⟨c3, i3, n3⟩ := u_known (C := RX3) (T := TX3) (N := 8) (n := 8) hts inX3t (hts _ (show Cond.instantiable RX3 8 ∈ lw_tbl from tq1 (List.mem_of_getElem? (i := 118) rfl)))
  obtain ⟨c4, i4, n4⟩ := u_known (C := RX4) (T := TX4) (N := 7) (n := 7) hts inX4t (hts _ (show Cond.instantiable RX4 7 ∈ lw_tbl from tq1 (List.mem_of_getElem? (i := 26) rfl)))
  obtain ⟨c5, i5, n5⟩ := u_known (C := RX5) (T := TX5) (N := 2) (n := 2) hts inX5t (hts _ (show Cond.instantiable RX5 2 ∈ lw_tbl from tq1 (List.mem_of_getElem? (i := 18) rfl)))
  obtain ⟨c6, i6, n6⟩ := u_known (C := RX6) (T := TX6) (N := 17) (n := 17) hts inX6t (hts _ (show Cond.instantiable RX6 17 ∈ lw_tbl from tq3 (List.mem_of_getElem? (i := 192) rfl)))
  obtain ⟨c7, i7, n7⟩ := u_known (C := RX7) (T := TX7) (N := 11) (n := 11) hts inX7t (hts _ (show Cond.instantiable RX7 11 ∈ lw_tbl from tq3 (List.mem_of_getElem? (i := 186) rfl)))
  obtain ⟨a0, a1, a2⟩ := ka_arr (hts _ (show Cond.arrayClass .int ∈ lw_tbl from tq1 (List.mem_of_getElem? (i := 153) rfl)))
  obtain ⟨b0, b1, b2⟩ := ka_obj (hts _ (show Cond.arrayOver (.object RX0) ∈ lw_tbl from tq1 (List.mem_of_getElem? (i := 32) rfl)))
  obtain ⟨e0, e1, e2⟩ := ka_obj (hts _ (show Cond.arrayOver (.object RX2) ∈ lw_tbl from tq1 (List.mem_of_getElem? (i := 89) rfl)))
  obtain ⟨g0, g1, g2⟩ := ka_obj (hts _ (show Cond.arrayOver (.object RX3) ∈ lw_tbl from tq1 (List.mem_of_getElem? (i := 117) rfl)))
  obtain ⟨h0, h1, h2⟩ := ka_arr (hts _ (show Cond.arrayClass .long ∈ lw_tbl from tq5 (List.mem_of_getElem? (i := 25) rfl)))
  refine ⟨(fun k => if k = 0 then c0 else if k = 1 then c1 else if k = 2 then c2 else if k = 3 then c3 else if k = 4 then c4 else if k = 5 then c5 else if k = 6 then c6 else c7), (fun k => if k = 0 then i0 else if k = 1 then i1 else if k = 2 then i2 else if k = 3 then i3 else if k = 4 then i4 else if k = 5 then i5 else if k = 6 then i6 else i7), (fun k => if k = 0 then a0 else if k = 1 then b0 else if k = 2 then e0 else if k = 3 then g0 else h0), fun k q hq => ?_, fun k q hq => ?_⟩
  · match k, hq with
    | 0, hq => cases hq; exact n0
    | 1, hq => cases hq; exact n1
    | 2, hq => cases hq; exact n2
    | 3, hq => cases hq; exact n3
    | 4, hq => cases hq; exact n4
    | 5, hq => cases hq; exact n5
    | 6, hq => cases hq; exact n6
    | 7, hq => cases hq; exact n7
    | k + 8, hq => simp [vwCl] at hq
  · match k, hq with
    | 0, hq => cases hq; exact ⟨a1, a2⟩
    | 1, hq => cases hq; exact ⟨b1, b2⟩
    | 2, hq => cases hq; exact ⟨e1, e2⟩
    | 3, hq => cases hq; exact ⟨g1, g2⟩
    | 4, hq => cases hq; exact ⟨h1, h2⟩
    | k + 5, hq => simp [tyG] at hq
set_option maxHeartbeats 4000000 in
set_option maxRecDepth 100000 in
/-- the law from its entry -/
theorem whole_start {p : Program} {e : Env} {s : State} {m : MethodId} {below : List Frame} {meth : Method} {c : Code} (l : Launch) (hflags : l.flags = flags0) {b L : Nat} {xs : Nat → Int32} (hL : L ≤ 2560) (C0 : lw_At p s m meth c b L xs) : W p l e room_1 s m #[Value.ref b] below meth c s.heap [] 0 0 (lw_Z below #[Value.ref b] s) (entryFrame m ([Value.ref b] : List Value).toArray 9) := by
  obtain ⟨hx, hb, hr, hml, hown, hts, hX, hbl, hlocks, hgv⟩ := id C0
  have hst : l.stackTraces = false := by unfold Launch.stackTraces; rw [hflags]; decide +kernel
  have S : CallFix p m c cL_law 9 s #[Value.ref b] AL RL := ⟨hx, hb, hml, hown, fun w h => hts w (AL_tbl h)⟩
  obtain ⟨dC, dI, cA, hK⟩ := k_start hts
  obtain ⟨g, hg, hg9⟩ : ∃ g : GT, va_K (g.1, g.2.1) vwCl (tyG g) s ∧ g.2.2.2 = s.heap.size := ⟨(dC, dI, cA, s.heap.size), hK, rfl⟩
  have hb9 : g.2.2.2 ≤ s.heap.size := Nat.le_of_eq hg9
  have hZ : ZQ g s s.heap := zq_start hgv hts (fun a h1 h2 => by rw [hg9] at h2; exact Nat.not_le_of_lt h1 h2)
  obtain ⟨M1, M, e1, e2, e3, e4, e5⟩ := ini_M
  have hA : DA g M00 s s.heap [] := ⟨fun k q hk => by simp [dwl, M00, dn] at hk, hg, by rw [hg9]; rfl, va_S.rf, XW_of hts, va_AO.of (hts _ (show Cond.arrayOver (.object RX0) ∈ lw_tbl from tq1 (List.mem_of_getElem? (i := 32) rfl))), va_AO.of (hts _ (show Cond.arrayOver (.object RX2) ∈ lw_tbl from tq1 (List.mem_of_getElem? (i := 89) rfl))), va_AO.of (hts _ (show Cond.arrayOver (.object RX3) ∈ lw_tbl from tq1 (List.mem_of_getElem? (i := 117) rfl)))⟩
  have hl := lv_entry ([.ref b]) (n := 9) (Nat.le_of_ble_eq_true rfl)
  rw [lg_entry_eq]
  generalize (lg_sl ([.ref b]) ++ List.replicate (9 - (lg_sl ([.ref b])).length) Slot.unset).toArray = ls at hl ⊢
  have hl : lv_has ls 9 [(0, .ref b)] := hl
  refine d_new_5 (K := fun M => some M) (res := dnew M00 5) S hA hb9 z4 z6 z8 (Nat.le_of_ble_eq_true rfl) (Nat.le_of_ble_eq_true rfl) dL_law_0 (fun M2 H hA h => ?_) rfl
  obtain rfl := Option.some.inj h
  refine v_dup (P := True) S dL_law_3 rfl (fun _ => ?_) trivial
  refine d_callI (K := fun M => some M) (res := M1) S hA [] (met_X5_init l g (dnew M00 5) 0) mwi_X5_init rfl z10 dL_law_4 rfl rfl hl.1 (Nat.le_of_ble_eq_true rfl) ⟨(Nat.le_of_ble_eq_true rfl), (Nat.le_of_ble_eq_true rfl)⟩ rfl rfl ⟨(Nat.le_of_ble_eq_true rfl), (Nat.le_of_ble_eq_true rfl)⟩ (fun M2 H locs hA h => ?_) (by rw [e1]; rfl)
  obtain rfl := Option.some.inj h
  refine v_astore_n (P := True) S hl [(1, .ref (bad g 0)), (0, .ref b)] rfl dL_law_7 (by decide) rfl (fun ls hl _ => ?_) trivial
  refine d_new_7 (K := fun M => some M) (res := dnew M2 7) S hA hb9 z5 z7 z9 (Nat.le_of_ble_eq_true rfl) (Nat.le_of_ble_eq_true rfl) dL_law_8 (fun M3 H hA h => ?_) rfl
  obtain rfl := Option.some.inj h
  rw [e2]
  refine v_dup (P := True) S dL_law_11 rfl (fun _ => ?_) trivial
  refine d_callI (K := fun M => some M) (res := M) S hA [] (met_X7_init l g (dnew M2 7) 141) mwi_X7_init rfl z11 dL_law_12 rfl rfl hl.1 (Nat.le_of_ble_eq_true rfl) ⟨(Nat.le_of_ble_eq_true rfl), (Nat.le_of_ble_eq_true rfl)⟩ rfl rfl ⟨(Nat.le_of_ble_eq_true rfl), (Nat.le_of_ble_eq_true rfl)⟩ (fun M3 H locs hA h => ?_) (by rw [e3]; rfl)
  obtain rfl := Option.some.inj h
  refine v_astore_n (P := True) S hl [(2, .ref (bad g 141)), (1, .ref (bad g 0)), (0, .ref b)] rfl dL_law_15 (by decide) rfl (fun ls hl _ => ?_) trivial
  refine v_iconst (P := True) S 1 dL_law_16 rfl (fun _ => ?_) trivial
  have hG := start_GA e5 hA hZ hg9
  have hn : dn M3 = 176 := (okM_of e5).1
  refine va_newaK S.1 S.2.1 (atype := .long) (hts _ (show Cond.arrayClass .long ∈ lw_tbl from tq5 (List.mem_of_getElem? (i := 25) rfl))) rfl dL_law_17 rfl (by decide) (show (1 : Int32).toNatClampNeg = 1 by decide) (Nat.le_of_ble_eq_true rfl) (Nat.le_of_ble_eq_true rfl) (Nat.le_of_ble_eq_true rfl) rfl (fun H1 cA h1 h2 h3 h4 h5 => ?_)
  have h6 : s.vm.findClass ("[" ++ (newarray.typeOf .long).toString) = some (g.2.2.1 4) := (hG.2.1.2 4 _ rfl).2
  obtain rfl : cA = g.2.2.1 4 := Option.some.inj (h5.symm.trans h6)
  have hG1 : GA g (bad g) (di M3) true g.2.2.2 s H1 locs := GA_kept hG (fun j hj => h3 _ (GA_lt hG hj)) ⟨Nat.le_trans hG.2.2.2.1.1 (by rw [h2]; exact Nat.le_succ _), fun q z1 z2 => (h3 q (Nat.lt_of_lt_of_le z1 hG.2.2.2.1.1)).trans (hG.2.2.2.1.2.1 q z1 z2), hG.2.2.2.1.2.2⟩
  have hW : LW g (bad g) (di M3) H.size (fun _ => 0) s H1 locs := ⟨hG1, h1, nx_start hgv, fun j hj => GA_lt hG hj, hg9⟩
  refine v_astore_n (P := True) S hl [(3, .ref H.size), (2, .ref (bad g 141)), (1, .ref (bad g 0)), (0, .ref b)] rfl dL_law_19 (by decide) rfl (fun ls hl _ => ?_) trivial
  refine v_iconst (P := True) S 0 dL_law_20 rfl (fun _ => ?_) trivial
  refine v_istore (P := True) S hl [(4, .int 0), (3, .ref H.size), (2, .ref (bad g 141)), (1, .ref (bad g 0)), (0, .ref b)] dL_law_21 (by decide) rfl (fun ls hl _ => ?_) trivial
  refine W.base ?_
  exact law_loop S hst hX hbl hL hr hlocks 513 0 rfl (Nat.zero_le L) (di M3) (fun _ => 0) H1 locs _ _ ls s.drawn (Drawn.sameBut.refl s.drawn lw_cs) (Nat.le_of_ble_eq_true rfl) (Nat.le_of_ble_eq_true rfl) hW (Inv_0 e4) (lv_sub hl [4, 3, 2, 1, 0] rfl)
