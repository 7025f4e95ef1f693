/-! the law's loop -/
theorem gt_iff {L i : Nat} (hL : L ≤ 2560) (hi : i ≤ 2560) : (Int32.ofNat L - 5 < nI i) ↔ L < i + 5 := by
  have h1 : (Int32.ofNat L).toInt = L := nI_toInt (by omega)
  have h2 : (nI i).toInt = i := nI_toInt (by omega)
  have h5 : (5 : Int32).toInt = 5 := by decide
  rw [Int32.lt_iff_toInt_lt, Int32.toInt_sub, h1, h2, h5, Int.bmod_eq_of_le (by omega) (by omega)]
  omega
set_option maxHeartbeats 4000000 in
set_option maxRecDepth 100000 in
theorem law_loop {p : Program} {l : Launch} {e : Env} {s : State} {m : MethodId} {below : List Frame} {meth : Method} {c : Code} {g : GT} {ad : Nat → Nat} {o b L : Nat} {xs : Nat → Int32} (S : CallFix p m c cL_law 9 s #[Value.ref b] AL RL) (hst : l.stackTraces = false) (hX : va_X b L xs s s.heap) (hb : b < s.heap.size) (hLn : L ≤ 2560) (hr : meth.sig.returnType = ret) (hlk : meth.locks = false) : ∀ (d n : Nat), n + d = 513 → 5 * n ≤ L → ∀ (σ : Mem) (f : Nat → Int64) (H : Heap) (locs : List Loc) (cells slots : Nat) (ls : Array Slot) (d0 : Drawn), s.drawn.sameBut d0 lw_cs → cells ≤ 200 + 353 * n → slots ≤ 8000 + 2850 * n → LW g ad σ o f s H locs → Inv (240 * n) σ → lv_has ls 9 [(0, .ref b), (1, .ref (ad 0)), (2, .ref (ad 141)), (3, .ref o), (4, .int (nI (5 * n)))] → W p l e room_1 (s.setDrawn d0) m #[Value.ref b] below meth c H locs cells slots (lw_Z below #[Value.ref b] s) (F0 m 23 ls []) := by
  intro d
  induction d with
  | zero => intro n hnd hn5; exact absurd hn5 (by omega)
  | succ d ih =>
    intro n hnd hn5 σ f H locs cells slots ls d0 hd0 hc hs hL hI hl
    have Sd := CF_d S d0
    have hLd := LW_d hL d0
    have hn : n ≤ 512 := by omega
    refine v_iload (P := True) Sd hl 4 rfl dL_law_23 (fun _ => ?_) trivial
    refine v_aload_n (P := True) Sd hl 0 rfl rfl dL_law_25 (fun _ => ?_) trivial
    refine va_slen S.1 S.2.1 hX hb (l_b hL hb) hL.1.2.2.2.1 dL_law_26 ?_
    refine v_iconst (P := True) Sd 5 dL_law_27 rfl (fun _ => ?_) trivial
    refine v_isub (P := True) Sd dL_law_28 (fun _ => ?_) trivial
    by_cases hx : L < 5 * n + 5
    · refine v_icmp_gt_t (P := True) Sd 1321 ((gt_iff hLn (by omega)).mpr hx) dL_law_29 (by decide) (fun _ => ?_) trivial
      refine v_iconst (P := True) Sd 1 dL_law_1321 rfl (fun _ => ?_) trivial
      refine va_forget (fun q hq => ?_) ?_
      · have h1 := AA_base hL.1.2.2.1 (Nat.le_refl _) (hL.1.2.2.2.1.2.2 q hq)
        rw [hL.2.2.2.2] at h1
        exact h1
      · refine W.widen (k := 601024) (n := 7293033) (by omega) (by omega) ?_
        exact lw_ret hd0 S.1 S.2.1 hr hlk dL_law_1322
    · refine v_icmp_gt_f (P := True) Sd 1321 (fun h => hx ((gt_iff hLn (by omega)).mp h)) dL_law_29 (by decide) (fun _ => ?_) trivial
      have K : ∀ (σ2 : Mem) (f2 : Nat → Int64) (H2 : Heap) (locs2 : List Loc) (ls2 : Array Slot) (d2 : Drawn) (cells2 slots2 : Nat), s.drawn.sameBut d2 lw_cs → cells2 ≤ cells + 353 → slots2 ≤ slots + 2850 → lv_has ls2 9 [(0, .ref b), (1, .ref (ad 0)), (2, .ref (ad 141)), (3, .ref o), (4, .int (nI (5 * n)))] → LW g ad σ2 o f2 s H2 locs2 → Inv (240 * n + 240) σ2 → W p l e room_1 (s.setDrawn d2) m #[Value.ref b] below meth c H2 locs2 cells2 slots2 (lw_Z below #[Value.ref b] s) (F0 m 1315 ls2 []) := by
        intro σ2 f2 H2 locs2 ls2 d2 cells2 slots2 hd2 hc2 hs2 hl2 hL2 hI2
        refine lv_iinc (v := nI (5 * (n + 1))) (lv' := [(4, .int (nI (5 * (n + 1)))), (0, .ref b), (1, .ref (ad 0)), (2, .ref (ad 141)), (3, .ref o)]) S.1 S.2.1 dL_law_1315 hl2 (k := 4) rfl ?_ (by decide) rfl (fun ls3 hl3 => ?_)
        · show nI (5 * n) + nI 5 = nI (5 * (n + 1))
          rw [nI_add, Nat.mul_succ]
        · refine v_goto (P := True) (CF_d S d2) 23 dL_law_1318 (by decide) (fun _ => ?_) trivial
          exact ih (n + 1) (by omega) (by omega) σ2 f2 H2 locs2 cells2 slots2 ls3 d2 hd2 (by omega) (by omega) hL2 (by rw [Nat.mul_succ]; exact hI2) (lv_sub hl3 [1, 2, 3, 4, 0] rfl)
      have K0 : ∀ (σ2 : Mem) (f2 : Nat → Int64) (H2 : Heap) (locs2 : List Loc) (ls2 : Array Slot), lv_has ls2 9 [(0, .ref b), (1, .ref (ad 0)), (2, .ref (ad 141)), (3, .ref o), (4, .int (nI (5 * n)))] → LW g ad σ2 o f2 (s.setDrawn d0) H2 locs2 → Inv (240 * n + 240) σ2 → W p l e room_1 (s.setDrawn d0) m #[Value.ref b] below meth c H2 locs2 (cells + 353) (slots + 2850) (lw_Z below #[Value.ref b] s) (F0 m 1315 ls2 []) := fun σ2 f2 H2 locs2 ls2 hl2 hL2 hI2 => K σ2 f2 H2 locs2 ls2 d0 _ _ hd0 (Nat.le_refl _) (Nat.le_refl _) hl2 (LW_d hL2 s.drawn) hI2
      refine l_kind Sd hLd hX hb hl 0 4 rfl rfl (by omega) hLn dL_law_32 dL_law_33 dL_law_35 ?_
      refine v_bipush (P := True) Sd 31 dL_law_36 (by decide) (fun _ => ?_) trivial
      refine v_iand (P := True) Sd dL_law_38 (fun _ => ?_) trivial
      generalize xs (5 * n) &&& 31 = v
      by_cases hv : v.toInt < 0 ∨ 18 < v.toInt
      · refine lv_tableOut S.1 S.2.1 dL_law_39 hv (tgt := 1315) (by decide) ?_
        exact K σ f H locs ls d0 cells slots hd0 (by omega) (by omega) hl hL (Inv_le (by omega) hI)
      · obtain ⟨h1, h2⟩ := not_or.mp hv
        obtain ⟨k, hk⟩ : ∃ k : Nat, v.toInt = k := ⟨v.toInt.toNat, by omega⟩
        have hk18 : k ≤ 18 := by omega
        have hcl : cells + 353 ≤ 601024 := by omega
        have hsl : slots + 2850 ≤ 7293033 := by omega
        have hB : 240 * n ≤ 1000000 := by omega
        have h5 : 5 * n + 5 ≤ L := by omega
        rcases (show k = 0 ∨ k = 1 ∨ k = 2 ∨ k = 3 ∨ k = 4 ∨ k = 5 ∨ k = 6 ∨ k = 7 ∨ k = 8 ∨ k = 9 ∨ k = 10 ∨ k = 11 ∨ k = 12 ∨ k = 13 ∨ k = 14 ∨ k = 15 ∨ k = 16 ∨ k = 17 ∨ k = 18 by omega) with rfl | rfl | rfl | rfl | rfl | rfl | rfl | rfl | rfl | rfl | rfl | rfl | rfl | rfl | rfl | rfl | rfl | rfl | rfl
        · refine lv_tableIn S.1 S.2.1 dL_law_39 h1 h2 (off := 89) (tgt := 128) (by rw [hk]; rfl) (by decide) ?_
          exact law_c0 Sd hst hX hb hLn h5 hcl hsl hLd hB hI hl K0
        · refine lv_tableIn S.1 S.2.1 dL_law_39 h1 h2 (off := 157) (tgt := 196) (by rw [hk]; rfl) (by decide) ?_
          exact law_c1 Sd hst hX hb hLn h5 hcl hsl hLd hB hI hl K0
        · refine lv_tableIn S.1 S.2.1 dL_law_39 h1 h2 (off := 237) (tgt := 276) (by rw [hk]; rfl) (by decide) ?_
          exact law_c2 Sd hst hX hb hLn h5 hcl hsl hLd hB hI hl K0
        · refine lv_tableIn S.1 S.2.1 dL_law_39 h1 h2 (off := 293) (tgt := 332) (by rw [hk]; rfl) (by decide) ?_
          exact law_c3 Sd hst hX hb hLn h5 hcl hsl hLd hB hI hl K0
        · refine lv_tableIn S.1 S.2.1 dL_law_39 h1 h2 (off := 361) (tgt := 400) (by rw [hk]; rfl) (by decide) ?_
          exact law_c4 Sd hst hX hb hLn h5 hcl hsl hLd hB hI hl K0
        · refine lv_tableIn S.1 S.2.1 dL_law_39 h1 h2 (off := 429) (tgt := 468) (by rw [hk]; rfl) (by decide) ?_
          exact law_c5 Sd hst hX hb hLn h5 hcl hsl hLd hB hI hl K0
        · refine lv_tableIn S.1 S.2.1 dL_law_39 h1 h2 (off := 485) (tgt := 524) (by rw [hk]; rfl) (by decide) ?_
          exact law_c6 Sd hst hX hb hLn h5 hcl hsl hLd hB hI hl K0
        · refine lv_tableIn S.1 S.2.1 dL_law_39 h1 h2 (off := 553) (tgt := 592) (by rw [hk]; rfl) (by decide) ?_
          exact law_c7 Sd hst hX hb hLn h5 hcl hsl hLd hB hI hl K0
        · refine lv_tableIn S.1 S.2.1 dL_law_39 h1 h2 (off := 621) (tgt := 660) (by rw [hk]; rfl) (by decide) ?_
          exact law_c8 Sd hst hX hb hLn h5 hcl hsl hLd hB hI hl K0
        · refine lv_tableIn S.1 S.2.1 dL_law_39 h1 h2 (off := 713) (tgt := 752) (by rw [hk]; rfl) (by decide) ?_
          exact law_c9 Sd hst hX hb hLn h5 hcl hsl hLd hB hI hl K0
        · refine lv_tableIn S.1 S.2.1 dL_law_39 h1 h2 (off := 769) (tgt := 808) (by rw [hk]; rfl) (by decide) ?_
          exact law_c10 Sd hst hX hb hLn h5 hcl hsl hLd hB hI hl K0
        · refine lv_tableIn S.1 S.2.1 dL_law_39 h1 h2 (off := 837) (tgt := 876) (by rw [hk]; rfl) (by decide) ?_
          exact law_c11 Sd hst hX hb hLn h5 hcl hsl hLd hB hI hl K0
        · refine lv_tableIn S.1 S.2.1 dL_law_39 h1 h2 (off := 905) (tgt := 944) (by rw [hk]; rfl) (by decide) ?_
          exact law_c12 Sd hst hX hb hLn h5 hcl hsl hLd hB hI hl K0
        · refine lv_tableIn S.1 S.2.1 dL_law_39 h1 h2 (off := 961) (tgt := 1000) (by rw [hk]; rfl) (by decide) ?_
          exact law_c13 Sd hst hX hb hLn h5 hcl hsl hLd hB hI hl K0
        · refine lv_tableIn S.1 S.2.1 dL_law_39 h1 h2 (off := 1017) (tgt := 1056) (by rw [hk]; rfl) (by decide) ?_
          exact law_c14 Sd hst hX hb hLn h5 hcl hsl hLd hB hI hl K0
        · refine lv_tableIn S.1 S.2.1 dL_law_39 h1 h2 (off := 1073) (tgt := 1112) (by rw [hk]; rfl) (by decide) ?_
          exact law_c15 Sd hst hX hb hLn h5 hcl hsl hLd hB hI hl K0
        · refine lv_tableIn S.1 S.2.1 dL_law_39 h1 h2 (off := 1141) (tgt := 1180) (by rw [hk]; rfl) (by decide) ?_
          exact law_c16 Sd hst hX hb hLn h5 hcl hsl hLd hB hI hl K0
        · refine lv_tableIn S.1 S.2.1 dL_law_39 h1 h2 (off := 1221) (tgt := 1260) (by rw [hk]; rfl) (by decide) ?_
          exact law_c17 hd0 S hst hX hb hLn h5 hcl hsl hL hB hI hl (fun σ2 f2 H2 locs2 ls2 hl2 hL2 hI2 d2 hd2 => K σ2 f2 H2 locs2 ls2 d2 _ _ hd2 (Nat.le_refl _) (Nat.le_refl _) hl2 hL2 hI2)
        · refine lv_tableIn S.1 S.2.1 dL_law_39 h1 h2 (off := 1262) (tgt := 1301) (by rw [hk]; rfl) (by decide) ?_
          exact law_c18 Sd hst hX hb hLn h5 hcl hsl hLd hB hI hl K0
