/-! the law, kind by kind -/
set_option maxHeartbeats 4000000 in
set_option maxRecDepth 100000 in
theorem law_c0 {p : Program} {l : Launch} {e : Env} {s : State} {m : MethodId} {args : Array Value} {below : List Frame} {meth : Method} {c : Code} {H : Heap} {locs : List Loc} {cells slots : Nat} {Q : State → Prop} {ls : Array Slot} {g : GT} {ad : Nat → Nat} {σ : Mem} {o : Nat} {f : Nat → Int64} {b L i B : Nat} {xs : Nat → Int32} (S : CallFix p m c cL_law 9 s args AL RL) (hst : l.stackTraces = false) (hX : va_X b L xs s s.heap) (hb : b < s.heap.size) (hLn : L ≤ 2560) (hi : i + 5 ≤ L) (hcl : cells + 353 ≤ 601024) (hsl : slots + 2850 ≤ 7293033) (hL : LW g ad σ o f s H locs) (hB : B ≤ 1000000) (hI : Inv B σ) (hl : lv_has ls 9 [(0, .ref b), (1, .ref (ad 0)), (2, .ref (ad 141)), (3, .ref o), (4, .int (nI i))]) (kk : ∀ (σ2 : Mem) (f2 : Nat → Int64) (H2 : Heap) (locs2 : List Loc) (ls2 : Array Slot), lv_has ls2 9 [(0, .ref b), (1, .ref (ad 0)), (2, .ref (ad 141)), (3, .ref o), (4, .int (nI i))] → LW g ad σ2 o f2 s H2 locs2 → Inv (B + 240) σ2 → W p l e room_1 s m args below meth c H2 locs2 (cells + 353) (slots + 2850) Q (F0 m 1315 ls2 [])) : W p l e room_1 s m args below meth c H locs cells slots Q (F0 m 128 ls []) := by
  obtain ⟨rr, σ1, bb, σ2, e1, e2, hI2, hok⟩ := P_weigh B (xs (i + 1)) (xs (i + 2)) σ hI
  refine v_aload_n (P := True) S hl 1 rfl rfl dL_law_128 (fun _ => ?_) trivial
  refine l_arg S hL hX hb hl 0 4 rfl rfl 1 rfl (by omega) hLn dL_law_129 dL_law_130 dL_law_132 dL_law_133 dL_law_134 ?_
  refine l_arg S hL hX hb hl 0 4 rfl rfl 2 rfl (by omega) hLn dL_law_135 dL_law_136 dL_law_138 dL_law_139 dL_law_140 ?_
  refine v_aload_n (P := True) S hl 3 rfl rfl dL_law_141 (fun _ => ?_) trivial
  refine l_wrap S hL [.ref (ad 0), .int (xs (i + 1)), .int (xs (i + 2)), .ref o] (met_L_weigh l hst g ad σ o f (xs (i + 1)) (xs (i + 2)) (rr, σ1) e1 (okk hok)) mh_weigh u172 dL_law_142 rfl rfl hl.1 (Nat.le_of_ble_eq_true rfl) ⟨(Nat.le_of_ble_eq_true rfl), (Nat.le_of_ble_eq_true rfl)⟩ rfl rfl ⟨show cells + 2 ≤ 601024 by omega, show slots + 12 ≤ 7293033 by omega⟩ (fun k1 σ3 f3 H locs hq hL => ?_)
  refine v_istore (P := True) S hl [(5, .int k1), (0, .ref b), (1, .ref (ad 0)), (2, .ref (ad 141)), (3, .ref o), (4, .int (nI i))] dL_law_145 (by decide) rfl (fun ls hl _ => ?_) trivial
  have e3 : σ3 = σ1 := hq.1
  subst e3
  refine v_aload_n (P := True) S hl 3 rfl rfl dL_law_147 (fun _ => ?_) trivial
  refine l_arg S hL hX hb hl 1 5 rfl rfl 1 rfl (by omega) hLn dL_law_148 dL_law_149 dL_law_151 dL_law_152 dL_law_153 ?_
  refine l_arg S hL hX hb hl 1 5 rfl rfl 2 rfl (by omega) hLn dL_law_154 dL_law_155 dL_law_157 dL_law_158 dL_law_159 ?_
  refine l_ref S hL [.int (xs (i + 1)), .int (xs (i + 2))] (RX7, TX7, 11) (ci := 7) (j := 141) rfl rfl (by decide) ⟨by decide, by decide⟩ (met_X7_weigh l g ad true (o + 1) σ3 141 (xs (i + 1)) (xs (i + 2)) bb σ2 e2) mw_X7_weigh u173 dL_law_160 rfl rfl hl.1 (Nat.le_of_ble_eq_true rfl) ⟨(Nat.le_of_ble_eq_true rfl), (Nat.le_of_ble_eq_true rfl)⟩ rfl rfl ⟨show cells + 2 + 0 ≤ 601024 by omega, show slots + 12 + 0 ≤ 7293033 by omega⟩ (fun H locs hL => ?_)
  refine v_istore (P := True) S hl [(6, .int bb), (5, .int k1), (0, .ref b), (1, .ref (ad 0)), (2, .ref (ad 141)), (3, .ref o), (4, .int (nI i))] dL_law_163 (by decide) rfl (fun ls hl _ => ?_) trivial
  refine v_aload_n (P := True) S hl 4 rfl rfl dL_law_165 (fun _ => ?_) trivial
  refine l_ref S hL [] (RX7, TX7, 11) (ci := 7) (j := 141) rfl rfl (by decide) ⟨by decide, by decide⟩ (met_X7_thrown l g ad true (o + 1) σ2 141 (σ2 141 0) (by unfold fn_X7_thrown; rw [ck_M]; rfl)) mw_X7_thrown u174 dL_law_166 rfl rfl hl.1 (Nat.le_of_ble_eq_true rfl) ⟨(Nat.le_of_ble_eq_true rfl), (Nat.le_of_ble_eq_true rfl)⟩ rfl rfl ⟨show cells + 2 + 0 + 0 ≤ 601024 by omega, show slots + 12 + 0 + 0 ≤ 7293033 by omega⟩ (fun H locs hL => ?_)
  obtain ⟨t1, t2⟩ := thr (by decide) (by decide) hok hq
  refine v_iload (P := True) S hl 1 rfl dL_law_169 (fun _ => ?_) trivial
  refine v_icmp_eq_t (P := True) S 176 t1 dL_law_171 (by decide) (fun _ => ?_) trivial
  refine v_iload (P := True) S hl 1 rfl dL_law_176 (fun _ => ?_) trivial
  by_cases h0 : k1 = 0
  · refine v_if_ne_f (P := True) S 193 h0 dL_law_178 (by decide) (fun _ => ?_) trivial
    refine v_aload_n (P := True) S hl 5 rfl rfl dL_law_181 (fun _ => ?_) trivial
    refine v_iconst (P := True) S 0 dL_law_182 rfl (fun _ => ?_) trivial
    refine l_ld S hL dL_law_183 ?_
    refine v_iload (P := True) S hl 0 rfl dL_law_184 (fun _ => ?_) trivial
    refine v_i2l (P := True) S dL_law_186 (fun _ => ?_) trivial
    refine v_lcmp (P := True) S dL_law_187 (fun _ => ?_) trivial
    refine v_if_eq_t (P := True) S 193 ((lg_cmp_eq _ _).mpr (t2 h0)) dL_law_188 (by decide) (fun _ => ?_) trivial
    refine v_goto (P := True) S 1315 dL_law_193 (by decide) (fun _ => ?_) trivial
    refine W.widen (k := cells + 353) (n := slots + 2850) (by omega) (by omega) ?_
    exact kk σ2 f3 H locs ls (lv_sub hl [2, 3, 4, 5, 6] rfl) hL (Inv_le (by omega) hI2)
  · refine v_if_ne_t (P := True) S 193 h0 dL_law_178 (by decide) (fun _ => ?_) trivial
    refine v_goto (P := True) S 1315 dL_law_193 (by decide) (fun _ => ?_) trivial
    refine W.widen (k := cells + 353) (n := slots + 2850) (by omega) (by omega) ?_
    exact kk σ2 f3 H locs ls (lv_sub hl [2, 3, 4, 5, 6] rfl) hL (Inv_le (by omega) hI2)
set_option maxHeartbeats 4000000 in
set_option maxRecDepth 100000 in
theorem law_c1 {p : Program} {l : Launch} {e : Env} {s : State} {m : MethodId} {args : Array Value} {below : List Frame} {meth : Method} {c : Code} {H : Heap} {locs : List Loc} {cells slots : Nat} {Q : State → Prop} {ls : Array Slot} {g : GT} {ad : Nat → Nat} {σ : Mem} {o : Nat} {f : Nat → Int64} {b L i B : Nat} {xs : Nat → Int32} (S : CallFix p m c cL_law 9 s args AL RL) (hst : l.stackTraces = false) (hX : va_X b L xs s s.heap) (hb : b < s.heap.size) (hLn : L ≤ 2560) (hi : i + 5 ≤ L) (hcl : cells + 353 ≤ 601024) (hsl : slots + 2850 ≤ 7293033) (hL : LW g ad σ o f s H locs) (hB : B ≤ 1000000) (hI : Inv B σ) (hl : lv_has ls 9 [(0, .ref b), (1, .ref (ad 0)), (2, .ref (ad 141)), (3, .ref o), (4, .int (nI i))]) (kk : ∀ (σ2 : Mem) (f2 : Nat → Int64) (H2 : Heap) (locs2 : List Loc) (ls2 : Array Slot), lv_has ls2 9 [(0, .ref b), (1, .ref (ad 0)), (2, .ref (ad 141)), (3, .ref o), (4, .int (nI i))] → LW g ad σ2 o f2 s H2 locs2 → Inv (B + 240) σ2 → W p l e room_1 s m args below meth c H2 locs2 (cells + 353) (slots + 2850) Q (F0 m 1315 ls2 [])) : W p l e room_1 s m args below meth c H locs cells slots Q (F0 m 196 ls []) := by
  obtain ⟨rr, σ1, bb, σ2, e1, e2, hI2, hok⟩ := P_fit B (xs (i + 1)) (xs (i + 2)) (xs (i + 3)) σ hI
  refine v_aload_n (P := True) S hl 1 rfl rfl dL_law_196 (fun _ => ?_) trivial
  refine l_arg S hL hX hb hl 0 4 rfl rfl 1 rfl (by omega) hLn dL_law_197 dL_law_198 dL_law_200 dL_law_201 dL_law_202 ?_
  refine l_arg S hL hX hb hl 0 4 rfl rfl 2 rfl (by omega) hLn dL_law_203 dL_law_204 dL_law_206 dL_law_207 dL_law_208 ?_
  refine l_arg S hL hX hb hl 0 4 rfl rfl 3 rfl (by omega) hLn dL_law_209 dL_law_210 dL_law_212 dL_law_213 dL_law_214 ?_
  refine v_aload_n (P := True) S hl 3 rfl rfl dL_law_215 (fun _ => ?_) trivial
  refine l_wrap S hL [.ref (ad 0), .int (xs (i + 1)), .int (xs (i + 2)), .int (xs (i + 3)), .ref o] (met_L_fit l hst g ad σ o f (xs (i + 1)) (xs (i + 2)) (xs (i + 3)) (rr, σ1) e1 (okk hok)) mh_fit u175 dL_law_216 rfl rfl hl.1 (Nat.le_of_ble_eq_true rfl) ⟨(Nat.le_of_ble_eq_true rfl), (Nat.le_of_ble_eq_true rfl)⟩ rfl rfl ⟨show cells + 4 ≤ 601024 by omega, show slots + 24 ≤ 7293033 by omega⟩ (fun k1 σ3 f3 H locs hq hL => ?_)
  refine v_istore (P := True) S hl [(5, .int k1), (0, .ref b), (1, .ref (ad 0)), (2, .ref (ad 141)), (3, .ref o), (4, .int (nI i))] dL_law_219 (by decide) rfl (fun ls hl _ => ?_) trivial
  have e3 : σ3 = σ1 := hq.1
  subst e3
  refine v_aload_n (P := True) S hl 3 rfl rfl dL_law_221 (fun _ => ?_) trivial
  refine l_arg S hL hX hb hl 1 5 rfl rfl 1 rfl (by omega) hLn dL_law_222 dL_law_223 dL_law_225 dL_law_226 dL_law_227 ?_
  refine l_arg S hL hX hb hl 1 5 rfl rfl 2 rfl (by omega) hLn dL_law_228 dL_law_229 dL_law_231 dL_law_232 dL_law_233 ?_
  refine l_arg S hL hX hb hl 1 5 rfl rfl 3 rfl (by omega) hLn dL_law_234 dL_law_235 dL_law_237 dL_law_238 dL_law_239 ?_
  refine l_ref S hL [.int (xs (i + 1)), .int (xs (i + 2)), .int (xs (i + 3))] (RX7, TX7, 11) (ci := 7) (j := 141) rfl rfl (by decide) ⟨by decide, by decide⟩ (met_X7_fit l g ad true (o + 1) σ3 141 (xs (i + 1)) (xs (i + 2)) (xs (i + 3)) bb σ2 e2) mw_X7_fit u176 dL_law_240 rfl rfl hl.1 (Nat.le_of_ble_eq_true rfl) ⟨(Nat.le_of_ble_eq_true rfl), (Nat.le_of_ble_eq_true rfl)⟩ rfl rfl ⟨show cells + 4 + 0 ≤ 601024 by omega, show slots + 24 + 0 ≤ 7293033 by omega⟩ (fun H locs hL => ?_)
  refine v_istore (P := True) S hl [(6, .int bb), (5, .int k1), (0, .ref b), (1, .ref (ad 0)), (2, .ref (ad 141)), (3, .ref o), (4, .int (nI i))] dL_law_243 (by decide) rfl (fun ls hl _ => ?_) trivial
  refine v_aload_n (P := True) S hl 4 rfl rfl dL_law_245 (fun _ => ?_) trivial
  refine l_ref S hL [] (RX7, TX7, 11) (ci := 7) (j := 141) rfl rfl (by decide) ⟨by decide, by decide⟩ (met_X7_thrown l g ad true (o + 1) σ2 141 (σ2 141 0) (by unfold fn_X7_thrown; rw [ck_M]; rfl)) mw_X7_thrown u174 dL_law_246 rfl rfl hl.1 (Nat.le_of_ble_eq_true rfl) ⟨(Nat.le_of_ble_eq_true rfl), (Nat.le_of_ble_eq_true rfl)⟩ rfl rfl ⟨show cells + 4 + 0 + 0 ≤ 601024 by omega, show slots + 24 + 0 + 0 ≤ 7293033 by omega⟩ (fun H locs hL => ?_)
  obtain ⟨t1, t2⟩ := thr (by decide) (by decide) hok hq
  refine v_iload (P := True) S hl 1 rfl dL_law_249 (fun _ => ?_) trivial
  refine v_icmp_eq_t (P := True) S 256 t1 dL_law_251 (by decide) (fun _ => ?_) trivial
  refine v_iload (P := True) S hl 1 rfl dL_law_256 (fun _ => ?_) trivial
  by_cases h0 : k1 = 0
  · refine v_if_ne_f (P := True) S 273 h0 dL_law_258 (by decide) (fun _ => ?_) trivial
    refine v_aload_n (P := True) S hl 5 rfl rfl dL_law_261 (fun _ => ?_) trivial
    refine v_iconst (P := True) S 0 dL_law_262 rfl (fun _ => ?_) trivial
    refine l_ld S hL dL_law_263 ?_
    refine v_iload (P := True) S hl 0 rfl dL_law_264 (fun _ => ?_) trivial
    refine v_i2l (P := True) S dL_law_266 (fun _ => ?_) trivial
    refine v_lcmp (P := True) S dL_law_267 (fun _ => ?_) trivial
    refine v_if_eq_t (P := True) S 273 ((lg_cmp_eq _ _).mpr (t2 h0)) dL_law_268 (by decide) (fun _ => ?_) trivial
    refine v_goto (P := True) S 1315 dL_law_273 (by decide) (fun _ => ?_) trivial
    refine W.widen (k := cells + 353) (n := slots + 2850) (by omega) (by omega) ?_
    exact kk σ2 f3 H locs ls (lv_sub hl [2, 3, 4, 5, 6] rfl) hL (Inv_le (by omega) hI2)
  · refine v_if_ne_t (P := True) S 273 h0 dL_law_258 (by decide) (fun _ => ?_) trivial
    refine v_goto (P := True) S 1315 dL_law_273 (by decide) (fun _ => ?_) trivial
    refine W.widen (k := cells + 353) (n := slots + 2850) (by omega) (by omega) ?_
    exact kk σ2 f3 H locs ls (lv_sub hl [2, 3, 4, 5, 6] rfl) hL (Inv_le (by omega) hI2)
set_option maxHeartbeats 4000000 in
set_option maxRecDepth 100000 in
theorem law_c2 {p : Program} {l : Launch} {e : Env} {s : State} {m : MethodId} {args : Array Value} {below : List Frame} {meth : Method} {c : Code} {H : Heap} {locs : List Loc} {cells slots : Nat} {Q : State → Prop} {ls : Array Slot} {g : GT} {ad : Nat → Nat} {σ : Mem} {o : Nat} {f : Nat → Int64} {b L i B : Nat} {xs : Nat → Int32} (S : CallFix p m c cL_law 9 s args AL RL) (hst : l.stackTraces = false) (hX : va_X b L xs s s.heap) (hb : b < s.heap.size) (hLn : L ≤ 2560) (hi : i + 5 ≤ L) (hcl : cells + 353 ≤ 601024) (hsl : slots + 2850 ≤ 7293033) (hL : LW g ad σ o f s H locs) (hB : B ≤ 1000000) (hI : Inv B σ) (hl : lv_has ls 9 [(0, .ref b), (1, .ref (ad 0)), (2, .ref (ad 141)), (3, .ref o), (4, .int (nI i))]) (kk : ∀ (σ2 : Mem) (f2 : Nat → Int64) (H2 : Heap) (locs2 : List Loc) (ls2 : Array Slot), lv_has ls2 9 [(0, .ref b), (1, .ref (ad 0)), (2, .ref (ad 141)), (3, .ref o), (4, .int (nI i))] → LW g ad σ2 o f2 s H2 locs2 → Inv (B + 240) σ2 → W p l e room_1 s m args below meth c H2 locs2 (cells + 353) (slots + 2850) Q (F0 m 1315 ls2 [])) : W p l e room_1 s m args below meth c H locs cells slots Q (F0 m 276 ls []) := by
  obtain ⟨rr, σ1, bb, σ2, e1, e2, hI2, hok⟩ := P_store B (xs (i + 1)) σ hI
  refine v_aload_n (P := True) S hl 1 rfl rfl dL_law_276 (fun _ => ?_) trivial
  refine l_arg S hL hX hb hl 0 4 rfl rfl 1 rfl (by omega) hLn dL_law_277 dL_law_278 dL_law_280 dL_law_281 dL_law_282 ?_
  refine v_aload_n (P := True) S hl 3 rfl rfl dL_law_283 (fun _ => ?_) trivial
  refine l_wrap S hL [.ref (ad 0), .int (xs (i + 1)), .ref o] (met_L_store l hst g ad σ o f (xs (i + 1)) (rr, σ1) e1 (okk hok)) mh_store u177 dL_law_284 rfl rfl hl.1 (Nat.le_of_ble_eq_true rfl) ⟨(Nat.le_of_ble_eq_true rfl), (Nat.le_of_ble_eq_true rfl)⟩ rfl rfl ⟨show cells + 1 ≤ 601024 by omega, show slots + 6 ≤ 7293033 by omega⟩ (fun k1 σ3 f3 H locs hq hL => ?_)
  refine v_istore (P := True) S hl [(5, .int k1), (0, .ref b), (1, .ref (ad 0)), (2, .ref (ad 141)), (3, .ref o), (4, .int (nI i))] dL_law_287 (by decide) rfl (fun ls hl _ => ?_) trivial
  have e3 : σ3 = σ1 := hq.1
  subst e3
  refine v_aload_n (P := True) S hl 3 rfl rfl dL_law_289 (fun _ => ?_) trivial
  refine l_arg S hL hX hb hl 1 5 rfl rfl 1 rfl (by omega) hLn dL_law_290 dL_law_291 dL_law_293 dL_law_294 dL_law_295 ?_
  refine l_ref S hL [.int (xs (i + 1))] (RX7, TX7, 11) (ci := 7) (j := 141) rfl rfl (by decide) ⟨by decide, by decide⟩ (met_X7_store l g ad true (o + 1) σ3 141 (xs (i + 1)) bb σ2 e2) mw_X7_store u178 dL_law_296 rfl rfl hl.1 (Nat.le_of_ble_eq_true rfl) ⟨(Nat.le_of_ble_eq_true rfl), (Nat.le_of_ble_eq_true rfl)⟩ rfl rfl ⟨show cells + 1 + 0 ≤ 601024 by omega, show slots + 6 + 0 ≤ 7293033 by omega⟩ (fun H locs hL => ?_)
  refine v_istore (P := True) S hl [(6, .int bb), (5, .int k1), (0, .ref b), (1, .ref (ad 0)), (2, .ref (ad 141)), (3, .ref o), (4, .int (nI i))] dL_law_299 (by decide) rfl (fun ls hl _ => ?_) trivial
  refine v_aload_n (P := True) S hl 4 rfl rfl dL_law_301 (fun _ => ?_) trivial
  refine l_ref S hL [] (RX7, TX7, 11) (ci := 7) (j := 141) rfl rfl (by decide) ⟨by decide, by decide⟩ (met_X7_thrown l g ad true (o + 1) σ2 141 (σ2 141 0) (by unfold fn_X7_thrown; rw [ck_M]; rfl)) mw_X7_thrown u174 dL_law_302 rfl rfl hl.1 (Nat.le_of_ble_eq_true rfl) ⟨(Nat.le_of_ble_eq_true rfl), (Nat.le_of_ble_eq_true rfl)⟩ rfl rfl ⟨show cells + 1 + 0 + 0 ≤ 601024 by omega, show slots + 6 + 0 + 0 ≤ 7293033 by omega⟩ (fun H locs hL => ?_)
  obtain ⟨t1, t2⟩ := thr (by decide) (by decide) hok hq
  refine v_iload (P := True) S hl 1 rfl dL_law_305 (fun _ => ?_) trivial
  refine v_icmp_eq_t (P := True) S 312 t1 dL_law_307 (by decide) (fun _ => ?_) trivial
  refine v_iload (P := True) S hl 1 rfl dL_law_312 (fun _ => ?_) trivial
  by_cases h0 : k1 = 0
  · refine v_if_ne_f (P := True) S 329 h0 dL_law_314 (by decide) (fun _ => ?_) trivial
    refine v_aload_n (P := True) S hl 5 rfl rfl dL_law_317 (fun _ => ?_) trivial
    refine v_iconst (P := True) S 0 dL_law_318 rfl (fun _ => ?_) trivial
    refine l_ld S hL dL_law_319 ?_
    refine v_iload (P := True) S hl 0 rfl dL_law_320 (fun _ => ?_) trivial
    refine v_i2l (P := True) S dL_law_322 (fun _ => ?_) trivial
    refine v_lcmp (P := True) S dL_law_323 (fun _ => ?_) trivial
    refine v_if_eq_t (P := True) S 329 ((lg_cmp_eq _ _).mpr (t2 h0)) dL_law_324 (by decide) (fun _ => ?_) trivial
    refine v_goto (P := True) S 1315 dL_law_329 (by decide) (fun _ => ?_) trivial
    refine W.widen (k := cells + 353) (n := slots + 2850) (by omega) (by omega) ?_
    exact kk σ2 f3 H locs ls (lv_sub hl [2, 3, 4, 5, 6] rfl) hL (Inv_le (by omega) hI2)
  · refine v_if_ne_t (P := True) S 329 h0 dL_law_314 (by decide) (fun _ => ?_) trivial
    refine v_goto (P := True) S 1315 dL_law_329 (by decide) (fun _ => ?_) trivial
    refine W.widen (k := cells + 353) (n := slots + 2850) (by omega) (by omega) ?_
    exact kk σ2 f3 H locs ls (lv_sub hl [2, 3, 4, 5, 6] rfl) hL (Inv_le (by omega) hI2)
set_option maxHeartbeats 4000000 in
set_option maxRecDepth 100000 in
theorem law_c3 {p : Program} {l : Launch} {e : Env} {s : State} {m : MethodId} {args : Array Value} {below : List Frame} {meth : Method} {c : Code} {H : Heap} {locs : List Loc} {cells slots : Nat} {Q : State → Prop} {ls : Array Slot} {g : GT} {ad : Nat → Nat} {σ : Mem} {o : Nat} {f : Nat → Int64} {b L i B : Nat} {xs : Nat → Int32} (S : CallFix p m c cL_law 9 s args AL RL) (hst : l.stackTraces = false) (hX : va_X b L xs s s.heap) (hb : b < s.heap.size) (hLn : L ≤ 2560) (hi : i + 5 ≤ L) (hcl : cells + 353 ≤ 601024) (hsl : slots + 2850 ≤ 7293033) (hL : LW g ad σ o f s H locs) (hB : B ≤ 1000000) (hI : Inv B σ) (hl : lv_has ls 9 [(0, .ref b), (1, .ref (ad 0)), (2, .ref (ad 141)), (3, .ref o), (4, .int (nI i))]) (kk : ∀ (σ2 : Mem) (f2 : Nat → Int64) (H2 : Heap) (locs2 : List Loc) (ls2 : Array Slot), lv_has ls2 9 [(0, .ref b), (1, .ref (ad 0)), (2, .ref (ad 141)), (3, .ref o), (4, .int (nI i))] → LW g ad σ2 o f2 s H2 locs2 → Inv (B + 240) σ2 → W p l e room_1 s m args below meth c H2 locs2 (cells + 353) (slots + 2850) Q (F0 m 1315 ls2 [])) : W p l e room_1 s m args below meth c H locs cells slots Q (F0 m 332 ls []) := by
  obtain ⟨rr, bb, σ2, e1, e2, hI2, hok⟩ := P_lasts B (xs (i + 1)) (xs (i + 2)) σ hI
  refine v_aload_n (P := True) S hl 1 rfl rfl dL_law_332 (fun _ => ?_) trivial
  refine l_arg S hL hX hb hl 0 4 rfl rfl 1 rfl (by omega) hLn dL_law_333 dL_law_334 dL_law_336 dL_law_337 dL_law_338 ?_
  refine l_arg S hL hX hb hl 0 4 rfl rfl 2 rfl (by omega) hLn dL_law_339 dL_law_340 dL_law_342 dL_law_343 dL_law_344 ?_
  refine v_aload_n (P := True) S hl 3 rfl rfl dL_law_345 (fun _ => ?_) trivial
  refine l_wrap S hL [.ref (ad 0), .int (xs (i + 1)), .int (xs (i + 2)), .ref o] (met_L_lasts l hst g ad σ o f (xs (i + 1)) (xs (i + 2)) rr e1 (okk hok)) mh_lasts u179 dL_law_346 rfl rfl hl.1 (Nat.le_of_ble_eq_true rfl) ⟨(Nat.le_of_ble_eq_true rfl), (Nat.le_of_ble_eq_true rfl)⟩ rfl rfl ⟨show cells + 2 ≤ 601024 by omega, show slots + 12 ≤ 7293033 by omega⟩ (fun k1 σ3 f3 H locs hq hL => ?_)
  refine v_istore (P := True) S hl [(5, .int k1), (0, .ref b), (1, .ref (ad 0)), (2, .ref (ad 141)), (3, .ref o), (4, .int (nI i))] dL_law_349 (by decide) rfl (fun ls hl _ => ?_) trivial
  have e3 : σ = σ3 := hq.1.symm
  subst e3
  refine v_aload_n (P := True) S hl 3 rfl rfl dL_law_351 (fun _ => ?_) trivial
  refine l_arg S hL hX hb hl 1 5 rfl rfl 1 rfl (by omega) hLn dL_law_352 dL_law_353 dL_law_355 dL_law_356 dL_law_357 ?_
  refine l_arg S hL hX hb hl 1 5 rfl rfl 2 rfl (by omega) hLn dL_law_358 dL_law_359 dL_law_361 dL_law_362 dL_law_363 ?_
  refine l_ref S hL [.int (xs (i + 1)), .int (xs (i + 2))] (RX7, TX7, 11) (ci := 7) (j := 141) rfl rfl (by decide) ⟨by decide, by decide⟩ (met_X7_lasts l g ad true (o + 1) σ 141 (xs (i + 1)) (xs (i + 2)) bb σ2 e2) mw_X7_lasts u180 dL_law_364 rfl rfl hl.1 (Nat.le_of_ble_eq_true rfl) ⟨(Nat.le_of_ble_eq_true rfl), (Nat.le_of_ble_eq_true rfl)⟩ rfl rfl ⟨show cells + 2 + 0 ≤ 601024 by omega, show slots + 12 + 0 ≤ 7293033 by omega⟩ (fun H locs hL => ?_)
  refine v_istore (P := True) S hl [(6, .int bb), (5, .int k1), (0, .ref b), (1, .ref (ad 0)), (2, .ref (ad 141)), (3, .ref o), (4, .int (nI i))] dL_law_367 (by decide) rfl (fun ls hl _ => ?_) trivial
  refine v_aload_n (P := True) S hl 4 rfl rfl dL_law_369 (fun _ => ?_) trivial
  refine l_ref S hL [] (RX7, TX7, 11) (ci := 7) (j := 141) rfl rfl (by decide) ⟨by decide, by decide⟩ (met_X7_thrown l g ad true (o + 1) σ2 141 (σ2 141 0) (by unfold fn_X7_thrown; rw [ck_M]; rfl)) mw_X7_thrown u174 dL_law_370 rfl rfl hl.1 (Nat.le_of_ble_eq_true rfl) ⟨(Nat.le_of_ble_eq_true rfl), (Nat.le_of_ble_eq_true rfl)⟩ rfl rfl ⟨show cells + 2 + 0 + 0 ≤ 601024 by omega, show slots + 12 + 0 + 0 ≤ 7293033 by omega⟩ (fun H locs hL => ?_)
  obtain ⟨t1, t2⟩ := thr (by decide) (by decide) hok hq
  refine v_iload (P := True) S hl 1 rfl dL_law_373 (fun _ => ?_) trivial
  refine v_icmp_eq_t (P := True) S 380 t1 dL_law_375 (by decide) (fun _ => ?_) trivial
  refine v_iload (P := True) S hl 1 rfl dL_law_380 (fun _ => ?_) trivial
  by_cases h0 : k1 = 0
  · refine v_if_ne_f (P := True) S 397 h0 dL_law_382 (by decide) (fun _ => ?_) trivial
    refine v_aload_n (P := True) S hl 5 rfl rfl dL_law_385 (fun _ => ?_) trivial
    refine v_iconst (P := True) S 0 dL_law_386 rfl (fun _ => ?_) trivial
    refine l_ld S hL dL_law_387 ?_
    refine v_iload (P := True) S hl 0 rfl dL_law_388 (fun _ => ?_) trivial
    refine v_i2l (P := True) S dL_law_390 (fun _ => ?_) trivial
    refine v_lcmp (P := True) S dL_law_391 (fun _ => ?_) trivial
    refine v_if_eq_t (P := True) S 397 ((lg_cmp_eq _ _).mpr (t2 h0)) dL_law_392 (by decide) (fun _ => ?_) trivial
    refine v_goto (P := True) S 1315 dL_law_397 (by decide) (fun _ => ?_) trivial
    refine W.widen (k := cells + 353) (n := slots + 2850) (by omega) (by omega) ?_
    exact kk σ2 f3 H locs ls (lv_sub hl [2, 3, 4, 5, 6] rfl) hL (Inv_le (by omega) hI2)
  · refine v_if_ne_t (P := True) S 397 h0 dL_law_382 (by decide) (fun _ => ?_) trivial
    refine v_goto (P := True) S 1315 dL_law_397 (by decide) (fun _ => ?_) trivial
    refine W.widen (k := cells + 353) (n := slots + 2850) (by omega) (by omega) ?_
    exact kk σ2 f3 H locs ls (lv_sub hl [2, 3, 4, 5, 6] rfl) hL (Inv_le (by omega) hI2)
set_option maxHeartbeats 4000000 in
set_option maxRecDepth 100000 in
theorem law_c4 {p : Program} {l : Launch} {e : Env} {s : State} {m : MethodId} {args : Array Value} {below : List Frame} {meth : Method} {c : Code} {H : Heap} {locs : List Loc} {cells slots : Nat} {Q : State → Prop} {ls : Array Slot} {g : GT} {ad : Nat → Nat} {σ : Mem} {o : Nat} {f : Nat → Int64} {b L i B : Nat} {xs : Nat → Int32} (S : CallFix p m c cL_law 9 s args AL RL) (hst : l.stackTraces = false) (hX : va_X b L xs s s.heap) (hb : b < s.heap.size) (hLn : L ≤ 2560) (hi : i + 5 ≤ L) (hcl : cells + 353 ≤ 601024) (hsl : slots + 2850 ≤ 7293033) (hL : LW g ad σ o f s H locs) (hB : B ≤ 1000000) (hI : Inv B σ) (hl : lv_has ls 9 [(0, .ref b), (1, .ref (ad 0)), (2, .ref (ad 141)), (3, .ref o), (4, .int (nI i))]) (kk : ∀ (σ2 : Mem) (f2 : Nat → Int64) (H2 : Heap) (locs2 : List Loc) (ls2 : Array Slot), lv_has ls2 9 [(0, .ref b), (1, .ref (ad 0)), (2, .ref (ad 141)), (3, .ref o), (4, .int (nI i))] → LW g ad σ2 o f2 s H2 locs2 → Inv (B + 240) σ2 → W p l e room_1 s m args below meth c H2 locs2 (cells + 353) (slots + 2850) Q (F0 m 1315 ls2 [])) : W p l e room_1 s m args below meth c H locs cells slots Q (F0 m 400 ls []) := by
  obtain ⟨rr, bb, σ2, e1, e2, hI2, hok⟩ := P_bell B hB (xs (i + 1)) (xs (i + 2)) σ hI
  refine v_aload_n (P := True) S hl 1 rfl rfl dL_law_400 (fun _ => ?_) trivial
  refine l_arg S hL hX hb hl 0 4 rfl rfl 1 rfl (by omega) hLn dL_law_401 dL_law_402 dL_law_404 dL_law_405 dL_law_406 ?_
  refine l_arg S hL hX hb hl 0 4 rfl rfl 2 rfl (by omega) hLn dL_law_407 dL_law_408 dL_law_410 dL_law_411 dL_law_412 ?_
  refine v_aload_n (P := True) S hl 3 rfl rfl dL_law_413 (fun _ => ?_) trivial
  refine l_wrap S hL [.ref (ad 0), .int (xs (i + 1)), .int (xs (i + 2)), .ref o] (met_L_bell l hst g ad σ o f (xs (i + 1)) (xs (i + 2)) rr e1 (okk hok)) mh_bell u181 dL_law_414 rfl rfl hl.1 (Nat.le_of_ble_eq_true rfl) ⟨(Nat.le_of_ble_eq_true rfl), (Nat.le_of_ble_eq_true rfl)⟩ rfl rfl ⟨show cells + 2 ≤ 601024 by omega, show slots + 12 ≤ 7293033 by omega⟩ (fun k1 σ3 f3 H locs hq hL => ?_)
  refine v_istore (P := True) S hl [(5, .int k1), (0, .ref b), (1, .ref (ad 0)), (2, .ref (ad 141)), (3, .ref o), (4, .int (nI i))] dL_law_417 (by decide) rfl (fun ls hl _ => ?_) trivial
  have e3 : σ = σ3 := hq.1.symm
  subst e3
  refine v_aload_n (P := True) S hl 3 rfl rfl dL_law_419 (fun _ => ?_) trivial
  refine l_arg S hL hX hb hl 1 5 rfl rfl 1 rfl (by omega) hLn dL_law_420 dL_law_421 dL_law_423 dL_law_424 dL_law_425 ?_
  refine l_arg S hL hX hb hl 1 5 rfl rfl 2 rfl (by omega) hLn dL_law_426 dL_law_427 dL_law_429 dL_law_430 dL_law_431 ?_
  refine l_ref S hL [.int (xs (i + 1)), .int (xs (i + 2))] (RX7, TX7, 11) (ci := 7) (j := 141) rfl rfl (by decide) ⟨by decide, by decide⟩ (met_X7_bell l g ad true (o + 1) σ 141 (xs (i + 1)) (xs (i + 2)) bb σ2 e2) mw_X7_bell u182 dL_law_432 rfl rfl hl.1 (Nat.le_of_ble_eq_true rfl) ⟨(Nat.le_of_ble_eq_true rfl), (Nat.le_of_ble_eq_true rfl)⟩ rfl rfl ⟨show cells + 2 + 1 ≤ 601024 by omega, show slots + 12 + 9 ≤ 7293033 by omega⟩ (fun H locs hL => ?_)
  refine v_istore (P := True) S hl [(6, .int bb), (5, .int k1), (0, .ref b), (1, .ref (ad 0)), (2, .ref (ad 141)), (3, .ref o), (4, .int (nI i))] dL_law_435 (by decide) rfl (fun ls hl _ => ?_) trivial
  refine v_aload_n (P := True) S hl 4 rfl rfl dL_law_437 (fun _ => ?_) trivial
  refine l_ref S hL [] (RX7, TX7, 11) (ci := 7) (j := 141) rfl rfl (by decide) ⟨by decide, by decide⟩ (met_X7_thrown l g ad true (o + 1) σ2 141 (σ2 141 0) (by unfold fn_X7_thrown; rw [ck_M]; rfl)) mw_X7_thrown u174 dL_law_438 rfl rfl hl.1 (Nat.le_of_ble_eq_true rfl) ⟨(Nat.le_of_ble_eq_true rfl), (Nat.le_of_ble_eq_true rfl)⟩ rfl rfl ⟨show cells + 2 + 1 + 0 ≤ 601024 by omega, show slots + 12 + 9 + 0 ≤ 7293033 by omega⟩ (fun H locs hL => ?_)
  obtain ⟨t1, t2⟩ := thr (by decide) (by decide) hok hq
  refine v_iload (P := True) S hl 1 rfl dL_law_441 (fun _ => ?_) trivial
  refine v_icmp_eq_t (P := True) S 448 t1 dL_law_443 (by decide) (fun _ => ?_) trivial
  refine v_iload (P := True) S hl 1 rfl dL_law_448 (fun _ => ?_) trivial
  by_cases h0 : k1 = 0
  · refine v_if_ne_f (P := True) S 465 h0 dL_law_450 (by decide) (fun _ => ?_) trivial
    refine v_aload_n (P := True) S hl 5 rfl rfl dL_law_453 (fun _ => ?_) trivial
    refine v_iconst (P := True) S 0 dL_law_454 rfl (fun _ => ?_) trivial
    refine l_ld S hL dL_law_455 ?_
    refine v_iload (P := True) S hl 0 rfl dL_law_456 (fun _ => ?_) trivial
    refine v_i2l (P := True) S dL_law_458 (fun _ => ?_) trivial
    refine v_lcmp (P := True) S dL_law_459 (fun _ => ?_) trivial
    refine v_if_eq_t (P := True) S 465 ((lg_cmp_eq _ _).mpr (t2 h0)) dL_law_460 (by decide) (fun _ => ?_) trivial
    refine v_goto (P := True) S 1315 dL_law_465 (by decide) (fun _ => ?_) trivial
    refine W.widen (k := cells + 353) (n := slots + 2850) (by omega) (by omega) ?_
    exact kk σ2 f3 H locs ls (lv_sub hl [2, 3, 4, 5, 6] rfl) hL (Inv_le (by omega) hI2)
  · refine v_if_ne_t (P := True) S 465 h0 dL_law_450 (by decide) (fun _ => ?_) trivial
    refine v_goto (P := True) S 1315 dL_law_465 (by decide) (fun _ => ?_) trivial
    refine W.widen (k := cells + 353) (n := slots + 2850) (by omega) (by omega) ?_
    exact kk σ2 f3 H locs ls (lv_sub hl [2, 3, 4, 5, 6] rfl) hL (Inv_le (by omega) hI2)
set_option maxHeartbeats 4000000 in
set_option maxRecDepth 100000 in
theorem law_c5 {p : Program} {l : Launch} {e : Env} {s : State} {m : MethodId} {args : Array Value} {below : List Frame} {meth : Method} {c : Code} {H : Heap} {locs : List Loc} {cells slots : Nat} {Q : State → Prop} {ls : Array Slot} {g : GT} {ad : Nat → Nat} {σ : Mem} {o : Nat} {f : Nat → Int64} {b L i B : Nat} {xs : Nat → Int32} (S : CallFix p m c cL_law 9 s args AL RL) (hst : l.stackTraces = false) (hX : va_X b L xs s s.heap) (hb : b < s.heap.size) (hLn : L ≤ 2560) (hi : i + 5 ≤ L) (hcl : cells + 353 ≤ 601024) (hsl : slots + 2850 ≤ 7293033) (hL : LW g ad σ o f s H locs) (hB : B ≤ 1000000) (hI : Inv B σ) (hl : lv_has ls 9 [(0, .ref b), (1, .ref (ad 0)), (2, .ref (ad 141)), (3, .ref o), (4, .int (nI i))]) (kk : ∀ (σ2 : Mem) (f2 : Nat → Int64) (H2 : Heap) (locs2 : List Loc) (ls2 : Array Slot), lv_has ls2 9 [(0, .ref b), (1, .ref (ad 0)), (2, .ref (ad 141)), (3, .ref o), (4, .int (nI i))] → LW g ad σ2 o f2 s H2 locs2 → Inv (B + 240) σ2 → W p l e room_1 s m args below meth c H2 locs2 (cells + 353) (slots + 2850) Q (F0 m 1315 ls2 [])) : W p l e room_1 s m args below meth c H locs cells slots Q (F0 m 468 ls []) := by
  obtain ⟨rr, σ1, bb, σ2, e1, e2, hI2, hok⟩ := P_ringer B (xs (i + 1)) σ hI
  refine v_aload_n (P := True) S hl 1 rfl rfl dL_law_468 (fun _ => ?_) trivial
  refine l_arg S hL hX hb hl 0 4 rfl rfl 1 rfl (by omega) hLn dL_law_469 dL_law_470 dL_law_472 dL_law_473 dL_law_474 ?_
  refine v_aload_n (P := True) S hl 3 rfl rfl dL_law_475 (fun _ => ?_) trivial
  refine l_wrap S hL [.ref (ad 0), .int (xs (i + 1)), .ref o] (met_L_ringer l hst g ad σ o f (xs (i + 1)) (rr, σ1) e1 (okk hok)) mh_ringer u183 dL_law_476 rfl rfl hl.1 (Nat.le_of_ble_eq_true rfl) ⟨(Nat.le_of_ble_eq_true rfl), (Nat.le_of_ble_eq_true rfl)⟩ rfl rfl ⟨show cells + 2 ≤ 601024 by omega, show slots + 12 ≤ 7293033 by omega⟩ (fun k1 σ3 f3 H locs hq hL => ?_)
  refine v_istore (P := True) S hl [(5, .int k1), (0, .ref b), (1, .ref (ad 0)), (2, .ref (ad 141)), (3, .ref o), (4, .int (nI i))] dL_law_479 (by decide) rfl (fun ls hl _ => ?_) trivial
  have e3 : σ3 = σ1 := hq.1
  subst e3
  refine v_aload_n (P := True) S hl 3 rfl rfl dL_law_481 (fun _ => ?_) trivial
  refine l_arg S hL hX hb hl 1 5 rfl rfl 1 rfl (by omega) hLn dL_law_482 dL_law_483 dL_law_485 dL_law_486 dL_law_487 ?_
  refine l_ref S hL [.int (xs (i + 1))] (RX7, TX7, 11) (ci := 7) (j := 141) rfl rfl (by decide) ⟨by decide, by decide⟩ (met_X7_ringer l g ad true (o + 1) σ3 141 (xs (i + 1)) bb σ2 e2) mw_X7_ringer u184 dL_law_488 rfl rfl hl.1 (Nat.le_of_ble_eq_true rfl) ⟨(Nat.le_of_ble_eq_true rfl), (Nat.le_of_ble_eq_true rfl)⟩ rfl rfl ⟨show cells + 2 + 0 ≤ 601024 by omega, show slots + 12 + 0 ≤ 7293033 by omega⟩ (fun H locs hL => ?_)
  refine v_istore (P := True) S hl [(6, .int bb), (5, .int k1), (0, .ref b), (1, .ref (ad 0)), (2, .ref (ad 141)), (3, .ref o), (4, .int (nI i))] dL_law_491 (by decide) rfl (fun ls hl _ => ?_) trivial
  refine v_aload_n (P := True) S hl 4 rfl rfl dL_law_493 (fun _ => ?_) trivial
  refine l_ref S hL [] (RX7, TX7, 11) (ci := 7) (j := 141) rfl rfl (by decide) ⟨by decide, by decide⟩ (met_X7_thrown l g ad true (o + 1) σ2 141 (σ2 141 0) (by unfold fn_X7_thrown; rw [ck_M]; rfl)) mw_X7_thrown u174 dL_law_494 rfl rfl hl.1 (Nat.le_of_ble_eq_true rfl) ⟨(Nat.le_of_ble_eq_true rfl), (Nat.le_of_ble_eq_true rfl)⟩ rfl rfl ⟨show cells + 2 + 0 + 0 ≤ 601024 by omega, show slots + 12 + 0 + 0 ≤ 7293033 by omega⟩ (fun H locs hL => ?_)
  obtain ⟨t1, t2⟩ := thr (by decide) (by decide) hok hq
  refine v_iload (P := True) S hl 1 rfl dL_law_497 (fun _ => ?_) trivial
  refine v_icmp_eq_t (P := True) S 504 t1 dL_law_499 (by decide) (fun _ => ?_) trivial
  refine v_iload (P := True) S hl 1 rfl dL_law_504 (fun _ => ?_) trivial
  by_cases h0 : k1 = 0
  · refine v_if_ne_f (P := True) S 521 h0 dL_law_506 (by decide) (fun _ => ?_) trivial
    refine v_aload_n (P := True) S hl 5 rfl rfl dL_law_509 (fun _ => ?_) trivial
    refine v_iconst (P := True) S 0 dL_law_510 rfl (fun _ => ?_) trivial
    refine l_ld S hL dL_law_511 ?_
    refine v_iload (P := True) S hl 0 rfl dL_law_512 (fun _ => ?_) trivial
    refine v_i2l (P := True) S dL_law_514 (fun _ => ?_) trivial
    refine v_lcmp (P := True) S dL_law_515 (fun _ => ?_) trivial
    refine v_if_eq_t (P := True) S 521 ((lg_cmp_eq _ _).mpr (t2 h0)) dL_law_516 (by decide) (fun _ => ?_) trivial
    refine v_goto (P := True) S 1315 dL_law_521 (by decide) (fun _ => ?_) trivial
    refine W.widen (k := cells + 353) (n := slots + 2850) (by omega) (by omega) ?_
    exact kk σ2 f3 H locs ls (lv_sub hl [2, 3, 4, 5, 6] rfl) hL (Inv_le (by omega) hI2)
  · refine v_if_ne_t (P := True) S 521 h0 dL_law_506 (by decide) (fun _ => ?_) trivial
    refine v_goto (P := True) S 1315 dL_law_521 (by decide) (fun _ => ?_) trivial
    refine W.widen (k := cells + 353) (n := slots + 2850) (by omega) (by omega) ?_
    exact kk σ2 f3 H locs ls (lv_sub hl [2, 3, 4, 5, 6] rfl) hL (Inv_le (by omega) hI2)
set_option maxHeartbeats 4000000 in
set_option maxRecDepth 100000 in
theorem law_c6 {p : Program} {l : Launch} {e : Env} {s : State} {m : MethodId} {args : Array Value} {below : List Frame} {meth : Method} {c : Code} {H : Heap} {locs : List Loc} {cells slots : Nat} {Q : State → Prop} {ls : Array Slot} {g : GT} {ad : Nat → Nat} {σ : Mem} {o : Nat} {f : Nat → Int64} {b L i B : Nat} {xs : Nat → Int32} (S : CallFix p m c cL_law 9 s args AL RL) (hst : l.stackTraces = false) (hX : va_X b L xs s s.heap) (hb : b < s.heap.size) (hLn : L ≤ 2560) (hi : i + 5 ≤ L) (hcl : cells + 353 ≤ 601024) (hsl : slots + 2850 ≤ 7293033) (hL : LW g ad σ o f s H locs) (hB : B ≤ 1000000) (hI : Inv B σ) (hl : lv_has ls 9 [(0, .ref b), (1, .ref (ad 0)), (2, .ref (ad 141)), (3, .ref o), (4, .int (nI i))]) (kk : ∀ (σ2 : Mem) (f2 : Nat → Int64) (H2 : Heap) (locs2 : List Loc) (ls2 : Array Slot), lv_has ls2 9 [(0, .ref b), (1, .ref (ad 0)), (2, .ref (ad 141)), (3, .ref o), (4, .int (nI i))] → LW g ad σ2 o f2 s H2 locs2 → Inv (B + 240) σ2 → W p l e room_1 s m args below meth c H2 locs2 (cells + 353) (slots + 2850) Q (F0 m 1315 ls2 [])) : W p l e room_1 s m args below meth c H locs cells slots Q (F0 m 524 ls []) := by
  obtain ⟨rr, σ1, bb, σ2, e1, e2, hI2, hok⟩ := P_send B (xs (i + 1)) (xs (i + 2)) σ hI
  refine v_aload_n (P := True) S hl 1 rfl rfl dL_law_524 (fun _ => ?_) trivial
  refine l_arg S hL hX hb hl 0 4 rfl rfl 1 rfl (by omega) hLn dL_law_525 dL_law_526 dL_law_528 dL_law_529 dL_law_530 ?_
  refine l_arg S hL hX hb hl 0 4 rfl rfl 2 rfl (by omega) hLn dL_law_531 dL_law_532 dL_law_534 dL_law_535 dL_law_536 ?_
  refine v_aload_n (P := True) S hl 3 rfl rfl dL_law_537 (fun _ => ?_) trivial
  refine l_wrap S hL [.ref (ad 0), .int (xs (i + 1)), .int (xs (i + 2)), .ref o] (met_L_send l hst g ad σ o f (xs (i + 1)) (xs (i + 2)) (rr, σ1) e1 (okk hok)) mh_send u185 dL_law_538 rfl rfl hl.1 (Nat.le_of_ble_eq_true rfl) ⟨(Nat.le_of_ble_eq_true rfl), (Nat.le_of_ble_eq_true rfl)⟩ rfl rfl ⟨show cells + 3 ≤ 601024 by omega, show slots + 18 ≤ 7293033 by omega⟩ (fun k1 σ3 f3 H locs hq hL => ?_)
  refine v_istore (P := True) S hl [(5, .int k1), (0, .ref b), (1, .ref (ad 0)), (2, .ref (ad 141)), (3, .ref o), (4, .int (nI i))] dL_law_541 (by decide) rfl (fun ls hl _ => ?_) trivial
  have e3 : σ3 = σ1 := hq.1
  subst e3
  refine v_aload_n (P := True) S hl 3 rfl rfl dL_law_543 (fun _ => ?_) trivial
  refine l_arg S hL hX hb hl 1 5 rfl rfl 1 rfl (by omega) hLn dL_law_544 dL_law_545 dL_law_547 dL_law_548 dL_law_549 ?_
  refine l_arg S hL hX hb hl 1 5 rfl rfl 2 rfl (by omega) hLn dL_law_550 dL_law_551 dL_law_553 dL_law_554 dL_law_555 ?_
  refine l_ref S hL [.int (xs (i + 1)), .int (xs (i + 2))] (RX7, TX7, 11) (ci := 7) (j := 141) rfl rfl (by decide) ⟨by decide, by decide⟩ (met_X7_send l g ad true (o + 1) σ3 141 (xs (i + 1)) (xs (i + 2)) bb σ2 e2) mw_X7_send u186 dL_law_556 rfl rfl hl.1 (Nat.le_of_ble_eq_true rfl) ⟨(Nat.le_of_ble_eq_true rfl), (Nat.le_of_ble_eq_true rfl)⟩ rfl rfl ⟨show cells + 3 + 0 ≤ 601024 by omega, show slots + 18 + 0 ≤ 7293033 by omega⟩ (fun H locs hL => ?_)
  refine v_istore (P := True) S hl [(6, .int bb), (5, .int k1), (0, .ref b), (1, .ref (ad 0)), (2, .ref (ad 141)), (3, .ref o), (4, .int (nI i))] dL_law_559 (by decide) rfl (fun ls hl _ => ?_) trivial
  refine v_aload_n (P := True) S hl 4 rfl rfl dL_law_561 (fun _ => ?_) trivial
  refine l_ref S hL [] (RX7, TX7, 11) (ci := 7) (j := 141) rfl rfl (by decide) ⟨by decide, by decide⟩ (met_X7_thrown l g ad true (o + 1) σ2 141 (σ2 141 0) (by unfold fn_X7_thrown; rw [ck_M]; rfl)) mw_X7_thrown u174 dL_law_562 rfl rfl hl.1 (Nat.le_of_ble_eq_true rfl) ⟨(Nat.le_of_ble_eq_true rfl), (Nat.le_of_ble_eq_true rfl)⟩ rfl rfl ⟨show cells + 3 + 0 + 0 ≤ 601024 by omega, show slots + 18 + 0 + 0 ≤ 7293033 by omega⟩ (fun H locs hL => ?_)
  obtain ⟨t1, t2⟩ := thr (by decide) (by decide) hok hq
  refine v_iload (P := True) S hl 1 rfl dL_law_565 (fun _ => ?_) trivial
  refine v_icmp_eq_t (P := True) S 572 t1 dL_law_567 (by decide) (fun _ => ?_) trivial
  refine v_iload (P := True) S hl 1 rfl dL_law_572 (fun _ => ?_) trivial
  by_cases h0 : k1 = 0
  · refine v_if_ne_f (P := True) S 589 h0 dL_law_574 (by decide) (fun _ => ?_) trivial
    refine v_aload_n (P := True) S hl 5 rfl rfl dL_law_577 (fun _ => ?_) trivial
    refine v_iconst (P := True) S 0 dL_law_578 rfl (fun _ => ?_) trivial
    refine l_ld S hL dL_law_579 ?_
    refine v_iload (P := True) S hl 0 rfl dL_law_580 (fun _ => ?_) trivial
    refine v_i2l (P := True) S dL_law_582 (fun _ => ?_) trivial
    refine v_lcmp (P := True) S dL_law_583 (fun _ => ?_) trivial
    refine v_if_eq_t (P := True) S 589 ((lg_cmp_eq _ _).mpr (t2 h0)) dL_law_584 (by decide) (fun _ => ?_) trivial
    refine v_goto (P := True) S 1315 dL_law_589 (by decide) (fun _ => ?_) trivial
    refine W.widen (k := cells + 353) (n := slots + 2850) (by omega) (by omega) ?_
    exact kk σ2 f3 H locs ls (lv_sub hl [2, 3, 4, 5, 6] rfl) hL (Inv_le (by omega) hI2)
  · refine v_if_ne_t (P := True) S 589 h0 dL_law_574 (by decide) (fun _ => ?_) trivial
    refine v_goto (P := True) S 1315 dL_law_589 (by decide) (fun _ => ?_) trivial
    refine W.widen (k := cells + 353) (n := slots + 2850) (by omega) (by omega) ?_
    exact kk σ2 f3 H locs ls (lv_sub hl [2, 3, 4, 5, 6] rfl) hL (Inv_le (by omega) hI2)
set_option maxHeartbeats 4000000 in
set_option maxRecDepth 100000 in
theorem law_c7 {p : Program} {l : Launch} {e : Env} {s : State} {m : MethodId} {args : Array Value} {below : List Frame} {meth : Method} {c : Code} {H : Heap} {locs : List Loc} {cells slots : Nat} {Q : State → Prop} {ls : Array Slot} {g : GT} {ad : Nat → Nat} {σ : Mem} {o : Nat} {f : Nat → Int64} {b L i B : Nat} {xs : Nat → Int32} (S : CallFix p m c cL_law 9 s args AL RL) (hst : l.stackTraces = false) (hX : va_X b L xs s s.heap) (hb : b < s.heap.size) (hLn : L ≤ 2560) (hi : i + 5 ≤ L) (hcl : cells + 353 ≤ 601024) (hsl : slots + 2850 ≤ 7293033) (hL : LW g ad σ o f s H locs) (hB : B ≤ 1000000) (hI : Inv B σ) (hl : lv_has ls 9 [(0, .ref b), (1, .ref (ad 0)), (2, .ref (ad 141)), (3, .ref o), (4, .int (nI i))]) (kk : ∀ (σ2 : Mem) (f2 : Nat → Int64) (H2 : Heap) (locs2 : List Loc) (ls2 : Array Slot), lv_has ls2 9 [(0, .ref b), (1, .ref (ad 0)), (2, .ref (ad 141)), (3, .ref o), (4, .int (nI i))] → LW g ad σ2 o f2 s H2 locs2 → Inv (B + 240) σ2 → W p l e room_1 s m args below meth c H2 locs2 (cells + 353) (slots + 2850) Q (F0 m 1315 ls2 [])) : W p l e room_1 s m args below meth c H locs cells slots Q (F0 m 592 ls []) := by
  obtain ⟨rr, bb, σ2, e1, e2, hI2, hok⟩ := P_told B (xs (i + 1)) (xs (i + 2)) σ hI
  refine v_aload_n (P := True) S hl 1 rfl rfl dL_law_592 (fun _ => ?_) trivial
  refine l_arg S hL hX hb hl 0 4 rfl rfl 1 rfl (by omega) hLn dL_law_593 dL_law_594 dL_law_596 dL_law_597 dL_law_598 ?_
  refine l_arg S hL hX hb hl 0 4 rfl rfl 2 rfl (by omega) hLn dL_law_599 dL_law_600 dL_law_602 dL_law_603 dL_law_604 ?_
  refine v_aload_n (P := True) S hl 3 rfl rfl dL_law_605 (fun _ => ?_) trivial
  refine l_wrap S hL [.ref (ad 0), .int (xs (i + 1)), .int (xs (i + 2)), .ref o] (met_L_told l hst g ad σ o f (xs (i + 1)) (xs (i + 2)) rr e1 (okk hok)) mh_told u187 dL_law_606 rfl rfl hl.1 (Nat.le_of_ble_eq_true rfl) ⟨(Nat.le_of_ble_eq_true rfl), (Nat.le_of_ble_eq_true rfl)⟩ rfl rfl ⟨show cells + 2 ≤ 601024 by omega, show slots + 12 ≤ 7293033 by omega⟩ (fun k1 σ3 f3 H locs hq hL => ?_)
  refine v_istore (P := True) S hl [(5, .int k1), (0, .ref b), (1, .ref (ad 0)), (2, .ref (ad 141)), (3, .ref o), (4, .int (nI i))] dL_law_609 (by decide) rfl (fun ls hl _ => ?_) trivial
  have e3 : σ = σ3 := hq.1.symm
  subst e3
  refine v_aload_n (P := True) S hl 3 rfl rfl dL_law_611 (fun _ => ?_) trivial
  refine l_arg S hL hX hb hl 1 5 rfl rfl 1 rfl (by omega) hLn dL_law_612 dL_law_613 dL_law_615 dL_law_616 dL_law_617 ?_
  refine l_arg S hL hX hb hl 1 5 rfl rfl 2 rfl (by omega) hLn dL_law_618 dL_law_619 dL_law_621 dL_law_622 dL_law_623 ?_
  refine l_ref S hL [.int (xs (i + 1)), .int (xs (i + 2))] (RX7, TX7, 11) (ci := 7) (j := 141) rfl rfl (by decide) ⟨by decide, by decide⟩ (met_X7_told l g ad true (o + 1) σ 141 (xs (i + 1)) (xs (i + 2)) bb σ2 e2) mw_X7_told u188 dL_law_624 rfl rfl hl.1 (Nat.le_of_ble_eq_true rfl) ⟨(Nat.le_of_ble_eq_true rfl), (Nat.le_of_ble_eq_true rfl)⟩ rfl rfl ⟨show cells + 2 + 1 ≤ 601024 by omega, show slots + 12 + 5 ≤ 7293033 by omega⟩ (fun H locs hL => ?_)
  refine v_istore (P := True) S hl [(6, .int bb), (5, .int k1), (0, .ref b), (1, .ref (ad 0)), (2, .ref (ad 141)), (3, .ref o), (4, .int (nI i))] dL_law_627 (by decide) rfl (fun ls hl _ => ?_) trivial
  refine v_aload_n (P := True) S hl 4 rfl rfl dL_law_629 (fun _ => ?_) trivial
  refine l_ref S hL [] (RX7, TX7, 11) (ci := 7) (j := 141) rfl rfl (by decide) ⟨by decide, by decide⟩ (met_X7_thrown l g ad true (o + 1) σ2 141 (σ2 141 0) (by unfold fn_X7_thrown; rw [ck_M]; rfl)) mw_X7_thrown u174 dL_law_630 rfl rfl hl.1 (Nat.le_of_ble_eq_true rfl) ⟨(Nat.le_of_ble_eq_true rfl), (Nat.le_of_ble_eq_true rfl)⟩ rfl rfl ⟨show cells + 2 + 1 + 0 ≤ 601024 by omega, show slots + 12 + 5 + 0 ≤ 7293033 by omega⟩ (fun H locs hL => ?_)
  obtain ⟨t1, t2⟩ := thr (by decide) (by decide) hok hq
  refine v_iload (P := True) S hl 1 rfl dL_law_633 (fun _ => ?_) trivial
  refine v_icmp_eq_t (P := True) S 640 t1 dL_law_635 (by decide) (fun _ => ?_) trivial
  refine v_iload (P := True) S hl 1 rfl dL_law_640 (fun _ => ?_) trivial
  by_cases h0 : k1 = 0
  · refine v_if_ne_f (P := True) S 657 h0 dL_law_642 (by decide) (fun _ => ?_) trivial
    refine v_aload_n (P := True) S hl 5 rfl rfl dL_law_645 (fun _ => ?_) trivial
    refine v_iconst (P := True) S 0 dL_law_646 rfl (fun _ => ?_) trivial
    refine l_ld S hL dL_law_647 ?_
    refine v_iload (P := True) S hl 0 rfl dL_law_648 (fun _ => ?_) trivial
    refine v_i2l (P := True) S dL_law_650 (fun _ => ?_) trivial
    refine v_lcmp (P := True) S dL_law_651 (fun _ => ?_) trivial
    refine v_if_eq_t (P := True) S 657 ((lg_cmp_eq _ _).mpr (t2 h0)) dL_law_652 (by decide) (fun _ => ?_) trivial
    refine v_goto (P := True) S 1315 dL_law_657 (by decide) (fun _ => ?_) trivial
    refine W.widen (k := cells + 353) (n := slots + 2850) (by omega) (by omega) ?_
    exact kk σ2 f3 H locs ls (lv_sub hl [2, 3, 4, 5, 6] rfl) hL (Inv_le (by omega) hI2)
  · refine v_if_ne_t (P := True) S 657 h0 dL_law_642 (by decide) (fun _ => ?_) trivial
    refine v_goto (P := True) S 1315 dL_law_657 (by decide) (fun _ => ?_) trivial
    refine W.widen (k := cells + 353) (n := slots + 2850) (by omega) (by omega) ?_
    exact kk σ2 f3 H locs ls (lv_sub hl [2, 3, 4, 5, 6] rfl) hL (Inv_le (by omega) hI2)
set_option maxHeartbeats 4000000 in
set_option maxRecDepth 100000 in
theorem law_c8 {p : Program} {l : Launch} {e : Env} {s : State} {m : MethodId} {args : Array Value} {below : List Frame} {meth : Method} {c : Code} {H : Heap} {locs : List Loc} {cells slots : Nat} {Q : State → Prop} {ls : Array Slot} {g : GT} {ad : Nat → Nat} {σ : Mem} {o : Nat} {f : Nat → Int64} {b L i B : Nat} {xs : Nat → Int32} (S : CallFix p m c cL_law 9 s args AL RL) (hst : l.stackTraces = false) (hX : va_X b L xs s s.heap) (hb : b < s.heap.size) (hLn : L ≤ 2560) (hi : i + 5 ≤ L) (hcl : cells + 353 ≤ 601024) (hsl : slots + 2850 ≤ 7293033) (hL : LW g ad σ o f s H locs) (hB : B ≤ 1000000) (hI : Inv B σ) (hl : lv_has ls 9 [(0, .ref b), (1, .ref (ad 0)), (2, .ref (ad 141)), (3, .ref o), (4, .int (nI i))]) (kk : ∀ (σ2 : Mem) (f2 : Nat → Int64) (H2 : Heap) (locs2 : List Loc) (ls2 : Array Slot), lv_has ls2 9 [(0, .ref b), (1, .ref (ad 0)), (2, .ref (ad 141)), (3, .ref o), (4, .int (nI i))] → LW g ad σ2 o f2 s H2 locs2 → Inv (B + 240) σ2 → W p l e room_1 s m args below meth c H2 locs2 (cells + 353) (slots + 2850) Q (F0 m 1315 ls2 [])) : W p l e room_1 s m args below meth c H locs cells slots Q (F0 m 660 ls []) := by
  obtain ⟨rr, σ1, bb, σ2, e1, e2, hI2, hok⟩ := P_toll B (xs (i + 1)) (xs (i + 2)) (xs (i + 3)) (xs (i + 4)) σ hI
  refine v_aload_n (P := True) S hl 1 rfl rfl dL_law_660 (fun _ => ?_) trivial
  refine l_arg S hL hX hb hl 0 4 rfl rfl 1 rfl (by omega) hLn dL_law_661 dL_law_662 dL_law_664 dL_law_665 dL_law_666 ?_
  refine l_arg S hL hX hb hl 0 4 rfl rfl 2 rfl (by omega) hLn dL_law_667 dL_law_668 dL_law_670 dL_law_671 dL_law_672 ?_
  refine l_arg S hL hX hb hl 0 4 rfl rfl 3 rfl (by omega) hLn dL_law_673 dL_law_674 dL_law_676 dL_law_677 dL_law_678 ?_
  refine l_arg S hL hX hb hl 0 4 rfl rfl 4 rfl (by omega) hLn dL_law_679 dL_law_680 dL_law_682 dL_law_683 dL_law_684 ?_
  refine v_aload_n (P := True) S hl 3 rfl rfl dL_law_685 (fun _ => ?_) trivial
  refine l_wrap S hL [.ref (ad 0), .int (xs (i + 1)), .int (xs (i + 2)), .int (xs (i + 3)), .int (xs (i + 4)), .ref o] (met_L_toll l hst g ad σ o f (xs (i + 1)) (xs (i + 2)) (xs (i + 3)) (xs (i + 4)) (rr, σ1) e1 (okk hok)) mh_toll u189 dL_law_686 rfl rfl hl.1 (Nat.le_of_ble_eq_true rfl) ⟨(Nat.le_of_ble_eq_true rfl), (Nat.le_of_ble_eq_true rfl)⟩ rfl rfl ⟨show cells + 5 ≤ 601024 by omega, show slots + 30 ≤ 7293033 by omega⟩ (fun k1 σ3 f3 H locs hq hL => ?_)
  refine v_istore (P := True) S hl [(5, .int k1), (0, .ref b), (1, .ref (ad 0)), (2, .ref (ad 141)), (3, .ref o), (4, .int (nI i))] dL_law_689 (by decide) rfl (fun ls hl _ => ?_) trivial
  have e3 : σ3 = σ1 := hq.1
  subst e3
  refine v_aload_n (P := True) S hl 3 rfl rfl dL_law_691 (fun _ => ?_) trivial
  refine l_arg S hL hX hb hl 1 5 rfl rfl 1 rfl (by omega) hLn dL_law_692 dL_law_693 dL_law_695 dL_law_696 dL_law_697 ?_
  refine l_arg S hL hX hb hl 1 5 rfl rfl 2 rfl (by omega) hLn dL_law_698 dL_law_699 dL_law_701 dL_law_702 dL_law_703 ?_
  refine l_arg S hL hX hb hl 1 5 rfl rfl 3 rfl (by omega) hLn dL_law_704 dL_law_705 dL_law_707 dL_law_708 dL_law_709 ?_
  refine l_arg S hL hX hb hl 1 5 rfl rfl 4 rfl (by omega) hLn dL_law_710 dL_law_711 dL_law_713 dL_law_714 dL_law_715 ?_
  refine l_ref S hL [.int (xs (i + 1)), .int (xs (i + 2)), .int (xs (i + 3)), .int (xs (i + 4))] (RX7, TX7, 11) (ci := 7) (j := 141) rfl rfl (by decide) ⟨by decide, by decide⟩ (met_X7_toll l g ad true (o + 1) σ3 141 (xs (i + 1)) (xs (i + 2)) (xs (i + 3)) (xs (i + 4)) bb σ2 e2) mw_X7_toll u190 dL_law_716 rfl rfl hl.1 (Nat.le_of_ble_eq_true rfl) ⟨(Nat.le_of_ble_eq_true rfl), (Nat.le_of_ble_eq_true rfl)⟩ rfl rfl ⟨show cells + 5 + 0 ≤ 601024 by omega, show slots + 30 + 0 ≤ 7293033 by omega⟩ (fun H locs hL => ?_)
  refine v_istore (P := True) S hl [(6, .int bb), (5, .int k1), (0, .ref b), (1, .ref (ad 0)), (2, .ref (ad 141)), (3, .ref o), (4, .int (nI i))] dL_law_719 (by decide) rfl (fun ls hl _ => ?_) trivial
  refine v_aload_n (P := True) S hl 4 rfl rfl dL_law_721 (fun _ => ?_) trivial
  refine l_ref S hL [] (RX7, TX7, 11) (ci := 7) (j := 141) rfl rfl (by decide) ⟨by decide, by decide⟩ (met_X7_thrown l g ad true (o + 1) σ2 141 (σ2 141 0) (by unfold fn_X7_thrown; rw [ck_M]; rfl)) mw_X7_thrown u174 dL_law_722 rfl rfl hl.1 (Nat.le_of_ble_eq_true rfl) ⟨(Nat.le_of_ble_eq_true rfl), (Nat.le_of_ble_eq_true rfl)⟩ rfl rfl ⟨show cells + 5 + 0 + 0 ≤ 601024 by omega, show slots + 30 + 0 + 0 ≤ 7293033 by omega⟩ (fun H locs hL => ?_)
  obtain ⟨t1, t2⟩ := thr (by decide) (by decide) hok hq
  refine v_iload (P := True) S hl 1 rfl dL_law_725 (fun _ => ?_) trivial
  refine v_icmp_eq_t (P := True) S 732 t1 dL_law_727 (by decide) (fun _ => ?_) trivial
  refine v_iload (P := True) S hl 1 rfl dL_law_732 (fun _ => ?_) trivial
  by_cases h0 : k1 = 0
  · refine v_if_ne_f (P := True) S 749 h0 dL_law_734 (by decide) (fun _ => ?_) trivial
    refine v_aload_n (P := True) S hl 5 rfl rfl dL_law_737 (fun _ => ?_) trivial
    refine v_iconst (P := True) S 0 dL_law_738 rfl (fun _ => ?_) trivial
    refine l_ld S hL dL_law_739 ?_
    refine v_iload (P := True) S hl 0 rfl dL_law_740 (fun _ => ?_) trivial
    refine v_i2l (P := True) S dL_law_742 (fun _ => ?_) trivial
    refine v_lcmp (P := True) S dL_law_743 (fun _ => ?_) trivial
    refine v_if_eq_t (P := True) S 749 ((lg_cmp_eq _ _).mpr (t2 h0)) dL_law_744 (by decide) (fun _ => ?_) trivial
    refine v_goto (P := True) S 1315 dL_law_749 (by decide) (fun _ => ?_) trivial
    refine W.widen (k := cells + 353) (n := slots + 2850) (by omega) (by omega) ?_
    exact kk σ2 f3 H locs ls (lv_sub hl [2, 3, 4, 5, 6] rfl) hL (Inv_le (by omega) hI2)
  · refine v_if_ne_t (P := True) S 749 h0 dL_law_734 (by decide) (fun _ => ?_) trivial
    refine v_goto (P := True) S 1315 dL_law_749 (by decide) (fun _ => ?_) trivial
    refine W.widen (k := cells + 353) (n := slots + 2850) (by omega) (by omega) ?_
    exact kk σ2 f3 H locs ls (lv_sub hl [2, 3, 4, 5, 6] rfl) hL (Inv_le (by omega) hI2)
set_option maxHeartbeats 4000000 in
set_option maxRecDepth 100000 in
theorem law_c9 {p : Program} {l : Launch} {e : Env} {s : State} {m : MethodId} {args : Array Value} {below : List Frame} {meth : Method} {c : Code} {H : Heap} {locs : List Loc} {cells slots : Nat} {Q : State → Prop} {ls : Array Slot} {g : GT} {ad : Nat → Nat} {σ : Mem} {o : Nat} {f : Nat → Int64} {b L i B : Nat} {xs : Nat → Int32} (S : CallFix p m c cL_law 9 s args AL RL) (hst : l.stackTraces = false) (hX : va_X b L xs s s.heap) (hb : b < s.heap.size) (hLn : L ≤ 2560) (hi : i + 5 ≤ L) (hcl : cells + 353 ≤ 601024) (hsl : slots + 2850 ≤ 7293033) (hL : LW g ad σ o f s H locs) (hB : B ≤ 1000000) (hI : Inv B σ) (hl : lv_has ls 9 [(0, .ref b), (1, .ref (ad 0)), (2, .ref (ad 141)), (3, .ref o), (4, .int (nI i))]) (kk : ∀ (σ2 : Mem) (f2 : Nat → Int64) (H2 : Heap) (locs2 : List Loc) (ls2 : Array Slot), lv_has ls2 9 [(0, .ref b), (1, .ref (ad 0)), (2, .ref (ad 141)), (3, .ref o), (4, .int (nI i))] → LW g ad σ2 o f2 s H2 locs2 → Inv (B + 240) σ2 → W p l e room_1 s m args below meth c H2 locs2 (cells + 353) (slots + 2850) Q (F0 m 1315 ls2 [])) : W p l e room_1 s m args below meth c H locs cells slots Q (F0 m 752 ls []) := by
  obtain ⟨rr, σ1, bb, σ2, e1, e2, hI2, hok⟩ := P_stop B hB (xs (i + 1)) σ hI
  refine v_aload_n (P := True) S hl 1 rfl rfl dL_law_752 (fun _ => ?_) trivial
  refine l_arg S hL hX hb hl 0 4 rfl rfl 1 rfl (by omega) hLn dL_law_753 dL_law_754 dL_law_756 dL_law_757 dL_law_758 ?_
  refine v_aload_n (P := True) S hl 3 rfl rfl dL_law_759 (fun _ => ?_) trivial
  refine l_wrap S hL [.ref (ad 0), .int (xs (i + 1)), .ref o] (met_L_stop l hst g ad σ o f (xs (i + 1)) (rr, σ1) e1 (okk hok)) mh_stop u191 dL_law_760 rfl rfl hl.1 (Nat.le_of_ble_eq_true rfl) ⟨(Nat.le_of_ble_eq_true rfl), (Nat.le_of_ble_eq_true rfl)⟩ rfl rfl ⟨show cells + 2 ≤ 601024 by omega, show slots + 12 ≤ 7293033 by omega⟩ (fun k1 σ3 f3 H locs hq hL => ?_)
  refine v_istore (P := True) S hl [(5, .int k1), (0, .ref b), (1, .ref (ad 0)), (2, .ref (ad 141)), (3, .ref o), (4, .int (nI i))] dL_law_763 (by decide) rfl (fun ls hl _ => ?_) trivial
  have e3 : σ3 = σ1 := hq.1
  subst e3
  refine v_aload_n (P := True) S hl 3 rfl rfl dL_law_765 (fun _ => ?_) trivial
  refine l_arg S hL hX hb hl 1 5 rfl rfl 1 rfl (by omega) hLn dL_law_766 dL_law_767 dL_law_769 dL_law_770 dL_law_771 ?_
  refine l_ref S hL [.int (xs (i + 1))] (RX7, TX7, 11) (ci := 7) (j := 141) rfl rfl (by decide) ⟨by decide, by decide⟩ (met_X7_stop l g ad true (o + 1) σ3 141 (xs (i + 1)) bb σ2 e2) mw_X7_stop u192 dL_law_772 rfl rfl hl.1 (Nat.le_of_ble_eq_true rfl) ⟨(Nat.le_of_ble_eq_true rfl), (Nat.le_of_ble_eq_true rfl)⟩ rfl rfl ⟨show cells + 2 + 0 ≤ 601024 by omega, show slots + 12 + 0 ≤ 7293033 by omega⟩ (fun H locs hL => ?_)
  refine v_istore (P := True) S hl [(6, .int bb), (5, .int k1), (0, .ref b), (1, .ref (ad 0)), (2, .ref (ad 141)), (3, .ref o), (4, .int (nI i))] dL_law_775 (by decide) rfl (fun ls hl _ => ?_) trivial
  refine v_aload_n (P := True) S hl 4 rfl rfl dL_law_777 (fun _ => ?_) trivial
  refine l_ref S hL [] (RX7, TX7, 11) (ci := 7) (j := 141) rfl rfl (by decide) ⟨by decide, by decide⟩ (met_X7_thrown l g ad true (o + 1) σ2 141 (σ2 141 0) (by unfold fn_X7_thrown; rw [ck_M]; rfl)) mw_X7_thrown u174 dL_law_778 rfl rfl hl.1 (Nat.le_of_ble_eq_true rfl) ⟨(Nat.le_of_ble_eq_true rfl), (Nat.le_of_ble_eq_true rfl)⟩ rfl rfl ⟨show cells + 2 + 0 + 0 ≤ 601024 by omega, show slots + 12 + 0 + 0 ≤ 7293033 by omega⟩ (fun H locs hL => ?_)
  obtain ⟨t1, t2⟩ := thr (by decide) (by decide) hok hq
  refine v_iload (P := True) S hl 1 rfl dL_law_781 (fun _ => ?_) trivial
  refine v_icmp_eq_t (P := True) S 788 t1 dL_law_783 (by decide) (fun _ => ?_) trivial
  refine v_iload (P := True) S hl 1 rfl dL_law_788 (fun _ => ?_) trivial
  by_cases h0 : k1 = 0
  · refine v_if_ne_f (P := True) S 805 h0 dL_law_790 (by decide) (fun _ => ?_) trivial
    refine v_aload_n (P := True) S hl 5 rfl rfl dL_law_793 (fun _ => ?_) trivial
    refine v_iconst (P := True) S 0 dL_law_794 rfl (fun _ => ?_) trivial
    refine l_ld S hL dL_law_795 ?_
    refine v_iload (P := True) S hl 0 rfl dL_law_796 (fun _ => ?_) trivial
    refine v_i2l (P := True) S dL_law_798 (fun _ => ?_) trivial
    refine v_lcmp (P := True) S dL_law_799 (fun _ => ?_) trivial
    refine v_if_eq_t (P := True) S 805 ((lg_cmp_eq _ _).mpr (t2 h0)) dL_law_800 (by decide) (fun _ => ?_) trivial
    refine v_goto (P := True) S 1315 dL_law_805 (by decide) (fun _ => ?_) trivial
    refine W.widen (k := cells + 353) (n := slots + 2850) (by omega) (by omega) ?_
    exact kk σ2 f3 H locs ls (lv_sub hl [2, 3, 4, 5, 6] rfl) hL (Inv_le (by omega) hI2)
  · refine v_if_ne_t (P := True) S 805 h0 dL_law_790 (by decide) (fun _ => ?_) trivial
    refine v_goto (P := True) S 1315 dL_law_805 (by decide) (fun _ => ?_) trivial
    refine W.widen (k := cells + 353) (n := slots + 2850) (by omega) (by omega) ?_
    exact kk σ2 f3 H locs ls (lv_sub hl [2, 3, 4, 5, 6] rfl) hL (Inv_le (by omega) hI2)
set_option maxHeartbeats 4000000 in
set_option maxRecDepth 100000 in
theorem law_c10 {p : Program} {l : Launch} {e : Env} {s : State} {m : MethodId} {args : Array Value} {below : List Frame} {meth : Method} {c : Code} {H : Heap} {locs : List Loc} {cells slots : Nat} {Q : State → Prop} {ls : Array Slot} {g : GT} {ad : Nat → Nat} {σ : Mem} {o : Nat} {f : Nat → Int64} {b L i B : Nat} {xs : Nat → Int32} (S : CallFix p m c cL_law 9 s args AL RL) (hst : l.stackTraces = false) (hX : va_X b L xs s s.heap) (hb : b < s.heap.size) (hLn : L ≤ 2560) (hi : i + 5 ≤ L) (hcl : cells + 353 ≤ 601024) (hsl : slots + 2850 ≤ 7293033) (hL : LW g ad σ o f s H locs) (hB : B ≤ 1000000) (hI : Inv B σ) (hl : lv_has ls 9 [(0, .ref b), (1, .ref (ad 0)), (2, .ref (ad 141)), (3, .ref o), (4, .int (nI i))]) (kk : ∀ (σ2 : Mem) (f2 : Nat → Int64) (H2 : Heap) (locs2 : List Loc) (ls2 : Array Slot), lv_has ls2 9 [(0, .ref b), (1, .ref (ad 0)), (2, .ref (ad 141)), (3, .ref o), (4, .int (nI i))] → LW g ad σ2 o f2 s H2 locs2 → Inv (B + 240) σ2 → W p l e room_1 s m args below meth c H2 locs2 (cells + 353) (slots + 2850) Q (F0 m 1315 ls2 [])) : W p l e room_1 s m args below meth c H locs cells slots Q (F0 m 808 ls []) := by
  obtain ⟨rr, bb, σ2, e1, e2, hI2, hok⟩ := P_about B hB (xs (i + 1)) (xs (i + 2)) σ hI
  refine v_aload_n (P := True) S hl 1 rfl rfl dL_law_808 (fun _ => ?_) trivial
  refine l_arg S hL hX hb hl 0 4 rfl rfl 1 rfl (by omega) hLn dL_law_809 dL_law_810 dL_law_812 dL_law_813 dL_law_814 ?_
  refine l_arg S hL hX hb hl 0 4 rfl rfl 2 rfl (by omega) hLn dL_law_815 dL_law_816 dL_law_818 dL_law_819 dL_law_820 ?_
  refine v_aload_n (P := True) S hl 3 rfl rfl dL_law_821 (fun _ => ?_) trivial
  refine l_wrap S hL [.ref (ad 0), .int (xs (i + 1)), .int (xs (i + 2)), .ref o] (met_L_about l hst g ad σ o f (xs (i + 1)) (xs (i + 2)) rr e1 (okk hok)) mh_about u193 dL_law_822 rfl rfl hl.1 (Nat.le_of_ble_eq_true rfl) ⟨(Nat.le_of_ble_eq_true rfl), (Nat.le_of_ble_eq_true rfl)⟩ rfl rfl ⟨show cells + 2 ≤ 601024 by omega, show slots + 12 ≤ 7293033 by omega⟩ (fun k1 σ3 f3 H locs hq hL => ?_)
  refine v_istore (P := True) S hl [(5, .int k1), (0, .ref b), (1, .ref (ad 0)), (2, .ref (ad 141)), (3, .ref o), (4, .int (nI i))] dL_law_825 (by decide) rfl (fun ls hl _ => ?_) trivial
  have e3 : σ = σ3 := hq.1.symm
  subst e3
  refine v_aload_n (P := True) S hl 3 rfl rfl dL_law_827 (fun _ => ?_) trivial
  refine l_arg S hL hX hb hl 1 5 rfl rfl 1 rfl (by omega) hLn dL_law_828 dL_law_829 dL_law_831 dL_law_832 dL_law_833 ?_
  refine l_arg S hL hX hb hl 1 5 rfl rfl 2 rfl (by omega) hLn dL_law_834 dL_law_835 dL_law_837 dL_law_838 dL_law_839 ?_
  refine l_ref S hL [.int (xs (i + 1)), .int (xs (i + 2))] (RX7, TX7, 11) (ci := 7) (j := 141) rfl rfl (by decide) ⟨by decide, by decide⟩ (met_X7_about l g ad true (o + 1) σ 141 (xs (i + 1)) (xs (i + 2)) bb σ2 e2) mw_X7_about u194 dL_law_840 rfl rfl hl.1 (Nat.le_of_ble_eq_true rfl) ⟨(Nat.le_of_ble_eq_true rfl), (Nat.le_of_ble_eq_true rfl)⟩ rfl rfl ⟨show cells + 2 + 1 ≤ 601024 by omega, show slots + 12 + 9 ≤ 7293033 by omega⟩ (fun H locs hL => ?_)
  refine v_istore (P := True) S hl [(6, .int bb), (5, .int k1), (0, .ref b), (1, .ref (ad 0)), (2, .ref (ad 141)), (3, .ref o), (4, .int (nI i))] dL_law_843 (by decide) rfl (fun ls hl _ => ?_) trivial
  refine v_aload_n (P := True) S hl 4 rfl rfl dL_law_845 (fun _ => ?_) trivial
  refine l_ref S hL [] (RX7, TX7, 11) (ci := 7) (j := 141) rfl rfl (by decide) ⟨by decide, by decide⟩ (met_X7_thrown l g ad true (o + 1) σ2 141 (σ2 141 0) (by unfold fn_X7_thrown; rw [ck_M]; rfl)) mw_X7_thrown u174 dL_law_846 rfl rfl hl.1 (Nat.le_of_ble_eq_true rfl) ⟨(Nat.le_of_ble_eq_true rfl), (Nat.le_of_ble_eq_true rfl)⟩ rfl rfl ⟨show cells + 2 + 1 + 0 ≤ 601024 by omega, show slots + 12 + 9 + 0 ≤ 7293033 by omega⟩ (fun H locs hL => ?_)
  obtain ⟨t1, t2⟩ := thr (by decide) (by decide) hok hq
  refine v_iload (P := True) S hl 1 rfl dL_law_849 (fun _ => ?_) trivial
  refine v_icmp_eq_t (P := True) S 856 t1 dL_law_851 (by decide) (fun _ => ?_) trivial
  refine v_iload (P := True) S hl 1 rfl dL_law_856 (fun _ => ?_) trivial
  by_cases h0 : k1 = 0
  · refine v_if_ne_f (P := True) S 873 h0 dL_law_858 (by decide) (fun _ => ?_) trivial
    refine v_aload_n (P := True) S hl 5 rfl rfl dL_law_861 (fun _ => ?_) trivial
    refine v_iconst (P := True) S 0 dL_law_862 rfl (fun _ => ?_) trivial
    refine l_ld S hL dL_law_863 ?_
    refine v_iload (P := True) S hl 0 rfl dL_law_864 (fun _ => ?_) trivial
    refine v_i2l (P := True) S dL_law_866 (fun _ => ?_) trivial
    refine v_lcmp (P := True) S dL_law_867 (fun _ => ?_) trivial
    refine v_if_eq_t (P := True) S 873 ((lg_cmp_eq _ _).mpr (t2 h0)) dL_law_868 (by decide) (fun _ => ?_) trivial
    refine v_goto (P := True) S 1315 dL_law_873 (by decide) (fun _ => ?_) trivial
    refine W.widen (k := cells + 353) (n := slots + 2850) (by omega) (by omega) ?_
    exact kk σ2 f3 H locs ls (lv_sub hl [2, 3, 4, 5, 6] rfl) hL (Inv_le (by omega) hI2)
  · refine v_if_ne_t (P := True) S 873 h0 dL_law_858 (by decide) (fun _ => ?_) trivial
    refine v_goto (P := True) S 1315 dL_law_873 (by decide) (fun _ => ?_) trivial
    refine W.widen (k := cells + 353) (n := slots + 2850) (by omega) (by omega) ?_
    exact kk σ2 f3 H locs ls (lv_sub hl [2, 3, 4, 5, 6] rfl) hL (Inv_le (by omega) hI2)
set_option maxHeartbeats 4000000 in
set_option maxRecDepth 100000 in
theorem law_c11 {p : Program} {l : Launch} {e : Env} {s : State} {m : MethodId} {args : Array Value} {below : List Frame} {meth : Method} {c : Code} {H : Heap} {locs : List Loc} {cells slots : Nat} {Q : State → Prop} {ls : Array Slot} {g : GT} {ad : Nat → Nat} {σ : Mem} {o : Nat} {f : Nat → Int64} {b L i B : Nat} {xs : Nat → Int32} (S : CallFix p m c cL_law 9 s args AL RL) (hst : l.stackTraces = false) (hX : va_X b L xs s s.heap) (hb : b < s.heap.size) (hLn : L ≤ 2560) (hi : i + 5 ≤ L) (hcl : cells + 353 ≤ 601024) (hsl : slots + 2850 ≤ 7293033) (hL : LW g ad σ o f s H locs) (hB : B ≤ 1000000) (hI : Inv B σ) (hl : lv_has ls 9 [(0, .ref b), (1, .ref (ad 0)), (2, .ref (ad 141)), (3, .ref o), (4, .int (nI i))]) (kk : ∀ (σ2 : Mem) (f2 : Nat → Int64) (H2 : Heap) (locs2 : List Loc) (ls2 : Array Slot), lv_has ls2 9 [(0, .ref b), (1, .ref (ad 0)), (2, .ref (ad 141)), (3, .ref o), (4, .int (nI i))] → LW g ad σ2 o f2 s H2 locs2 → Inv (B + 240) σ2 → W p l e room_1 s m args below meth c H2 locs2 (cells + 353) (slots + 2850) Q (F0 m 1315 ls2 [])) : W p l e room_1 s m args below meth c H locs cells slots Q (F0 m 876 ls []) := by
  obtain ⟨rr, bb, σ2, e1, e2, hI2, hok⟩ := P_heard B (xs (i + 1)) (xs (i + 2)) σ hI
  refine v_aload_n (P := True) S hl 1 rfl rfl dL_law_876 (fun _ => ?_) trivial
  refine l_arg S hL hX hb hl 0 4 rfl rfl 1 rfl (by omega) hLn dL_law_877 dL_law_878 dL_law_880 dL_law_881 dL_law_882 ?_
  refine l_arg S hL hX hb hl 0 4 rfl rfl 2 rfl (by omega) hLn dL_law_883 dL_law_884 dL_law_886 dL_law_887 dL_law_888 ?_
  refine v_aload_n (P := True) S hl 3 rfl rfl dL_law_889 (fun _ => ?_) trivial
  refine l_wrap S hL [.ref (ad 0), .int (xs (i + 1)), .int (xs (i + 2)), .ref o] (met_L_heard l hst g ad σ o f (xs (i + 1)) (xs (i + 2)) rr e1 (okk hok)) mh_heard u195 dL_law_890 rfl rfl hl.1 (Nat.le_of_ble_eq_true rfl) ⟨(Nat.le_of_ble_eq_true rfl), (Nat.le_of_ble_eq_true rfl)⟩ rfl rfl ⟨show cells + 2 ≤ 601024 by omega, show slots + 12 ≤ 7293033 by omega⟩ (fun k1 σ3 f3 H locs hq hL => ?_)
  refine v_istore (P := True) S hl [(5, .int k1), (0, .ref b), (1, .ref (ad 0)), (2, .ref (ad 141)), (3, .ref o), (4, .int (nI i))] dL_law_893 (by decide) rfl (fun ls hl _ => ?_) trivial
  have e3 : σ = σ3 := hq.1.symm
  subst e3
  refine v_aload_n (P := True) S hl 3 rfl rfl dL_law_895 (fun _ => ?_) trivial
  refine l_arg S hL hX hb hl 1 5 rfl rfl 1 rfl (by omega) hLn dL_law_896 dL_law_897 dL_law_899 dL_law_900 dL_law_901 ?_
  refine l_arg S hL hX hb hl 1 5 rfl rfl 2 rfl (by omega) hLn dL_law_902 dL_law_903 dL_law_905 dL_law_906 dL_law_907 ?_
  refine l_ref S hL [.int (xs (i + 1)), .int (xs (i + 2))] (RX7, TX7, 11) (ci := 7) (j := 141) rfl rfl (by decide) ⟨by decide, by decide⟩ (met_X7_heard l g ad true (o + 1) σ 141 (xs (i + 1)) (xs (i + 2)) bb σ2 e2) mw_X7_heard u196 dL_law_908 rfl rfl hl.1 (Nat.le_of_ble_eq_true rfl) ⟨(Nat.le_of_ble_eq_true rfl), (Nat.le_of_ble_eq_true rfl)⟩ rfl rfl ⟨show cells + 2 + 0 ≤ 601024 by omega, show slots + 12 + 0 ≤ 7293033 by omega⟩ (fun H locs hL => ?_)
  refine v_istore (P := True) S hl [(6, .int bb), (5, .int k1), (0, .ref b), (1, .ref (ad 0)), (2, .ref (ad 141)), (3, .ref o), (4, .int (nI i))] dL_law_911 (by decide) rfl (fun ls hl _ => ?_) trivial
  refine v_aload_n (P := True) S hl 4 rfl rfl dL_law_913 (fun _ => ?_) trivial
  refine l_ref S hL [] (RX7, TX7, 11) (ci := 7) (j := 141) rfl rfl (by decide) ⟨by decide, by decide⟩ (met_X7_thrown l g ad true (o + 1) σ2 141 (σ2 141 0) (by unfold fn_X7_thrown; rw [ck_M]; rfl)) mw_X7_thrown u174 dL_law_914 rfl rfl hl.1 (Nat.le_of_ble_eq_true rfl) ⟨(Nat.le_of_ble_eq_true rfl), (Nat.le_of_ble_eq_true rfl)⟩ rfl rfl ⟨show cells + 2 + 0 + 0 ≤ 601024 by omega, show slots + 12 + 0 + 0 ≤ 7293033 by omega⟩ (fun H locs hL => ?_)
  obtain ⟨t1, t2⟩ := thr (by decide) (by decide) hok hq
  refine v_iload (P := True) S hl 1 rfl dL_law_917 (fun _ => ?_) trivial
  refine v_icmp_eq_t (P := True) S 924 t1 dL_law_919 (by decide) (fun _ => ?_) trivial
  refine v_iload (P := True) S hl 1 rfl dL_law_924 (fun _ => ?_) trivial
  by_cases h0 : k1 = 0
  · refine v_if_ne_f (P := True) S 941 h0 dL_law_926 (by decide) (fun _ => ?_) trivial
    refine v_aload_n (P := True) S hl 5 rfl rfl dL_law_929 (fun _ => ?_) trivial
    refine v_iconst (P := True) S 0 dL_law_930 rfl (fun _ => ?_) trivial
    refine l_ld S hL dL_law_931 ?_
    refine v_iload (P := True) S hl 0 rfl dL_law_932 (fun _ => ?_) trivial
    refine v_i2l (P := True) S dL_law_934 (fun _ => ?_) trivial
    refine v_lcmp (P := True) S dL_law_935 (fun _ => ?_) trivial
    refine v_if_eq_t (P := True) S 941 ((lg_cmp_eq _ _).mpr (t2 h0)) dL_law_936 (by decide) (fun _ => ?_) trivial
    refine v_goto (P := True) S 1315 dL_law_941 (by decide) (fun _ => ?_) trivial
    refine W.widen (k := cells + 353) (n := slots + 2850) (by omega) (by omega) ?_
    exact kk σ2 f3 H locs ls (lv_sub hl [2, 3, 4, 5, 6] rfl) hL (Inv_le (by omega) hI2)
  · refine v_if_ne_t (P := True) S 941 h0 dL_law_926 (by decide) (fun _ => ?_) trivial
    refine v_goto (P := True) S 1315 dL_law_941 (by decide) (fun _ => ?_) trivial
    refine W.widen (k := cells + 353) (n := slots + 2850) (by omega) (by omega) ?_
    exact kk σ2 f3 H locs ls (lv_sub hl [2, 3, 4, 5, 6] rfl) hL (Inv_le (by omega) hI2)
set_option maxHeartbeats 4000000 in
set_option maxRecDepth 100000 in
theorem law_c12 {p : Program} {l : Launch} {e : Env} {s : State} {m : MethodId} {args : Array Value} {below : List Frame} {meth : Method} {c : Code} {H : Heap} {locs : List Loc} {cells slots : Nat} {Q : State → Prop} {ls : Array Slot} {g : GT} {ad : Nat → Nat} {σ : Mem} {o : Nat} {f : Nat → Int64} {b L i B : Nat} {xs : Nat → Int32} (S : CallFix p m c cL_law 9 s args AL RL) (hst : l.stackTraces = false) (hX : va_X b L xs s s.heap) (hb : b < s.heap.size) (hLn : L ≤ 2560) (hi : i + 5 ≤ L) (hcl : cells + 353 ≤ 601024) (hsl : slots + 2850 ≤ 7293033) (hL : LW g ad σ o f s H locs) (hB : B ≤ 1000000) (hI : Inv B σ) (hl : lv_has ls 9 [(0, .ref b), (1, .ref (ad 0)), (2, .ref (ad 141)), (3, .ref o), (4, .int (nI i))]) (kk : ∀ (σ2 : Mem) (f2 : Nat → Int64) (H2 : Heap) (locs2 : List Loc) (ls2 : Array Slot), lv_has ls2 9 [(0, .ref b), (1, .ref (ad 0)), (2, .ref (ad 141)), (3, .ref o), (4, .int (nI i))] → LW g ad σ2 o f2 s H2 locs2 → Inv (B + 240) σ2 → W p l e room_1 s m args below meth c H2 locs2 (cells + 353) (slots + 2850) Q (F0 m 1315 ls2 [])) : W p l e room_1 s m args below meth c H locs cells slots Q (F0 m 944 ls []) := by
  obtain ⟨rr, bb, σ2, e1, e2, hI2, hok⟩ := P_count B hB (xs (i + 1)) σ hI
  refine v_aload_n (P := True) S hl 1 rfl rfl dL_law_944 (fun _ => ?_) trivial
  refine l_arg S hL hX hb hl 0 4 rfl rfl 1 rfl (by omega) hLn dL_law_945 dL_law_946 dL_law_948 dL_law_949 dL_law_950 ?_
  refine v_aload_n (P := True) S hl 3 rfl rfl dL_law_951 (fun _ => ?_) trivial
  refine l_wrap S hL [.ref (ad 0), .int (xs (i + 1)), .ref o] (met_L_count l hst g ad σ o f (xs (i + 1)) rr e1 (okk hok)) mh_count u197 dL_law_952 rfl rfl hl.1 (Nat.le_of_ble_eq_true rfl) ⟨(Nat.le_of_ble_eq_true rfl), (Nat.le_of_ble_eq_true rfl)⟩ rfl rfl ⟨show cells + 1 ≤ 601024 by omega, show slots + 6 ≤ 7293033 by omega⟩ (fun k1 σ3 f3 H locs hq hL => ?_)
  refine v_istore (P := True) S hl [(5, .int k1), (0, .ref b), (1, .ref (ad 0)), (2, .ref (ad 141)), (3, .ref o), (4, .int (nI i))] dL_law_955 (by decide) rfl (fun ls hl _ => ?_) trivial
  have e3 : σ = σ3 := hq.1.symm
  subst e3
  refine v_aload_n (P := True) S hl 3 rfl rfl dL_law_957 (fun _ => ?_) trivial
  refine l_arg S hL hX hb hl 1 5 rfl rfl 1 rfl (by omega) hLn dL_law_958 dL_law_959 dL_law_961 dL_law_962 dL_law_963 ?_
  refine l_ref S hL [.int (xs (i + 1))] (RX7, TX7, 11) (ci := 7) (j := 141) rfl rfl (by decide) ⟨by decide, by decide⟩ (met_X7_count l g ad true (o + 1) σ 141 (xs (i + 1)) bb σ2 e2) mw_X7_count u198 dL_law_964 rfl rfl hl.1 (Nat.le_of_ble_eq_true rfl) ⟨(Nat.le_of_ble_eq_true rfl), (Nat.le_of_ble_eq_true rfl)⟩ rfl rfl ⟨show cells + 1 + 1 ≤ 601024 by omega, show slots + 6 + 9 ≤ 7293033 by omega⟩ (fun H locs hL => ?_)
  refine v_istore (P := True) S hl [(6, .int bb), (5, .int k1), (0, .ref b), (1, .ref (ad 0)), (2, .ref (ad 141)), (3, .ref o), (4, .int (nI i))] dL_law_967 (by decide) rfl (fun ls hl _ => ?_) trivial
  refine v_aload_n (P := True) S hl 4 rfl rfl dL_law_969 (fun _ => ?_) trivial
  refine l_ref S hL [] (RX7, TX7, 11) (ci := 7) (j := 141) rfl rfl (by decide) ⟨by decide, by decide⟩ (met_X7_thrown l g ad true (o + 1) σ2 141 (σ2 141 0) (by unfold fn_X7_thrown; rw [ck_M]; rfl)) mw_X7_thrown u174 dL_law_970 rfl rfl hl.1 (Nat.le_of_ble_eq_true rfl) ⟨(Nat.le_of_ble_eq_true rfl), (Nat.le_of_ble_eq_true rfl)⟩ rfl rfl ⟨show cells + 1 + 1 + 0 ≤ 601024 by omega, show slots + 6 + 9 + 0 ≤ 7293033 by omega⟩ (fun H locs hL => ?_)
  obtain ⟨t1, t2⟩ := thr (by decide) (by decide) hok hq
  refine v_iload (P := True) S hl 1 rfl dL_law_973 (fun _ => ?_) trivial
  refine v_icmp_eq_t (P := True) S 980 t1 dL_law_975 (by decide) (fun _ => ?_) trivial
  refine v_iload (P := True) S hl 1 rfl dL_law_980 (fun _ => ?_) trivial
  by_cases h0 : k1 = 0
  · refine v_if_ne_f (P := True) S 997 h0 dL_law_982 (by decide) (fun _ => ?_) trivial
    refine v_aload_n (P := True) S hl 5 rfl rfl dL_law_985 (fun _ => ?_) trivial
    refine v_iconst (P := True) S 0 dL_law_986 rfl (fun _ => ?_) trivial
    refine l_ld S hL dL_law_987 ?_
    refine v_iload (P := True) S hl 0 rfl dL_law_988 (fun _ => ?_) trivial
    refine v_i2l (P := True) S dL_law_990 (fun _ => ?_) trivial
    refine v_lcmp (P := True) S dL_law_991 (fun _ => ?_) trivial
    refine v_if_eq_t (P := True) S 997 ((lg_cmp_eq _ _).mpr (t2 h0)) dL_law_992 (by decide) (fun _ => ?_) trivial
    refine v_goto (P := True) S 1315 dL_law_997 (by decide) (fun _ => ?_) trivial
    refine W.widen (k := cells + 353) (n := slots + 2850) (by omega) (by omega) ?_
    exact kk σ2 f3 H locs ls (lv_sub hl [2, 3, 4, 5, 6] rfl) hL (Inv_le (by omega) hI2)
  · refine v_if_ne_t (P := True) S 997 h0 dL_law_982 (by decide) (fun _ => ?_) trivial
    refine v_goto (P := True) S 1315 dL_law_997 (by decide) (fun _ => ?_) trivial
    refine W.widen (k := cells + 353) (n := slots + 2850) (by omega) (by omega) ?_
    exact kk σ2 f3 H locs ls (lv_sub hl [2, 3, 4, 5, 6] rfl) hL (Inv_le (by omega) hI2)
set_option maxHeartbeats 4000000 in
set_option maxRecDepth 100000 in
theorem law_c13 {p : Program} {l : Launch} {e : Env} {s : State} {m : MethodId} {args : Array Value} {below : List Frame} {meth : Method} {c : Code} {H : Heap} {locs : List Loc} {cells slots : Nat} {Q : State → Prop} {ls : Array Slot} {g : GT} {ad : Nat → Nat} {σ : Mem} {o : Nat} {f : Nat → Int64} {b L i B : Nat} {xs : Nat → Int32} (S : CallFix p m c cL_law 9 s args AL RL) (hst : l.stackTraces = false) (hX : va_X b L xs s s.heap) (hb : b < s.heap.size) (hLn : L ≤ 2560) (hi : i + 5 ≤ L) (hcl : cells + 353 ≤ 601024) (hsl : slots + 2850 ≤ 7293033) (hL : LW g ad σ o f s H locs) (hB : B ≤ 1000000) (hI : Inv B σ) (hl : lv_has ls 9 [(0, .ref b), (1, .ref (ad 0)), (2, .ref (ad 141)), (3, .ref o), (4, .int (nI i))]) (kk : ∀ (σ2 : Mem) (f2 : Nat → Int64) (H2 : Heap) (locs2 : List Loc) (ls2 : Array Slot), lv_has ls2 9 [(0, .ref b), (1, .ref (ad 0)), (2, .ref (ad 141)), (3, .ref o), (4, .int (nI i))] → LW g ad σ2 o f2 s H2 locs2 → Inv (B + 240) σ2 → W p l e room_1 s m args below meth c H2 locs2 (cells + 353) (slots + 2850) Q (F0 m 1315 ls2 [])) : W p l e room_1 s m args below meth c H locs cells slots Q (F0 m 1000 ls []) := by
  obtain ⟨rr, σ1, bb, σ2, e1, e2, hI2, hok⟩ := P_pass B hB (xs (i + 1)) σ hI
  refine v_aload_n (P := True) S hl 1 rfl rfl dL_law_1000 (fun _ => ?_) trivial
  refine l_arg S hL hX hb hl 0 4 rfl rfl 1 rfl (by omega) hLn dL_law_1001 dL_law_1002 dL_law_1004 dL_law_1005 dL_law_1006 ?_
  refine v_aload_n (P := True) S hl 3 rfl rfl dL_law_1007 (fun _ => ?_) trivial
  refine l_wrap S hL [.ref (ad 0), .int (xs (i + 1)), .ref o] (met_L_pass l hst g ad σ o f (xs (i + 1)) (rr, σ1) e1 (okk hok)) mh_pass u199 dL_law_1008 rfl rfl hl.1 (Nat.le_of_ble_eq_true rfl) ⟨(Nat.le_of_ble_eq_true rfl), (Nat.le_of_ble_eq_true rfl)⟩ rfl rfl ⟨show cells + 1 ≤ 601024 by omega, show slots + 6 ≤ 7293033 by omega⟩ (fun k1 σ3 f3 H locs hq hL => ?_)
  refine v_istore (P := True) S hl [(5, .int k1), (0, .ref b), (1, .ref (ad 0)), (2, .ref (ad 141)), (3, .ref o), (4, .int (nI i))] dL_law_1011 (by decide) rfl (fun ls hl _ => ?_) trivial
  have e3 : σ3 = σ1 := hq.1
  subst e3
  refine v_aload_n (P := True) S hl 3 rfl rfl dL_law_1013 (fun _ => ?_) trivial
  refine l_arg S hL hX hb hl 1 5 rfl rfl 1 rfl (by omega) hLn dL_law_1014 dL_law_1015 dL_law_1017 dL_law_1018 dL_law_1019 ?_
  refine l_ref S hL [.int (xs (i + 1))] (RX7, TX7, 11) (ci := 7) (j := 141) rfl rfl (by decide) ⟨by decide, by decide⟩ (met_X7_pass l g ad true (o + 1) σ3 141 (xs (i + 1)) bb σ2 e2) mw_X7_pass u200 dL_law_1020 rfl rfl hl.1 (Nat.le_of_ble_eq_true rfl) ⟨(Nat.le_of_ble_eq_true rfl), (Nat.le_of_ble_eq_true rfl)⟩ rfl rfl ⟨show cells + 1 + 0 ≤ 601024 by omega, show slots + 6 + 0 ≤ 7293033 by omega⟩ (fun H locs hL => ?_)
  refine v_istore (P := True) S hl [(6, .int bb), (5, .int k1), (0, .ref b), (1, .ref (ad 0)), (2, .ref (ad 141)), (3, .ref o), (4, .int (nI i))] dL_law_1023 (by decide) rfl (fun ls hl _ => ?_) trivial
  refine v_aload_n (P := True) S hl 4 rfl rfl dL_law_1025 (fun _ => ?_) trivial
  refine l_ref S hL [] (RX7, TX7, 11) (ci := 7) (j := 141) rfl rfl (by decide) ⟨by decide, by decide⟩ (met_X7_thrown l g ad true (o + 1) σ2 141 (σ2 141 0) (by unfold fn_X7_thrown; rw [ck_M]; rfl)) mw_X7_thrown u174 dL_law_1026 rfl rfl hl.1 (Nat.le_of_ble_eq_true rfl) ⟨(Nat.le_of_ble_eq_true rfl), (Nat.le_of_ble_eq_true rfl)⟩ rfl rfl ⟨show cells + 1 + 0 + 0 ≤ 601024 by omega, show slots + 6 + 0 + 0 ≤ 7293033 by omega⟩ (fun H locs hL => ?_)
  obtain ⟨t1, t2⟩ := thr (by decide) (by decide) hok hq
  refine v_iload (P := True) S hl 1 rfl dL_law_1029 (fun _ => ?_) trivial
  refine v_icmp_eq_t (P := True) S 1036 t1 dL_law_1031 (by decide) (fun _ => ?_) trivial
  refine v_iload (P := True) S hl 1 rfl dL_law_1036 (fun _ => ?_) trivial
  by_cases h0 : k1 = 0
  · refine v_if_ne_f (P := True) S 1053 h0 dL_law_1038 (by decide) (fun _ => ?_) trivial
    refine v_aload_n (P := True) S hl 5 rfl rfl dL_law_1041 (fun _ => ?_) trivial
    refine v_iconst (P := True) S 0 dL_law_1042 rfl (fun _ => ?_) trivial
    refine l_ld S hL dL_law_1043 ?_
    refine v_iload (P := True) S hl 0 rfl dL_law_1044 (fun _ => ?_) trivial
    refine v_i2l (P := True) S dL_law_1046 (fun _ => ?_) trivial
    refine v_lcmp (P := True) S dL_law_1047 (fun _ => ?_) trivial
    refine v_if_eq_t (P := True) S 1053 ((lg_cmp_eq _ _).mpr (t2 h0)) dL_law_1048 (by decide) (fun _ => ?_) trivial
    refine v_goto (P := True) S 1315 dL_law_1053 (by decide) (fun _ => ?_) trivial
    refine W.widen (k := cells + 353) (n := slots + 2850) (by omega) (by omega) ?_
    exact kk σ2 f3 H locs ls (lv_sub hl [2, 3, 4, 5, 6] rfl) hL (Inv_le (by omega) hI2)
  · refine v_if_ne_t (P := True) S 1053 h0 dL_law_1038 (by decide) (fun _ => ?_) trivial
    refine v_goto (P := True) S 1315 dL_law_1053 (by decide) (fun _ => ?_) trivial
    refine W.widen (k := cells + 353) (n := slots + 2850) (by omega) (by omega) ?_
    exact kk σ2 f3 H locs ls (lv_sub hl [2, 3, 4, 5, 6] rfl) hL (Inv_le (by omega) hI2)
set_option maxHeartbeats 4000000 in
set_option maxRecDepth 100000 in
theorem law_c14 {p : Program} {l : Launch} {e : Env} {s : State} {m : MethodId} {args : Array Value} {below : List Frame} {meth : Method} {c : Code} {H : Heap} {locs : List Loc} {cells slots : Nat} {Q : State → Prop} {ls : Array Slot} {g : GT} {ad : Nat → Nat} {σ : Mem} {o : Nat} {f : Nat → Int64} {b L i B : Nat} {xs : Nat → Int32} (S : CallFix p m c cL_law 9 s args AL RL) (hst : l.stackTraces = false) (hX : va_X b L xs s s.heap) (hb : b < s.heap.size) (hLn : L ≤ 2560) (hi : i + 5 ≤ L) (hcl : cells + 353 ≤ 601024) (hsl : slots + 2850 ≤ 7293033) (hL : LW g ad σ o f s H locs) (hB : B ≤ 1000000) (hI : Inv B σ) (hl : lv_has ls 9 [(0, .ref b), (1, .ref (ad 0)), (2, .ref (ad 141)), (3, .ref o), (4, .int (nI i))]) (kk : ∀ (σ2 : Mem) (f2 : Nat → Int64) (H2 : Heap) (locs2 : List Loc) (ls2 : Array Slot), lv_has ls2 9 [(0, .ref b), (1, .ref (ad 0)), (2, .ref (ad 141)), (3, .ref o), (4, .int (nI i))] → LW g ad σ2 o f2 s H2 locs2 → Inv (B + 240) σ2 → W p l e room_1 s m args below meth c H2 locs2 (cells + 353) (slots + 2850) Q (F0 m 1315 ls2 [])) : W p l e room_1 s m args below meth c H locs cells slots Q (F0 m 1056 ls []) := by
  obtain ⟨rr, σ1, bb, σ2, e1, e2, hI2, hok⟩ := P_ends B hB (xs (i + 1)) σ hI
  refine v_aload_n (P := True) S hl 1 rfl rfl dL_law_1056 (fun _ => ?_) trivial
  refine l_arg S hL hX hb hl 0 4 rfl rfl 1 rfl (by omega) hLn dL_law_1057 dL_law_1058 dL_law_1060 dL_law_1061 dL_law_1062 ?_
  refine v_aload_n (P := True) S hl 3 rfl rfl dL_law_1063 (fun _ => ?_) trivial
  refine l_wrap S hL [.ref (ad 0), .int (xs (i + 1)), .ref o] (met_L_ends l hst g ad σ o f (xs (i + 1)) (rr, σ1) e1 (okk hok)) mh_ends u201 dL_law_1064 rfl rfl hl.1 (Nat.le_of_ble_eq_true rfl) ⟨(Nat.le_of_ble_eq_true rfl), (Nat.le_of_ble_eq_true rfl)⟩ rfl rfl ⟨show cells + 1 ≤ 601024 by omega, show slots + 6 ≤ 7293033 by omega⟩ (fun k1 σ3 f3 H locs hq hL => ?_)
  refine v_istore (P := True) S hl [(5, .int k1), (0, .ref b), (1, .ref (ad 0)), (2, .ref (ad 141)), (3, .ref o), (4, .int (nI i))] dL_law_1067 (by decide) rfl (fun ls hl _ => ?_) trivial
  have e3 : σ3 = σ1 := hq.1
  subst e3
  refine v_aload_n (P := True) S hl 3 rfl rfl dL_law_1069 (fun _ => ?_) trivial
  refine l_arg S hL hX hb hl 1 5 rfl rfl 1 rfl (by omega) hLn dL_law_1070 dL_law_1071 dL_law_1073 dL_law_1074 dL_law_1075 ?_
  refine l_ref S hL [.int (xs (i + 1))] (RX7, TX7, 11) (ci := 7) (j := 141) rfl rfl (by decide) ⟨by decide, by decide⟩ (met_X7_ends l g ad true (o + 1) σ3 141 (xs (i + 1)) bb σ2 e2) mw_X7_ends u202 dL_law_1076 rfl rfl hl.1 (Nat.le_of_ble_eq_true rfl) ⟨(Nat.le_of_ble_eq_true rfl), (Nat.le_of_ble_eq_true rfl)⟩ rfl rfl ⟨show cells + 1 + 0 ≤ 601024 by omega, show slots + 6 + 0 ≤ 7293033 by omega⟩ (fun H locs hL => ?_)
  refine v_istore (P := True) S hl [(6, .int bb), (5, .int k1), (0, .ref b), (1, .ref (ad 0)), (2, .ref (ad 141)), (3, .ref o), (4, .int (nI i))] dL_law_1079 (by decide) rfl (fun ls hl _ => ?_) trivial
  refine v_aload_n (P := True) S hl 4 rfl rfl dL_law_1081 (fun _ => ?_) trivial
  refine l_ref S hL [] (RX7, TX7, 11) (ci := 7) (j := 141) rfl rfl (by decide) ⟨by decide, by decide⟩ (met_X7_thrown l g ad true (o + 1) σ2 141 (σ2 141 0) (by unfold fn_X7_thrown; rw [ck_M]; rfl)) mw_X7_thrown u174 dL_law_1082 rfl rfl hl.1 (Nat.le_of_ble_eq_true rfl) ⟨(Nat.le_of_ble_eq_true rfl), (Nat.le_of_ble_eq_true rfl)⟩ rfl rfl ⟨show cells + 1 + 0 + 0 ≤ 601024 by omega, show slots + 6 + 0 + 0 ≤ 7293033 by omega⟩ (fun H locs hL => ?_)
  obtain ⟨t1, t2⟩ := thr (by decide) (by decide) hok hq
  refine v_iload (P := True) S hl 1 rfl dL_law_1085 (fun _ => ?_) trivial
  refine v_icmp_eq_t (P := True) S 1092 t1 dL_law_1087 (by decide) (fun _ => ?_) trivial
  refine v_iload (P := True) S hl 1 rfl dL_law_1092 (fun _ => ?_) trivial
  by_cases h0 : k1 = 0
  · refine v_if_ne_f (P := True) S 1109 h0 dL_law_1094 (by decide) (fun _ => ?_) trivial
    refine v_aload_n (P := True) S hl 5 rfl rfl dL_law_1097 (fun _ => ?_) trivial
    refine v_iconst (P := True) S 0 dL_law_1098 rfl (fun _ => ?_) trivial
    refine l_ld S hL dL_law_1099 ?_
    refine v_iload (P := True) S hl 0 rfl dL_law_1100 (fun _ => ?_) trivial
    refine v_i2l (P := True) S dL_law_1102 (fun _ => ?_) trivial
    refine v_lcmp (P := True) S dL_law_1103 (fun _ => ?_) trivial
    refine v_if_eq_t (P := True) S 1109 ((lg_cmp_eq _ _).mpr (t2 h0)) dL_law_1104 (by decide) (fun _ => ?_) trivial
    refine v_goto (P := True) S 1315 dL_law_1109 (by decide) (fun _ => ?_) trivial
    refine W.widen (k := cells + 353) (n := slots + 2850) (by omega) (by omega) ?_
    exact kk σ2 f3 H locs ls (lv_sub hl [2, 3, 4, 5, 6] rfl) hL (Inv_le (by omega) hI2)
  · refine v_if_ne_t (P := True) S 1109 h0 dL_law_1094 (by decide) (fun _ => ?_) trivial
    refine v_goto (P := True) S 1315 dL_law_1109 (by decide) (fun _ => ?_) trivial
    refine W.widen (k := cells + 353) (n := slots + 2850) (by omega) (by omega) ?_
    exact kk σ2 f3 H locs ls (lv_sub hl [2, 3, 4, 5, 6] rfl) hL (Inv_le (by omega) hI2)
set_option maxHeartbeats 4000000 in
set_option maxRecDepth 100000 in
theorem law_c15 {p : Program} {l : Launch} {e : Env} {s : State} {m : MethodId} {args : Array Value} {below : List Frame} {meth : Method} {c : Code} {H : Heap} {locs : List Loc} {cells slots : Nat} {Q : State → Prop} {ls : Array Slot} {g : GT} {ad : Nat → Nat} {σ : Mem} {o : Nat} {f : Nat → Int64} {b L i B : Nat} {xs : Nat → Int32} (S : CallFix p m c cL_law 9 s args AL RL) (hst : l.stackTraces = false) (hX : va_X b L xs s s.heap) (hb : b < s.heap.size) (hLn : L ≤ 2560) (hi : i + 5 ≤ L) (hcl : cells + 353 ≤ 601024) (hsl : slots + 2850 ≤ 7293033) (hL : LW g ad σ o f s H locs) (hB : B ≤ 1000000) (hI : Inv B σ) (hl : lv_has ls 9 [(0, .ref b), (1, .ref (ad 0)), (2, .ref (ad 141)), (3, .ref o), (4, .int (nI i))]) (kk : ∀ (σ2 : Mem) (f2 : Nat → Int64) (H2 : Heap) (locs2 : List Loc) (ls2 : Array Slot), lv_has ls2 9 [(0, .ref b), (1, .ref (ad 0)), (2, .ref (ad 141)), (3, .ref o), (4, .int (nI i))] → LW g ad σ2 o f2 s H2 locs2 → Inv (B + 240) σ2 → W p l e room_1 s m args below meth c H2 locs2 (cells + 353) (slots + 2850) Q (F0 m 1315 ls2 [])) : W p l e room_1 s m args below meth c H locs cells slots Q (F0 m 1112 ls []) := by
  obtain ⟨rr, σ1, bb, σ2, e1, e2, hI2, hok⟩ := P_foresee B hB (xs (i + 1)) (xs (i + 2)) σ hI
  refine v_aload_n (P := True) S hl 1 rfl rfl dL_law_1112 (fun _ => ?_) trivial
  refine l_arg S hL hX hb hl 0 4 rfl rfl 1 rfl (by omega) hLn dL_law_1113 dL_law_1114 dL_law_1116 dL_law_1117 dL_law_1118 ?_
  refine l_arg S hL hX hb hl 0 4 rfl rfl 2 rfl (by omega) hLn dL_law_1119 dL_law_1120 dL_law_1122 dL_law_1123 dL_law_1124 ?_
  refine v_aload_n (P := True) S hl 3 rfl rfl dL_law_1125 (fun _ => ?_) trivial
  refine l_wrap S hL [.ref (ad 0), .int (xs (i + 1)), .int (xs (i + 2)), .ref o] (met_L_foresee l hst g ad σ o f (xs (i + 1)) (xs (i + 2)) (rr, σ1) e1 (okk hok)) mh_foresee u203 dL_law_1126 rfl rfl hl.1 (Nat.le_of_ble_eq_true rfl) ⟨(Nat.le_of_ble_eq_true rfl), (Nat.le_of_ble_eq_true rfl)⟩ rfl rfl ⟨show cells + 2 ≤ 601024 by omega, show slots + 12 ≤ 7293033 by omega⟩ (fun k1 σ3 f3 H locs hq hL => ?_)
  refine v_istore (P := True) S hl [(5, .int k1), (0, .ref b), (1, .ref (ad 0)), (2, .ref (ad 141)), (3, .ref o), (4, .int (nI i))] dL_law_1129 (by decide) rfl (fun ls hl _ => ?_) trivial
  have e3 : σ3 = σ1 := hq.1
  subst e3
  refine v_aload_n (P := True) S hl 3 rfl rfl dL_law_1131 (fun _ => ?_) trivial
  refine l_arg S hL hX hb hl 1 5 rfl rfl 1 rfl (by omega) hLn dL_law_1132 dL_law_1133 dL_law_1135 dL_law_1136 dL_law_1137 ?_
  refine l_arg S hL hX hb hl 1 5 rfl rfl 2 rfl (by omega) hLn dL_law_1138 dL_law_1139 dL_law_1141 dL_law_1142 dL_law_1143 ?_
  refine l_ref S hL [.int (xs (i + 1)), .int (xs (i + 2))] (RX7, TX7, 11) (ci := 7) (j := 141) rfl rfl (by decide) ⟨by decide, by decide⟩ (met_X7_foresee l g ad true (o + 1) σ3 141 (xs (i + 1)) (xs (i + 2)) bb σ2 e2) mw_X7_foresee u204 dL_law_1144 rfl rfl hl.1 (Nat.le_of_ble_eq_true rfl) ⟨(Nat.le_of_ble_eq_true rfl), (Nat.le_of_ble_eq_true rfl)⟩ rfl rfl ⟨show cells + 2 + 1 ≤ 601024 by omega, show slots + 12 + 9 ≤ 7293033 by omega⟩ (fun H locs hL => ?_)
  refine v_istore (P := True) S hl [(6, .int bb), (5, .int k1), (0, .ref b), (1, .ref (ad 0)), (2, .ref (ad 141)), (3, .ref o), (4, .int (nI i))] dL_law_1147 (by decide) rfl (fun ls hl _ => ?_) trivial
  refine v_aload_n (P := True) S hl 4 rfl rfl dL_law_1149 (fun _ => ?_) trivial
  refine l_ref S hL [] (RX7, TX7, 11) (ci := 7) (j := 141) rfl rfl (by decide) ⟨by decide, by decide⟩ (met_X7_thrown l g ad true (o + 1) σ2 141 (σ2 141 0) (by unfold fn_X7_thrown; rw [ck_M]; rfl)) mw_X7_thrown u174 dL_law_1150 rfl rfl hl.1 (Nat.le_of_ble_eq_true rfl) ⟨(Nat.le_of_ble_eq_true rfl), (Nat.le_of_ble_eq_true rfl)⟩ rfl rfl ⟨show cells + 2 + 1 + 0 ≤ 601024 by omega, show slots + 12 + 9 + 0 ≤ 7293033 by omega⟩ (fun H locs hL => ?_)
  obtain ⟨t1, t2⟩ := thr (by decide) (by decide) hok hq
  refine v_iload (P := True) S hl 1 rfl dL_law_1153 (fun _ => ?_) trivial
  refine v_icmp_eq_t (P := True) S 1160 t1 dL_law_1155 (by decide) (fun _ => ?_) trivial
  refine v_iload (P := True) S hl 1 rfl dL_law_1160 (fun _ => ?_) trivial
  by_cases h0 : k1 = 0
  · refine v_if_ne_f (P := True) S 1177 h0 dL_law_1162 (by decide) (fun _ => ?_) trivial
    refine v_aload_n (P := True) S hl 5 rfl rfl dL_law_1165 (fun _ => ?_) trivial
    refine v_iconst (P := True) S 0 dL_law_1166 rfl (fun _ => ?_) trivial
    refine l_ld S hL dL_law_1167 ?_
    refine v_iload (P := True) S hl 0 rfl dL_law_1168 (fun _ => ?_) trivial
    refine v_i2l (P := True) S dL_law_1170 (fun _ => ?_) trivial
    refine v_lcmp (P := True) S dL_law_1171 (fun _ => ?_) trivial
    refine v_if_eq_t (P := True) S 1177 ((lg_cmp_eq _ _).mpr (t2 h0)) dL_law_1172 (by decide) (fun _ => ?_) trivial
    refine v_goto (P := True) S 1315 dL_law_1177 (by decide) (fun _ => ?_) trivial
    refine W.widen (k := cells + 353) (n := slots + 2850) (by omega) (by omega) ?_
    exact kk σ2 f3 H locs ls (lv_sub hl [2, 3, 4, 5, 6] rfl) hL (Inv_le (by omega) hI2)
  · refine v_if_ne_t (P := True) S 1177 h0 dL_law_1162 (by decide) (fun _ => ?_) trivial
    refine v_goto (P := True) S 1315 dL_law_1177 (by decide) (fun _ => ?_) trivial
    refine W.widen (k := cells + 353) (n := slots + 2850) (by omega) (by omega) ?_
    exact kk σ2 f3 H locs ls (lv_sub hl [2, 3, 4, 5, 6] rfl) hL (Inv_le (by omega) hI2)
set_option maxHeartbeats 4000000 in
set_option maxRecDepth 100000 in
theorem law_c16 {p : Program} {l : Launch} {e : Env} {s : State} {m : MethodId} {args : Array Value} {below : List Frame} {meth : Method} {c : Code} {H : Heap} {locs : List Loc} {cells slots : Nat} {Q : State → Prop} {ls : Array Slot} {g : GT} {ad : Nat → Nat} {σ : Mem} {o : Nat} {f : Nat → Int64} {b L i B : Nat} {xs : Nat → Int32} (S : CallFix p m c cL_law 9 s args AL RL) (hst : l.stackTraces = false) (hX : va_X b L xs s s.heap) (hb : b < s.heap.size) (hLn : L ≤ 2560) (hi : i + 5 ≤ L) (hcl : cells + 353 ≤ 601024) (hsl : slots + 2850 ≤ 7293033) (hL : LW g ad σ o f s H locs) (hB : B ≤ 1000000) (hI : Inv B σ) (hl : lv_has ls 9 [(0, .ref b), (1, .ref (ad 0)), (2, .ref (ad 141)), (3, .ref o), (4, .int (nI i))]) (kk : ∀ (σ2 : Mem) (f2 : Nat → Int64) (H2 : Heap) (locs2 : List Loc) (ls2 : Array Slot), lv_has ls2 9 [(0, .ref b), (1, .ref (ad 0)), (2, .ref (ad 141)), (3, .ref o), (4, .int (nI i))] → LW g ad σ2 o f2 s H2 locs2 → Inv (B + 240) σ2 → W p l e room_1 s m args below meth c H2 locs2 (cells + 353) (slots + 2850) Q (F0 m 1315 ls2 [])) : W p l e room_1 s m args below meth c H locs cells slots Q (F0 m 1180 ls []) := by
  obtain ⟨rr, σ1, bb, σ2, e1, e2, hI2, hok⟩ := P_choose B hB (xs (i + 1)) (xs (i + 2)) (xs (i + 3)) σ hI
  refine v_aload_n (P := True) S hl 1 rfl rfl dL_law_1180 (fun _ => ?_) trivial
  refine l_arg S hL hX hb hl 0 4 rfl rfl 1 rfl (by omega) hLn dL_law_1181 dL_law_1182 dL_law_1184 dL_law_1185 dL_law_1186 ?_
  refine l_arg S hL hX hb hl 0 4 rfl rfl 2 rfl (by omega) hLn dL_law_1187 dL_law_1188 dL_law_1190 dL_law_1191 dL_law_1192 ?_
  refine l_arg S hL hX hb hl 0 4 rfl rfl 3 rfl (by omega) hLn dL_law_1193 dL_law_1194 dL_law_1196 dL_law_1197 dL_law_1198 ?_
  refine v_aload_n (P := True) S hl 3 rfl rfl dL_law_1199 (fun _ => ?_) trivial
  refine l_wrap S hL [.ref (ad 0), .int (xs (i + 1)), .int (xs (i + 2)), .int (xs (i + 3)), .ref o] (met_L_choose l hst g ad σ o f (xs (i + 1)) (xs (i + 2)) (xs (i + 3)) (rr, σ1) e1 (okk hok)) mh_choose u205 dL_law_1200 rfl rfl hl.1 (Nat.le_of_ble_eq_true rfl) ⟨(Nat.le_of_ble_eq_true rfl), (Nat.le_of_ble_eq_true rfl)⟩ rfl rfl ⟨show cells + 3 ≤ 601024 by omega, show slots + 18 ≤ 7293033 by omega⟩ (fun k1 σ3 f3 H locs hq hL => ?_)
  refine v_istore (P := True) S hl [(5, .int k1), (0, .ref b), (1, .ref (ad 0)), (2, .ref (ad 141)), (3, .ref o), (4, .int (nI i))] dL_law_1203 (by decide) rfl (fun ls hl _ => ?_) trivial
  have e3 : σ3 = σ1 := hq.1
  subst e3
  refine v_aload_n (P := True) S hl 3 rfl rfl dL_law_1205 (fun _ => ?_) trivial
  refine l_arg S hL hX hb hl 1 5 rfl rfl 1 rfl (by omega) hLn dL_law_1206 dL_law_1207 dL_law_1209 dL_law_1210 dL_law_1211 ?_
  refine l_arg S hL hX hb hl 1 5 rfl rfl 2 rfl (by omega) hLn dL_law_1212 dL_law_1213 dL_law_1215 dL_law_1216 dL_law_1217 ?_
  refine l_arg S hL hX hb hl 1 5 rfl rfl 3 rfl (by omega) hLn dL_law_1218 dL_law_1219 dL_law_1221 dL_law_1222 dL_law_1223 ?_
  refine l_ref S hL [.int (xs (i + 1)), .int (xs (i + 2)), .int (xs (i + 3))] (RX7, TX7, 11) (ci := 7) (j := 141) rfl rfl (by decide) ⟨by decide, by decide⟩ (met_X7_choose l g ad true (o + 1) σ3 141 (xs (i + 1)) (xs (i + 2)) (xs (i + 3)) bb σ2 e2) mw_X7_choose u206 dL_law_1224 rfl rfl hl.1 (Nat.le_of_ble_eq_true rfl) ⟨(Nat.le_of_ble_eq_true rfl), (Nat.le_of_ble_eq_true rfl)⟩ rfl rfl ⟨show cells + 3 + 0 ≤ 601024 by omega, show slots + 18 + 0 ≤ 7293033 by omega⟩ (fun H locs hL => ?_)
  refine v_istore (P := True) S hl [(6, .int bb), (5, .int k1), (0, .ref b), (1, .ref (ad 0)), (2, .ref (ad 141)), (3, .ref o), (4, .int (nI i))] dL_law_1227 (by decide) rfl (fun ls hl _ => ?_) trivial
  refine v_aload_n (P := True) S hl 4 rfl rfl dL_law_1229 (fun _ => ?_) trivial
  refine l_ref S hL [] (RX7, TX7, 11) (ci := 7) (j := 141) rfl rfl (by decide) ⟨by decide, by decide⟩ (met_X7_thrown l g ad true (o + 1) σ2 141 (σ2 141 0) (by unfold fn_X7_thrown; rw [ck_M]; rfl)) mw_X7_thrown u174 dL_law_1230 rfl rfl hl.1 (Nat.le_of_ble_eq_true rfl) ⟨(Nat.le_of_ble_eq_true rfl), (Nat.le_of_ble_eq_true rfl)⟩ rfl rfl ⟨show cells + 3 + 0 + 0 ≤ 601024 by omega, show slots + 18 + 0 + 0 ≤ 7293033 by omega⟩ (fun H locs hL => ?_)
  obtain ⟨t1, t2⟩ := thr (by decide) (by decide) hok hq
  refine v_iload (P := True) S hl 1 rfl dL_law_1233 (fun _ => ?_) trivial
  refine v_icmp_eq_t (P := True) S 1240 t1 dL_law_1235 (by decide) (fun _ => ?_) trivial
  refine v_iload (P := True) S hl 1 rfl dL_law_1240 (fun _ => ?_) trivial
  by_cases h0 : k1 = 0
  · refine v_if_ne_f (P := True) S 1257 h0 dL_law_1242 (by decide) (fun _ => ?_) trivial
    refine v_aload_n (P := True) S hl 5 rfl rfl dL_law_1245 (fun _ => ?_) trivial
    refine v_iconst (P := True) S 0 dL_law_1246 rfl (fun _ => ?_) trivial
    refine l_ld S hL dL_law_1247 ?_
    refine v_iload (P := True) S hl 0 rfl dL_law_1248 (fun _ => ?_) trivial
    refine v_i2l (P := True) S dL_law_1250 (fun _ => ?_) trivial
    refine v_lcmp (P := True) S dL_law_1251 (fun _ => ?_) trivial
    refine v_if_eq_t (P := True) S 1257 ((lg_cmp_eq _ _).mpr (t2 h0)) dL_law_1252 (by decide) (fun _ => ?_) trivial
    refine v_goto (P := True) S 1315 dL_law_1257 (by decide) (fun _ => ?_) trivial
    refine W.widen (k := cells + 353) (n := slots + 2850) (by omega) (by omega) ?_
    exact kk σ2 f3 H locs ls (lv_sub hl [2, 3, 4, 5, 6] rfl) hL (Inv_le (by omega) hI2)
  · refine v_if_ne_t (P := True) S 1257 h0 dL_law_1242 (by decide) (fun _ => ?_) trivial
    refine v_goto (P := True) S 1315 dL_law_1257 (by decide) (fun _ => ?_) trivial
    refine W.widen (k := cells + 353) (n := slots + 2850) (by omega) (by omega) ?_
    exact kk σ2 f3 H locs ls (lv_sub hl [2, 3, 4, 5, 6] rfl) hL (Inv_le (by omega) hI2)
set_option maxHeartbeats 4000000 in
set_option maxRecDepth 100000 in
theorem law_c17 {p : Program} {l : Launch} {e : Env} {s : State} {m : MethodId} {args : Array Value} {below : List Frame} {meth : Method} {c : Code} {H : Heap} {locs : List Loc} {cells slots : Nat} {Q : State → Prop} {ls : Array Slot} {g : GT} {ad : Nat → Nat} {σ : Mem} {o : Nat} {f : Nat → Int64} {b L i B : Nat} {xs : Nat → Int32} {d0 : Drawn} (hd0 : s.drawn.sameBut d0 lw_cs) (S : CallFix p m c cL_law 9 s args AL RL) (hst : l.stackTraces = false) (hX : va_X b L xs s s.heap) (hb : b < s.heap.size) (hLn : L ≤ 2560) (hi : i + 5 ≤ L) (hcl : cells + 353 ≤ 601024) (hsl : slots + 2850 ≤ 7293033) (hL : LW g ad σ o f s H locs) (hB : B ≤ 1000000) (hI : Inv B σ) (hl : lv_has ls 9 [(0, .ref b), (1, .ref (ad 0)), (2, .ref (ad 141)), (3, .ref o), (4, .int (nI i))]) (kk : ∀ (σ2 : Mem) (f2 : Nat → Int64) (H2 : Heap) (locs2 : List Loc) (ls2 : Array Slot), lv_has ls2 9 [(0, .ref b), (1, .ref (ad 0)), (2, .ref (ad 141)), (3, .ref o), (4, .int (nI i))] → LW g ad σ2 o f2 s H2 locs2 → Inv (B + 240) σ2 → ∀ d2 : Drawn, s.drawn.sameBut d2 lw_cs → W p l e room_1 (s.setDrawn d2) m args below meth c H2 locs2 (cells + 353) (slots + 2850) Q (F0 m 1315 ls2 [])) : W p l e room_1 (s.setDrawn d0) m args below meth c H locs cells slots Q (F0 m 1260 ls []) := by
  obtain ⟨v, e1, e2, hI2⟩ := P_mean B σ hI
  refine v_aload_n (P := True) (CF_d S d0) hl 1 rfl rfl dL_law_1260 (fun _ => ?_) trivial
  refine l_refD S hd0 hL [] (P := okMean v) (RX5, TX5, 2) (ci := 5) (j := 0) rfl rfl (by decide) ⟨by decide, by decide⟩ (met_X5_mean l g ad true (o + 1) σ 0 v e1) mw_X5_mean u207 dL_law_1261 rfl rfl hl.1 (Nat.le_of_ble_eq_true rfl) ⟨(Nat.le_of_ble_eq_true rfl), (Nat.le_of_ble_eq_true rfl)⟩ rfl rfl ⟨show cells + 0 ≤ 601024 by omega, show slots + 0 ≤ 7293033 by omega⟩ (fun x d1 H locs hd1 hx hL => ?_)
  refine v_dstore (P := True) (CF_d S d1) hl [(5, .double x), (0, .ref b), (1, .ref (ad 0)), (2, .ref (ad 141)), (3, .ref o), (4, .int (nI i))] dL_law_1264 (by decide) rfl (fun ls hl _ => ?_) trivial
  refine v_aload_n (P := True) (CF_d S d1) hl 3 rfl rfl dL_law_1266 (fun _ => ?_) trivial
  refine l_refD S hd1 hL [] (P := okMean v) (RX7, TX7, 11) (ci := 7) (j := 141) rfl rfl (by decide) ⟨by decide, by decide⟩ (met_X7_mean l g ad (o + 1) σ 141 v _ e2) mw_X7_mean u208 dL_law_1267 rfl rfl hl.1 (Nat.le_of_ble_eq_true rfl) ⟨(Nat.le_of_ble_eq_true rfl), (Nat.le_of_ble_eq_true rfl)⟩ rfl rfl ⟨show cells + 0 + 0 ≤ 601024 by omega, show slots + 0 + 0 ≤ 7293033 by omega⟩ (fun y d2 H locs hd2 hy hL => ?_)
  refine v_dstore (P := True) (CF_d S d2) hl [(7, .double y), (5, .double x), (0, .ref b), (1, .ref (ad 0)), (2, .ref (ad 141)), (3, .ref o), (4, .int (nI i))] dL_law_1270 (by decide) rfl (fun ls hl _ => ?_) trivial
  refine v_dload (P := True) (CF_d S d2) hl 1 rfl dL_law_1272 (fun _ => ?_) trivial
  refine v_dload (P := True) (CF_d S d2) hl 0 rfl dL_law_1274 (fun _ => ?_) trivial
  refine v_dcmp (P := True) (CF_d S d2) dL_law_1276 (fun _ => ?_) trivial
  by_cases z : Op.cmpValue (FP.dcmp x y) CmpOp.l = 0
  · refine v_if_eq_t (P := True) (CF_d S d2) 1298 z dL_law_1277 (by decide) (fun _ => ?_) trivial
    refine v_goto (P := True) (CF_d S d2) 1315 dL_law_1298 (by decide) (fun _ => ?_) trivial
    refine W.widen (k := cells + 353) (n := slots + 2850) (by omega) (by omega) ?_
    exact kk _ f H locs ls (lv_sub hl [2, 3, 4, 5, 6] rfl) hL (Inv_le (by omega) hI2) d2 hd2
  · obtain ⟨z1, z2⟩ := (mean_cmp hx hy).resolve_left z
    refine v_if_eq_f2 (P := True) (CF_d S d2) 1298 z dL_law_1277 (by decide) (fun _ => ?_) trivial
    refine v_dload (P := True) (CF_d S d2) hl 1 rfl dL_law_1280 (fun _ => ?_) trivial
    refine v_dload (P := True) (CF_d S d2) hl 1 rfl dL_law_1282 (fun _ => ?_) trivial
    refine v_dcmp (P := True) (CF_d S d2) dL_law_1284 (fun _ => ?_) trivial
    refine v_if_eq_f2 (P := True) (CF_d S d2) 1296 z1 dL_law_1285 (by decide) (fun _ => ?_) trivial
    refine v_dload (P := True) (CF_d S d2) hl 0 rfl dL_law_1288 (fun _ => ?_) trivial
    refine v_dload (P := True) (CF_d S d2) hl 0 rfl dL_law_1290 (fun _ => ?_) trivial
    refine v_dcmp (P := True) (CF_d S d2) dL_law_1292 (fun _ => ?_) trivial
    refine v_if_ne_t (P := True) (CF_d S d2) 1298 z2 dL_law_1293 (by decide) (fun _ => ?_) trivial
    refine v_goto (P := True) (CF_d S d2) 1315 dL_law_1298 (by decide) (fun _ => ?_) trivial
    refine W.widen (k := cells + 353) (n := slots + 2850) (by omega) (by omega) ?_
    exact kk _ f H locs ls (lv_sub hl [2, 3, 4, 5, 6] rfl) hL (Inv_le (by omega) hI2) d2 hd2
set_option maxHeartbeats 4000000 in
set_option maxRecDepth 100000 in
theorem law_c18 {p : Program} {l : Launch} {e : Env} {s : State} {m : MethodId} {args : Array Value} {below : List Frame} {meth : Method} {c : Code} {H : Heap} {locs : List Loc} {cells slots : Nat} {Q : State → Prop} {ls : Array Slot} {g : GT} {ad : Nat → Nat} {σ : Mem} {o : Nat} {f : Nat → Int64} {b L i B : Nat} {xs : Nat → Int32} (S : CallFix p m c cL_law 9 s args AL RL) (hst : l.stackTraces = false) (hX : va_X b L xs s s.heap) (hb : b < s.heap.size) (hLn : L ≤ 2560) (hi : i + 5 ≤ L) (hcl : cells + 353 ≤ 601024) (hsl : slots + 2850 ≤ 7293033) (hL : LW g ad σ o f s H locs) (hB : B ≤ 1000000) (hI : Inv B σ) (hl : lv_has ls 9 [(0, .ref b), (1, .ref (ad 0)), (2, .ref (ad 141)), (3, .ref o), (4, .int (nI i))]) (kk : ∀ (σ2 : Mem) (f2 : Nat → Int64) (H2 : Heap) (locs2 : List Loc) (ls2 : Array Slot), lv_has ls2 9 [(0, .ref b), (1, .ref (ad 0)), (2, .ref (ad 141)), (3, .ref o), (4, .int (nI i))] → LW g ad σ2 o f2 s H2 locs2 → Inv (B + 240) σ2 → W p l e room_1 s m args below meth c H2 locs2 (cells + 353) (slots + 2850) Q (F0 m 1315 ls2 [])) : W p l e room_1 s m args below meth c H locs cells slots Q (F0 m 1301 ls []) := by
  obtain ⟨v, e1, e2, hI2⟩ := P_digest B hB σ hI
  refine v_aload_n (P := True) S hl 1 rfl rfl dL_law_1301 (fun _ => ?_) trivial
  refine l_refL S hL [] (RX5, TX5, 2) (ci := 5) (j := 0) rfl rfl (by decide) ⟨by decide, by decide⟩ (met_X5_digest l g ad true (o + 1) σ 0 v e1) mw_X5_digest u209 dL_law_1302 rfl rfl hl.1 (Nat.le_of_ble_eq_true rfl) ⟨(Nat.le_of_ble_eq_true rfl), (Nat.le_of_ble_eq_true rfl)⟩ rfl rfl ⟨show cells + 0 ≤ 601024 by omega, show slots + 0 ≤ 7293033 by omega⟩ (fun H locs hL => ?_)
  refine v_aload_n (P := True) S hl 2 rfl rfl dL_law_1305 (fun _ => ?_) trivial
  refine l_refL S hL [] (RX7, TX7, 11) (ci := 7) (j := 141) rfl rfl (by decide) ⟨by decide, by decide⟩ (met_X7_digest l g ad true (o + 1) σ 141 v _ e2) mw_X7_digest u210 dL_law_1306 rfl rfl hl.1 (Nat.le_of_ble_eq_true rfl) ⟨(Nat.le_of_ble_eq_true rfl), (Nat.le_of_ble_eq_true rfl)⟩ rfl rfl ⟨show cells + 0 + 348 ≤ 601024 by omega, show slots + 0 + 2820 ≤ 7293033 by omega⟩ (fun H locs hL => ?_)
  refine v_lcmp (P := True) S dL_law_1309 (fun _ => ?_) trivial
  refine v_if_eq_t (P := True) S 1315 ((lg_cmp_eq _ _).mpr rfl) dL_law_1310 (by decide) (fun _ => ?_) trivial
  refine W.widen (k := cells + 353) (n := slots + 2850) (by omega) (by omega) ?_
  exact kk _ f H locs ls hl hL (Inv_le (by omega) hI2)
