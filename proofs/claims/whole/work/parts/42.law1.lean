/-! the words of the law; its wrappers -/
theorem u0 : Cond.codeWith yL_weigh cL_weigh 5 (some .int) [(0, 10, 13, 13), (0, 10, 17, 15)] ∈ AL := AL_in (tq2 (List.mem_of_getElem? (i := 52) rfl)) rfl
theorem u1 : Cond.initialized "MuffledTollsLaw" ∈ AL := AL_in (tq1 (List.mem_of_getElem? (i := 0) rfl)) rfl
theorem u2 : Cond.static yL_weigh ∈ AL := AL_in (tq2 (List.mem_of_getElem? (i := 51) rfl)) rfl
theorem mh_weigh : MH yL_weigh cL_weigh 5 (some .int) [(0, 10, 13, 13), (0, 10, 17, 15)] 4 := ⟨u2, u1, u0, by decide +kernel⟩
theorem u3 : Cond.methodLink RL 7 yX5_weigh ∈ AL := AL_in (tq2 (List.mem_of_getElem? (i := 55) rfl)) rfl
theorem u4 : Cond.code yX5_weigh cX5_weigh 4 (some .int) ∈ AL := AL_in (tq2 (List.mem_of_getElem? (i := 58) rfl)) rfl
theorem u5 : Cond.instanceMethod yX5_weigh ∈ AL := AL_in (tq2 (List.mem_of_getElem? (i := 56) rfl)) rfl
theorem u6 : Cond.selects yX5_weigh.cls yX5_weigh yX5_weigh ∈ AL := AL_in (tq2 (List.mem_of_getElem? (i := 57) rfl)) rfl
theorem mw_X5_weigh : MW yX5_weigh cX5_weigh 4 (some .int) 2 := ⟨u5, u6, q13, u4, by decide +kernel⟩
theorem u7 : Cond.classLink RL 13 (XN 1) ∈ AL := AL_in (tq2 (List.mem_of_getElem? (i := 53) rfl)) rfl
theorem u8 : Cond.classLink RL 15 (XN 2) ∈ AL := AL_in (tq2 (List.mem_of_getElem? (i := 54) rfl)) rfl
theorem u9 : Cond.codeWith yL_fit cL_fit 6 (some .int) [(0, 12, 15, 13), (0, 12, 19, 15), (0, 12, 23, 21)] ∈ AL := AL_in (tq2 (List.mem_of_getElem? (i := 154) rfl)) rfl
theorem u10 : Cond.static yL_fit ∈ AL := AL_in (tq2 (List.mem_of_getElem? (i := 153) rfl)) rfl
theorem mh_fit : MH yL_fit cL_fit 6 (some .int) [(0, 12, 15, 13), (0, 12, 19, 15), (0, 12, 23, 21)] 5 := ⟨u10, u1, u9, by decide +kernel⟩
theorem u11 : Cond.methodLink RL 17 yX5_fit ∈ AL := AL_in (tq2 (List.mem_of_getElem? (i := 156) rfl)) rfl
theorem u12 : Cond.code yX5_fit cX5_fit 6 (some .int) ∈ AL := AL_in (tq2 (List.mem_of_getElem? (i := 159) rfl)) rfl
theorem u13 : Cond.instanceMethod yX5_fit ∈ AL := AL_in (tq2 (List.mem_of_getElem? (i := 157) rfl)) rfl
theorem u14 : Cond.selects yX5_fit.cls yX5_fit yX5_fit ∈ AL := AL_in (tq2 (List.mem_of_getElem? (i := 158) rfl)) rfl
theorem mw_X5_fit : MW yX5_fit cX5_fit 6 (some .int) 3 := ⟨u13, u14, q13, u12, by decide +kernel⟩
theorem u15 : Cond.classLink RL 21 (XN 3) ∈ AL := AL_in (tq2 (List.mem_of_getElem? (i := 155) rfl)) rfl
theorem u16 : Cond.codeWith yL_store cL_store 4 (some .int) [(0, 9, 12, 15)] ∈ AL := AL_in (tq2 (List.mem_of_getElem? (i := 183) rfl)) rfl
theorem u17 : Cond.static yL_store ∈ AL := AL_in (tq2 (List.mem_of_getElem? (i := 182) rfl)) rfl
theorem mh_store : MH yL_store cL_store 4 (some .int) [(0, 9, 12, 15)] 3 := ⟨u17, u1, u16, by decide +kernel⟩
theorem u18 : Cond.methodLink RL 23 yX5_store ∈ AL := AL_in (tq2 (List.mem_of_getElem? (i := 184) rfl)) rfl
theorem u19 : Cond.code yX5_store cX5_store 2 (some .int) ∈ AL := AL_in (tq2 (List.mem_of_getElem? (i := 187) rfl)) rfl
theorem u20 : Cond.instanceMethod yX5_store ∈ AL := AL_in (tq2 (List.mem_of_getElem? (i := 185) rfl)) rfl
theorem u21 : Cond.selects yX5_store.cls yX5_store yX5_store ∈ AL := AL_in (tq2 (List.mem_of_getElem? (i := 186) rfl)) rfl
theorem mw_X5_store : MW yX5_store cX5_store 2 (some .int) 1 := ⟨u20, u21, q13, u19, by decide +kernel⟩
theorem u22 : Cond.codeWith yL_lasts cL_lasts 5 (some .int) [(0, 10, 13, 13)] ∈ AL := AL_in (tq2 (List.mem_of_getElem? (i := 193) rfl)) rfl
theorem u23 : Cond.static yL_lasts ∈ AL := AL_in (tq2 (List.mem_of_getElem? (i := 192) rfl)) rfl
theorem mh_lasts : MH yL_lasts cL_lasts 5 (some .int) [(0, 10, 13, 13)] 4 := ⟨u23, u1, u22, by decide +kernel⟩
theorem u24 : Cond.methodLink RL 27 yX5_lasts ∈ AL := AL_in (tq2 (List.mem_of_getElem? (i := 194) rfl)) rfl
theorem u25 : Cond.code yX5_lasts cX5_lasts 3 (some .int) ∈ AL := AL_in (tq2 (List.mem_of_getElem? (i := 197) rfl)) rfl
theorem u26 : Cond.instanceMethod yX5_lasts ∈ AL := AL_in (tq2 (List.mem_of_getElem? (i := 195) rfl)) rfl
theorem u27 : Cond.selects yX5_lasts.cls yX5_lasts yX5_lasts ∈ AL := AL_in (tq2 (List.mem_of_getElem? (i := 196) rfl)) rfl
theorem mw_X5_lasts : MW yX5_lasts cX5_lasts 3 (some .int) 2 := ⟨u26, u27, q13, u25, by decide +kernel⟩
theorem u28 : Cond.codeWith yL_bell cL_bell 5 (some .int) [(0, 10, 13, 13)] ∈ AL := AL_in (tq2 (List.mem_of_getElem? (i := 200) rfl)) rfl
theorem u29 : Cond.static yL_bell ∈ AL := AL_in (tq2 (List.mem_of_getElem? (i := 199) rfl)) rfl
theorem mh_bell : MH yL_bell cL_bell 5 (some .int) [(0, 10, 13, 13)] 4 := ⟨u29, u1, u28, by decide +kernel⟩
theorem u30 : Cond.methodLink RL 30 yX5_bell ∈ AL := AL_in (tq2 (List.mem_of_getElem? (i := 201) rfl)) rfl
theorem u31 : Cond.code yX5_bell cX5_bell 3 (some .int) ∈ AL := AL_in (tq2 (List.mem_of_getElem? (i := 204) rfl)) rfl
theorem u32 : Cond.instanceMethod yX5_bell ∈ AL := AL_in (tq2 (List.mem_of_getElem? (i := 202) rfl)) rfl
theorem u33 : Cond.selects yX5_bell.cls yX5_bell yX5_bell ∈ AL := AL_in (tq2 (List.mem_of_getElem? (i := 203) rfl)) rfl
theorem mw_X5_bell : MW yX5_bell cX5_bell 3 (some .int) 2 := ⟨u32, u33, q13, u31, by decide +kernel⟩
theorem u34 : Cond.codeWith yL_ringer cL_ringer 4 (some .int) [(0, 9, 12, 15), (0, 9, 15, 21)] ∈ AL := AL_in (tq2 (List.mem_of_getElem? (i := 207) rfl)) rfl
theorem u35 : Cond.static yL_ringer ∈ AL := AL_in (tq2 (List.mem_of_getElem? (i := 206) rfl)) rfl
theorem mh_ringer : MH yL_ringer cL_ringer 4 (some .int) [(0, 9, 12, 15), (0, 9, 15, 21)] 3 := ⟨u35, u1, u34, by decide +kernel⟩
theorem u36 : Cond.methodLink RL 33 yX5_ringer ∈ AL := AL_in (tq2 (List.mem_of_getElem? (i := 208) rfl)) rfl
theorem u37 : Cond.code yX5_ringer cX5_ringer 2 (some .int) ∈ AL := AL_in (tq2 (List.mem_of_getElem? (i := 211) rfl)) rfl
theorem u38 : Cond.instanceMethod yX5_ringer ∈ AL := AL_in (tq2 (List.mem_of_getElem? (i := 209) rfl)) rfl
theorem u39 : Cond.selects yX5_ringer.cls yX5_ringer yX5_ringer ∈ AL := AL_in (tq2 (List.mem_of_getElem? (i := 210) rfl)) rfl
theorem mw_X5_ringer : MW yX5_ringer cX5_ringer 2 (some .int) 1 := ⟨u38, u39, q13, u37, by decide +kernel⟩
theorem u40 : Cond.codeWith yL_send cL_send 5 (some .int) [(0, 10, 13, 13), (0, 10, 17, 21)] ∈ AL := AL_in (tq2 (List.mem_of_getElem? (i := 219) rfl)) rfl
theorem u41 : Cond.static yL_send ∈ AL := AL_in (tq2 (List.mem_of_getElem? (i := 218) rfl)) rfl
theorem mh_send : MH yL_send cL_send 5 (some .int) [(0, 10, 13, 13), (0, 10, 17, 21)] 4 := ⟨u41, u1, u40, by decide +kernel⟩
theorem u42 : Cond.methodLink RL 36 yX5_send ∈ AL := AL_in (tq2 (List.mem_of_getElem? (i := 220) rfl)) rfl
theorem u43 : Cond.code yX5_send cX5_send 4 (some .int) ∈ AL := AL_in (tq2 (List.mem_of_getElem? (i := 223) rfl)) rfl
theorem u44 : Cond.instanceMethod yX5_send ∈ AL := AL_in (tq2 (List.mem_of_getElem? (i := 221) rfl)) rfl
theorem u45 : Cond.selects yX5_send.cls yX5_send yX5_send ∈ AL := AL_in (tq2 (List.mem_of_getElem? (i := 222) rfl)) rfl
theorem mw_X5_send : MW yX5_send cX5_send 4 (some .int) 2 := ⟨u44, u45, q13, u43, by decide +kernel⟩
theorem u46 : Cond.codeWith yL_told cL_told 5 (some .int) [(0, 10, 13, 13)] ∈ AL := AL_in (tq2 (List.mem_of_getElem? (i := 236) rfl)) rfl
theorem u47 : Cond.static yL_told ∈ AL := AL_in (tq2 (List.mem_of_getElem? (i := 235) rfl)) rfl
theorem mh_told : MH yL_told cL_told 5 (some .int) [(0, 10, 13, 13)] 4 := ⟨u47, u1, u46, by decide +kernel⟩
theorem u48 : Cond.methodLink RL 39 yX5_told ∈ AL := AL_in (tq2 (List.mem_of_getElem? (i := 237) rfl)) rfl
theorem u49 : Cond.code yX5_told cX5_told 3 (some .int) ∈ AL := AL_in (tq3 (List.mem_of_getElem? (i := 0) rfl)) rfl
theorem u50 : Cond.instanceMethod yX5_told ∈ AL := AL_in (tq2 (List.mem_of_getElem? (i := 238) rfl)) rfl
theorem u51 : Cond.selects yX5_told.cls yX5_told yX5_told ∈ AL := AL_in (tq2 (List.mem_of_getElem? (i := 239) rfl)) rfl
theorem mw_X5_told : MW yX5_told cX5_told 3 (some .int) 2 := ⟨u50, u51, q13, u49, by decide +kernel⟩
theorem u52 : Cond.codeWith yL_toll cL_toll 7 (some .int) [(0, 14, 17, 13), (0, 14, 21, 15), (0, 14, 25, 21)] ∈ AL := AL_in (tq3 (List.mem_of_getElem? (i := 3) rfl)) rfl
theorem u53 : Cond.static yL_toll ∈ AL := AL_in (tq3 (List.mem_of_getElem? (i := 2) rfl)) rfl
theorem mh_toll : MH yL_toll cL_toll 7 (some .int) [(0, 14, 17, 13), (0, 14, 21, 15), (0, 14, 25, 21)] 6 := ⟨u53, u1, u52, by decide +kernel⟩
theorem u54 : Cond.methodLink RL 42 yX5_toll ∈ AL := AL_in (tq3 (List.mem_of_getElem? (i := 4) rfl)) rfl
theorem u55 : Cond.code yX5_toll cX5_toll 5 (some .int) ∈ AL := AL_in (tq3 (List.mem_of_getElem? (i := 7) rfl)) rfl
theorem u56 : Cond.instanceMethod yX5_toll ∈ AL := AL_in (tq3 (List.mem_of_getElem? (i := 5) rfl)) rfl
theorem u57 : Cond.selects yX5_toll.cls yX5_toll yX5_toll ∈ AL := AL_in (tq3 (List.mem_of_getElem? (i := 6) rfl)) rfl
theorem mw_X5_toll : MW yX5_toll cX5_toll 5 (some .int) 4 := ⟨u56, u57, q13, u55, by decide +kernel⟩
theorem u58 : Cond.codeWith yL_stop cL_stop 4 (some .int) [(0, 9, 12, 13), (0, 9, 15, 21)] ∈ AL := AL_in (tq3 (List.mem_of_getElem? (i := 22) rfl)) rfl
theorem u59 : Cond.static yL_stop ∈ AL := AL_in (tq3 (List.mem_of_getElem? (i := 21) rfl)) rfl
theorem mh_stop : MH yL_stop cL_stop 4 (some .int) [(0, 9, 12, 13), (0, 9, 15, 21)] 3 := ⟨u59, u1, u58, by decide +kernel⟩
theorem u60 : Cond.methodLink RL 46 yX5_stop ∈ AL := AL_in (tq3 (List.mem_of_getElem? (i := 23) rfl)) rfl
theorem u61 : Cond.code yX5_stop cX5_stop 2 (some .int) ∈ AL := AL_in (tq3 (List.mem_of_getElem? (i := 26) rfl)) rfl
theorem u62 : Cond.instanceMethod yX5_stop ∈ AL := AL_in (tq3 (List.mem_of_getElem? (i := 24) rfl)) rfl
theorem u63 : Cond.selects yX5_stop.cls yX5_stop yX5_stop ∈ AL := AL_in (tq3 (List.mem_of_getElem? (i := 25) rfl)) rfl
theorem mw_X5_stop : MW yX5_stop cX5_stop 2 (some .int) 1 := ⟨u62, u63, q13, u61, by decide +kernel⟩
theorem u64 : Cond.codeWith yL_about cL_about 5 (some .int) [(0, 10, 13, 13)] ∈ AL := AL_in (tq3 (List.mem_of_getElem? (i := 43) rfl)) rfl
theorem u65 : Cond.static yL_about ∈ AL := AL_in (tq3 (List.mem_of_getElem? (i := 42) rfl)) rfl
theorem mh_about : MH yL_about cL_about 5 (some .int) [(0, 10, 13, 13)] 4 := ⟨u65, u1, u64, by decide +kernel⟩
theorem u66 : Cond.methodLink RL 49 yX5_about ∈ AL := AL_in (tq3 (List.mem_of_getElem? (i := 44) rfl)) rfl
theorem u67 : Cond.code yX5_about cX5_about 3 (some .int) ∈ AL := AL_in (tq3 (List.mem_of_getElem? (i := 47) rfl)) rfl
theorem u68 : Cond.instanceMethod yX5_about ∈ AL := AL_in (tq3 (List.mem_of_getElem? (i := 45) rfl)) rfl
theorem u69 : Cond.selects yX5_about.cls yX5_about yX5_about ∈ AL := AL_in (tq3 (List.mem_of_getElem? (i := 46) rfl)) rfl
theorem mw_X5_about : MW yX5_about cX5_about 3 (some .int) 2 := ⟨u68, u69, q13, u67, by decide +kernel⟩
theorem u70 : Cond.codeWith yL_heard cL_heard 5 (some .int) [(0, 10, 13, 13), (0, 10, 17, 15)] ∈ AL := AL_in (tq3 (List.mem_of_getElem? (i := 50) rfl)) rfl
theorem u71 : Cond.static yL_heard ∈ AL := AL_in (tq3 (List.mem_of_getElem? (i := 49) rfl)) rfl
theorem mh_heard : MH yL_heard cL_heard 5 (some .int) [(0, 10, 13, 13), (0, 10, 17, 15)] 4 := ⟨u71, u1, u70, by decide +kernel⟩
theorem u72 : Cond.methodLink RL 52 yX5_heard ∈ AL := AL_in (tq3 (List.mem_of_getElem? (i := 51) rfl)) rfl
theorem u73 : Cond.code yX5_heard cX5_heard 3 (some .int) ∈ AL := AL_in (tq3 (List.mem_of_getElem? (i := 54) rfl)) rfl
theorem u74 : Cond.instanceMethod yX5_heard ∈ AL := AL_in (tq3 (List.mem_of_getElem? (i := 52) rfl)) rfl
theorem u75 : Cond.selects yX5_heard.cls yX5_heard yX5_heard ∈ AL := AL_in (tq3 (List.mem_of_getElem? (i := 53) rfl)) rfl
theorem mw_X5_heard : MW yX5_heard cX5_heard 3 (some .int) 2 := ⟨u74, u75, q13, u73, by decide +kernel⟩
theorem u76 : Cond.codeWith yL_count cL_count 4 (some .int) [(0, 9, 12, 13)] ∈ AL := AL_in (tq3 (List.mem_of_getElem? (i := 57) rfl)) rfl
theorem u77 : Cond.static yL_count ∈ AL := AL_in (tq3 (List.mem_of_getElem? (i := 56) rfl)) rfl
theorem mh_count : MH yL_count cL_count 4 (some .int) [(0, 9, 12, 13)] 3 := ⟨u77, u1, u76, by decide +kernel⟩
theorem u78 : Cond.methodLink RL 55 yX5_count ∈ AL := AL_in (tq3 (List.mem_of_getElem? (i := 58) rfl)) rfl
theorem u79 : Cond.code yX5_count cX5_count 2 (some .int) ∈ AL := AL_in (tq3 (List.mem_of_getElem? (i := 61) rfl)) rfl
theorem u80 : Cond.instanceMethod yX5_count ∈ AL := AL_in (tq3 (List.mem_of_getElem? (i := 59) rfl)) rfl
theorem u81 : Cond.selects yX5_count.cls yX5_count yX5_count ∈ AL := AL_in (tq3 (List.mem_of_getElem? (i := 60) rfl)) rfl
theorem mw_X5_count : MW yX5_count cX5_count 2 (some .int) 1 := ⟨u80, u81, q13, u79, by decide +kernel⟩
theorem u82 : Cond.codeWith yL_pass cL_pass 4 (some .int) [(0, 9, 12, 15)] ∈ AL := AL_in (tq3 (List.mem_of_getElem? (i := 64) rfl)) rfl
theorem u83 : Cond.static yL_pass ∈ AL := AL_in (tq3 (List.mem_of_getElem? (i := 63) rfl)) rfl
theorem mh_pass : MH yL_pass cL_pass 4 (some .int) [(0, 9, 12, 15)] 3 := ⟨u83, u1, u82, by decide +kernel⟩
theorem u84 : Cond.methodLink RL 58 yX5_pass ∈ AL := AL_in (tq3 (List.mem_of_getElem? (i := 65) rfl)) rfl
theorem u85 : Cond.code yX5_pass cX5_pass 2 (some .int) ∈ AL := AL_in (tq3 (List.mem_of_getElem? (i := 68) rfl)) rfl
theorem u86 : Cond.instanceMethod yX5_pass ∈ AL := AL_in (tq3 (List.mem_of_getElem? (i := 66) rfl)) rfl
theorem u87 : Cond.selects yX5_pass.cls yX5_pass yX5_pass ∈ AL := AL_in (tq3 (List.mem_of_getElem? (i := 67) rfl)) rfl
theorem mw_X5_pass : MW yX5_pass cX5_pass 2 (some .int) 1 := ⟨u86, u87, q13, u85, by decide +kernel⟩
theorem u88 : Cond.codeWith yL_ends cL_ends 4 (some .int) [(0, 9, 12, 13)] ∈ AL := AL_in (tq3 (List.mem_of_getElem? (i := 141) rfl)) rfl
theorem u89 : Cond.static yL_ends ∈ AL := AL_in (tq3 (List.mem_of_getElem? (i := 140) rfl)) rfl
theorem mh_ends : MH yL_ends cL_ends 4 (some .int) [(0, 9, 12, 13)] 3 := ⟨u89, u1, u88, by decide +kernel⟩
theorem u90 : Cond.methodLink RL 61 yX5_ends ∈ AL := AL_in (tq3 (List.mem_of_getElem? (i := 142) rfl)) rfl
theorem u91 : Cond.code yX5_ends cX5_ends 2 (some .int) ∈ AL := AL_in (tq3 (List.mem_of_getElem? (i := 145) rfl)) rfl
theorem u92 : Cond.instanceMethod yX5_ends ∈ AL := AL_in (tq3 (List.mem_of_getElem? (i := 143) rfl)) rfl
theorem u93 : Cond.selects yX5_ends.cls yX5_ends yX5_ends ∈ AL := AL_in (tq3 (List.mem_of_getElem? (i := 144) rfl)) rfl
theorem mw_X5_ends : MW yX5_ends cX5_ends 2 (some .int) 1 := ⟨u92, u93, q13, u91, by decide +kernel⟩
theorem u94 : Cond.codeWith yL_foresee cL_foresee 5 (some .int) [(0, 10, 13, 15), (0, 10, 17, 13)] ∈ AL := AL_in (tq3 (List.mem_of_getElem? (i := 172) rfl)) rfl
theorem u95 : Cond.static yL_foresee ∈ AL := AL_in (tq3 (List.mem_of_getElem? (i := 171) rfl)) rfl
theorem mh_foresee : MH yL_foresee cL_foresee 5 (some .int) [(0, 10, 13, 15), (0, 10, 17, 13)] 4 := ⟨u95, u1, u94, by decide +kernel⟩
theorem u96 : Cond.methodLink RL 64 yX5_foresee ∈ AL := AL_in (tq3 (List.mem_of_getElem? (i := 173) rfl)) rfl
theorem u97 : Cond.code yX5_foresee cX5_foresee 3 (some .int) ∈ AL := AL_in (tq3 (List.mem_of_getElem? (i := 176) rfl)) rfl
theorem u98 : Cond.instanceMethod yX5_foresee ∈ AL := AL_in (tq3 (List.mem_of_getElem? (i := 174) rfl)) rfl
theorem u99 : Cond.selects yX5_foresee.cls yX5_foresee yX5_foresee ∈ AL := AL_in (tq3 (List.mem_of_getElem? (i := 175) rfl)) rfl
theorem mw_X5_foresee : MW yX5_foresee cX5_foresee 3 (some .int) 2 := ⟨u98, u99, q13, u97, by decide +kernel⟩
theorem u100 : Cond.codeWith yL_choose cL_choose 6 (some .int) [(0, 12, 15, 15)] ∈ AL := AL_in (tq3 (List.mem_of_getElem? (i := 180) rfl)) rfl
theorem u101 : Cond.static yL_choose ∈ AL := AL_in (tq3 (List.mem_of_getElem? (i := 179) rfl)) rfl
theorem mh_choose : MH yL_choose cL_choose 6 (some .int) [(0, 12, 15, 15)] 5 := ⟨u101, u1, u100, by decide +kernel⟩
theorem u102 : Cond.methodLink RL 67 yX5_choose ∈ AL := AL_in (tq3 (List.mem_of_getElem? (i := 181) rfl)) rfl
theorem u103 : Cond.code yX5_choose cX5_choose 9 (some .int) ∈ AL := AL_in (tq3 (List.mem_of_getElem? (i := 184) rfl)) rfl
theorem u104 : Cond.instanceMethod yX5_choose ∈ AL := AL_in (tq3 (List.mem_of_getElem? (i := 182) rfl)) rfl
theorem u105 : Cond.selects yX5_choose.cls yX5_choose yX5_choose ∈ AL := AL_in (tq3 (List.mem_of_getElem? (i := 183) rfl)) rfl
theorem mw_X5_choose : MW yX5_choose cX5_choose 9 (some .int) 3 := ⟨u104, u105, q13, u103, by decide +kernel⟩
theorem u106 : Cond.code yX7_weigh cX7_weigh 4 (some .int) ∈ AL := AL_in (tq4 (List.mem_of_getElem? (i := 70) rfl)) rfl
theorem u107 : Cond.instanceMethod yX7_weigh ∈ AL := AL_in (tq4 (List.mem_of_getElem? (i := 68) rfl)) rfl
theorem u108 : Cond.selects yX7_weigh.cls yX7_weigh yX7_weigh ∈ AL := AL_in (tq4 (List.mem_of_getElem? (i := 69) rfl)) rfl
theorem mw_X7_weigh : MW yX7_weigh cX7_weigh 4 (some .int) 2 := ⟨u107, u108, q323, u106, by decide +kernel⟩
theorem u109 : Cond.code yX7_fit cX7_fit 5 (some .int) ∈ AL := AL_in (tq4 (List.mem_of_getElem? (i := 84) rfl)) rfl
theorem u110 : Cond.instanceMethod yX7_fit ∈ AL := AL_in (tq4 (List.mem_of_getElem? (i := 82) rfl)) rfl
theorem u111 : Cond.selects yX7_fit.cls yX7_fit yX7_fit ∈ AL := AL_in (tq4 (List.mem_of_getElem? (i := 83) rfl)) rfl
theorem mw_X7_fit : MW yX7_fit cX7_fit 5 (some .int) 3 := ⟨u110, u111, q323, u109, by decide +kernel⟩
theorem u112 : Cond.code yX7_store cX7_store 2 (some .int) ∈ AL := AL_in (tq4 (List.mem_of_getElem? (i := 95) rfl)) rfl
theorem u113 : Cond.instanceMethod yX7_store ∈ AL := AL_in (tq4 (List.mem_of_getElem? (i := 93) rfl)) rfl
theorem u114 : Cond.selects yX7_store.cls yX7_store yX7_store ∈ AL := AL_in (tq4 (List.mem_of_getElem? (i := 94) rfl)) rfl
theorem mw_X7_store : MW yX7_store cX7_store 2 (some .int) 1 := ⟨u113, u114, q323, u112, by decide +kernel⟩
theorem u115 : Cond.code yX7_lasts cX7_lasts 3 (some .int) ∈ AL := AL_in (tq4 (List.mem_of_getElem? (i := 100) rfl)) rfl
theorem u116 : Cond.instanceMethod yX7_lasts ∈ AL := AL_in (tq4 (List.mem_of_getElem? (i := 98) rfl)) rfl
theorem u117 : Cond.selects yX7_lasts.cls yX7_lasts yX7_lasts ∈ AL := AL_in (tq4 (List.mem_of_getElem? (i := 99) rfl)) rfl
theorem mw_X7_lasts : MW yX7_lasts cX7_lasts 3 (some .int) 2 := ⟨u116, u117, q323, u115, by decide +kernel⟩
theorem u118 : Cond.code yX7_bell cX7_bell 3 (some .int) ∈ AL := AL_in (tq4 (List.mem_of_getElem? (i := 108) rfl)) rfl
theorem u119 : Cond.instanceMethod yX7_bell ∈ AL := AL_in (tq4 (List.mem_of_getElem? (i := 106) rfl)) rfl
theorem u120 : Cond.selects yX7_bell.cls yX7_bell yX7_bell ∈ AL := AL_in (tq4 (List.mem_of_getElem? (i := 107) rfl)) rfl
theorem mw_X7_bell : MW yX7_bell cX7_bell 3 (some .int) 2 := ⟨u119, u120, q323, u118, by decide +kernel⟩
theorem u121 : Cond.code yX7_ringer cX7_ringer 2 (some .int) ∈ AL := AL_in (tq4 (List.mem_of_getElem? (i := 120) rfl)) rfl
theorem u122 : Cond.instanceMethod yX7_ringer ∈ AL := AL_in (tq4 (List.mem_of_getElem? (i := 118) rfl)) rfl
theorem u123 : Cond.selects yX7_ringer.cls yX7_ringer yX7_ringer ∈ AL := AL_in (tq4 (List.mem_of_getElem? (i := 119) rfl)) rfl
theorem mw_X7_ringer : MW yX7_ringer cX7_ringer 2 (some .int) 1 := ⟨u122, u123, q323, u121, by decide +kernel⟩
theorem u124 : Cond.code yX7_send cX7_send 4 (some .int) ∈ AL := AL_in (tq4 (List.mem_of_getElem? (i := 124) rfl)) rfl
theorem u125 : Cond.instanceMethod yX7_send ∈ AL := AL_in (tq4 (List.mem_of_getElem? (i := 122) rfl)) rfl
theorem u126 : Cond.selects yX7_send.cls yX7_send yX7_send ∈ AL := AL_in (tq4 (List.mem_of_getElem? (i := 123) rfl)) rfl
theorem mw_X7_send : MW yX7_send cX7_send 4 (some .int) 2 := ⟨u125, u126, q323, u124, by decide +kernel⟩
theorem u127 : Cond.code yX7_told cX7_told 3 (some .int) ∈ AL := AL_in (tq4 (List.mem_of_getElem? (i := 136) rfl)) rfl
theorem u128 : Cond.instanceMethod yX7_told ∈ AL := AL_in (tq4 (List.mem_of_getElem? (i := 134) rfl)) rfl
theorem u129 : Cond.selects yX7_told.cls yX7_told yX7_told ∈ AL := AL_in (tq4 (List.mem_of_getElem? (i := 135) rfl)) rfl
theorem mw_X7_told : MW yX7_told cX7_told 3 (some .int) 2 := ⟨u128, u129, q323, u127, by decide +kernel⟩
theorem u130 : Cond.code yX7_toll cX7_toll 5 (some .int) ∈ AL := AL_in (tq4 (List.mem_of_getElem? (i := 144) rfl)) rfl
theorem u131 : Cond.instanceMethod yX7_toll ∈ AL := AL_in (tq4 (List.mem_of_getElem? (i := 142) rfl)) rfl
theorem u132 : Cond.selects yX7_toll.cls yX7_toll yX7_toll ∈ AL := AL_in (tq4 (List.mem_of_getElem? (i := 143) rfl)) rfl
theorem mw_X7_toll : MW yX7_toll cX7_toll 5 (some .int) 4 := ⟨u131, u132, q323, u130, by decide +kernel⟩
theorem u133 : Cond.code yX7_stop cX7_stop 2 (some .int) ∈ AL := AL_in (tq4 (List.mem_of_getElem? (i := 159) rfl)) rfl
theorem u134 : Cond.instanceMethod yX7_stop ∈ AL := AL_in (tq4 (List.mem_of_getElem? (i := 157) rfl)) rfl
theorem u135 : Cond.selects yX7_stop.cls yX7_stop yX7_stop ∈ AL := AL_in (tq4 (List.mem_of_getElem? (i := 158) rfl)) rfl
theorem mw_X7_stop : MW yX7_stop cX7_stop 2 (some .int) 1 := ⟨u134, u135, q323, u133, by decide +kernel⟩
theorem u136 : Cond.code yX7_about cX7_about 3 (some .int) ∈ AL := AL_in (tq4 (List.mem_of_getElem? (i := 180) rfl)) rfl
theorem u137 : Cond.instanceMethod yX7_about ∈ AL := AL_in (tq4 (List.mem_of_getElem? (i := 178) rfl)) rfl
theorem u138 : Cond.selects yX7_about.cls yX7_about yX7_about ∈ AL := AL_in (tq4 (List.mem_of_getElem? (i := 179) rfl)) rfl
theorem mw_X7_about : MW yX7_about cX7_about 3 (some .int) 2 := ⟨u137, u138, q323, u136, by decide +kernel⟩
theorem u139 : Cond.code yX7_heard cX7_heard 3 (some .int) ∈ AL := AL_in (tq4 (List.mem_of_getElem? (i := 189) rfl)) rfl
theorem u140 : Cond.instanceMethod yX7_heard ∈ AL := AL_in (tq4 (List.mem_of_getElem? (i := 187) rfl)) rfl
theorem u141 : Cond.selects yX7_heard.cls yX7_heard yX7_heard ∈ AL := AL_in (tq4 (List.mem_of_getElem? (i := 188) rfl)) rfl
theorem mw_X7_heard : MW yX7_heard cX7_heard 3 (some .int) 2 := ⟨u140, u141, q323, u139, by decide +kernel⟩
theorem u142 : Cond.code yX7_count cX7_count 2 (some .int) ∈ AL := AL_in (tq4 (List.mem_of_getElem? (i := 197) rfl)) rfl
theorem u143 : Cond.instanceMethod yX7_count ∈ AL := AL_in (tq4 (List.mem_of_getElem? (i := 195) rfl)) rfl
theorem u144 : Cond.selects yX7_count.cls yX7_count yX7_count ∈ AL := AL_in (tq4 (List.mem_of_getElem? (i := 196) rfl)) rfl
theorem mw_X7_count : MW yX7_count cX7_count 2 (some .int) 1 := ⟨u143, u144, q323, u142, by decide +kernel⟩
theorem u145 : Cond.code yX7_pass cX7_pass 4 (some .int) ∈ AL := AL_in (tq4 (List.mem_of_getElem? (i := 205) rfl)) rfl
theorem u146 : Cond.instanceMethod yX7_pass ∈ AL := AL_in (tq4 (List.mem_of_getElem? (i := 203) rfl)) rfl
theorem u147 : Cond.selects yX7_pass.cls yX7_pass yX7_pass ∈ AL := AL_in (tq4 (List.mem_of_getElem? (i := 204) rfl)) rfl
theorem mw_X7_pass : MW yX7_pass cX7_pass 4 (some .int) 1 := ⟨u146, u147, q323, u145, by decide +kernel⟩
theorem u148 : Cond.code yX7_ends cX7_ends 2 (some .int) ∈ AL := AL_in (tq4 (List.mem_of_getElem? (i := 231) rfl)) rfl
theorem u149 : Cond.instanceMethod yX7_ends ∈ AL := AL_in (tq4 (List.mem_of_getElem? (i := 229) rfl)) rfl
theorem u150 : Cond.selects yX7_ends.cls yX7_ends yX7_ends ∈ AL := AL_in (tq4 (List.mem_of_getElem? (i := 230) rfl)) rfl
theorem mw_X7_ends : MW yX7_ends cX7_ends 2 (some .int) 1 := ⟨u149, u150, q323, u148, by decide +kernel⟩
theorem u151 : Cond.code yX7_foresee cX7_foresee 4 (some .int) ∈ AL := AL_in (tq5 (List.mem_of_getElem? (i := 10) rfl)) rfl
theorem u152 : Cond.instanceMethod yX7_foresee ∈ AL := AL_in (tq5 (List.mem_of_getElem? (i := 8) rfl)) rfl
theorem u153 : Cond.selects yX7_foresee.cls yX7_foresee yX7_foresee ∈ AL := AL_in (tq5 (List.mem_of_getElem? (i := 9) rfl)) rfl
theorem mw_X7_foresee : MW yX7_foresee cX7_foresee 4 (some .int) 2 := ⟨u152, u153, q323, u151, by decide +kernel⟩
theorem u154 : Cond.code yX7_choose cX7_choose 8 (some .int) ∈ AL := AL_in (tq5 (List.mem_of_getElem? (i := 14) rfl)) rfl
theorem u155 : Cond.instanceMethod yX7_choose ∈ AL := AL_in (tq5 (List.mem_of_getElem? (i := 12) rfl)) rfl
theorem u156 : Cond.selects yX7_choose.cls yX7_choose yX7_choose ∈ AL := AL_in (tq5 (List.mem_of_getElem? (i := 13) rfl)) rfl
theorem mw_X7_choose : MW yX7_choose cX7_choose 8 (some .int) 3 := ⟨u155, u156, q323, u154, by decide +kernel⟩
theorem u157 : Cond.code yX7_thrown cX7_thrown 1 (some .int) ∈ AL := AL_in (tq4 (List.mem_of_getElem? (i := 66) rfl)) rfl
theorem u158 : Cond.instanceMethod yX7_thrown ∈ AL := AL_in (tq4 (List.mem_of_getElem? (i := 64) rfl)) rfl
theorem u159 : Cond.selects yX7_thrown.cls yX7_thrown yX7_thrown ∈ AL := AL_in (tq4 (List.mem_of_getElem? (i := 65) rfl)) rfl
theorem mw_X7_thrown : MW yX7_thrown cX7_thrown 1 (some .int) 0 := ⟨u158, u159, q323, u157, by decide +kernel⟩
theorem u160 : Cond.code yX7_mean cX7_mean 3 (some .double) ∈ AL := AL_in (tq5 (List.mem_of_getElem? (i := 18) rfl)) rfl
theorem u161 : Cond.instanceMethod yX7_mean ∈ AL := AL_in (tq5 (List.mem_of_getElem? (i := 16) rfl)) rfl
theorem u162 : Cond.selects yX7_mean.cls yX7_mean yX7_mean ∈ AL := AL_in (tq5 (List.mem_of_getElem? (i := 17) rfl)) rfl
theorem mw_X7_mean : MW yX7_mean cX7_mean 3 (some .double) 0 := ⟨u161, u162, q323, u160, by decide +kernel⟩
theorem u163 : Cond.code yX7_digest cX7_digest 5 (some .long) ∈ AL := AL_in (tq5 (List.mem_of_getElem? (i := 22) rfl)) rfl
theorem u164 : Cond.instanceMethod yX7_digest ∈ AL := AL_in (tq5 (List.mem_of_getElem? (i := 20) rfl)) rfl
theorem u165 : Cond.selects yX7_digest.cls yX7_digest yX7_digest ∈ AL := AL_in (tq5 (List.mem_of_getElem? (i := 21) rfl)) rfl
theorem mw_X7_digest : MW yX7_digest cX7_digest 5 (some .long) 0 := ⟨u164, u165, q323, u163, by decide +kernel⟩
theorem u166 : Cond.code yX5_mean cX5_mean 3 (some .double) ∈ AL := AL_in (tq1 (List.mem_of_getElem? (i := 192) rfl)) rfl
theorem u167 : Cond.instanceMethod yX5_mean ∈ AL := AL_in (tq1 (List.mem_of_getElem? (i := 190) rfl)) rfl
theorem u168 : Cond.selects yX5_mean.cls yX5_mean yX5_mean ∈ AL := AL_in (tq1 (List.mem_of_getElem? (i := 191) rfl)) rfl
theorem mw_X5_mean : MW yX5_mean cX5_mean 3 (some .double) 0 := ⟨u167, u168, q13, u166, by decide +kernel⟩
theorem u169 : Cond.code yX5_digest cX5_digest 4 (some .long) ∈ AL := AL_in (tq1 (List.mem_of_getElem? (i := 196) rfl)) rfl
theorem u170 : Cond.instanceMethod yX5_digest ∈ AL := AL_in (tq1 (List.mem_of_getElem? (i := 194) rfl)) rfl
theorem u171 : Cond.selects yX5_digest.cls yX5_digest yX5_digest ∈ AL := AL_in (tq1 (List.mem_of_getElem? (i := 195) rfl)) rfl
theorem mw_X5_digest : MW yX5_digest cX5_digest 4 (some .long) 0 := ⟨u170, u171, q13, u169, by decide +kernel⟩
theorem u172 : Cond.methodLink RL 74 yL_weigh ∈ AL := AL_in (tq2 (List.mem_of_getElem? (i := 50) rfl)) rfl
theorem u173 : Cond.methodLink RL 79 yX7_weigh ∈ AL := AL_in (tq4 (List.mem_of_getElem? (i := 67) rfl)) rfl
theorem u174 : Cond.methodLink RL 80 yX7_thrown ∈ AL := AL_in (tq4 (List.mem_of_getElem? (i := 63) rfl)) rfl
theorem u175 : Cond.methodLink RL 84 yL_fit ∈ AL := AL_in (tq2 (List.mem_of_getElem? (i := 152) rfl)) rfl
theorem u176 : Cond.methodLink RL 87 yX7_fit ∈ AL := AL_in (tq4 (List.mem_of_getElem? (i := 81) rfl)) rfl
theorem u177 : Cond.methodLink RL 88 yL_store ∈ AL := AL_in (tq2 (List.mem_of_getElem? (i := 181) rfl)) rfl
theorem u178 : Cond.methodLink RL 91 yX7_store ∈ AL := AL_in (tq4 (List.mem_of_getElem? (i := 92) rfl)) rfl
theorem u179 : Cond.methodLink RL 92 yL_lasts ∈ AL := AL_in (tq2 (List.mem_of_getElem? (i := 191) rfl)) rfl
theorem u180 : Cond.methodLink RL 94 yX7_lasts ∈ AL := AL_in (tq4 (List.mem_of_getElem? (i := 97) rfl)) rfl
theorem u181 : Cond.methodLink RL 95 yL_bell ∈ AL := AL_in (tq2 (List.mem_of_getElem? (i := 198) rfl)) rfl
theorem u182 : Cond.methodLink RL 97 yX7_bell ∈ AL := AL_in (tq4 (List.mem_of_getElem? (i := 105) rfl)) rfl
theorem u183 : Cond.methodLink RL 98 yL_ringer ∈ AL := AL_in (tq2 (List.mem_of_getElem? (i := 205) rfl)) rfl
theorem u184 : Cond.methodLink RL 100 yX7_ringer ∈ AL := AL_in (tq4 (List.mem_of_getElem? (i := 117) rfl)) rfl
theorem u185 : Cond.methodLink RL 101 yL_send ∈ AL := AL_in (tq2 (List.mem_of_getElem? (i := 217) rfl)) rfl
theorem u186 : Cond.methodLink RL 103 yX7_send ∈ AL := AL_in (tq4 (List.mem_of_getElem? (i := 121) rfl)) rfl
theorem u187 : Cond.methodLink RL 104 yL_told ∈ AL := AL_in (tq2 (List.mem_of_getElem? (i := 234) rfl)) rfl
theorem u188 : Cond.methodLink RL 106 yX7_told ∈ AL := AL_in (tq4 (List.mem_of_getElem? (i := 133) rfl)) rfl
theorem u189 : Cond.methodLink RL 107 yL_toll ∈ AL := AL_in (tq3 (List.mem_of_getElem? (i := 1) rfl)) rfl
theorem u190 : Cond.methodLink RL 110 yX7_toll ∈ AL := AL_in (tq4 (List.mem_of_getElem? (i := 141) rfl)) rfl
theorem u191 : Cond.methodLink RL 111 yL_stop ∈ AL := AL_in (tq3 (List.mem_of_getElem? (i := 20) rfl)) rfl
theorem u192 : Cond.methodLink RL 113 yX7_stop ∈ AL := AL_in (tq4 (List.mem_of_getElem? (i := 156) rfl)) rfl
theorem u193 : Cond.methodLink RL 114 yL_about ∈ AL := AL_in (tq3 (List.mem_of_getElem? (i := 41) rfl)) rfl
theorem u194 : Cond.methodLink RL 116 yX7_about ∈ AL := AL_in (tq4 (List.mem_of_getElem? (i := 177) rfl)) rfl
theorem u195 : Cond.methodLink RL 117 yL_heard ∈ AL := AL_in (tq3 (List.mem_of_getElem? (i := 48) rfl)) rfl
theorem u196 : Cond.methodLink RL 119 yX7_heard ∈ AL := AL_in (tq4 (List.mem_of_getElem? (i := 186) rfl)) rfl
theorem u197 : Cond.methodLink RL 120 yL_count ∈ AL := AL_in (tq3 (List.mem_of_getElem? (i := 55) rfl)) rfl
theorem u198 : Cond.methodLink RL 122 yX7_count ∈ AL := AL_in (tq4 (List.mem_of_getElem? (i := 194) rfl)) rfl
theorem u199 : Cond.methodLink RL 123 yL_pass ∈ AL := AL_in (tq3 (List.mem_of_getElem? (i := 62) rfl)) rfl
theorem u200 : Cond.methodLink RL 125 yX7_pass ∈ AL := AL_in (tq4 (List.mem_of_getElem? (i := 202) rfl)) rfl
theorem u201 : Cond.methodLink RL 126 yL_ends ∈ AL := AL_in (tq3 (List.mem_of_getElem? (i := 139) rfl)) rfl
theorem u202 : Cond.methodLink RL 128 yX7_ends ∈ AL := AL_in (tq4 (List.mem_of_getElem? (i := 228) rfl)) rfl
theorem u203 : Cond.methodLink RL 129 yL_foresee ∈ AL := AL_in (tq3 (List.mem_of_getElem? (i := 170) rfl)) rfl
theorem u204 : Cond.methodLink RL 131 yX7_foresee ∈ AL := AL_in (tq5 (List.mem_of_getElem? (i := 7) rfl)) rfl
theorem u205 : Cond.methodLink RL 132 yL_choose ∈ AL := AL_in (tq3 (List.mem_of_getElem? (i := 178) rfl)) rfl
theorem u206 : Cond.methodLink RL 134 yX7_choose ∈ AL := AL_in (tq5 (List.mem_of_getElem? (i := 11) rfl)) rfl
theorem u207 : Cond.methodLink RL 135 yX5_mean ∈ AL := AL_in (tq1 (List.mem_of_getElem? (i := 189) rfl)) rfl
theorem u208 : Cond.methodLink RL 139 yX7_mean ∈ AL := AL_in (tq5 (List.mem_of_getElem? (i := 15) rfl)) rfl
theorem u209 : Cond.methodLink RL 140 yX5_digest ∈ AL := AL_in (tq1 (List.mem_of_getElem? (i := 193) rfl)) rfl
theorem u210 : Cond.methodLink RL 144 yX7_digest ∈ AL := AL_in (tq5 (List.mem_of_getElem? (i := 19) rfl)) rfl
set_option maxHeartbeats 4000000 in
set_option maxRecDepth 100000 in
theorem met_L_weigh (l : Launch) (hst : l.stackTraces = false) (g : GT) (ad : Nat → Nat) (σ : Mem) (o : Nat) (f : Nat → Int64) (p0 : Int32) (p1 : Int32) (rr : ((Nat ⊕ Int32) × Mem)) (h : fn_X5_weigh σ 0 p0 p1 = some rr) (hk : ∀ k σ1, rr = ((.inl k, σ1) : (Nat ⊕ Int32) × Mem) → ∃ c, (k, c) ∈ [(1, 1), (2, 2)]) : vx_Met l yL_weigh (wsH yL_weigh cL_weigh 5 (some .int) [(0, 10, 13, 13), (0, 10, 17, 15)]) ({ frames := 9, cells := 2, slots := 12, locals := 184 } : Room) (va_Pc [.ref (ad 0), .int p0, .int p1, .ref o] (PO g ad σ o f)) (va_Qi (fun (r : Int32) (u : Mem × (Nat → Int64)) => okQ [(1, 1), (2, 2)] rr r u) (GO g ad o) (AA g ad true o)) XCF 2 12 (AA g ad true o) := by
  refine vx_ofWH (cc := cL_weigh) (maxL := 5) (ret := (some .int)) (by decide) rfl ?_
  intro p e s m args below meth c s₁ B hml hv
  obtain ⟨rfl, hv⟩ := hv
  have S : CallFix p m c cL_weigh 5 s _ AL RL := ⟨B.exec, B.bytes, hml, findClass_of_methodNamed B.named, fun w h => atoms_spec (ws := wsH yL_weigh cL_weigh 5 (some .int) [(0, 10, 13, 13), (0, 10, 17, 15)]) B.pre w (List.mem_cons_of_mem _ h)⟩
  have htab := vx_table (x := yL_weigh) B (atoms_spec (ws := wsH yL_weigh cL_weigh 5 (some .int) [(0, 10, 13, 13), (0, 10, 17, 15)]) B.pre _ List.mem_cons_self)
  have hr := B.returns
  have hlk := B.notSynchronized
  have hL : LA g ad σ o f s s.heap [] := LA_start hv
  have hl := lv_entry ([.ref (ad 0), .int p0, .int p1, .ref o]) (n := 5) (Nat.le_of_ble_eq_true rfl)
  rw [lg_entry_eq]
  generalize (lg_sl ([.ref (ad 0), .int p0, .int p1, .ref o]) ++ List.replicate (5 - (lg_sl ([.ref (ad 0), .int p0, .int p1, .ref o])).length) Slot.unset).toArray = ls at hl ⊢
  have hl : lv_has ls 5 [(0, .ref (ad 0)), (1, .int p0), (2, .int p1), (3, .ref o)] := hl
  refine v_aload_n (P := True) S hl 3 rfl rfl dL_weigh_0 (fun _ => ?_) trivial
  refine v_iconst (P := True) S 0 dL_weigh_1 rfl (fun _ => ?_) trivial
  refine v_aload_n (P := True) S hl 0 rfl rfl dL_weigh_2 (fun _ => ?_) trivial
  refine v_iload_n (P := True) S hl 1 rfl rfl dL_weigh_3 (fun _ => ?_) trivial
  refine v_iload_n (P := True) S hl 2 rfl rfl dL_weigh_4 (fun _ => ?_) trivial
  refine w_cls (rr := rr) S hL [.int p0, .int p1] (met_X5_weigh l hst g ad true (o + 1) σ 0 p0 p1 rr h) mw_X5_weigh rfl u3 dL_weigh_5 rfl rfl hl.1 (Nat.le_of_ble_eq_true rfl) ⟨(Nat.le_of_ble_eq_true rfl), (Nat.le_of_ble_eq_true rfl)⟩ rfl rfl ⟨(Nat.le_of_ble_eq_true rfl), (Nat.le_of_ble_eq_true rfl)⟩ (fun k σ1 ce q9 H locs hrr hL hce hcv hcl => ?_) (fun r σ1 H locs hrr hL => ?_)
  · obtain ⟨c9, hc9⟩ := hk k σ1 hrr
    simp only [List.mem_cons, List.not_mem_nil, or_false, Prod.mk.injEq] at hc9
    rcases hc9 with ⟨rfl, rfl⟩ | ⟨rfl, rfl⟩
    · refine w_catch S hL htab (k := 1) (by decide) hce hcv hcl [] (0, 10, 13, 13) [(0, 10, 17, 15)] rfl (fun _ h => absurd h List.not_mem_nil) (by decide) (by decide) u7 ?_
      refine v_astore (P := True) S hl [(4, .ref q9), (0, .ref (ad 0)), (1, .int p0), (2, .int p1), (3, .ref o)] dL_weigh_13 (by decide) rfl (fun ls hl _ => ?_) trivial
      refine v_iconst (P := True) S 1 dL_weigh_15 rfl (fun _ => ?_) trivial
      exact w_ret S hL hr hlk (Nat.le_of_ble_eq_true rfl) (Nat.le_of_ble_eq_true rfl) dL_weigh_16 (by rw [hrr]; exact ⟨rfl, 1, by decide, rfl⟩)
    · refine w_catch S hL htab (k := 2) (by decide) hce hcv hcl [(0, 10, 13, 13)] (0, 10, 17, 15) [] rfl (List.forall_mem_cons.mpr ⟨⟨1, by decide, by decide, by decide, u7⟩, fun _ h => absurd h List.not_mem_nil⟩) (by decide) (by decide) u8 ?_
      refine v_astore (P := True) S hl [(4, .ref q9), (0, .ref (ad 0)), (1, .int p0), (2, .int p1), (3, .ref o)] dL_weigh_17 (by decide) rfl (fun ls hl _ => ?_) trivial
      refine v_iconst (P := True) S 2 dL_weigh_19 rfl (fun _ => ?_) trivial
      exact w_ret S hL hr hlk (Nat.le_of_ble_eq_true rfl) (Nat.le_of_ble_eq_true rfl) dL_weigh_20 (by rw [hrr]; exact ⟨rfl, 2, by decide, rfl⟩)
  · refine v_i2l (P := True) S dL_weigh_8 (fun _ => ?_) trivial
    refine w_last S hL dL_weigh_9 (fun f1 H locs hf1 hL => ?_)
    refine v_goto (P := True) S 21 dL_weigh_10 (by decide) (fun _ => ?_) trivial
    refine v_iconst (P := True) S 0 dL_weigh_21 rfl (fun _ => ?_) trivial
    exact w_ret S hL hr hlk (Nat.le_of_ble_eq_true rfl) (Nat.le_of_ble_eq_true rfl) dL_weigh_22 (by rw [hrr]; exact ⟨rfl, rfl, hf1⟩)
set_option maxHeartbeats 4000000 in
set_option maxRecDepth 100000 in
theorem met_L_fit (l : Launch) (hst : l.stackTraces = false) (g : GT) (ad : Nat → Nat) (σ : Mem) (o : Nat) (f : Nat → Int64) (p0 : Int32) (p1 : Int32) (p2 : Int32) (rr : ((Nat ⊕ Int32) × Mem)) (h : fn_X5_fit σ 0 p0 p1 p2 = some rr) (hk : ∀ k σ1, rr = ((.inl k, σ1) : (Nat ⊕ Int32) × Mem) → ∃ c, (k, c) ∈ [(1, 1), (2, 2), (3, 3)]) : vx_Met l yL_fit (wsH yL_fit cL_fit 6 (some .int) [(0, 12, 15, 13), (0, 12, 19, 15), (0, 12, 23, 21)]) ({ frames := 9, cells := 4, slots := 24, locals := 186 } : Room) (va_Pc [.ref (ad 0), .int p0, .int p1, .int p2, .ref o] (PO g ad σ o f)) (va_Qi (fun (r : Int32) (u : Mem × (Nat → Int64)) => okQ [(1, 1), (2, 2), (3, 3)] rr r u) (GO g ad o) (AA g ad true o)) XCF 4 24 (AA g ad true o) := by
  refine vx_ofWH (cc := cL_fit) (maxL := 6) (ret := (some .int)) (by decide) rfl ?_
  intro p e s m args below meth c s₁ B hml hv
  obtain ⟨rfl, hv⟩ := hv
  have S : CallFix p m c cL_fit 6 s _ AL RL := ⟨B.exec, B.bytes, hml, findClass_of_methodNamed B.named, fun w h => atoms_spec (ws := wsH yL_fit cL_fit 6 (some .int) [(0, 12, 15, 13), (0, 12, 19, 15), (0, 12, 23, 21)]) B.pre w (List.mem_cons_of_mem _ h)⟩
  have htab := vx_table (x := yL_fit) B (atoms_spec (ws := wsH yL_fit cL_fit 6 (some .int) [(0, 12, 15, 13), (0, 12, 19, 15), (0, 12, 23, 21)]) B.pre _ List.mem_cons_self)
  have hr := B.returns
  have hlk := B.notSynchronized
  have hL : LA g ad σ o f s s.heap [] := LA_start hv
  have hl := lv_entry ([.ref (ad 0), .int p0, .int p1, .int p2, .ref o]) (n := 6) (Nat.le_of_ble_eq_true rfl)
  rw [lg_entry_eq]
  generalize (lg_sl ([.ref (ad 0), .int p0, .int p1, .int p2, .ref o]) ++ List.replicate (6 - (lg_sl ([.ref (ad 0), .int p0, .int p1, .int p2, .ref o])).length) Slot.unset).toArray = ls at hl ⊢
  have hl : lv_has ls 6 [(0, .ref (ad 0)), (1, .int p0), (2, .int p1), (3, .int p2), (4, .ref o)] := hl
  refine v_aload (P := True) S hl 4 rfl dL_fit_0 (fun _ => ?_) trivial
  refine v_iconst (P := True) S 0 dL_fit_2 rfl (fun _ => ?_) trivial
  refine v_aload_n (P := True) S hl 0 rfl rfl dL_fit_3 (fun _ => ?_) trivial
  refine v_iload_n (P := True) S hl 1 rfl rfl dL_fit_4 (fun _ => ?_) trivial
  refine v_iload_n (P := True) S hl 2 rfl rfl dL_fit_5 (fun _ => ?_) trivial
  refine v_iload_n (P := True) S hl 3 rfl rfl dL_fit_6 (fun _ => ?_) trivial
  refine w_cls (rr := rr) S hL [.int p0, .int p1, .int p2] (met_X5_fit l hst g ad true (o + 1) σ 0 p0 p1 p2 rr h) mw_X5_fit rfl u11 dL_fit_7 rfl rfl hl.1 (Nat.le_of_ble_eq_true rfl) ⟨(Nat.le_of_ble_eq_true rfl), (Nat.le_of_ble_eq_true rfl)⟩ rfl rfl ⟨(Nat.le_of_ble_eq_true rfl), (Nat.le_of_ble_eq_true rfl)⟩ (fun k σ1 ce q9 H locs hrr hL hce hcv hcl => ?_) (fun r σ1 H locs hrr hL => ?_)
  · obtain ⟨c9, hc9⟩ := hk k σ1 hrr
    simp only [List.mem_cons, List.not_mem_nil, or_false, Prod.mk.injEq] at hc9
    rcases hc9 with ⟨rfl, rfl⟩ | ⟨rfl, rfl⟩ | ⟨rfl, rfl⟩
    · refine w_catch S hL htab (k := 1) (by decide) hce hcv hcl [] (0, 12, 15, 13) [(0, 12, 19, 15), (0, 12, 23, 21)] rfl (fun _ h => absurd h List.not_mem_nil) (by decide) (by decide) u7 ?_
      refine v_astore (P := True) S hl [(5, .ref q9), (0, .ref (ad 0)), (1, .int p0), (2, .int p1), (3, .int p2), (4, .ref o)] dL_fit_15 (by decide) rfl (fun ls hl _ => ?_) trivial
      refine v_iconst (P := True) S 1 dL_fit_17 rfl (fun _ => ?_) trivial
      exact w_ret S hL hr hlk (Nat.le_of_ble_eq_true rfl) (Nat.le_of_ble_eq_true rfl) dL_fit_18 (by rw [hrr]; exact ⟨rfl, 1, by decide, rfl⟩)
    · refine w_catch S hL htab (k := 2) (by decide) hce hcv hcl [(0, 12, 15, 13)] (0, 12, 19, 15) [(0, 12, 23, 21)] rfl (List.forall_mem_cons.mpr ⟨⟨1, by decide, by decide, by decide, u7⟩, fun _ h => absurd h List.not_mem_nil⟩) (by decide) (by decide) u8 ?_
      refine v_astore (P := True) S hl [(5, .ref q9), (0, .ref (ad 0)), (1, .int p0), (2, .int p1), (3, .int p2), (4, .ref o)] dL_fit_19 (by decide) rfl (fun ls hl _ => ?_) trivial
      refine v_iconst (P := True) S 2 dL_fit_21 rfl (fun _ => ?_) trivial
      exact w_ret S hL hr hlk (Nat.le_of_ble_eq_true rfl) (Nat.le_of_ble_eq_true rfl) dL_fit_22 (by rw [hrr]; exact ⟨rfl, 2, by decide, rfl⟩)
    · refine w_catch S hL htab (k := 3) (by decide) hce hcv hcl [(0, 12, 15, 13), (0, 12, 19, 15)] (0, 12, 23, 21) [] rfl (List.forall_mem_cons.mpr ⟨⟨1, by decide, by decide, by decide, u7⟩, List.forall_mem_cons.mpr ⟨⟨2, by decide, by decide, by decide, u8⟩, fun _ h => absurd h List.not_mem_nil⟩⟩) (by decide) (by decide) u15 ?_
      refine v_astore (P := True) S hl [(5, .ref q9), (0, .ref (ad 0)), (1, .int p0), (2, .int p1), (3, .int p2), (4, .ref o)] dL_fit_23 (by decide) rfl (fun ls hl _ => ?_) trivial
      refine v_iconst (P := True) S 3 dL_fit_25 rfl (fun _ => ?_) trivial
      exact w_ret S hL hr hlk (Nat.le_of_ble_eq_true rfl) (Nat.le_of_ble_eq_true rfl) dL_fit_26 (by rw [hrr]; exact ⟨rfl, 3, by decide, rfl⟩)
  · refine v_i2l (P := True) S dL_fit_10 (fun _ => ?_) trivial
    refine w_last S hL dL_fit_11 (fun f1 H locs hf1 hL => ?_)
    refine v_goto (P := True) S 27 dL_fit_12 (by decide) (fun _ => ?_) trivial
    refine v_iconst (P := True) S 0 dL_fit_27 rfl (fun _ => ?_) trivial
    exact w_ret S hL hr hlk (Nat.le_of_ble_eq_true rfl) (Nat.le_of_ble_eq_true rfl) dL_fit_28 (by rw [hrr]; exact ⟨rfl, rfl, hf1⟩)
set_option maxHeartbeats 4000000 in
set_option maxRecDepth 100000 in
theorem met_L_store (l : Launch) (hst : l.stackTraces = false) (g : GT) (ad : Nat → Nat) (σ : Mem) (o : Nat) (f : Nat → Int64) (p0 : Int32) (rr : ((Nat ⊕ Int32) × Mem)) (h : fn_X5_store σ 0 p0 = some rr) (hk : ∀ k σ1, rr = ((.inl k, σ1) : (Nat ⊕ Int32) × Mem) → ∃ c, (k, c) ∈ [(2, 1)]) : vx_Met l yL_store (wsH yL_store cL_store 4 (some .int) [(0, 9, 12, 15)]) ({ frames := 8, cells := 1, slots := 6, locals := 163 } : Room) (va_Pc [.ref (ad 0), .int p0, .ref o] (PO g ad σ o f)) (va_Qi (fun (r : Int32) (u : Mem × (Nat → Int64)) => okQ [(2, 1)] rr r u) (GO g ad o) (AA g ad true o)) XCF 1 6 (AA g ad true o) := by
  refine vx_ofWH (cc := cL_store) (maxL := 4) (ret := (some .int)) (by decide) rfl ?_
  intro p e s m args below meth c s₁ B hml hv
  obtain ⟨rfl, hv⟩ := hv
  have S : CallFix p m c cL_store 4 s _ AL RL := ⟨B.exec, B.bytes, hml, findClass_of_methodNamed B.named, fun w h => atoms_spec (ws := wsH yL_store cL_store 4 (some .int) [(0, 9, 12, 15)]) B.pre w (List.mem_cons_of_mem _ h)⟩
  have htab := vx_table (x := yL_store) B (atoms_spec (ws := wsH yL_store cL_store 4 (some .int) [(0, 9, 12, 15)]) B.pre _ List.mem_cons_self)
  have hr := B.returns
  have hlk := B.notSynchronized
  have hL : LA g ad σ o f s s.heap [] := LA_start hv
  have hl := lv_entry ([.ref (ad 0), .int p0, .ref o]) (n := 4) (Nat.le_of_ble_eq_true rfl)
  rw [lg_entry_eq]
  generalize (lg_sl ([.ref (ad 0), .int p0, .ref o]) ++ List.replicate (4 - (lg_sl ([.ref (ad 0), .int p0, .ref o])).length) Slot.unset).toArray = ls at hl ⊢
  have hl : lv_has ls 4 [(0, .ref (ad 0)), (1, .int p0), (2, .ref o)] := hl
  refine v_aload_n (P := True) S hl 2 rfl rfl dL_store_0 (fun _ => ?_) trivial
  refine v_iconst (P := True) S 0 dL_store_1 rfl (fun _ => ?_) trivial
  refine v_aload_n (P := True) S hl 0 rfl rfl dL_store_2 (fun _ => ?_) trivial
  refine v_iload_n (P := True) S hl 1 rfl rfl dL_store_3 (fun _ => ?_) trivial
  refine w_cls (rr := rr) S hL [.int p0] (met_X5_store l hst g ad true (o + 1) σ 0 p0 rr h) mw_X5_store rfl u18 dL_store_4 rfl rfl hl.1 (Nat.le_of_ble_eq_true rfl) ⟨(Nat.le_of_ble_eq_true rfl), (Nat.le_of_ble_eq_true rfl)⟩ rfl rfl ⟨(Nat.le_of_ble_eq_true rfl), (Nat.le_of_ble_eq_true rfl)⟩ (fun k σ1 ce q9 H locs hrr hL hce hcv hcl => ?_) (fun r σ1 H locs hrr hL => ?_)
  · obtain ⟨c9, hc9⟩ := hk k σ1 hrr
    simp only [List.mem_cons, List.not_mem_nil, or_false, Prod.mk.injEq] at hc9
    rcases hc9 with ⟨rfl, rfl⟩
    · refine w_catch S hL htab (k := 2) (by decide) hce hcv hcl [] (0, 9, 12, 15) [] rfl (fun _ h => absurd h List.not_mem_nil) (by decide) (by decide) u8 ?_
      refine v_astore_n (P := True) S hl [(3, .ref q9), (0, .ref (ad 0)), (1, .int p0), (2, .ref o)] rfl dL_store_12 (by decide) rfl (fun ls hl _ => ?_) trivial
      refine v_iconst (P := True) S 1 dL_store_13 rfl (fun _ => ?_) trivial
      exact w_ret S hL hr hlk (Nat.le_of_ble_eq_true rfl) (Nat.le_of_ble_eq_true rfl) dL_store_14 (by rw [hrr]; exact ⟨rfl, 1, by decide, rfl⟩)
  · refine v_i2l (P := True) S dL_store_7 (fun _ => ?_) trivial
    refine w_last S hL dL_store_8 (fun f1 H locs hf1 hL => ?_)
    refine v_goto (P := True) S 15 dL_store_9 (by decide) (fun _ => ?_) trivial
    refine v_iconst (P := True) S 0 dL_store_15 rfl (fun _ => ?_) trivial
    exact w_ret S hL hr hlk (Nat.le_of_ble_eq_true rfl) (Nat.le_of_ble_eq_true rfl) dL_store_16 (by rw [hrr]; exact ⟨rfl, rfl, hf1⟩)
set_option maxHeartbeats 4000000 in
set_option maxRecDepth 100000 in
theorem met_L_lasts (l : Launch) (hst : l.stackTraces = false) (g : GT) (ad : Nat → Nat) (σ : Mem) (o : Nat) (f : Nat → Int64) (p0 : Int32) (p1 : Int32) (rr : (Nat ⊕ Int32)) (h : fn_X5_lasts σ 0 p0 p1 = some rr) (hk : ∀ k σ1, (rr, σ) = ((.inl k, σ1) : (Nat ⊕ Int32) × Mem) → ∃ c, (k, c) ∈ [(1, 1)]) : vx_Met l yL_lasts (wsH yL_lasts cL_lasts 5 (some .int) [(0, 10, 13, 13)]) ({ frames := 9, cells := 2, slots := 12, locals := 183 } : Room) (va_Pc [.ref (ad 0), .int p0, .int p1, .ref o] (PO g ad σ o f)) (va_Qi (fun (r : Int32) (u : Mem × (Nat → Int64)) => okQ [(1, 1)] (rr, σ) r u) (GO g ad o) (AA g ad true o)) XCF 2 12 (AA g ad true o) := by
  refine vx_ofWH (cc := cL_lasts) (maxL := 5) (ret := (some .int)) (by decide) rfl ?_
  intro p e s m args below meth c s₁ B hml hv
  obtain ⟨rfl, hv⟩ := hv
  have S : CallFix p m c cL_lasts 5 s _ AL RL := ⟨B.exec, B.bytes, hml, findClass_of_methodNamed B.named, fun w h => atoms_spec (ws := wsH yL_lasts cL_lasts 5 (some .int) [(0, 10, 13, 13)]) B.pre w (List.mem_cons_of_mem _ h)⟩
  have htab := vx_table (x := yL_lasts) B (atoms_spec (ws := wsH yL_lasts cL_lasts 5 (some .int) [(0, 10, 13, 13)]) B.pre _ List.mem_cons_self)
  have hr := B.returns
  have hlk := B.notSynchronized
  have hL : LA g ad σ o f s s.heap [] := LA_start hv
  have hl := lv_entry ([.ref (ad 0), .int p0, .int p1, .ref o]) (n := 5) (Nat.le_of_ble_eq_true rfl)
  rw [lg_entry_eq]
  generalize (lg_sl ([.ref (ad 0), .int p0, .int p1, .ref o]) ++ List.replicate (5 - (lg_sl ([.ref (ad 0), .int p0, .int p1, .ref o])).length) Slot.unset).toArray = ls at hl ⊢
  have hl : lv_has ls 5 [(0, .ref (ad 0)), (1, .int p0), (2, .int p1), (3, .ref o)] := hl
  refine v_aload_n (P := True) S hl 3 rfl rfl dL_lasts_0 (fun _ => ?_) trivial
  refine v_iconst (P := True) S 0 dL_lasts_1 rfl (fun _ => ?_) trivial
  refine v_aload_n (P := True) S hl 0 rfl rfl dL_lasts_2 (fun _ => ?_) trivial
  refine v_iload_n (P := True) S hl 1 rfl rfl dL_lasts_3 (fun _ => ?_) trivial
  refine v_iload_n (P := True) S hl 2 rfl rfl dL_lasts_4 (fun _ => ?_) trivial
  refine w_cls (rr := (rr, σ)) S hL [.int p0, .int p1] (vx_up (met_X5_lasts l hst g ad true (o + 1) σ 0 p0 p1 rr h)) mw_X5_lasts rfl u24 dL_lasts_5 rfl rfl hl.1 (Nat.le_of_ble_eq_true rfl) ⟨(Nat.le_of_ble_eq_true rfl), (Nat.le_of_ble_eq_true rfl)⟩ rfl rfl ⟨(Nat.le_of_ble_eq_true rfl), (Nat.le_of_ble_eq_true rfl)⟩ (fun k σ1 ce q9 H locs hrr hL hce hcv hcl => ?_) (fun r σ1 H locs hrr hL => ?_)
  · obtain ⟨c9, hc9⟩ := hk k σ1 hrr
    simp only [List.mem_cons, List.not_mem_nil, or_false, Prod.mk.injEq] at hc9
    rcases hc9 with ⟨rfl, rfl⟩
    · refine w_catch S hL htab (k := 1) (by decide) hce hcv hcl [] (0, 10, 13, 13) [] rfl (fun _ h => absurd h List.not_mem_nil) (by decide) (by decide) u7 ?_
      refine v_astore (P := True) S hl [(4, .ref q9), (0, .ref (ad 0)), (1, .int p0), (2, .int p1), (3, .ref o)] dL_lasts_13 (by decide) rfl (fun ls hl _ => ?_) trivial
      refine v_iconst (P := True) S 1 dL_lasts_15 rfl (fun _ => ?_) trivial
      exact w_ret S hL hr hlk (Nat.le_of_ble_eq_true rfl) (Nat.le_of_ble_eq_true rfl) dL_lasts_16 (by rw [hrr]; exact ⟨rfl, 1, by decide, rfl⟩)
  · refine v_i2l (P := True) S dL_lasts_8 (fun _ => ?_) trivial
    refine w_last S hL dL_lasts_9 (fun f1 H locs hf1 hL => ?_)
    refine v_goto (P := True) S 17 dL_lasts_10 (by decide) (fun _ => ?_) trivial
    refine v_iconst (P := True) S 0 dL_lasts_17 rfl (fun _ => ?_) trivial
    exact w_ret S hL hr hlk (Nat.le_of_ble_eq_true rfl) (Nat.le_of_ble_eq_true rfl) dL_lasts_18 (by rw [hrr]; exact ⟨rfl, rfl, hf1⟩)
set_option maxHeartbeats 4000000 in
set_option maxRecDepth 100000 in
theorem met_L_bell (l : Launch) (hst : l.stackTraces = false) (g : GT) (ad : Nat → Nat) (σ : Mem) (o : Nat) (f : Nat → Int64) (p0 : Int32) (p1 : Int32) (rr : (Nat ⊕ Int32)) (h : fn_X5_bell σ 0 p0 p1 = some rr) (hk : ∀ k σ1, (rr, σ) = ((.inl k, σ1) : (Nat ⊕ Int32) × Mem) → ∃ c, (k, c) ∈ [(1, 1)]) : vx_Met l yL_bell (wsH yL_bell cL_bell 5 (some .int) [(0, 10, 13, 13)]) ({ frames := 9, cells := 2, slots := 12, locals := 183 } : Room) (va_Pc [.ref (ad 0), .int p0, .int p1, .ref o] (PO g ad σ o f)) (va_Qi (fun (r : Int32) (u : Mem × (Nat → Int64)) => okQ [(1, 1)] (rr, σ) r u) (GO g ad o) (AA g ad true o)) XCF 2 12 (AA g ad true o) := by
  refine vx_ofWH (cc := cL_bell) (maxL := 5) (ret := (some .int)) (by decide) rfl ?_
  intro p e s m args below meth c s₁ B hml hv
  obtain ⟨rfl, hv⟩ := hv
  have S : CallFix p m c cL_bell 5 s _ AL RL := ⟨B.exec, B.bytes, hml, findClass_of_methodNamed B.named, fun w h => atoms_spec (ws := wsH yL_bell cL_bell 5 (some .int) [(0, 10, 13, 13)]) B.pre w (List.mem_cons_of_mem _ h)⟩
  have htab := vx_table (x := yL_bell) B (atoms_spec (ws := wsH yL_bell cL_bell 5 (some .int) [(0, 10, 13, 13)]) B.pre _ List.mem_cons_self)
  have hr := B.returns
  have hlk := B.notSynchronized
  have hL : LA g ad σ o f s s.heap [] := LA_start hv
  have hl := lv_entry ([.ref (ad 0), .int p0, .int p1, .ref o]) (n := 5) (Nat.le_of_ble_eq_true rfl)
  rw [lg_entry_eq]
  generalize (lg_sl ([.ref (ad 0), .int p0, .int p1, .ref o]) ++ List.replicate (5 - (lg_sl ([.ref (ad 0), .int p0, .int p1, .ref o])).length) Slot.unset).toArray = ls at hl ⊢
  have hl : lv_has ls 5 [(0, .ref (ad 0)), (1, .int p0), (2, .int p1), (3, .ref o)] := hl
  refine v_aload_n (P := True) S hl 3 rfl rfl dL_bell_0 (fun _ => ?_) trivial
  refine v_iconst (P := True) S 0 dL_bell_1 rfl (fun _ => ?_) trivial
  refine v_aload_n (P := True) S hl 0 rfl rfl dL_bell_2 (fun _ => ?_) trivial
  refine v_iload_n (P := True) S hl 1 rfl rfl dL_bell_3 (fun _ => ?_) trivial
  refine v_iload_n (P := True) S hl 2 rfl rfl dL_bell_4 (fun _ => ?_) trivial
  refine w_cls (rr := (rr, σ)) S hL [.int p0, .int p1] (vx_up (met_X5_bell l hst g ad true (o + 1) σ 0 p0 p1 rr h)) mw_X5_bell rfl u30 dL_bell_5 rfl rfl hl.1 (Nat.le_of_ble_eq_true rfl) ⟨(Nat.le_of_ble_eq_true rfl), (Nat.le_of_ble_eq_true rfl)⟩ rfl rfl ⟨(Nat.le_of_ble_eq_true rfl), (Nat.le_of_ble_eq_true rfl)⟩ (fun k σ1 ce q9 H locs hrr hL hce hcv hcl => ?_) (fun r σ1 H locs hrr hL => ?_)
  · obtain ⟨c9, hc9⟩ := hk k σ1 hrr
    simp only [List.mem_cons, List.not_mem_nil, or_false, Prod.mk.injEq] at hc9
    rcases hc9 with ⟨rfl, rfl⟩
    · refine w_catch S hL htab (k := 1) (by decide) hce hcv hcl [] (0, 10, 13, 13) [] rfl (fun _ h => absurd h List.not_mem_nil) (by decide) (by decide) u7 ?_
      refine v_astore (P := True) S hl [(4, .ref q9), (0, .ref (ad 0)), (1, .int p0), (2, .int p1), (3, .ref o)] dL_bell_13 (by decide) rfl (fun ls hl _ => ?_) trivial
      refine v_iconst (P := True) S 1 dL_bell_15 rfl (fun _ => ?_) trivial
      exact w_ret S hL hr hlk (Nat.le_of_ble_eq_true rfl) (Nat.le_of_ble_eq_true rfl) dL_bell_16 (by rw [hrr]; exact ⟨rfl, 1, by decide, rfl⟩)
  · refine v_i2l (P := True) S dL_bell_8 (fun _ => ?_) trivial
    refine w_last S hL dL_bell_9 (fun f1 H locs hf1 hL => ?_)
    refine v_goto (P := True) S 17 dL_bell_10 (by decide) (fun _ => ?_) trivial
    refine v_iconst (P := True) S 0 dL_bell_17 rfl (fun _ => ?_) trivial
    exact w_ret S hL hr hlk (Nat.le_of_ble_eq_true rfl) (Nat.le_of_ble_eq_true rfl) dL_bell_18 (by rw [hrr]; exact ⟨rfl, rfl, hf1⟩)
set_option maxHeartbeats 4000000 in
set_option maxRecDepth 100000 in
theorem met_L_ringer (l : Launch) (hst : l.stackTraces = false) (g : GT) (ad : Nat → Nat) (σ : Mem) (o : Nat) (f : Nat → Int64) (p0 : Int32) (rr : ((Nat ⊕ Int32) × Mem)) (h : fn_X5_ringer σ 0 p0 = some rr) (hk : ∀ k σ1, rr = ((.inl k, σ1) : (Nat ⊕ Int32) × Mem) → ∃ c, (k, c) ∈ [(2, 1), (3, 2)]) : vx_Met l yL_ringer (wsH yL_ringer cL_ringer 4 (some .int) [(0, 9, 12, 15), (0, 9, 15, 21)]) ({ frames := 8, cells := 2, slots := 12, locals := 163 } : Room) (va_Pc [.ref (ad 0), .int p0, .ref o] (PO g ad σ o f)) (va_Qi (fun (r : Int32) (u : Mem × (Nat → Int64)) => okQ [(2, 1), (3, 2)] rr r u) (GO g ad o) (AA g ad true o)) XCF 2 12 (AA g ad true o) := by
  refine vx_ofWH (cc := cL_ringer) (maxL := 4) (ret := (some .int)) (by decide) rfl ?_
  intro p e s m args below meth c s₁ B hml hv
  obtain ⟨rfl, hv⟩ := hv
  have S : CallFix p m c cL_ringer 4 s _ AL RL := ⟨B.exec, B.bytes, hml, findClass_of_methodNamed B.named, fun w h => atoms_spec (ws := wsH yL_ringer cL_ringer 4 (some .int) [(0, 9, 12, 15), (0, 9, 15, 21)]) B.pre w (List.mem_cons_of_mem _ h)⟩
  have htab := vx_table (x := yL_ringer) B (atoms_spec (ws := wsH yL_ringer cL_ringer 4 (some .int) [(0, 9, 12, 15), (0, 9, 15, 21)]) B.pre _ List.mem_cons_self)
  have hr := B.returns
  have hlk := B.notSynchronized
  have hL : LA g ad σ o f s s.heap [] := LA_start hv
  have hl := lv_entry ([.ref (ad 0), .int p0, .ref o]) (n := 4) (Nat.le_of_ble_eq_true rfl)
  rw [lg_entry_eq]
  generalize (lg_sl ([.ref (ad 0), .int p0, .ref o]) ++ List.replicate (4 - (lg_sl ([.ref (ad 0), .int p0, .ref o])).length) Slot.unset).toArray = ls at hl ⊢
  have hl : lv_has ls 4 [(0, .ref (ad 0)), (1, .int p0), (2, .ref o)] := hl
  refine v_aload_n (P := True) S hl 2 rfl rfl dL_ringer_0 (fun _ => ?_) trivial
  refine v_iconst (P := True) S 0 dL_ringer_1 rfl (fun _ => ?_) trivial
  refine v_aload_n (P := True) S hl 0 rfl rfl dL_ringer_2 (fun _ => ?_) trivial
  refine v_iload_n (P := True) S hl 1 rfl rfl dL_ringer_3 (fun _ => ?_) trivial
  refine w_cls (rr := rr) S hL [.int p0] (met_X5_ringer l hst g ad true (o + 1) σ 0 p0 rr h) mw_X5_ringer rfl u36 dL_ringer_4 rfl rfl hl.1 (Nat.le_of_ble_eq_true rfl) ⟨(Nat.le_of_ble_eq_true rfl), (Nat.le_of_ble_eq_true rfl)⟩ rfl rfl ⟨(Nat.le_of_ble_eq_true rfl), (Nat.le_of_ble_eq_true rfl)⟩ (fun k σ1 ce q9 H locs hrr hL hce hcv hcl => ?_) (fun r σ1 H locs hrr hL => ?_)
  · obtain ⟨c9, hc9⟩ := hk k σ1 hrr
    simp only [List.mem_cons, List.not_mem_nil, or_false, Prod.mk.injEq] at hc9
    rcases hc9 with ⟨rfl, rfl⟩ | ⟨rfl, rfl⟩
    · refine w_catch S hL htab (k := 2) (by decide) hce hcv hcl [] (0, 9, 12, 15) [(0, 9, 15, 21)] rfl (fun _ h => absurd h List.not_mem_nil) (by decide) (by decide) u8 ?_
      refine v_astore_n (P := True) S hl [(3, .ref q9), (0, .ref (ad 0)), (1, .int p0), (2, .ref o)] rfl dL_ringer_12 (by decide) rfl (fun ls hl _ => ?_) trivial
      refine v_iconst (P := True) S 1 dL_ringer_13 rfl (fun _ => ?_) trivial
      exact w_ret S hL hr hlk (Nat.le_of_ble_eq_true rfl) (Nat.le_of_ble_eq_true rfl) dL_ringer_14 (by rw [hrr]; exact ⟨rfl, 1, by decide, rfl⟩)
    · refine w_catch S hL htab (k := 3) (by decide) hce hcv hcl [(0, 9, 12, 15)] (0, 9, 15, 21) [] rfl (List.forall_mem_cons.mpr ⟨⟨2, by decide, by decide, by decide, u8⟩, fun _ h => absurd h List.not_mem_nil⟩) (by decide) (by decide) u15 ?_
      refine v_astore_n (P := True) S hl [(3, .ref q9), (0, .ref (ad 0)), (1, .int p0), (2, .ref o)] rfl dL_ringer_15 (by decide) rfl (fun ls hl _ => ?_) trivial
      refine v_iconst (P := True) S 2 dL_ringer_16 rfl (fun _ => ?_) trivial
      exact w_ret S hL hr hlk (Nat.le_of_ble_eq_true rfl) (Nat.le_of_ble_eq_true rfl) dL_ringer_17 (by rw [hrr]; exact ⟨rfl, 2, by decide, rfl⟩)
  · refine v_i2l (P := True) S dL_ringer_7 (fun _ => ?_) trivial
    refine w_last S hL dL_ringer_8 (fun f1 H locs hf1 hL => ?_)
    refine v_goto (P := True) S 18 dL_ringer_9 (by decide) (fun _ => ?_) trivial
    refine v_iconst (P := True) S 0 dL_ringer_18 rfl (fun _ => ?_) trivial
    exact w_ret S hL hr hlk (Nat.le_of_ble_eq_true rfl) (Nat.le_of_ble_eq_true rfl) dL_ringer_19 (by rw [hrr]; exact ⟨rfl, rfl, hf1⟩)
set_option maxHeartbeats 4000000 in
set_option maxRecDepth 100000 in
theorem met_L_send (l : Launch) (hst : l.stackTraces = false) (g : GT) (ad : Nat → Nat) (σ : Mem) (o : Nat) (f : Nat → Int64) (p0 : Int32) (p1 : Int32) (rr : ((Nat ⊕ Int32) × Mem)) (h : fn_X5_send σ 0 p0 p1 = some rr) (hk : ∀ k σ1, rr = ((.inl k, σ1) : (Nat ⊕ Int32) × Mem) → ∃ c, (k, c) ∈ [(1, 1), (3, 2)]) : vx_Met l yL_send (wsH yL_send cL_send 5 (some .int) [(0, 10, 13, 13), (0, 10, 17, 21)]) ({ frames := 9, cells := 3, slots := 18, locals := 184 } : Room) (va_Pc [.ref (ad 0), .int p0, .int p1, .ref o] (PO g ad σ o f)) (va_Qi (fun (r : Int32) (u : Mem × (Nat → Int64)) => okQ [(1, 1), (3, 2)] rr r u) (GO g ad o) (AA g ad true o)) XCF 3 18 (AA g ad true o) := by
  refine vx_ofWH (cc := cL_send) (maxL := 5) (ret := (some .int)) (by decide) rfl ?_
  intro p e s m args below meth c s₁ B hml hv
  obtain ⟨rfl, hv⟩ := hv
  have S : CallFix p m c cL_send 5 s _ AL RL := ⟨B.exec, B.bytes, hml, findClass_of_methodNamed B.named, fun w h => atoms_spec (ws := wsH yL_send cL_send 5 (some .int) [(0, 10, 13, 13), (0, 10, 17, 21)]) B.pre w (List.mem_cons_of_mem _ h)⟩
  have htab := vx_table (x := yL_send) B (atoms_spec (ws := wsH yL_send cL_send 5 (some .int) [(0, 10, 13, 13), (0, 10, 17, 21)]) B.pre _ List.mem_cons_self)
  have hr := B.returns
  have hlk := B.notSynchronized
  have hL : LA g ad σ o f s s.heap [] := LA_start hv
  have hl := lv_entry ([.ref (ad 0), .int p0, .int p1, .ref o]) (n := 5) (Nat.le_of_ble_eq_true rfl)
  rw [lg_entry_eq]
  generalize (lg_sl ([.ref (ad 0), .int p0, .int p1, .ref o]) ++ List.replicate (5 - (lg_sl ([.ref (ad 0), .int p0, .int p1, .ref o])).length) Slot.unset).toArray = ls at hl ⊢
  have hl : lv_has ls 5 [(0, .ref (ad 0)), (1, .int p0), (2, .int p1), (3, .ref o)] := hl
  refine v_aload_n (P := True) S hl 3 rfl rfl dL_send_0 (fun _ => ?_) trivial
  refine v_iconst (P := True) S 0 dL_send_1 rfl (fun _ => ?_) trivial
  refine v_aload_n (P := True) S hl 0 rfl rfl dL_send_2 (fun _ => ?_) trivial
  refine v_iload_n (P := True) S hl 1 rfl rfl dL_send_3 (fun _ => ?_) trivial
  refine v_iload_n (P := True) S hl 2 rfl rfl dL_send_4 (fun _ => ?_) trivial
  refine w_cls (rr := rr) S hL [.int p0, .int p1] (met_X5_send l hst g ad true (o + 1) σ 0 p0 p1 rr h) mw_X5_send rfl u42 dL_send_5 rfl rfl hl.1 (Nat.le_of_ble_eq_true rfl) ⟨(Nat.le_of_ble_eq_true rfl), (Nat.le_of_ble_eq_true rfl)⟩ rfl rfl ⟨(Nat.le_of_ble_eq_true rfl), (Nat.le_of_ble_eq_true rfl)⟩ (fun k σ1 ce q9 H locs hrr hL hce hcv hcl => ?_) (fun r σ1 H locs hrr hL => ?_)
  · obtain ⟨c9, hc9⟩ := hk k σ1 hrr
    simp only [List.mem_cons, List.not_mem_nil, or_false, Prod.mk.injEq] at hc9
    rcases hc9 with ⟨rfl, rfl⟩ | ⟨rfl, rfl⟩
    · refine w_catch S hL htab (k := 1) (by decide) hce hcv hcl [] (0, 10, 13, 13) [(0, 10, 17, 21)] rfl (fun _ h => absurd h List.not_mem_nil) (by decide) (by decide) u7 ?_
      refine v_astore (P := True) S hl [(4, .ref q9), (0, .ref (ad 0)), (1, .int p0), (2, .int p1), (3, .ref o)] dL_send_13 (by decide) rfl (fun ls hl _ => ?_) trivial
      refine v_iconst (P := True) S 1 dL_send_15 rfl (fun _ => ?_) trivial
      exact w_ret S hL hr hlk (Nat.le_of_ble_eq_true rfl) (Nat.le_of_ble_eq_true rfl) dL_send_16 (by rw [hrr]; exact ⟨rfl, 1, by decide, rfl⟩)
    · refine w_catch S hL htab (k := 3) (by decide) hce hcv hcl [(0, 10, 13, 13)] (0, 10, 17, 21) [] rfl (List.forall_mem_cons.mpr ⟨⟨1, by decide, by decide, by decide, u7⟩, fun _ h => absurd h List.not_mem_nil⟩) (by decide) (by decide) u15 ?_
      refine v_astore (P := True) S hl [(4, .ref q9), (0, .ref (ad 0)), (1, .int p0), (2, .int p1), (3, .ref o)] dL_send_17 (by decide) rfl (fun ls hl _ => ?_) trivial
      refine v_iconst (P := True) S 2 dL_send_19 rfl (fun _ => ?_) trivial
      exact w_ret S hL hr hlk (Nat.le_of_ble_eq_true rfl) (Nat.le_of_ble_eq_true rfl) dL_send_20 (by rw [hrr]; exact ⟨rfl, 2, by decide, rfl⟩)
  · refine v_i2l (P := True) S dL_send_8 (fun _ => ?_) trivial
    refine w_last S hL dL_send_9 (fun f1 H locs hf1 hL => ?_)
    refine v_goto (P := True) S 21 dL_send_10 (by decide) (fun _ => ?_) trivial
    refine v_iconst (P := True) S 0 dL_send_21 rfl (fun _ => ?_) trivial
    exact w_ret S hL hr hlk (Nat.le_of_ble_eq_true rfl) (Nat.le_of_ble_eq_true rfl) dL_send_22 (by rw [hrr]; exact ⟨rfl, rfl, hf1⟩)
set_option maxHeartbeats 4000000 in
set_option maxRecDepth 100000 in
theorem met_L_told (l : Launch) (hst : l.stackTraces = false) (g : GT) (ad : Nat → Nat) (σ : Mem) (o : Nat) (f : Nat → Int64) (p0 : Int32) (p1 : Int32) (rr : (Nat ⊕ Int32)) (h : fn_X5_told σ 0 p0 p1 = some rr) (hk : ∀ k σ1, (rr, σ) = ((.inl k, σ1) : (Nat ⊕ Int32) × Mem) → ∃ c, (k, c) ∈ [(1, 1)]) : vx_Met l yL_told (wsH yL_told cL_told 5 (some .int) [(0, 10, 13, 13)]) ({ frames := 8, cells := 2, slots := 12, locals := 163 } : Room) (va_Pc [.ref (ad 0), .int p0, .int p1, .ref o] (PO g ad σ o f)) (va_Qi (fun (r : Int32) (u : Mem × (Nat → Int64)) => okQ [(1, 1)] (rr, σ) r u) (GO g ad o) (AA g ad true o)) XCF 2 12 (AA g ad true o) := by
  refine vx_ofWH (cc := cL_told) (maxL := 5) (ret := (some .int)) (by decide) rfl ?_
  intro p e s m args below meth c s₁ B hml hv
  obtain ⟨rfl, hv⟩ := hv
  have S : CallFix p m c cL_told 5 s _ AL RL := ⟨B.exec, B.bytes, hml, findClass_of_methodNamed B.named, fun w h => atoms_spec (ws := wsH yL_told cL_told 5 (some .int) [(0, 10, 13, 13)]) B.pre w (List.mem_cons_of_mem _ h)⟩
  have htab := vx_table (x := yL_told) B (atoms_spec (ws := wsH yL_told cL_told 5 (some .int) [(0, 10, 13, 13)]) B.pre _ List.mem_cons_self)
  have hr := B.returns
  have hlk := B.notSynchronized
  have hL : LA g ad σ o f s s.heap [] := LA_start hv
  have hl := lv_entry ([.ref (ad 0), .int p0, .int p1, .ref o]) (n := 5) (Nat.le_of_ble_eq_true rfl)
  rw [lg_entry_eq]
  generalize (lg_sl ([.ref (ad 0), .int p0, .int p1, .ref o]) ++ List.replicate (5 - (lg_sl ([.ref (ad 0), .int p0, .int p1, .ref o])).length) Slot.unset).toArray = ls at hl ⊢
  have hl : lv_has ls 5 [(0, .ref (ad 0)), (1, .int p0), (2, .int p1), (3, .ref o)] := hl
  refine v_aload_n (P := True) S hl 3 rfl rfl dL_told_0 (fun _ => ?_) trivial
  refine v_iconst (P := True) S 0 dL_told_1 rfl (fun _ => ?_) trivial
  refine v_aload_n (P := True) S hl 0 rfl rfl dL_told_2 (fun _ => ?_) trivial
  refine v_iload_n (P := True) S hl 1 rfl rfl dL_told_3 (fun _ => ?_) trivial
  refine v_iload_n (P := True) S hl 2 rfl rfl dL_told_4 (fun _ => ?_) trivial
  refine w_cls (rr := (rr, σ)) S hL [.int p0, .int p1] (vx_up (met_X5_told l hst g ad true (o + 1) σ 0 p0 p1 rr h)) mw_X5_told rfl u48 dL_told_5 rfl rfl hl.1 (Nat.le_of_ble_eq_true rfl) ⟨(Nat.le_of_ble_eq_true rfl), (Nat.le_of_ble_eq_true rfl)⟩ rfl rfl ⟨(Nat.le_of_ble_eq_true rfl), (Nat.le_of_ble_eq_true rfl)⟩ (fun k σ1 ce q9 H locs hrr hL hce hcv hcl => ?_) (fun r σ1 H locs hrr hL => ?_)
  · obtain ⟨c9, hc9⟩ := hk k σ1 hrr
    simp only [List.mem_cons, List.not_mem_nil, or_false, Prod.mk.injEq] at hc9
    rcases hc9 with ⟨rfl, rfl⟩
    · refine w_catch S hL htab (k := 1) (by decide) hce hcv hcl [] (0, 10, 13, 13) [] rfl (fun _ h => absurd h List.not_mem_nil) (by decide) (by decide) u7 ?_
      refine v_astore (P := True) S hl [(4, .ref q9), (0, .ref (ad 0)), (1, .int p0), (2, .int p1), (3, .ref o)] dL_told_13 (by decide) rfl (fun ls hl _ => ?_) trivial
      refine v_iconst (P := True) S 1 dL_told_15 rfl (fun _ => ?_) trivial
      exact w_ret S hL hr hlk (Nat.le_of_ble_eq_true rfl) (Nat.le_of_ble_eq_true rfl) dL_told_16 (by rw [hrr]; exact ⟨rfl, 1, by decide, rfl⟩)
  · refine v_i2l (P := True) S dL_told_8 (fun _ => ?_) trivial
    refine w_last S hL dL_told_9 (fun f1 H locs hf1 hL => ?_)
    refine v_goto (P := True) S 17 dL_told_10 (by decide) (fun _ => ?_) trivial
    refine v_iconst (P := True) S 0 dL_told_17 rfl (fun _ => ?_) trivial
    exact w_ret S hL hr hlk (Nat.le_of_ble_eq_true rfl) (Nat.le_of_ble_eq_true rfl) dL_told_18 (by rw [hrr]; exact ⟨rfl, rfl, hf1⟩)
set_option maxHeartbeats 4000000 in
set_option maxRecDepth 100000 in
theorem met_L_toll (l : Launch) (hst : l.stackTraces = false) (g : GT) (ad : Nat → Nat) (σ : Mem) (o : Nat) (f : Nat → Int64) (p0 : Int32) (p1 : Int32) (p2 : Int32) (p3 : Int32) (rr : ((Nat ⊕ Int32) × Mem)) (h : fn_X5_toll σ 0 p0 p1 p2 p3 = some rr) (hk : ∀ k σ1, rr = ((.inl k, σ1) : (Nat ⊕ Int32) × Mem) → ∃ c, (k, c) ∈ [(1, 1), (2, 2), (3, 3)]) : vx_Met l yL_toll (wsH yL_toll cL_toll 7 (some .int) [(0, 14, 17, 13), (0, 14, 21, 15), (0, 14, 25, 21)]) ({ frames := 9, cells := 5, slots := 30, locals := 188 } : Room) (va_Pc [.ref (ad 0), .int p0, .int p1, .int p2, .int p3, .ref o] (PO g ad σ o f)) (va_Qi (fun (r : Int32) (u : Mem × (Nat → Int64)) => okQ [(1, 1), (2, 2), (3, 3)] rr r u) (GO g ad o) (AA g ad true o)) XCF 5 30 (AA g ad true o) := by
  refine vx_ofWH (cc := cL_toll) (maxL := 7) (ret := (some .int)) (by decide) rfl ?_
  intro p e s m args below meth c s₁ B hml hv
  obtain ⟨rfl, hv⟩ := hv
  have S : CallFix p m c cL_toll 7 s _ AL RL := ⟨B.exec, B.bytes, hml, findClass_of_methodNamed B.named, fun w h => atoms_spec (ws := wsH yL_toll cL_toll 7 (some .int) [(0, 14, 17, 13), (0, 14, 21, 15), (0, 14, 25, 21)]) B.pre w (List.mem_cons_of_mem _ h)⟩
  have htab := vx_table (x := yL_toll) B (atoms_spec (ws := wsH yL_toll cL_toll 7 (some .int) [(0, 14, 17, 13), (0, 14, 21, 15), (0, 14, 25, 21)]) B.pre _ List.mem_cons_self)
  have hr := B.returns
  have hlk := B.notSynchronized
  have hL : LA g ad σ o f s s.heap [] := LA_start hv
  have hl := lv_entry ([.ref (ad 0), .int p0, .int p1, .int p2, .int p3, .ref o]) (n := 7) (Nat.le_of_ble_eq_true rfl)
  rw [lg_entry_eq]
  generalize (lg_sl ([.ref (ad 0), .int p0, .int p1, .int p2, .int p3, .ref o]) ++ List.replicate (7 - (lg_sl ([.ref (ad 0), .int p0, .int p1, .int p2, .int p3, .ref o])).length) Slot.unset).toArray = ls at hl ⊢
  have hl : lv_has ls 7 [(0, .ref (ad 0)), (1, .int p0), (2, .int p1), (3, .int p2), (4, .int p3), (5, .ref o)] := hl
  refine v_aload (P := True) S hl 5 rfl dL_toll_0 (fun _ => ?_) trivial
  refine v_iconst (P := True) S 0 dL_toll_2 rfl (fun _ => ?_) trivial
  refine v_aload_n (P := True) S hl 0 rfl rfl dL_toll_3 (fun _ => ?_) trivial
  refine v_iload_n (P := True) S hl 1 rfl rfl dL_toll_4 (fun _ => ?_) trivial
  refine v_iload_n (P := True) S hl 2 rfl rfl dL_toll_5 (fun _ => ?_) trivial
  refine v_iload_n (P := True) S hl 3 rfl rfl dL_toll_6 (fun _ => ?_) trivial
  refine v_iload (P := True) S hl 4 rfl dL_toll_7 (fun _ => ?_) trivial
  refine w_cls (rr := rr) S hL [.int p0, .int p1, .int p2, .int p3] (met_X5_toll l hst g ad true (o + 1) σ 0 p0 p1 p2 p3 rr h) mw_X5_toll rfl u54 dL_toll_9 rfl rfl hl.1 (Nat.le_of_ble_eq_true rfl) ⟨(Nat.le_of_ble_eq_true rfl), (Nat.le_of_ble_eq_true rfl)⟩ rfl rfl ⟨(Nat.le_of_ble_eq_true rfl), (Nat.le_of_ble_eq_true rfl)⟩ (fun k σ1 ce q9 H locs hrr hL hce hcv hcl => ?_) (fun r σ1 H locs hrr hL => ?_)
  · obtain ⟨c9, hc9⟩ := hk k σ1 hrr
    simp only [List.mem_cons, List.not_mem_nil, or_false, Prod.mk.injEq] at hc9
    rcases hc9 with ⟨rfl, rfl⟩ | ⟨rfl, rfl⟩ | ⟨rfl, rfl⟩
    · refine w_catch S hL htab (k := 1) (by decide) hce hcv hcl [] (0, 14, 17, 13) [(0, 14, 21, 15), (0, 14, 25, 21)] rfl (fun _ h => absurd h List.not_mem_nil) (by decide) (by decide) u7 ?_
      refine v_astore (P := True) S hl [(6, .ref q9), (0, .ref (ad 0)), (1, .int p0), (2, .int p1), (3, .int p2), (4, .int p3), (5, .ref o)] dL_toll_17 (by decide) rfl (fun ls hl _ => ?_) trivial
      refine v_iconst (P := True) S 1 dL_toll_19 rfl (fun _ => ?_) trivial
      exact w_ret S hL hr hlk (Nat.le_of_ble_eq_true rfl) (Nat.le_of_ble_eq_true rfl) dL_toll_20 (by rw [hrr]; exact ⟨rfl, 1, by decide, rfl⟩)
    · refine w_catch S hL htab (k := 2) (by decide) hce hcv hcl [(0, 14, 17, 13)] (0, 14, 21, 15) [(0, 14, 25, 21)] rfl (List.forall_mem_cons.mpr ⟨⟨1, by decide, by decide, by decide, u7⟩, fun _ h => absurd h List.not_mem_nil⟩) (by decide) (by decide) u8 ?_
      refine v_astore (P := True) S hl [(6, .ref q9), (0, .ref (ad 0)), (1, .int p0), (2, .int p1), (3, .int p2), (4, .int p3), (5, .ref o)] dL_toll_21 (by decide) rfl (fun ls hl _ => ?_) trivial
      refine v_iconst (P := True) S 2 dL_toll_23 rfl (fun _ => ?_) trivial
      exact w_ret S hL hr hlk (Nat.le_of_ble_eq_true rfl) (Nat.le_of_ble_eq_true rfl) dL_toll_24 (by rw [hrr]; exact ⟨rfl, 2, by decide, rfl⟩)
    · refine w_catch S hL htab (k := 3) (by decide) hce hcv hcl [(0, 14, 17, 13), (0, 14, 21, 15)] (0, 14, 25, 21) [] rfl (List.forall_mem_cons.mpr ⟨⟨1, by decide, by decide, by decide, u7⟩, List.forall_mem_cons.mpr ⟨⟨2, by decide, by decide, by decide, u8⟩, fun _ h => absurd h List.not_mem_nil⟩⟩) (by decide) (by decide) u15 ?_
      refine v_astore (P := True) S hl [(6, .ref q9), (0, .ref (ad 0)), (1, .int p0), (2, .int p1), (3, .int p2), (4, .int p3), (5, .ref o)] dL_toll_25 (by decide) rfl (fun ls hl _ => ?_) trivial
      refine v_iconst (P := True) S 3 dL_toll_27 rfl (fun _ => ?_) trivial
      exact w_ret S hL hr hlk (Nat.le_of_ble_eq_true rfl) (Nat.le_of_ble_eq_true rfl) dL_toll_28 (by rw [hrr]; exact ⟨rfl, 3, by decide, rfl⟩)
  · refine v_i2l (P := True) S dL_toll_12 (fun _ => ?_) trivial
    refine w_last S hL dL_toll_13 (fun f1 H locs hf1 hL => ?_)
    refine v_goto (P := True) S 29 dL_toll_14 (by decide) (fun _ => ?_) trivial
    refine v_iconst (P := True) S 0 dL_toll_29 rfl (fun _ => ?_) trivial
    exact w_ret S hL hr hlk (Nat.le_of_ble_eq_true rfl) (Nat.le_of_ble_eq_true rfl) dL_toll_30 (by rw [hrr]; exact ⟨rfl, rfl, hf1⟩)
set_option maxHeartbeats 4000000 in
set_option maxRecDepth 100000 in
theorem met_L_stop (l : Launch) (hst : l.stackTraces = false) (g : GT) (ad : Nat → Nat) (σ : Mem) (o : Nat) (f : Nat → Int64) (p0 : Int32) (rr : ((Nat ⊕ Int32) × Mem)) (h : fn_X5_stop σ 0 p0 = some rr) (hk : ∀ k σ1, rr = ((.inl k, σ1) : (Nat ⊕ Int32) × Mem) → ∃ c, (k, c) ∈ [(1, 1), (3, 2)]) : vx_Met l yL_stop (wsH yL_stop cL_stop 4 (some .int) [(0, 9, 12, 13), (0, 9, 15, 21)]) ({ frames := 8, cells := 2, slots := 12, locals := 162 } : Room) (va_Pc [.ref (ad 0), .int p0, .ref o] (PO g ad σ o f)) (va_Qi (fun (r : Int32) (u : Mem × (Nat → Int64)) => okQ [(1, 1), (3, 2)] rr r u) (GO g ad o) (AA g ad true o)) XCF 2 12 (AA g ad true o) := by
  refine vx_ofWH (cc := cL_stop) (maxL := 4) (ret := (some .int)) (by decide) rfl ?_
  intro p e s m args below meth c s₁ B hml hv
  obtain ⟨rfl, hv⟩ := hv
  have S : CallFix p m c cL_stop 4 s _ AL RL := ⟨B.exec, B.bytes, hml, findClass_of_methodNamed B.named, fun w h => atoms_spec (ws := wsH yL_stop cL_stop 4 (some .int) [(0, 9, 12, 13), (0, 9, 15, 21)]) B.pre w (List.mem_cons_of_mem _ h)⟩
  have htab := vx_table (x := yL_stop) B (atoms_spec (ws := wsH yL_stop cL_stop 4 (some .int) [(0, 9, 12, 13), (0, 9, 15, 21)]) B.pre _ List.mem_cons_self)
  have hr := B.returns
  have hlk := B.notSynchronized
  have hL : LA g ad σ o f s s.heap [] := LA_start hv
  have hl := lv_entry ([.ref (ad 0), .int p0, .ref o]) (n := 4) (Nat.le_of_ble_eq_true rfl)
  rw [lg_entry_eq]
  generalize (lg_sl ([.ref (ad 0), .int p0, .ref o]) ++ List.replicate (4 - (lg_sl ([.ref (ad 0), .int p0, .ref o])).length) Slot.unset).toArray = ls at hl ⊢
  have hl : lv_has ls 4 [(0, .ref (ad 0)), (1, .int p0), (2, .ref o)] := hl
  refine v_aload_n (P := True) S hl 2 rfl rfl dL_stop_0 (fun _ => ?_) trivial
  refine v_iconst (P := True) S 0 dL_stop_1 rfl (fun _ => ?_) trivial
  refine v_aload_n (P := True) S hl 0 rfl rfl dL_stop_2 (fun _ => ?_) trivial
  refine v_iload_n (P := True) S hl 1 rfl rfl dL_stop_3 (fun _ => ?_) trivial
  refine w_cls (rr := rr) S hL [.int p0] (met_X5_stop l hst g ad true (o + 1) σ 0 p0 rr h) mw_X5_stop rfl u60 dL_stop_4 rfl rfl hl.1 (Nat.le_of_ble_eq_true rfl) ⟨(Nat.le_of_ble_eq_true rfl), (Nat.le_of_ble_eq_true rfl)⟩ rfl rfl ⟨(Nat.le_of_ble_eq_true rfl), (Nat.le_of_ble_eq_true rfl)⟩ (fun k σ1 ce q9 H locs hrr hL hce hcv hcl => ?_) (fun r σ1 H locs hrr hL => ?_)
  · obtain ⟨c9, hc9⟩ := hk k σ1 hrr
    simp only [List.mem_cons, List.not_mem_nil, or_false, Prod.mk.injEq] at hc9
    rcases hc9 with ⟨rfl, rfl⟩ | ⟨rfl, rfl⟩
    · refine w_catch S hL htab (k := 1) (by decide) hce hcv hcl [] (0, 9, 12, 13) [(0, 9, 15, 21)] rfl (fun _ h => absurd h List.not_mem_nil) (by decide) (by decide) u7 ?_
      refine v_astore_n (P := True) S hl [(3, .ref q9), (0, .ref (ad 0)), (1, .int p0), (2, .ref o)] rfl dL_stop_12 (by decide) rfl (fun ls hl _ => ?_) trivial
      refine v_iconst (P := True) S 1 dL_stop_13 rfl (fun _ => ?_) trivial
      exact w_ret S hL hr hlk (Nat.le_of_ble_eq_true rfl) (Nat.le_of_ble_eq_true rfl) dL_stop_14 (by rw [hrr]; exact ⟨rfl, 1, by decide, rfl⟩)
    · refine w_catch S hL htab (k := 3) (by decide) hce hcv hcl [(0, 9, 12, 13)] (0, 9, 15, 21) [] rfl (List.forall_mem_cons.mpr ⟨⟨1, by decide, by decide, by decide, u7⟩, fun _ h => absurd h List.not_mem_nil⟩) (by decide) (by decide) u15 ?_
      refine v_astore_n (P := True) S hl [(3, .ref q9), (0, .ref (ad 0)), (1, .int p0), (2, .ref o)] rfl dL_stop_15 (by decide) rfl (fun ls hl _ => ?_) trivial
      refine v_iconst (P := True) S 2 dL_stop_16 rfl (fun _ => ?_) trivial
      exact w_ret S hL hr hlk (Nat.le_of_ble_eq_true rfl) (Nat.le_of_ble_eq_true rfl) dL_stop_17 (by rw [hrr]; exact ⟨rfl, 2, by decide, rfl⟩)
  · refine v_i2l (P := True) S dL_stop_7 (fun _ => ?_) trivial
    refine w_last S hL dL_stop_8 (fun f1 H locs hf1 hL => ?_)
    refine v_goto (P := True) S 18 dL_stop_9 (by decide) (fun _ => ?_) trivial
    refine v_iconst (P := True) S 0 dL_stop_18 rfl (fun _ => ?_) trivial
    exact w_ret S hL hr hlk (Nat.le_of_ble_eq_true rfl) (Nat.le_of_ble_eq_true rfl) dL_stop_19 (by rw [hrr]; exact ⟨rfl, rfl, hf1⟩)
set_option maxHeartbeats 4000000 in
set_option maxRecDepth 100000 in
theorem met_L_about (l : Launch) (hst : l.stackTraces = false) (g : GT) (ad : Nat → Nat) (σ : Mem) (o : Nat) (f : Nat → Int64) (p0 : Int32) (p1 : Int32) (rr : (Nat ⊕ Int32)) (h : fn_X5_about σ 0 p0 p1 = some rr) (hk : ∀ k σ1, (rr, σ) = ((.inl k, σ1) : (Nat ⊕ Int32) × Mem) → ∃ c, (k, c) ∈ [(1, 1)]) : vx_Met l yL_about (wsH yL_about cL_about 5 (some .int) [(0, 10, 13, 13)]) ({ frames := 8, cells := 2, slots := 12, locals := 163 } : Room) (va_Pc [.ref (ad 0), .int p0, .int p1, .ref o] (PO g ad σ o f)) (va_Qi (fun (r : Int32) (u : Mem × (Nat → Int64)) => okQ [(1, 1)] (rr, σ) r u) (GO g ad o) (AA g ad true o)) XCF 2 12 (AA g ad true o) := by
  refine vx_ofWH (cc := cL_about) (maxL := 5) (ret := (some .int)) (by decide) rfl ?_
  intro p e s m args below meth c s₁ B hml hv
  obtain ⟨rfl, hv⟩ := hv
  have S : CallFix p m c cL_about 5 s _ AL RL := ⟨B.exec, B.bytes, hml, findClass_of_methodNamed B.named, fun w h => atoms_spec (ws := wsH yL_about cL_about 5 (some .int) [(0, 10, 13, 13)]) B.pre w (List.mem_cons_of_mem _ h)⟩
  have htab := vx_table (x := yL_about) B (atoms_spec (ws := wsH yL_about cL_about 5 (some .int) [(0, 10, 13, 13)]) B.pre _ List.mem_cons_self)
  have hr := B.returns
  have hlk := B.notSynchronized
  have hL : LA g ad σ o f s s.heap [] := LA_start hv
  have hl := lv_entry ([.ref (ad 0), .int p0, .int p1, .ref o]) (n := 5) (Nat.le_of_ble_eq_true rfl)
  rw [lg_entry_eq]
  generalize (lg_sl ([.ref (ad 0), .int p0, .int p1, .ref o]) ++ List.replicate (5 - (lg_sl ([.ref (ad 0), .int p0, .int p1, .ref o])).length) Slot.unset).toArray = ls at hl ⊢
  have hl : lv_has ls 5 [(0, .ref (ad 0)), (1, .int p0), (2, .int p1), (3, .ref o)] := hl
  refine v_aload_n (P := True) S hl 3 rfl rfl dL_about_0 (fun _ => ?_) trivial
  refine v_iconst (P := True) S 0 dL_about_1 rfl (fun _ => ?_) trivial
  refine v_aload_n (P := True) S hl 0 rfl rfl dL_about_2 (fun _ => ?_) trivial
  refine v_iload_n (P := True) S hl 1 rfl rfl dL_about_3 (fun _ => ?_) trivial
  refine v_iload_n (P := True) S hl 2 rfl rfl dL_about_4 (fun _ => ?_) trivial
  refine w_cls (rr := (rr, σ)) S hL [.int p0, .int p1] (vx_up (met_X5_about l hst g ad true (o + 1) σ 0 p0 p1 rr h)) mw_X5_about rfl u66 dL_about_5 rfl rfl hl.1 (Nat.le_of_ble_eq_true rfl) ⟨(Nat.le_of_ble_eq_true rfl), (Nat.le_of_ble_eq_true rfl)⟩ rfl rfl ⟨(Nat.le_of_ble_eq_true rfl), (Nat.le_of_ble_eq_true rfl)⟩ (fun k σ1 ce q9 H locs hrr hL hce hcv hcl => ?_) (fun r σ1 H locs hrr hL => ?_)
  · obtain ⟨c9, hc9⟩ := hk k σ1 hrr
    simp only [List.mem_cons, List.not_mem_nil, or_false, Prod.mk.injEq] at hc9
    rcases hc9 with ⟨rfl, rfl⟩
    · refine w_catch S hL htab (k := 1) (by decide) hce hcv hcl [] (0, 10, 13, 13) [] rfl (fun _ h => absurd h List.not_mem_nil) (by decide) (by decide) u7 ?_
      refine v_astore (P := True) S hl [(4, .ref q9), (0, .ref (ad 0)), (1, .int p0), (2, .int p1), (3, .ref o)] dL_about_13 (by decide) rfl (fun ls hl _ => ?_) trivial
      refine v_iconst (P := True) S 1 dL_about_15 rfl (fun _ => ?_) trivial
      exact w_ret S hL hr hlk (Nat.le_of_ble_eq_true rfl) (Nat.le_of_ble_eq_true rfl) dL_about_16 (by rw [hrr]; exact ⟨rfl, 1, by decide, rfl⟩)
  · refine v_i2l (P := True) S dL_about_8 (fun _ => ?_) trivial
    refine w_last S hL dL_about_9 (fun f1 H locs hf1 hL => ?_)
    refine v_goto (P := True) S 17 dL_about_10 (by decide) (fun _ => ?_) trivial
    refine v_iconst (P := True) S 0 dL_about_17 rfl (fun _ => ?_) trivial
    exact w_ret S hL hr hlk (Nat.le_of_ble_eq_true rfl) (Nat.le_of_ble_eq_true rfl) dL_about_18 (by rw [hrr]; exact ⟨rfl, rfl, hf1⟩)
set_option maxHeartbeats 4000000 in
set_option maxRecDepth 100000 in
theorem met_L_heard (l : Launch) (hst : l.stackTraces = false) (g : GT) (ad : Nat → Nat) (σ : Mem) (o : Nat) (f : Nat → Int64) (p0 : Int32) (p1 : Int32) (rr : (Nat ⊕ Int32)) (h : fn_X5_heard σ 0 p0 p1 = some rr) (hk : ∀ k σ1, (rr, σ) = ((.inl k, σ1) : (Nat ⊕ Int32) × Mem) → ∃ c, (k, c) ∈ [(1, 1), (2, 2)]) : vx_Met l yL_heard (wsH yL_heard cL_heard 5 (some .int) [(0, 10, 13, 13), (0, 10, 17, 15)]) ({ frames := 8, cells := 2, slots := 12, locals := 164 } : Room) (va_Pc [.ref (ad 0), .int p0, .int p1, .ref o] (PO g ad σ o f)) (va_Qi (fun (r : Int32) (u : Mem × (Nat → Int64)) => okQ [(1, 1), (2, 2)] (rr, σ) r u) (GO g ad o) (AA g ad true o)) XCF 2 12 (AA g ad true o) := by
  refine vx_ofWH (cc := cL_heard) (maxL := 5) (ret := (some .int)) (by decide) rfl ?_
  intro p e s m args below meth c s₁ B hml hv
  obtain ⟨rfl, hv⟩ := hv
  have S : CallFix p m c cL_heard 5 s _ AL RL := ⟨B.exec, B.bytes, hml, findClass_of_methodNamed B.named, fun w h => atoms_spec (ws := wsH yL_heard cL_heard 5 (some .int) [(0, 10, 13, 13), (0, 10, 17, 15)]) B.pre w (List.mem_cons_of_mem _ h)⟩
  have htab := vx_table (x := yL_heard) B (atoms_spec (ws := wsH yL_heard cL_heard 5 (some .int) [(0, 10, 13, 13), (0, 10, 17, 15)]) B.pre _ List.mem_cons_self)
  have hr := B.returns
  have hlk := B.notSynchronized
  have hL : LA g ad σ o f s s.heap [] := LA_start hv
  have hl := lv_entry ([.ref (ad 0), .int p0, .int p1, .ref o]) (n := 5) (Nat.le_of_ble_eq_true rfl)
  rw [lg_entry_eq]
  generalize (lg_sl ([.ref (ad 0), .int p0, .int p1, .ref o]) ++ List.replicate (5 - (lg_sl ([.ref (ad 0), .int p0, .int p1, .ref o])).length) Slot.unset).toArray = ls at hl ⊢
  have hl : lv_has ls 5 [(0, .ref (ad 0)), (1, .int p0), (2, .int p1), (3, .ref o)] := hl
  refine v_aload_n (P := True) S hl 3 rfl rfl dL_heard_0 (fun _ => ?_) trivial
  refine v_iconst (P := True) S 0 dL_heard_1 rfl (fun _ => ?_) trivial
  refine v_aload_n (P := True) S hl 0 rfl rfl dL_heard_2 (fun _ => ?_) trivial
  refine v_iload_n (P := True) S hl 1 rfl rfl dL_heard_3 (fun _ => ?_) trivial
  refine v_iload_n (P := True) S hl 2 rfl rfl dL_heard_4 (fun _ => ?_) trivial
  refine w_cls (rr := (rr, σ)) S hL [.int p0, .int p1] (vx_up (met_X5_heard l hst g ad true (o + 1) σ 0 p0 p1 rr h)) mw_X5_heard rfl u72 dL_heard_5 rfl rfl hl.1 (Nat.le_of_ble_eq_true rfl) ⟨(Nat.le_of_ble_eq_true rfl), (Nat.le_of_ble_eq_true rfl)⟩ rfl rfl ⟨(Nat.le_of_ble_eq_true rfl), (Nat.le_of_ble_eq_true rfl)⟩ (fun k σ1 ce q9 H locs hrr hL hce hcv hcl => ?_) (fun r σ1 H locs hrr hL => ?_)
  · obtain ⟨c9, hc9⟩ := hk k σ1 hrr
    simp only [List.mem_cons, List.not_mem_nil, or_false, Prod.mk.injEq] at hc9
    rcases hc9 with ⟨rfl, rfl⟩ | ⟨rfl, rfl⟩
    · refine w_catch S hL htab (k := 1) (by decide) hce hcv hcl [] (0, 10, 13, 13) [(0, 10, 17, 15)] rfl (fun _ h => absurd h List.not_mem_nil) (by decide) (by decide) u7 ?_
      refine v_astore (P := True) S hl [(4, .ref q9), (0, .ref (ad 0)), (1, .int p0), (2, .int p1), (3, .ref o)] dL_heard_13 (by decide) rfl (fun ls hl _ => ?_) trivial
      refine v_iconst (P := True) S 1 dL_heard_15 rfl (fun _ => ?_) trivial
      exact w_ret S hL hr hlk (Nat.le_of_ble_eq_true rfl) (Nat.le_of_ble_eq_true rfl) dL_heard_16 (by rw [hrr]; exact ⟨rfl, 1, by decide, rfl⟩)
    · refine w_catch S hL htab (k := 2) (by decide) hce hcv hcl [(0, 10, 13, 13)] (0, 10, 17, 15) [] rfl (List.forall_mem_cons.mpr ⟨⟨1, by decide, by decide, by decide, u7⟩, fun _ h => absurd h List.not_mem_nil⟩) (by decide) (by decide) u8 ?_
      refine v_astore (P := True) S hl [(4, .ref q9), (0, .ref (ad 0)), (1, .int p0), (2, .int p1), (3, .ref o)] dL_heard_17 (by decide) rfl (fun ls hl _ => ?_) trivial
      refine v_iconst (P := True) S 2 dL_heard_19 rfl (fun _ => ?_) trivial
      exact w_ret S hL hr hlk (Nat.le_of_ble_eq_true rfl) (Nat.le_of_ble_eq_true rfl) dL_heard_20 (by rw [hrr]; exact ⟨rfl, 2, by decide, rfl⟩)
  · refine v_i2l (P := True) S dL_heard_8 (fun _ => ?_) trivial
    refine w_last S hL dL_heard_9 (fun f1 H locs hf1 hL => ?_)
    refine v_goto (P := True) S 21 dL_heard_10 (by decide) (fun _ => ?_) trivial
    refine v_iconst (P := True) S 0 dL_heard_21 rfl (fun _ => ?_) trivial
    exact w_ret S hL hr hlk (Nat.le_of_ble_eq_true rfl) (Nat.le_of_ble_eq_true rfl) dL_heard_22 (by rw [hrr]; exact ⟨rfl, rfl, hf1⟩)
set_option maxHeartbeats 4000000 in
set_option maxRecDepth 100000 in
theorem met_L_count (l : Launch) (hst : l.stackTraces = false) (g : GT) (ad : Nat → Nat) (σ : Mem) (o : Nat) (f : Nat → Int64) (p0 : Int32) (rr : (Nat ⊕ Int32)) (h : fn_X5_count σ 0 p0 = some rr) (hk : ∀ k σ1, (rr, σ) = ((.inl k, σ1) : (Nat ⊕ Int32) × Mem) → ∃ c, (k, c) ∈ [(1, 1)]) : vx_Met l yL_count (wsH yL_count cL_count 4 (some .int) [(0, 9, 12, 13)]) ({ frames := 8, cells := 1, slots := 6, locals := 162 } : Room) (va_Pc [.ref (ad 0), .int p0, .ref o] (PO g ad σ o f)) (va_Qi (fun (r : Int32) (u : Mem × (Nat → Int64)) => okQ [(1, 1)] (rr, σ) r u) (GO g ad o) (AA g ad true o)) XCF 1 6 (AA g ad true o) := by
  refine vx_ofWH (cc := cL_count) (maxL := 4) (ret := (some .int)) (by decide) rfl ?_
  intro p e s m args below meth c s₁ B hml hv
  obtain ⟨rfl, hv⟩ := hv
  have S : CallFix p m c cL_count 4 s _ AL RL := ⟨B.exec, B.bytes, hml, findClass_of_methodNamed B.named, fun w h => atoms_spec (ws := wsH yL_count cL_count 4 (some .int) [(0, 9, 12, 13)]) B.pre w (List.mem_cons_of_mem _ h)⟩
  have htab := vx_table (x := yL_count) B (atoms_spec (ws := wsH yL_count cL_count 4 (some .int) [(0, 9, 12, 13)]) B.pre _ List.mem_cons_self)
  have hr := B.returns
  have hlk := B.notSynchronized
  have hL : LA g ad σ o f s s.heap [] := LA_start hv
  have hl := lv_entry ([.ref (ad 0), .int p0, .ref o]) (n := 4) (Nat.le_of_ble_eq_true rfl)
  rw [lg_entry_eq]
  generalize (lg_sl ([.ref (ad 0), .int p0, .ref o]) ++ List.replicate (4 - (lg_sl ([.ref (ad 0), .int p0, .ref o])).length) Slot.unset).toArray = ls at hl ⊢
  have hl : lv_has ls 4 [(0, .ref (ad 0)), (1, .int p0), (2, .ref o)] := hl
  refine v_aload_n (P := True) S hl 2 rfl rfl dL_count_0 (fun _ => ?_) trivial
  refine v_iconst (P := True) S 0 dL_count_1 rfl (fun _ => ?_) trivial
  refine v_aload_n (P := True) S hl 0 rfl rfl dL_count_2 (fun _ => ?_) trivial
  refine v_iload_n (P := True) S hl 1 rfl rfl dL_count_3 (fun _ => ?_) trivial
  refine w_cls (rr := (rr, σ)) S hL [.int p0] (vx_up (met_X5_count l hst g ad true (o + 1) σ 0 p0 rr h)) mw_X5_count rfl u78 dL_count_4 rfl rfl hl.1 (Nat.le_of_ble_eq_true rfl) ⟨(Nat.le_of_ble_eq_true rfl), (Nat.le_of_ble_eq_true rfl)⟩ rfl rfl ⟨(Nat.le_of_ble_eq_true rfl), (Nat.le_of_ble_eq_true rfl)⟩ (fun k σ1 ce q9 H locs hrr hL hce hcv hcl => ?_) (fun r σ1 H locs hrr hL => ?_)
  · obtain ⟨c9, hc9⟩ := hk k σ1 hrr
    simp only [List.mem_cons, List.not_mem_nil, or_false, Prod.mk.injEq] at hc9
    rcases hc9 with ⟨rfl, rfl⟩
    · refine w_catch S hL htab (k := 1) (by decide) hce hcv hcl [] (0, 9, 12, 13) [] rfl (fun _ h => absurd h List.not_mem_nil) (by decide) (by decide) u7 ?_
      refine v_astore_n (P := True) S hl [(3, .ref q9), (0, .ref (ad 0)), (1, .int p0), (2, .ref o)] rfl dL_count_12 (by decide) rfl (fun ls hl _ => ?_) trivial
      refine v_iconst (P := True) S 1 dL_count_13 rfl (fun _ => ?_) trivial
      exact w_ret S hL hr hlk (Nat.le_of_ble_eq_true rfl) (Nat.le_of_ble_eq_true rfl) dL_count_14 (by rw [hrr]; exact ⟨rfl, 1, by decide, rfl⟩)
  · refine v_i2l (P := True) S dL_count_7 (fun _ => ?_) trivial
    refine w_last S hL dL_count_8 (fun f1 H locs hf1 hL => ?_)
    refine v_goto (P := True) S 15 dL_count_9 (by decide) (fun _ => ?_) trivial
    refine v_iconst (P := True) S 0 dL_count_15 rfl (fun _ => ?_) trivial
    exact w_ret S hL hr hlk (Nat.le_of_ble_eq_true rfl) (Nat.le_of_ble_eq_true rfl) dL_count_16 (by rw [hrr]; exact ⟨rfl, rfl, hf1⟩)
set_option maxHeartbeats 4000000 in
set_option maxRecDepth 100000 in
theorem met_L_pass (l : Launch) (hst : l.stackTraces = false) (g : GT) (ad : Nat → Nat) (σ : Mem) (o : Nat) (f : Nat → Int64) (p0 : Int32) (rr : ((Nat ⊕ Int32) × Mem)) (h : fn_X5_pass σ 0 p0 = some rr) (hk : ∀ k σ1, rr = ((.inl k, σ1) : (Nat ⊕ Int32) × Mem) → ∃ c, (k, c) ∈ [(2, 1)]) : vx_Met l yL_pass (wsH yL_pass cL_pass 4 (some .int) [(0, 9, 12, 15)]) ({ frames := 8, cells := 1, slots := 6, locals := 163 } : Room) (va_Pc [.ref (ad 0), .int p0, .ref o] (PO g ad σ o f)) (va_Qi (fun (r : Int32) (u : Mem × (Nat → Int64)) => okQ [(2, 1)] rr r u) (GO g ad o) (AA g ad true o)) XCF 1 6 (AA g ad true o) := by
  refine vx_ofWH (cc := cL_pass) (maxL := 4) (ret := (some .int)) (by decide) rfl ?_
  intro p e s m args below meth c s₁ B hml hv
  obtain ⟨rfl, hv⟩ := hv
  have S : CallFix p m c cL_pass 4 s _ AL RL := ⟨B.exec, B.bytes, hml, findClass_of_methodNamed B.named, fun w h => atoms_spec (ws := wsH yL_pass cL_pass 4 (some .int) [(0, 9, 12, 15)]) B.pre w (List.mem_cons_of_mem _ h)⟩
  have htab := vx_table (x := yL_pass) B (atoms_spec (ws := wsH yL_pass cL_pass 4 (some .int) [(0, 9, 12, 15)]) B.pre _ List.mem_cons_self)
  have hr := B.returns
  have hlk := B.notSynchronized
  have hL : LA g ad σ o f s s.heap [] := LA_start hv
  have hl := lv_entry ([.ref (ad 0), .int p0, .ref o]) (n := 4) (Nat.le_of_ble_eq_true rfl)
  rw [lg_entry_eq]
  generalize (lg_sl ([.ref (ad 0), .int p0, .ref o]) ++ List.replicate (4 - (lg_sl ([.ref (ad 0), .int p0, .ref o])).length) Slot.unset).toArray = ls at hl ⊢
  have hl : lv_has ls 4 [(0, .ref (ad 0)), (1, .int p0), (2, .ref o)] := hl
  refine v_aload_n (P := True) S hl 2 rfl rfl dL_pass_0 (fun _ => ?_) trivial
  refine v_iconst (P := True) S 0 dL_pass_1 rfl (fun _ => ?_) trivial
  refine v_aload_n (P := True) S hl 0 rfl rfl dL_pass_2 (fun _ => ?_) trivial
  refine v_iload_n (P := True) S hl 1 rfl rfl dL_pass_3 (fun _ => ?_) trivial
  refine w_cls (rr := rr) S hL [.int p0] (met_X5_pass l hst g ad true (o + 1) σ 0 p0 rr h) mw_X5_pass rfl u84 dL_pass_4 rfl rfl hl.1 (Nat.le_of_ble_eq_true rfl) ⟨(Nat.le_of_ble_eq_true rfl), (Nat.le_of_ble_eq_true rfl)⟩ rfl rfl ⟨(Nat.le_of_ble_eq_true rfl), (Nat.le_of_ble_eq_true rfl)⟩ (fun k σ1 ce q9 H locs hrr hL hce hcv hcl => ?_) (fun r σ1 H locs hrr hL => ?_)
  · obtain ⟨c9, hc9⟩ := hk k σ1 hrr
    simp only [List.mem_cons, List.not_mem_nil, or_false, Prod.mk.injEq] at hc9
    rcases hc9 with ⟨rfl, rfl⟩
    · refine w_catch S hL htab (k := 2) (by decide) hce hcv hcl [] (0, 9, 12, 15) [] rfl (fun _ h => absurd h List.not_mem_nil) (by decide) (by decide) u8 ?_
      refine v_astore_n (P := True) S hl [(3, .ref q9), (0, .ref (ad 0)), (1, .int p0), (2, .ref o)] rfl dL_pass_12 (by decide) rfl (fun ls hl _ => ?_) trivial
      refine v_iconst (P := True) S 1 dL_pass_13 rfl (fun _ => ?_) trivial
      exact w_ret S hL hr hlk (Nat.le_of_ble_eq_true rfl) (Nat.le_of_ble_eq_true rfl) dL_pass_14 (by rw [hrr]; exact ⟨rfl, 1, by decide, rfl⟩)
  · refine v_i2l (P := True) S dL_pass_7 (fun _ => ?_) trivial
    refine w_last S hL dL_pass_8 (fun f1 H locs hf1 hL => ?_)
    refine v_goto (P := True) S 15 dL_pass_9 (by decide) (fun _ => ?_) trivial
    refine v_iconst (P := True) S 0 dL_pass_15 rfl (fun _ => ?_) trivial
    exact w_ret S hL hr hlk (Nat.le_of_ble_eq_true rfl) (Nat.le_of_ble_eq_true rfl) dL_pass_16 (by rw [hrr]; exact ⟨rfl, rfl, hf1⟩)
set_option maxHeartbeats 4000000 in
set_option maxRecDepth 100000 in
theorem met_L_ends (l : Launch) (hst : l.stackTraces = false) (g : GT) (ad : Nat → Nat) (σ : Mem) (o : Nat) (f : Nat → Int64) (p0 : Int32) (rr : ((Nat ⊕ Int32) × Mem)) (h : fn_X5_ends σ 0 p0 = some rr) (hk : ∀ k σ1, rr = ((.inl k, σ1) : (Nat ⊕ Int32) × Mem) → ∃ c, (k, c) ∈ [(1, 1)]) : vx_Met l yL_ends (wsH yL_ends cL_ends 4 (some .int) [(0, 9, 12, 13)]) ({ frames := 8, cells := 1, slots := 6, locals := 162 } : Room) (va_Pc [.ref (ad 0), .int p0, .ref o] (PO g ad σ o f)) (va_Qi (fun (r : Int32) (u : Mem × (Nat → Int64)) => okQ [(1, 1)] rr r u) (GO g ad o) (AA g ad true o)) XCF 1 6 (AA g ad true o) := by
  refine vx_ofWH (cc := cL_ends) (maxL := 4) (ret := (some .int)) (by decide) rfl ?_
  intro p e s m args below meth c s₁ B hml hv
  obtain ⟨rfl, hv⟩ := hv
  have S : CallFix p m c cL_ends 4 s _ AL RL := ⟨B.exec, B.bytes, hml, findClass_of_methodNamed B.named, fun w h => atoms_spec (ws := wsH yL_ends cL_ends 4 (some .int) [(0, 9, 12, 13)]) B.pre w (List.mem_cons_of_mem _ h)⟩
  have htab := vx_table (x := yL_ends) B (atoms_spec (ws := wsH yL_ends cL_ends 4 (some .int) [(0, 9, 12, 13)]) B.pre _ List.mem_cons_self)
  have hr := B.returns
  have hlk := B.notSynchronized
  have hL : LA g ad σ o f s s.heap [] := LA_start hv
  have hl := lv_entry ([.ref (ad 0), .int p0, .ref o]) (n := 4) (Nat.le_of_ble_eq_true rfl)
  rw [lg_entry_eq]
  generalize (lg_sl ([.ref (ad 0), .int p0, .ref o]) ++ List.replicate (4 - (lg_sl ([.ref (ad 0), .int p0, .ref o])).length) Slot.unset).toArray = ls at hl ⊢
  have hl : lv_has ls 4 [(0, .ref (ad 0)), (1, .int p0), (2, .ref o)] := hl
  refine v_aload_n (P := True) S hl 2 rfl rfl dL_ends_0 (fun _ => ?_) trivial
  refine v_iconst (P := True) S 0 dL_ends_1 rfl (fun _ => ?_) trivial
  refine v_aload_n (P := True) S hl 0 rfl rfl dL_ends_2 (fun _ => ?_) trivial
  refine v_iload_n (P := True) S hl 1 rfl rfl dL_ends_3 (fun _ => ?_) trivial
  refine w_cls (rr := rr) S hL [.int p0] (met_X5_ends l hst g ad true (o + 1) σ 0 p0 rr h) mw_X5_ends rfl u90 dL_ends_4 rfl rfl hl.1 (Nat.le_of_ble_eq_true rfl) ⟨(Nat.le_of_ble_eq_true rfl), (Nat.le_of_ble_eq_true rfl)⟩ rfl rfl ⟨(Nat.le_of_ble_eq_true rfl), (Nat.le_of_ble_eq_true rfl)⟩ (fun k σ1 ce q9 H locs hrr hL hce hcv hcl => ?_) (fun r σ1 H locs hrr hL => ?_)
  · obtain ⟨c9, hc9⟩ := hk k σ1 hrr
    simp only [List.mem_cons, List.not_mem_nil, or_false, Prod.mk.injEq] at hc9
    rcases hc9 with ⟨rfl, rfl⟩
    · refine w_catch S hL htab (k := 1) (by decide) hce hcv hcl [] (0, 9, 12, 13) [] rfl (fun _ h => absurd h List.not_mem_nil) (by decide) (by decide) u7 ?_
      refine v_astore_n (P := True) S hl [(3, .ref q9), (0, .ref (ad 0)), (1, .int p0), (2, .ref o)] rfl dL_ends_12 (by decide) rfl (fun ls hl _ => ?_) trivial
      refine v_iconst (P := True) S 1 dL_ends_13 rfl (fun _ => ?_) trivial
      exact w_ret S hL hr hlk (Nat.le_of_ble_eq_true rfl) (Nat.le_of_ble_eq_true rfl) dL_ends_14 (by rw [hrr]; exact ⟨rfl, 1, by decide, rfl⟩)
  · refine v_i2l (P := True) S dL_ends_7 (fun _ => ?_) trivial
    refine w_last S hL dL_ends_8 (fun f1 H locs hf1 hL => ?_)
    refine v_goto (P := True) S 15 dL_ends_9 (by decide) (fun _ => ?_) trivial
    refine v_iconst (P := True) S 0 dL_ends_15 rfl (fun _ => ?_) trivial
    exact w_ret S hL hr hlk (Nat.le_of_ble_eq_true rfl) (Nat.le_of_ble_eq_true rfl) dL_ends_16 (by rw [hrr]; exact ⟨rfl, rfl, hf1⟩)
set_option maxHeartbeats 4000000 in
set_option maxRecDepth 100000 in
theorem met_L_foresee (l : Launch) (hst : l.stackTraces = false) (g : GT) (ad : Nat → Nat) (σ : Mem) (o : Nat) (f : Nat → Int64) (p0 : Int32) (p1 : Int32) (rr : ((Nat ⊕ Int32) × Mem)) (h : fn_X5_foresee σ 0 p0 p1 = some rr) (hk : ∀ k σ1, rr = ((.inl k, σ1) : (Nat ⊕ Int32) × Mem) → ∃ c, (k, c) ∈ [(2, 1), (1, 2)]) : vx_Met l yL_foresee (wsH yL_foresee cL_foresee 5 (some .int) [(0, 10, 13, 15), (0, 10, 17, 13)]) ({ frames := 8, cells := 2, slots := 12, locals := 164 } : Room) (va_Pc [.ref (ad 0), .int p0, .int p1, .ref o] (PO g ad σ o f)) (va_Qi (fun (r : Int32) (u : Mem × (Nat → Int64)) => okQ [(2, 1), (1, 2)] rr r u) (GO g ad o) (AA g ad true o)) XCF 2 12 (AA g ad true o) := by
  refine vx_ofWH (cc := cL_foresee) (maxL := 5) (ret := (some .int)) (by decide) rfl ?_
  intro p e s m args below meth c s₁ B hml hv
  obtain ⟨rfl, hv⟩ := hv
  have S : CallFix p m c cL_foresee 5 s _ AL RL := ⟨B.exec, B.bytes, hml, findClass_of_methodNamed B.named, fun w h => atoms_spec (ws := wsH yL_foresee cL_foresee 5 (some .int) [(0, 10, 13, 15), (0, 10, 17, 13)]) B.pre w (List.mem_cons_of_mem _ h)⟩
  have htab := vx_table (x := yL_foresee) B (atoms_spec (ws := wsH yL_foresee cL_foresee 5 (some .int) [(0, 10, 13, 15), (0, 10, 17, 13)]) B.pre _ List.mem_cons_self)
  have hr := B.returns
  have hlk := B.notSynchronized
  have hL : LA g ad σ o f s s.heap [] := LA_start hv
  have hl := lv_entry ([.ref (ad 0), .int p0, .int p1, .ref o]) (n := 5) (Nat.le_of_ble_eq_true rfl)
  rw [lg_entry_eq]
  generalize (lg_sl ([.ref (ad 0), .int p0, .int p1, .ref o]) ++ List.replicate (5 - (lg_sl ([.ref (ad 0), .int p0, .int p1, .ref o])).length) Slot.unset).toArray = ls at hl ⊢
  have hl : lv_has ls 5 [(0, .ref (ad 0)), (1, .int p0), (2, .int p1), (3, .ref o)] := hl
  refine v_aload_n (P := True) S hl 3 rfl rfl dL_foresee_0 (fun _ => ?_) trivial
  refine v_iconst (P := True) S 0 dL_foresee_1 rfl (fun _ => ?_) trivial
  refine v_aload_n (P := True) S hl 0 rfl rfl dL_foresee_2 (fun _ => ?_) trivial
  refine v_iload_n (P := True) S hl 1 rfl rfl dL_foresee_3 (fun _ => ?_) trivial
  refine v_iload_n (P := True) S hl 2 rfl rfl dL_foresee_4 (fun _ => ?_) trivial
  refine w_cls (rr := rr) S hL [.int p0, .int p1] (met_X5_foresee l hst g ad true (o + 1) σ 0 p0 p1 rr h) mw_X5_foresee rfl u96 dL_foresee_5 rfl rfl hl.1 (Nat.le_of_ble_eq_true rfl) ⟨(Nat.le_of_ble_eq_true rfl), (Nat.le_of_ble_eq_true rfl)⟩ rfl rfl ⟨(Nat.le_of_ble_eq_true rfl), (Nat.le_of_ble_eq_true rfl)⟩ (fun k σ1 ce q9 H locs hrr hL hce hcv hcl => ?_) (fun r σ1 H locs hrr hL => ?_)
  · obtain ⟨c9, hc9⟩ := hk k σ1 hrr
    simp only [List.mem_cons, List.not_mem_nil, or_false, Prod.mk.injEq] at hc9
    rcases hc9 with ⟨rfl, rfl⟩ | ⟨rfl, rfl⟩
    · refine w_catch S hL htab (k := 2) (by decide) hce hcv hcl [] (0, 10, 13, 15) [(0, 10, 17, 13)] rfl (fun _ h => absurd h List.not_mem_nil) (by decide) (by decide) u8 ?_
      refine v_astore (P := True) S hl [(4, .ref q9), (0, .ref (ad 0)), (1, .int p0), (2, .int p1), (3, .ref o)] dL_foresee_13 (by decide) rfl (fun ls hl _ => ?_) trivial
      refine v_iconst (P := True) S 1 dL_foresee_15 rfl (fun _ => ?_) trivial
      exact w_ret S hL hr hlk (Nat.le_of_ble_eq_true rfl) (Nat.le_of_ble_eq_true rfl) dL_foresee_16 (by rw [hrr]; exact ⟨rfl, 1, by decide, rfl⟩)
    · refine w_catch S hL htab (k := 1) (by decide) hce hcv hcl [(0, 10, 13, 15)] (0, 10, 17, 13) [] rfl (List.forall_mem_cons.mpr ⟨⟨2, by decide, by decide, by decide, u8⟩, fun _ h => absurd h List.not_mem_nil⟩) (by decide) (by decide) u7 ?_
      refine v_astore (P := True) S hl [(4, .ref q9), (0, .ref (ad 0)), (1, .int p0), (2, .int p1), (3, .ref o)] dL_foresee_17 (by decide) rfl (fun ls hl _ => ?_) trivial
      refine v_iconst (P := True) S 2 dL_foresee_19 rfl (fun _ => ?_) trivial
      exact w_ret S hL hr hlk (Nat.le_of_ble_eq_true rfl) (Nat.le_of_ble_eq_true rfl) dL_foresee_20 (by rw [hrr]; exact ⟨rfl, 2, by decide, rfl⟩)
  · refine v_i2l (P := True) S dL_foresee_8 (fun _ => ?_) trivial
    refine w_last S hL dL_foresee_9 (fun f1 H locs hf1 hL => ?_)
    refine v_goto (P := True) S 21 dL_foresee_10 (by decide) (fun _ => ?_) trivial
    refine v_iconst (P := True) S 0 dL_foresee_21 rfl (fun _ => ?_) trivial
    exact w_ret S hL hr hlk (Nat.le_of_ble_eq_true rfl) (Nat.le_of_ble_eq_true rfl) dL_foresee_22 (by rw [hrr]; exact ⟨rfl, rfl, hf1⟩)
set_option maxHeartbeats 4000000 in
set_option maxRecDepth 100000 in
theorem met_L_choose (l : Launch) (hst : l.stackTraces = false) (g : GT) (ad : Nat → Nat) (σ : Mem) (o : Nat) (f : Nat → Int64) (p0 : Int32) (p1 : Int32) (p2 : Int32) (rr : ((Nat ⊕ Int32) × Mem)) (h : fn_X5_choose σ 0 p0 p1 p2 = some rr) (hk : ∀ k σ1, rr = ((.inl k, σ1) : (Nat ⊕ Int32) × Mem) → ∃ c, (k, c) ∈ [(2, 1)]) : vx_Met l yL_choose (wsH yL_choose cL_choose 6 (some .int) [(0, 12, 15, 15)]) ({ frames := 9, cells := 3, slots := 18, locals := 192 } : Room) (va_Pc [.ref (ad 0), .int p0, .int p1, .int p2, .ref o] (PO g ad σ o f)) (va_Qi (fun (r : Int32) (u : Mem × (Nat → Int64)) => okQ [(2, 1)] rr r u) (GO g ad o) (AA g ad true o)) XCF 3 18 (AA g ad true o) := by
  refine vx_ofWH (cc := cL_choose) (maxL := 6) (ret := (some .int)) (by decide) rfl ?_
  intro p e s m args below meth c s₁ B hml hv
  obtain ⟨rfl, hv⟩ := hv
  have S : CallFix p m c cL_choose 6 s _ AL RL := ⟨B.exec, B.bytes, hml, findClass_of_methodNamed B.named, fun w h => atoms_spec (ws := wsH yL_choose cL_choose 6 (some .int) [(0, 12, 15, 15)]) B.pre w (List.mem_cons_of_mem _ h)⟩
  have htab := vx_table (x := yL_choose) B (atoms_spec (ws := wsH yL_choose cL_choose 6 (some .int) [(0, 12, 15, 15)]) B.pre _ List.mem_cons_self)
  have hr := B.returns
  have hlk := B.notSynchronized
  have hL : LA g ad σ o f s s.heap [] := LA_start hv
  have hl := lv_entry ([.ref (ad 0), .int p0, .int p1, .int p2, .ref o]) (n := 6) (Nat.le_of_ble_eq_true rfl)
  rw [lg_entry_eq]
  generalize (lg_sl ([.ref (ad 0), .int p0, .int p1, .int p2, .ref o]) ++ List.replicate (6 - (lg_sl ([.ref (ad 0), .int p0, .int p1, .int p2, .ref o])).length) Slot.unset).toArray = ls at hl ⊢
  have hl : lv_has ls 6 [(0, .ref (ad 0)), (1, .int p0), (2, .int p1), (3, .int p2), (4, .ref o)] := hl
  refine v_aload (P := True) S hl 4 rfl dL_choose_0 (fun _ => ?_) trivial
  refine v_iconst (P := True) S 0 dL_choose_2 rfl (fun _ => ?_) trivial
  refine v_aload_n (P := True) S hl 0 rfl rfl dL_choose_3 (fun _ => ?_) trivial
  refine v_iload_n (P := True) S hl 1 rfl rfl dL_choose_4 (fun _ => ?_) trivial
  refine v_iload_n (P := True) S hl 2 rfl rfl dL_choose_5 (fun _ => ?_) trivial
  refine v_iload_n (P := True) S hl 3 rfl rfl dL_choose_6 (fun _ => ?_) trivial
  refine w_cls (rr := rr) S hL [.int p0, .int p1, .int p2] (met_X5_choose l hst g ad true (o + 1) σ 0 p0 p1 p2 rr h) mw_X5_choose rfl u102 dL_choose_7 rfl rfl hl.1 (Nat.le_of_ble_eq_true rfl) ⟨(Nat.le_of_ble_eq_true rfl), (Nat.le_of_ble_eq_true rfl)⟩ rfl rfl ⟨(Nat.le_of_ble_eq_true rfl), (Nat.le_of_ble_eq_true rfl)⟩ (fun k σ1 ce q9 H locs hrr hL hce hcv hcl => ?_) (fun r σ1 H locs hrr hL => ?_)
  · obtain ⟨c9, hc9⟩ := hk k σ1 hrr
    simp only [List.mem_cons, List.not_mem_nil, or_false, Prod.mk.injEq] at hc9
    rcases hc9 with ⟨rfl, rfl⟩
    · refine w_catch S hL htab (k := 2) (by decide) hce hcv hcl [] (0, 12, 15, 15) [] rfl (fun _ h => absurd h List.not_mem_nil) (by decide) (by decide) u8 ?_
      refine v_astore (P := True) S hl [(5, .ref q9), (0, .ref (ad 0)), (1, .int p0), (2, .int p1), (3, .int p2), (4, .ref o)] dL_choose_15 (by decide) rfl (fun ls hl _ => ?_) trivial
      refine v_iconst (P := True) S 1 dL_choose_17 rfl (fun _ => ?_) trivial
      exact w_ret S hL hr hlk (Nat.le_of_ble_eq_true rfl) (Nat.le_of_ble_eq_true rfl) dL_choose_18 (by rw [hrr]; exact ⟨rfl, 1, by decide, rfl⟩)
  · refine v_i2l (P := True) S dL_choose_10 (fun _ => ?_) trivial
    refine w_last S hL dL_choose_11 (fun f1 H locs hf1 hL => ?_)
    refine v_goto (P := True) S 19 dL_choose_12 (by decide) (fun _ => ?_) trivial
    refine v_iconst (P := True) S 0 dL_choose_19 rfl (fun _ => ?_) trivial
    exact w_ret S hL hr hlk (Nat.le_of_ble_eq_true rfl) (Nat.le_of_ble_eq_true rfl) dL_choose_20 (by rw [hrr]; exact ⟨rfl, rfl, hf1⟩)
