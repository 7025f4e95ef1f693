theorem q0 : Cond.static Lib.Math.max.name ∈ AL := AL_in (tq2 (List.mem_of_getElem? (i := 39) rfl)) rfl
theorem q1 : Cond.initialized "java/lang/Math" ∈ AL := AL_in (tq1 (List.mem_of_getElem? (i := 15) rfl)) rfl
theorem q2 : Cond.code Lib.Math.max.name Lib.Math.max.code 2 (some .int) ∈ AL := AL_in (tq2 (List.mem_of_getElem? (i := 40) rfl)) rfl
theorem q3 : Cond.static Lib.Math.min.name ∈ AL := AL_in (tq2 (List.mem_of_getElem? (i := 189) rfl)) rfl
theorem q4 : Cond.code Lib.Math.min.name Lib.Math.min.code 2 (some .int) ∈ AL := AL_in (tq2 (List.mem_of_getElem? (i := 190) rfl)) rfl
theorem q5 : Cond.native arraycopyName ∈ AL := AL_in (tq5 (List.mem_of_getElem? (i := 2) rfl)) rfl
theorem q6 : Cond.static arraycopyName ∈ AL := AL_in (tq5 (List.mem_of_getElem? (i := 1) rfl)) rfl
theorem q7 : Cond.initialized "java/lang/System" ∈ AL := AL_in (tq1 (List.mem_of_getElem? (i := 16) rfl)) rfl
theorem mw_max : Cond.static Lib.Math.max.name ∈ AL ∧ Cond.initialized "java/lang/Math" ∈ AL ∧ Cond.code Lib.Math.max.name Lib.Math.max.code 2 (some .int) ∈ AL := ⟨q0, q1, q2⟩
theorem mw_min : Cond.static Lib.Math.min.name ∈ AL ∧ Cond.initialized "java/lang/Math" ∈ AL ∧ Cond.code Lib.Math.min.name Lib.Math.min.code 2 (some .int) ∈ AL := ⟨q3, q1, q4⟩
theorem mw_copy : Cond.native arraycopyName ∈ AL ∧ Cond.static arraycopyName ∈ AL ∧ Cond.initialized "java/lang/System" ∈ AL := ⟨q5, q6, q7⟩
theorem q8 : Cond.classLink RX5 157 "java/lang/IndexOutOfBoundsException" ∈ AL := AL_in (tq2 (List.mem_of_getElem? (i := 65) rfl)) rfl
theorem q9 : Cond.initialized "java/lang/IndexOutOfBoundsException" ∈ AL := AL_in (tq1 (List.mem_of_getElem? (i := 12) rfl)) rfl
theorem hg1_157 : ∀ w ∈ Cond.classLink RX5 157 "java/lang/IndexOutOfBoundsException" :: Cond.initialized "java/lang/IndexOutOfBoundsException" :: vx_atS RX5 161 "java/lang/IndexOutOfBoundsException" nmX, vx_ot w = true := by decide +kernel
theorem q11 : Cond.methodLink RX5 39 yX5_needIndex ∈ AL := AL_in (tq2 (List.mem_of_getElem? (i := 62) rfl)) rfl
theorem q12 : Cond.code yX5_needIndex cX5_needIndex 2 none ∈ AL := AL_in (tq2 (List.mem_of_getElem? (i := 64) rfl)) rfl
theorem q13 : Cond.initialized "MuffledTolls" ∈ AL := AL_in (tq1 (List.mem_of_getElem? (i := 1) rfl)) rfl
theorem q14 : Cond.static yX5_needIndex ∈ AL := AL_in (tq2 (List.mem_of_getElem? (i := 63) rfl)) rfl
theorem mw_X5_needIndex : MS yX5_needIndex cX5_needIndex 2 none 2 := ⟨q14, q13, q12, by decide +kernel⟩
theorem q15 : Cond.classLink RX5 183 "java/lang/IllegalArgumentException" ∈ AL := AL_in (tq2 (List.mem_of_getElem? (i := 136) rfl)) rfl
theorem q16 : Cond.initialized "java/lang/IllegalArgumentException" ∈ AL := AL_in (tq1 (List.mem_of_getElem? (i := 13) rfl)) rfl
theorem hg2_183 : ∀ w ∈ Cond.classLink RX5 183 "java/lang/IllegalArgumentException" :: Cond.initialized "java/lang/IllegalArgumentException" :: vx_atS RX5 187 "java/lang/IllegalArgumentException" nmX, vx_ot w = true := by decide +kernel
theorem q18 : Cond.methodLink RX5 21 yX5_needBell ∈ AL := AL_in (tq2 (List.mem_of_getElem? (i := 59) rfl)) rfl
theorem q19 : Cond.code yX5_needBell cX5_needBell 1 none ∈ AL := AL_in (tq2 (List.mem_of_getElem? (i := 61) rfl)) rfl
theorem q20 : Cond.static yX5_needBell ∈ AL := AL_in (tq2 (List.mem_of_getElem? (i := 60) rfl)) rfl
theorem mw_X5_needBell : MS yX5_needBell cX5_needBell 1 none 1 := ⟨q20, q13, q19, by decide +kernel⟩
theorem q21 : Cond.methodLink RX5 25 yX5_needBetween ∈ AL := AL_in (tq2 (List.mem_of_getElem? (i := 133) rfl)) rfl
theorem q22 : Cond.code yX5_needBetween cX5_needBetween 3 none ∈ AL := AL_in (tq2 (List.mem_of_getElem? (i := 135) rfl)) rfl
theorem q23 : Cond.static yX5_needBetween ∈ AL := AL_in (tq2 (List.mem_of_getElem? (i := 134) rfl)) rfl
theorem mw_X5_needBetween : MS yX5_needBetween cX5_needBetween 3 none 3 := ⟨q23, q13, q22, by decide +kernel⟩
theorem q24 : Cond.fieldLink RX5 12 "MuffledTolls" "tower" "LMuffledTolls$Tower;" ∈ AL := AL_in (tq1 (List.mem_of_getElem? (i := 182) rfl)) rfl
theorem q25 : Cond.fieldLink RX5 29 "MuffledTolls$Tower" "bells" "[LMuffledTolls$Bell;" ∈ AL := AL_in (tq1 (List.mem_of_getElem? (i := 155) rfl)) rfl
theorem q26 : Cond.fieldLink RX5 33 "MuffledTolls$Bell" "weight" "I" ∈ AL := AL_in (tq1 (List.mem_of_getElem? (i := 58) rfl)) rfl
theorem q27 : Cond.fieldLink RX0 18 "MuffledTolls$Bell" "back" "LMuffledTolls$Leather;" ∈ AL := AL_in (tq1 (List.mem_of_getElem? (i := 55) rfl)) rfl
theorem q28 : Cond.fieldLink RX0 12 "MuffledTolls$Bell" "hand" "LMuffledTolls$Leather;" ∈ AL := AL_in (tq1 (List.mem_of_getElem? (i := 53) rfl)) rfl
theorem q29 : Cond.fieldLink RX1 7 "MuffledTolls$Leather" "thick" "I" ∈ AL := AL_in (tq1 (List.mem_of_getElem? (i := 44) rfl)) rfl
theorem q30 : Cond.fieldLink RX1 13 "MuffledTolls$Leather" "worn" "I" ∈ AL := AL_in (tq1 (List.mem_of_getElem? (i := 47) rfl)) rfl
theorem q31 : Cond.methodLink RX5 53 yX0_leather ∈ AL := AL_in (tq2 (List.mem_of_getElem? (i := 176) rfl)) rfl
theorem q32 : Cond.code yX0_leather cX0_leather 2 (some (.object "MuffledTolls$Leather")) ∈ AL := AL_in (tq1 (List.mem_of_getElem? (i := 234) rfl)) rfl
theorem q33 : Cond.initialized "MuffledTolls$Bell" ∈ AL := AL_in (tq1 (List.mem_of_getElem? (i := 3) rfl)) rfl
theorem q34 : Cond.instanceMethod yX0_leather ∈ AL := AL_in (tq1 (List.mem_of_getElem? (i := 232) rfl)) rfl
theorem q35 : Cond.selects yX0_leather.cls yX0_leather yX0_leather ∈ AL := AL_in (tq1 (List.mem_of_getElem? (i := 233) rfl)) rfl
theorem mw_X0_leather : MW yX0_leather cX0_leather 2 (some (.object "MuffledTolls$Leather")) 1 := ⟨q34, q35, q33, q32, by decide +kernel⟩
theorem q36 : Cond.fieldLink RX5 57 "MuffledTolls$Leather" "thick" "I" ∈ AL := AL_in (tq1 (List.mem_of_getElem? (i := 45) rfl)) rfl
theorem q37 : Cond.methodLink RX5 62 yX1_renew ∈ AL := AL_in (tq2 (List.mem_of_getElem? (i := 177) rfl)) rfl
theorem q38 : Cond.code yX1_renew cX1_renew 2 none ∈ AL := AL_in (tq2 (List.mem_of_getElem? (i := 180) rfl)) rfl
theorem q39 : Cond.initialized "MuffledTolls$Leather" ∈ AL := AL_in (tq1 (List.mem_of_getElem? (i := 4) rfl)) rfl
theorem q40 : Cond.instanceMethod yX1_renew ∈ AL := AL_in (tq2 (List.mem_of_getElem? (i := 178) rfl)) rfl
theorem q41 : Cond.selects yX1_renew.cls yX1_renew yX1_renew ∈ AL := AL_in (tq2 (List.mem_of_getElem? (i := 179) rfl)) rfl
theorem mw_X1_renew : MW yX1_renew cX1_renew 2 none 1 := ⟨q40, q41, q39, q38, by decide +kernel⟩
theorem q42 : Cond.fieldLink RX5 43 "MuffledTolls$Tower" "store" "I" ∈ AL := AL_in (tq1 (List.mem_of_getElem? (i := 166) rfl)) rfl
theorem q43 : Cond.classLink RX5 46 "java/lang/IllegalStateException" ∈ AL := AL_in (tq2 (List.mem_of_getElem? (i := 160) rfl)) rfl
theorem q44 : Cond.initialized "java/lang/IllegalStateException" ∈ AL := AL_in (tq1 (List.mem_of_getElem? (i := 14) rfl)) rfl
theorem hg3_46 : ∀ w ∈ Cond.classLink RX5 46 "java/lang/IllegalStateException" :: Cond.initialized "java/lang/IllegalStateException" :: vx_atS RX5 50 "java/lang/IllegalStateException" nmX, vx_ot w = true := by decide +kernel
theorem q46 : Cond.methodLink RX5 65 Lib.Math.min.name ∈ AL := AL_in (tq2 (List.mem_of_getElem? (i := 188) rfl)) rfl
theorem q47 : Cond.methodLink RX0 44 yX0_leather ∈ AL := AL_in (tq2 (List.mem_of_getElem? (i := 11) rfl)) rfl
theorem q48 : Cond.fieldLink RX0 28 "MuffledTolls$Bell" "weight" "I" ∈ AL := AL_in (tq1 (List.mem_of_getElem? (i := 57) rfl)) rfl
theorem q49 : Cond.methodLink RX0 48 yX1_strokesLeft ∈ AL := AL_in (tq2 (List.mem_of_getElem? (i := 12) rfl)) rfl
theorem q50 : Cond.code yX1_strokesLeft cX1_strokesLeft 2 (some .int) ∈ AL := AL_in (tq2 (List.mem_of_getElem? (i := 15) rfl)) rfl
theorem q51 : Cond.instanceMethod yX1_strokesLeft ∈ AL := AL_in (tq2 (List.mem_of_getElem? (i := 13) rfl)) rfl
theorem q52 : Cond.selects yX1_strokesLeft.cls yX1_strokesLeft yX1_strokesLeft ∈ AL := AL_in (tq2 (List.mem_of_getElem? (i := 14) rfl)) rfl
theorem mw_X1_strokesLeft : MW yX1_strokesLeft cX1_strokesLeft 2 (some .int) 1 := ⟨q51, q52, q39, q50, by decide +kernel⟩
theorem q53 : Cond.methodLink RX5 71 yX0_strokesLeft ∈ AL := AL_in (tq2 (List.mem_of_getElem? (i := 7) rfl)) rfl
theorem q54 : Cond.code yX0_strokesLeft cX0_strokesLeft 2 (some .int) ∈ AL := AL_in (tq2 (List.mem_of_getElem? (i := 10) rfl)) rfl
theorem q55 : Cond.instanceMethod yX0_strokesLeft ∈ AL := AL_in (tq2 (List.mem_of_getElem? (i := 8) rfl)) rfl
theorem q56 : Cond.selects yX0_strokesLeft.cls yX0_strokesLeft yX0_strokesLeft ∈ AL := AL_in (tq2 (List.mem_of_getElem? (i := 9) rfl)) rfl
theorem mw_X0_strokesLeft : MW yX0_strokesLeft cX0_strokesLeft 2 (some .int) 1 := ⟨q55, q56, q33, q54, by decide +kernel⟩
theorem q57 : Cond.fieldLink RX3 9 "MuffledTolls$Toll" "doneIn" "I" ∈ AL := AL_in (tq1 (List.mem_of_getElem? (i := 134) rfl)) rfl
theorem q58 : Cond.fieldLink RX4 50 "MuffledTolls$Tower" "tollCount" "I" ∈ AL := AL_in (tq1 (List.mem_of_getElem? (i := 163) rfl)) rfl
theorem q59 : Cond.fieldLink RX4 29 "MuffledTolls$Tower" "tolls" "[LMuffledTolls$Toll;" ∈ AL := AL_in (tq1 (List.mem_of_getElem? (i := 158) rfl)) rfl
theorem q60 : Cond.fieldLink RX4 72 "MuffledTolls$Toll" "bell" "I" ∈ AL := AL_in (tq1 (List.mem_of_getElem? (i := 125) rfl)) rfl
theorem q61 : Cond.methodLink RX4 85 yX3_isDone ∈ AL := AL_in (tq1 (List.mem_of_getElem? (i := 215) rfl)) rfl
theorem q62 : Cond.code yX3_isDone cX3_isDone 1 (some .boolean) ∈ AL := AL_in (tq1 (List.mem_of_getElem? (i := 218) rfl)) rfl
theorem q63 : Cond.initialized "MuffledTolls$Toll" ∈ AL := AL_in (tq1 (List.mem_of_getElem? (i := 6) rfl)) rfl
theorem q64 : Cond.instanceMethod yX3_isDone ∈ AL := AL_in (tq1 (List.mem_of_getElem? (i := 216) rfl)) rfl
theorem q65 : Cond.selects yX3_isDone.cls yX3_isDone yX3_isDone ∈ AL := AL_in (tq1 (List.mem_of_getElem? (i := 217) rfl)) rfl
theorem mw_X3_isDone : MW yX3_isDone cX3_isDone 1 (some .boolean) 0 := ⟨q64, q65, q63, q62, by decide +kernel⟩
theorem q66 : Cond.fieldLink RX4 11 "MuffledTolls$Tower" "bells" "[LMuffledTolls$Bell;" ∈ AL := AL_in (tq1 (List.mem_of_getElem? (i := 154) rfl)) rfl
theorem q67 : Cond.fieldLink RX4 117 "MuffledTolls$Bell" "weight" "I" ∈ AL := AL_in (tq1 (List.mem_of_getElem? (i := 59) rfl)) rfl
theorem q68 : Cond.fieldLink RX4 198 "MuffledTolls$Bell" "hand" "LMuffledTolls$Leather;" ∈ AL := AL_in (tq1 (List.mem_of_getElem? (i := 54) rfl)) rfl
theorem q69 : Cond.fieldLink RX4 149 "MuffledTolls$Leather" "thick" "I" ∈ AL := AL_in (tq1 (List.mem_of_getElem? (i := 46) rfl)) rfl
theorem q70 : Cond.fieldLink RX4 202 "MuffledTolls$Bell" "back" "LMuffledTolls$Leather;" ∈ AL := AL_in (tq1 (List.mem_of_getElem? (i := 56) rfl)) rfl
theorem q71 : Cond.fieldLink RX4 142 "MuffledTolls$Bell" "side" "I" ∈ AL := AL_in (tq1 (List.mem_of_getElem? (i := 61) rfl)) rfl
theorem q72 : Cond.fieldLink RX4 89 "MuffledTolls$Bell" "rope" "I" ∈ AL := AL_in (tq1 (List.mem_of_getElem? (i := 64) rfl)) rfl
theorem q73 : Cond.fieldLink RX4 66 "MuffledTolls$Bell" "goesOnWith" "I" ∈ AL := AL_in (tq1 (List.mem_of_getElem? (i := 66) rfl)) rfl
theorem q74 : Cond.fieldLink RX4 75 "MuffledTolls$Bell" "pause" "I" ∈ AL := AL_in (tq1 (List.mem_of_getElem? (i := 68) rfl)) rfl
theorem q75 : Cond.methodLink RX4 205 yX4_tollsNotDone ∈ AL := AL_in (tq2 (List.mem_of_getElem? (i := 3) rfl)) rfl
theorem q76 : Cond.code yX4_tollsNotDone cX4_tollsNotDone 4 (some .int) ∈ AL := AL_in (tq2 (List.mem_of_getElem? (i := 6) rfl)) rfl
theorem q77 : Cond.initialized "MuffledTolls$Tower" ∈ AL := AL_in (tq1 (List.mem_of_getElem? (i := 2) rfl)) rfl
theorem q78 : Cond.instanceMethod yX4_tollsNotDone ∈ AL := AL_in (tq2 (List.mem_of_getElem? (i := 5) rfl)) rfl
theorem q79 : Cond.selects yX4_tollsNotDone.cls yX4_tollsNotDone yX4_tollsNotDone ∈ AL := AL_in (tq0 (List.mem_of_getElem? (i := 6) rfl)) rfl
theorem mw_X4_tollsNotDone : MW yX4_tollsNotDone cX4_tollsNotDone 4 (some .int) 1 := ⟨q78, q79, q77, q76, by decide +kernel⟩
theorem q80 : Cond.fieldLink RX4 194 "MuffledTolls$Bell" "strokes" "I" ∈ AL := AL_in (tq1 (List.mem_of_getElem? (i := 70) rfl)) rfl
theorem q81 : Cond.methodLink RX5 75 yX4_ofBell ∈ AL := AL_in (tq1 (List.mem_of_getElem? (i := 239) rfl)) rfl
theorem q82 : Cond.code yX4_ofBell cX4_ofBell 4 (some .int) ∈ AL := AL_in (tq2 (List.mem_of_getElem? (i := 2) rfl)) rfl
theorem q83 : Cond.instanceMethod yX4_ofBell ∈ AL := AL_in (tq2 (List.mem_of_getElem? (i := 0) rfl)) rfl
theorem q84 : Cond.selects yX4_ofBell.cls yX4_ofBell yX4_ofBell ∈ AL := AL_in (tq2 (List.mem_of_getElem? (i := 1) rfl)) rfl
theorem mw_X4_ofBell : MW yX4_ofBell cX4_ofBell 4 (some .int) 2 := ⟨q83, q84, q77, q82, by decide +kernel⟩
theorem q85 : Cond.fieldLink RX4 44 "MuffledTolls$Tower" "ringerCount" "I" ∈ AL := AL_in (tq1 (List.mem_of_getElem? (i := 161) rfl)) rfl
theorem q86 : Cond.fieldLink RX4 22 "MuffledTolls$Tower" "ringers" "[LMuffledTolls$Ringer;" ∈ AL := AL_in (tq1 (List.mem_of_getElem? (i := 156) rfl)) rfl
theorem q87 : Cond.fieldLink RX4 59 "MuffledTolls$Ringer" "strength" "I" ∈ AL := AL_in (tq1 (List.mem_of_getElem? (i := 96) rfl)) rfl
theorem q88 : Cond.fieldLink RX5 78 "MuffledTolls$Tower" "ringerCount" "I" ∈ AL := AL_in (tq1 (List.mem_of_getElem? (i := 162) rfl)) rfl
theorem q89 : Cond.methodLink RX5 83 yX4_addRinger ∈ AL := AL_in (tq2 (List.mem_of_getElem? (i := 213) rfl)) rfl
theorem q90 : Cond.code yX4_addRinger cX4_addRinger 3 (some .int) ∈ AL := AL_in (tq2 (List.mem_of_getElem? (i := 216) rfl)) rfl
theorem q91 : Cond.instanceMethod yX4_addRinger ∈ AL := AL_in (tq2 (List.mem_of_getElem? (i := 214) rfl)) rfl
theorem q92 : Cond.selects yX4_addRinger.cls yX4_addRinger yX4_addRinger ∈ AL := AL_in (tq2 (List.mem_of_getElem? (i := 215) rfl)) rfl
theorem mw_X4_addRinger : MW yX4_addRinger cX4_addRinger 3 (some .int) 1 := ⟨q91, q92, q77, q90, by decide +kernel⟩
theorem q93 : Cond.fieldLink RX2 9 "MuffledTolls$Ringer" "bell" "I" ∈ AL := AL_in (tq1 (List.mem_of_getElem? (i := 100) rfl)) rfl
theorem q94 : Cond.fieldLink RX4 92 "MuffledTolls$Ringer" "bell" "I" ∈ AL := AL_in (tq1 (List.mem_of_getElem? (i := 101) rfl)) rfl
theorem q95 : Cond.methodLink RX4 82 yX4_emptyRope ∈ AL := AL_in (tq2 (List.mem_of_getElem? (i := 230) rfl)) rfl
theorem q96 : Cond.code yX4_emptyRope cX4_emptyRope 2 none ∈ AL := AL_in (tq2 (List.mem_of_getElem? (i := 233) rfl)) rfl
theorem q97 : Cond.instanceMethod yX4_emptyRope ∈ AL := AL_in (tq2 (List.mem_of_getElem? (i := 232) rfl)) rfl
theorem q98 : Cond.selects yX4_emptyRope.cls yX4_emptyRope yX4_emptyRope ∈ AL := AL_in (tq0 (List.mem_of_getElem? (i := 11) rfl)) rfl
theorem mw_X4_emptyRope : MW yX4_emptyRope cX4_emptyRope 2 none 1 := ⟨q97, q98, q77, q96, by decide +kernel⟩
theorem q99 : Cond.fieldLink RX5 86 "MuffledTolls$Tower" "ringers" "[LMuffledTolls$Ringer;" ∈ AL := AL_in (tq1 (List.mem_of_getElem? (i := 157) rfl)) rfl
theorem q100 : Cond.methodLink RX5 90 yX2_rests ∈ AL := AL_in (tq2 (List.mem_of_getElem? (i := 224) rfl)) rfl
theorem q101 : Cond.code yX2_rests cX2_rests 1 (some .boolean) ∈ AL := AL_in (tq1 (List.mem_of_getElem? (i := 210) rfl)) rfl
theorem q102 : Cond.initialized "MuffledTolls$Ringer" ∈ AL := AL_in (tq1 (List.mem_of_getElem? (i := 5) rfl)) rfl
theorem q103 : Cond.instanceMethod yX2_rests ∈ AL := AL_in (tq1 (List.mem_of_getElem? (i := 208) rfl)) rfl
theorem q104 : Cond.selects yX2_rests.cls yX2_rests yX2_rests ∈ AL := AL_in (tq1 (List.mem_of_getElem? (i := 209) rfl)) rfl
theorem mw_X2_rests : MW yX2_rests cX2_rests 1 (some .boolean) 0 := ⟨q103, q104, q102, q101, by decide +kernel⟩
theorem q105 : Cond.fieldLink RX5 98 "MuffledTolls$Bell" "rope" "I" ∈ AL := AL_in (tq1 (List.mem_of_getElem? (i := 63) rfl)) rfl
theorem q106 : Cond.methodLink RX5 101 yX4_bringToRope ∈ AL := AL_in (tq2 (List.mem_of_getElem? (i := 226) rfl)) rfl
theorem q107 : Cond.code yX4_bringToRope cX4_bringToRope 3 none ∈ AL := AL_in (tq2 (List.mem_of_getElem? (i := 229) rfl)) rfl
theorem q108 : Cond.instanceMethod yX4_bringToRope ∈ AL := AL_in (tq2 (List.mem_of_getElem? (i := 227) rfl)) rfl
theorem q109 : Cond.selects yX4_bringToRope.cls yX4_bringToRope yX4_bringToRope ∈ AL := AL_in (tq2 (List.mem_of_getElem? (i := 228) rfl)) rfl
theorem mw_X4_bringToRope : MW yX4_bringToRope cX4_bringToRope 3 none 2 := ⟨q108, q109, q77, q107, by decide +kernel⟩
theorem q110 : Cond.fieldLink RX2 15 "MuffledTolls$Ringer" "strength" "I" ∈ AL := AL_in (tq1 (List.mem_of_getElem? (i := 95) rfl)) rfl
theorem q111 : Cond.fieldLink RX2 18 "MuffledTolls$Ringer" "tired" "I" ∈ AL := AL_in (tq1 (List.mem_of_getElem? (i := 97) rfl)) rfl
theorem q112 : Cond.fieldLink RX2 21 "MuffledTolls$Ringer" "strokes" "I" ∈ AL := AL_in (tq1 (List.mem_of_getElem? (i := 102) rfl)) rfl
theorem q113 : Cond.fieldLink RX2 24 "MuffledTolls$Ringer" "reliefs" "I" ∈ AL := AL_in (tq1 (List.mem_of_getElem? (i := 103) rfl)) rfl
theorem q114 : Cond.methodLink RX5 104 yX2_fact ∈ AL := AL_in (tq2 (List.mem_of_getElem? (i := 19) rfl)) rfl
theorem q115 : Cond.code yX2_fact cX2_fact 2 (some .int) ∈ AL := AL_in (tq2 (List.mem_of_getElem? (i := 22) rfl)) rfl
theorem q116 : Cond.instanceMethod yX2_fact ∈ AL := AL_in (tq2 (List.mem_of_getElem? (i := 20) rfl)) rfl
theorem q117 : Cond.selects yX2_fact.cls yX2_fact yX2_fact ∈ AL := AL_in (tq2 (List.mem_of_getElem? (i := 21) rfl)) rfl
theorem mw_X2_fact : MW yX2_fact cX2_fact 2 (some .int) 1 := ⟨q116, q117, q102, q115, by decide +kernel⟩
theorem q118 : Cond.fieldLink RX3 19 "MuffledTolls$Toll" "bell" "I" ∈ AL := AL_in (tq1 (List.mem_of_getElem? (i := 124) rfl)) rfl
theorem q119 : Cond.fieldLink RX3 22 "MuffledTolls$Toll" "kind" "I" ∈ AL := AL_in (tq1 (List.mem_of_getElem? (i := 126) rfl)) rfl
theorem q120 : Cond.fieldLink RX3 25 "MuffledTolls$Toll" "age" "I" ∈ AL := AL_in (tq1 (List.mem_of_getElem? (i := 127) rfl)) rfl
theorem q121 : Cond.fieldLink RX3 28 "MuffledTolls$Toll" "pace" "I" ∈ AL := AL_in (tq1 (List.mem_of_getElem? (i := 128) rfl)) rfl
theorem q122 : Cond.fieldLink RX3 31 "MuffledTolls$Toll" "strokes" "I" ∈ AL := AL_in (tq1 (List.mem_of_getElem? (i := 129) rfl)) rfl
theorem q123 : Cond.fieldLink RX3 34 "MuffledTolls$Toll" "loud" "I" ∈ AL := AL_in (tq1 (List.mem_of_getElem? (i := 132) rfl)) rfl
theorem q124 : Cond.methodLink RX4 62 yX3_begin ∈ AL := AL_in (tq3 (List.mem_of_getElem? (i := 16) rfl)) rfl
theorem q125 : Cond.code yX3_begin cX3_begin 5 none ∈ AL := AL_in (tq3 (List.mem_of_getElem? (i := 19) rfl)) rfl
theorem q126 : Cond.instanceMethod yX3_begin ∈ AL := AL_in (tq3 (List.mem_of_getElem? (i := 17) rfl)) rfl
theorem q127 : Cond.selects yX3_begin.cls yX3_begin yX3_begin ∈ AL := AL_in (tq3 (List.mem_of_getElem? (i := 18) rfl)) rfl
theorem mw_X3_begin : MW yX3_begin cX3_begin 5 none 4 := ⟨q126, q127, q63, q125, by decide +kernel⟩
theorem q128 : Cond.methodLink RX5 107 yX5_needTollOfSuch ∈ AL := AL_in (tq3 (List.mem_of_getElem? (i := 8) rfl)) rfl
theorem q129 : Cond.code yX5_needTollOfSuch cX5_needTollOfSuch 3 none ∈ AL := AL_in (tq3 (List.mem_of_getElem? (i := 10) rfl)) rfl
theorem q130 : Cond.static yX5_needTollOfSuch ∈ AL := AL_in (tq3 (List.mem_of_getElem? (i := 9) rfl)) rfl
theorem mw_X5_needTollOfSuch : MS yX5_needTollOfSuch cX5_needTollOfSuch 3 none 3 := ⟨q130, q13, q129, by decide +kernel⟩
theorem q131 : Cond.fieldLink RX5 110 "MuffledTolls$Tower" "tollCount" "I" ∈ AL := AL_in (tq1 (List.mem_of_getElem? (i := 164) rfl)) rfl
theorem q132 : Cond.methodLink RX5 115 yX4_addToll ∈ AL := AL_in (tq3 (List.mem_of_getElem? (i := 12) rfl)) rfl
theorem q133 : Cond.code yX4_addToll cX4_addToll 6 (some .int) ∈ AL := AL_in (tq3 (List.mem_of_getElem? (i := 15) rfl)) rfl
theorem q134 : Cond.instanceMethod yX4_addToll ∈ AL := AL_in (tq3 (List.mem_of_getElem? (i := 13) rfl)) rfl
theorem q135 : Cond.selects yX4_addToll.cls yX4_addToll yX4_addToll ∈ AL := AL_in (tq3 (List.mem_of_getElem? (i := 14) rfl)) rfl
theorem mw_X4_addToll : MW yX4_addToll cX4_addToll 6 (some .int) 4 := ⟨q134, q135, q77, q133, by decide +kernel⟩
theorem q136 : Cond.fieldLink RX4 56 "MuffledTolls$Tower" "minute" "I" ∈ AL := AL_in (tq1 (List.mem_of_getElem? (i := 160) rfl)) rfl
theorem q137 : Cond.fieldLink RX4 69 "MuffledTolls$Toll" "doneIn" "I" ∈ AL := AL_in (tq1 (List.mem_of_getElem? (i := 135) rfl)) rfl
theorem q138 : Cond.methodLink RX4 78 yX4_firstNotDone ∈ AL := AL_in (tq3 (List.mem_of_getElem? (i := 33) rfl)) rfl
theorem q139 : Cond.code yX4_firstNotDone cX4_firstNotDone 3 (some .int) ∈ AL := AL_in (tq3 (List.mem_of_getElem? (i := 36) rfl)) rfl
theorem q140 : Cond.instanceMethod yX4_firstNotDone ∈ AL := AL_in (tq3 (List.mem_of_getElem? (i := 35) rfl)) rfl
theorem q141 : Cond.selects yX4_firstNotDone.cls yX4_firstNotDone yX4_firstNotDone ∈ AL := AL_in (tq0 (List.mem_of_getElem? (i := 12) rfl)) rfl
theorem mw_X4_firstNotDone : MW yX4_firstNotDone cX4_firstNotDone 3 (some .int) 1 := ⟨q140, q141, q77, q139, by decide +kernel⟩
theorem q142 : Cond.methodLink RX3 37 yX3_tellers ∈ AL := AL_in (tq2 (List.mem_of_getElem? (i := 34) rfl)) rfl
theorem q143 : Cond.code yX3_tellers cX3_tellers 1 (some .int) ∈ AL := AL_in (tq2 (List.mem_of_getElem? (i := 37) rfl)) rfl
theorem q144 : Cond.instanceMethod yX3_tellers ∈ AL := AL_in (tq2 (List.mem_of_getElem? (i := 36) rfl)) rfl
theorem q145 : Cond.selects yX3_tellers.cls yX3_tellers yX3_tellers ∈ AL := AL_in (tq0 (List.mem_of_getElem? (i := 8) rfl)) rfl
theorem mw_X3_tellers : MW yX3_tellers cX3_tellers 1 (some .int) 0 := ⟨q144, q145, q63, q143, by decide +kernel⟩
theorem q146 : Cond.fieldLink RX5 119 "MuffledTolls$Tower" "tolls" "[LMuffledTolls$Toll;" ∈ AL := AL_in (tq1 (List.mem_of_getElem? (i := 159) rfl)) rfl
theorem q147 : Cond.methodLink RX5 123 yX3_isDone ∈ AL := AL_in (tq3 (List.mem_of_getElem? (i := 27) rfl)) rfl
theorem q148 : Cond.methodLink RX5 130 yX4_endToll ∈ AL := AL_in (tq3 (List.mem_of_getElem? (i := 29) rfl)) rfl
theorem q149 : Cond.code yX4_endToll cX4_endToll 4 none ∈ AL := AL_in (tq3 (List.mem_of_getElem? (i := 32) rfl)) rfl
theorem q150 : Cond.instanceMethod yX4_endToll ∈ AL := AL_in (tq3 (List.mem_of_getElem? (i := 30) rfl)) rfl
theorem q151 : Cond.selects yX4_endToll.cls yX4_endToll yX4_endToll ∈ AL := AL_in (tq3 (List.mem_of_getElem? (i := 31) rfl)) rfl
theorem mw_X4_endToll : MW yX4_endToll cX4_endToll 4 none 1 := ⟨q150, q151, q77, q149, by decide +kernel⟩
theorem q152 : Cond.methodLink RX5 133 yX3_strokesDue ∈ AL := AL_in (tq3 (List.mem_of_getElem? (i := 37) rfl)) rfl
theorem q153 : Cond.code yX3_strokesDue cX3_strokesDue 1 (some .int) ∈ AL := AL_in (tq3 (List.mem_of_getElem? (i := 40) rfl)) rfl
theorem q154 : Cond.instanceMethod yX3_strokesDue ∈ AL := AL_in (tq3 (List.mem_of_getElem? (i := 38) rfl)) rfl
theorem q155 : Cond.selects yX3_strokesDue.cls yX3_strokesDue yX3_strokesDue ∈ AL := AL_in (tq3 (List.mem_of_getElem? (i := 39) rfl)) rfl
theorem mw_X3_strokesDue : MW yX3_strokesDue cX3_strokesDue 1 (some .int) 0 := ⟨q154, q155, q63, q153, by decide +kernel⟩
theorem q156 : Cond.fieldLink RX5 137 "MuffledTolls$Toll" "strokes" "I" ∈ AL := AL_in (tq1 (List.mem_of_getElem? (i := 130) rfl)) rfl
theorem q157 : Cond.methodLink RX3 41 Lib.Math.max.name ∈ AL := AL_in (tq2 (List.mem_of_getElem? (i := 38) rfl)) rfl
theorem q158 : Cond.methodLink RX3 47 yX3_isDone ∈ AL := AL_in (tq2 (List.mem_of_getElem? (i := 45) rfl)) rfl
theorem q159 : Cond.methodLink RX3 51 yX3_years ∈ AL := AL_in (tq2 (List.mem_of_getElem? (i := 30) rfl)) rfl
theorem q160 : Cond.code yX3_years cX3_years 1 (some .int) ∈ AL := AL_in (tq2 (List.mem_of_getElem? (i := 33) rfl)) rfl
theorem q161 : Cond.instanceMethod yX3_years ∈ AL := AL_in (tq2 (List.mem_of_getElem? (i := 32) rfl)) rfl
theorem q162 : Cond.selects yX3_years.cls yX3_years yX3_years ∈ AL := AL_in (tq0 (List.mem_of_getElem? (i := 7) rfl)) rfl
theorem mw_X3_years : MW yX3_years cX3_years 1 (some .int) 0 := ⟨q161, q162, q63, q160, by decide +kernel⟩
theorem q163 : Cond.methodLink RX3 54 yX3_state ∈ AL := AL_in (tq2 (List.mem_of_getElem? (i := 41) rfl)) rfl
theorem q164 : Cond.code yX3_state cX3_state 1 (some .int) ∈ AL := AL_in (tq2 (List.mem_of_getElem? (i := 44) rfl)) rfl
theorem q165 : Cond.instanceMethod yX3_state ∈ AL := AL_in (tq2 (List.mem_of_getElem? (i := 43) rfl)) rfl
theorem q166 : Cond.selects yX3_state.cls yX3_state yX3_state ∈ AL := AL_in (tq0 (List.mem_of_getElem? (i := 9) rfl)) rfl
theorem mw_X3_state : MW yX3_state cX3_state 1 (some .int) 0 := ⟨q165, q166, q63, q164, by decide +kernel⟩
theorem q167 : Cond.methodLink RX5 140 yX3_fact ∈ AL := AL_in (tq2 (List.mem_of_getElem? (i := 26) rfl)) rfl
theorem q168 : Cond.code yX3_fact cX3_fact 2 (some .int) ∈ AL := AL_in (tq2 (List.mem_of_getElem? (i := 29) rfl)) rfl
theorem q169 : Cond.instanceMethod yX3_fact ∈ AL := AL_in (tq2 (List.mem_of_getElem? (i := 27) rfl)) rfl
theorem q170 : Cond.selects yX3_fact.cls yX3_fact yX3_fact ∈ AL := AL_in (tq2 (List.mem_of_getElem? (i := 28) rfl)) rfl
theorem mw_X3_fact : MW yX3_fact cX3_fact 2 (some .int) 1 := ⟨q169, q170, q63, q168, by decide +kernel⟩
theorem q171 : Cond.fieldLink RX3 15 "MuffledTolls$Toll" "yearsByReach" "[I" ∈ AL := AL_in (tq1 (List.mem_of_getElem? (i := 123) rfl)) rfl
theorem q172 : Cond.methodLink RX5 141 yX3_yearsCounted ∈ AL := AL_in (tq2 (List.mem_of_getElem? (i := 46) rfl)) rfl
theorem q173 : Cond.code yX3_yearsCounted cX3_yearsCounted 4 (some .int) ∈ AL := AL_in (tq2 (List.mem_of_getElem? (i := 49) rfl)) rfl
theorem q174 : Cond.instanceMethod yX3_yearsCounted ∈ AL := AL_in (tq2 (List.mem_of_getElem? (i := 47) rfl)) rfl
theorem q175 : Cond.selects yX3_yearsCounted.cls yX3_yearsCounted yX3_yearsCounted ∈ AL := AL_in (tq2 (List.mem_of_getElem? (i := 48) rfl)) rfl
theorem mw_X3_yearsCounted : MW yX3_yearsCounted cX3_yearsCounted 4 (some .int) 1 := ⟨q174, q175, q63, q173, by decide +kernel⟩
theorem q176 : Cond.methodLink RX4 133 yX2_rests ∈ AL := AL_in (tq1 (List.mem_of_getElem? (i := 207) rfl)) rfl
theorem q177 : Cond.fieldLink RX4 195 "MuffledTolls$Toll" "loud" "I" ∈ AL := AL_in (tq1 (List.mem_of_getElem? (i := 133) rfl)) rfl
theorem q178 : Cond.methodLink RX4 145 yX0_leather ∈ AL := AL_in (tq1 (List.mem_of_getElem? (i := 231) rfl)) rfl
theorem q179 : Cond.methodLink RX4 179 yX4_ringersAtRopes ∈ AL := AL_in (tq1 (List.mem_of_getElem? (i := 203) rfl)) rfl
theorem q180 : Cond.code yX4_ringersAtRopes cX4_ringersAtRopes 3 (some .int) ∈ AL := AL_in (tq1 (List.mem_of_getElem? (i := 206) rfl)) rfl
theorem q181 : Cond.instanceMethod yX4_ringersAtRopes ∈ AL := AL_in (tq1 (List.mem_of_getElem? (i := 205) rfl)) rfl
theorem q182 : Cond.selects yX4_ringersAtRopes.cls yX4_ringersAtRopes yX4_ringersAtRopes ∈ AL := AL_in (tq0 (List.mem_of_getElem? (i := 0) rfl)) rfl
theorem mw_X4_ringersAtRopes : MW yX4_ringersAtRopes cX4_ringersAtRopes 3 (some .int) 0 := ⟨q181, q182, q77, q180, by decide +kernel⟩
theorem q183 : Cond.methodLink RX4 182 yX4_tollsDone ∈ AL := AL_in (tq1 (List.mem_of_getElem? (i := 211) rfl)) rfl
theorem q184 : Cond.code yX4_tollsDone cX4_tollsDone 3 (some .int) ∈ AL := AL_in (tq1 (List.mem_of_getElem? (i := 214) rfl)) rfl
theorem q185 : Cond.instanceMethod yX4_tollsDone ∈ AL := AL_in (tq1 (List.mem_of_getElem? (i := 213) rfl)) rfl
theorem q186 : Cond.selects yX4_tollsDone.cls yX4_tollsDone yX4_tollsDone ∈ AL := AL_in (tq0 (List.mem_of_getElem? (i := 1) rfl)) rfl
theorem mw_X4_tollsDone : MW yX4_tollsDone cX4_tollsDone 3 (some .int) 0 := ⟨q185, q186, q77, q184, by decide +kernel⟩
theorem q187 : Cond.methodLink RX4 185 yX4_strokesInAll ∈ AL := AL_in (tq1 (List.mem_of_getElem? (i := 219) rfl)) rfl
theorem q188 : Cond.code yX4_strokesInAll cX4_strokesInAll 3 (some .int) ∈ AL := AL_in (tq1 (List.mem_of_getElem? (i := 222) rfl)) rfl
theorem q189 : Cond.instanceMethod yX4_strokesInAll ∈ AL := AL_in (tq1 (List.mem_of_getElem? (i := 221) rfl)) rfl
theorem q190 : Cond.selects yX4_strokesInAll.cls yX4_strokesInAll yX4_strokesInAll ∈ AL := AL_in (tq0 (List.mem_of_getElem? (i := 2) rfl)) rfl
theorem mw_X4_strokesInAll : MW yX4_strokesInAll cX4_strokesInAll 3 (some .int) 0 := ⟨q189, q190, q77, q188, by decide +kernel⟩
theorem q191 : Cond.methodLink RX4 188 yX4_loudInAll ∈ AL := AL_in (tq1 (List.mem_of_getElem? (i := 223) rfl)) rfl
theorem q192 : Cond.code yX4_loudInAll cX4_loudInAll 3 (some .int) ∈ AL := AL_in (tq1 (List.mem_of_getElem? (i := 226) rfl)) rfl
theorem q193 : Cond.instanceMethod yX4_loudInAll ∈ AL := AL_in (tq1 (List.mem_of_getElem? (i := 225) rfl)) rfl
theorem q194 : Cond.selects yX4_loudInAll.cls yX4_loudInAll yX4_loudInAll ∈ AL := AL_in (tq0 (List.mem_of_getElem? (i := 3) rfl)) rfl
theorem mw_X4_loudInAll : MW yX4_loudInAll cX4_loudInAll 3 (some .int) 0 := ⟨q193, q194, q77, q192, by decide +kernel⟩
theorem q195 : Cond.fieldLink RX4 36 "MuffledTolls$Tower" "store" "I" ∈ AL := AL_in (tq1 (List.mem_of_getElem? (i := 165) rfl)) rfl
theorem q196 : Cond.methodLink RX4 191 yX4_leathersOnBells ∈ AL := AL_in (tq1 (List.mem_of_getElem? (i := 227) rfl)) rfl
theorem q197 : Cond.code yX4_leathersOnBells cX4_leathersOnBells 4 (some .int) ∈ AL := AL_in (tq1 (List.mem_of_getElem? (i := 230) rfl)) rfl
theorem q198 : Cond.instanceMethod yX4_leathersOnBells ∈ AL := AL_in (tq1 (List.mem_of_getElem? (i := 229) rfl)) rfl
theorem q199 : Cond.selects yX4_leathersOnBells.cls yX4_leathersOnBells yX4_leathersOnBells ∈ AL := AL_in (tq0 (List.mem_of_getElem? (i := 4) rfl)) rfl
theorem mw_X4_leathersOnBells : MW yX4_leathersOnBells cX4_leathersOnBells 4 (some .int) 0 := ⟨q198, q199, q77, q197, by decide +kernel⟩
theorem q200 : Cond.methodLink RX5 144 yX4_inAll ∈ AL := AL_in (tq1 (List.mem_of_getElem? (i := 199) rfl)) rfl
theorem q201 : Cond.code yX4_inAll cX4_inAll 2 (some .int) ∈ AL := AL_in (tq1 (List.mem_of_getElem? (i := 202) rfl)) rfl
theorem q202 : Cond.instanceMethod yX4_inAll ∈ AL := AL_in (tq1 (List.mem_of_getElem? (i := 200) rfl)) rfl
theorem q203 : Cond.selects yX4_inAll.cls yX4_inAll yX4_inAll ∈ AL := AL_in (tq1 (List.mem_of_getElem? (i := 201) rfl)) rfl
theorem mw_X4_inAll : MW yX4_inAll cX4_inAll 2 (some .int) 1 := ⟨q202, q203, q77, q201, by decide +kernel⟩
theorem q204 : Cond.methodLink RX4 120 yX2_canPull ∈ AL := AL_in (tq3 (List.mem_of_getElem? (i := 93) rfl)) rfl
theorem q205 : Cond.code yX2_canPull cX2_canPull 2 (some .boolean) ∈ AL := AL_in (tq3 (List.mem_of_getElem? (i := 96) rfl)) rfl
theorem q206 : Cond.instanceMethod yX2_canPull ∈ AL := AL_in (tq3 (List.mem_of_getElem? (i := 94) rfl)) rfl
theorem q207 : Cond.selects yX2_canPull.cls yX2_canPull yX2_canPull ∈ AL := AL_in (tq3 (List.mem_of_getElem? (i := 95) rfl)) rfl
theorem mw_X2_canPull : MW yX2_canPull cX2_canPull 2 (some .boolean) 1 := ⟨q206, q207, q102, q205, by decide +kernel⟩
theorem q208 : Cond.fieldLink RX4 136 "MuffledTolls$Ringer" "tired" "I" ∈ AL := AL_in (tq1 (List.mem_of_getElem? (i := 98) rfl)) rfl
theorem q209 : Cond.methodLink RX4 104 yX4_isRinger ∈ AL := AL_in (tq3 (List.mem_of_getElem? (i := 89) rfl)) rfl
theorem q210 : Cond.code yX4_isRinger cX4_isRinger 2 (some .boolean) ∈ AL := AL_in (tq3 (List.mem_of_getElem? (i := 92) rfl)) rfl
theorem q211 : Cond.instanceMethod yX4_isRinger ∈ AL := AL_in (tq3 (List.mem_of_getElem? (i := 91) rfl)) rfl
theorem q212 : Cond.selects yX4_isRinger.cls yX4_isRinger yX4_isRinger ∈ AL := AL_in (tq0 (List.mem_of_getElem? (i := 17) rfl)) rfl
theorem mw_X4_isRinger : MW yX4_isRinger cX4_isRinger 2 (some .boolean) 1 := ⟨q211, q212, q77, q210, by decide +kernel⟩
theorem q213 : Cond.methodLink RX4 123 yX4_leastTiredAtRest ∈ AL := AL_in (tq3 (List.mem_of_getElem? (i := 97) rfl)) rfl
theorem q214 : Cond.code yX4_leastTiredAtRest cX4_leastTiredAtRest 7 (some .int) ∈ AL := AL_in (tq3 (List.mem_of_getElem? (i := 100) rfl)) rfl
theorem q215 : Cond.instanceMethod yX4_leastTiredAtRest ∈ AL := AL_in (tq3 (List.mem_of_getElem? (i := 99) rfl)) rfl
theorem q216 : Cond.selects yX4_leastTiredAtRest.cls yX4_leastTiredAtRest yX4_leastTiredAtRest ∈ AL := AL_in (tq0 (List.mem_of_getElem? (i := 18) rfl)) rfl
theorem mw_X4_leastTiredAtRest : MW yX4_leastTiredAtRest cX4_leastTiredAtRest 7 (some .int) 1 := ⟨q215, q216, q77, q214, by decide +kernel⟩
theorem q217 : Cond.methodLink RX4 126 yX4_bringToRope ∈ AL := AL_in (tq3 (List.mem_of_getElem? (i := 101) rfl)) rfl
theorem q218 : Cond.fieldLink RX4 130 "MuffledTolls$Ringer" "reliefs" "I" ∈ AL := AL_in (tq1 (List.mem_of_getElem? (i := 104) rfl)) rfl
theorem q219 : Cond.methodLink RX4 97 yX4_isToll ∈ AL := AL_in (tq3 (List.mem_of_getElem? (i := 81) rfl)) rfl
theorem q220 : Cond.code yX4_isToll cX4_isToll 2 (some .boolean) ∈ AL := AL_in (tq3 (List.mem_of_getElem? (i := 84) rfl)) rfl
theorem q221 : Cond.instanceMethod yX4_isToll ∈ AL := AL_in (tq3 (List.mem_of_getElem? (i := 83) rfl)) rfl
theorem q222 : Cond.selects yX4_isToll.cls yX4_isToll yX4_isToll ∈ AL := AL_in (tq0 (List.mem_of_getElem? (i := 15) rfl)) rfl
theorem mw_X4_isToll : MW yX4_isToll cX4_isToll 2 (some .boolean) 1 := ⟨q221, q222, q77, q220, by decide +kernel⟩
theorem q223 : Cond.methodLink RX4 114 yX4_findPuller ∈ AL := AL_in (tq3 (List.mem_of_getElem? (i := 85) rfl)) rfl
theorem q224 : Cond.code yX4_findPuller cX4_findPuller 4 (some .int) ∈ AL := AL_in (tq3 (List.mem_of_getElem? (i := 88) rfl)) rfl
theorem q225 : Cond.instanceMethod yX4_findPuller ∈ AL := AL_in (tq3 (List.mem_of_getElem? (i := 87) rfl)) rfl
theorem q226 : Cond.selects yX4_findPuller.cls yX4_findPuller yX4_findPuller ∈ AL := AL_in (tq0 (List.mem_of_getElem? (i := 16) rfl)) rfl
theorem mw_X4_findPuller : MW yX4_findPuller cX4_findPuller 4 (some .int) 1 := ⟨q225, q226, q77, q224, by decide +kernel⟩
theorem q227 : Cond.methodLink RX1 16 yX1_renew ∈ AL := AL_in (tq3 (List.mem_of_getElem? (i := 122) rfl)) rfl
theorem q228 : Cond.fieldLink RX0 35 "MuffledTolls$Bell" "side" "I" ∈ AL := AL_in (tq1 (List.mem_of_getElem? (i := 60) rfl)) rfl
theorem q229 : Cond.fieldLink RX0 41 "MuffledTolls$Bell" "strokes" "I" ∈ AL := AL_in (tq1 (List.mem_of_getElem? (i := 69) rfl)) rfl
theorem q230 : Cond.methodLink RX4 139 yX2_pull ∈ AL := AL_in (tq3 (List.mem_of_getElem? (i := 106) rfl)) rfl
theorem q231 : Cond.code yX2_pull cX2_pull 2 none ∈ AL := AL_in (tq3 (List.mem_of_getElem? (i := 109) rfl)) rfl
theorem q232 : Cond.instanceMethod yX2_pull ∈ AL := AL_in (tq3 (List.mem_of_getElem? (i := 107) rfl)) rfl
theorem q233 : Cond.selects yX2_pull.cls yX2_pull yX2_pull ∈ AL := AL_in (tq3 (List.mem_of_getElem? (i := 108) rfl)) rfl
theorem mw_X2_pull : MW yX2_pull cX2_pull 2 none 1 := ⟨q232, q233, q102, q231, by decide +kernel⟩
theorem q234 : Cond.methodLink RX4 154 yX1_reach ∈ AL := AL_in (tq3 (List.mem_of_getElem? (i := 110) rfl)) rfl
theorem q235 : Cond.code yX1_reach cX1_reach 2 (some .int) ∈ AL := AL_in (tq3 (List.mem_of_getElem? (i := 113) rfl)) rfl
theorem q236 : Cond.instanceMethod yX1_reach ∈ AL := AL_in (tq3 (List.mem_of_getElem? (i := 111) rfl)) rfl
theorem q237 : Cond.selects yX1_reach.cls yX1_reach yX1_reach ∈ AL := AL_in (tq3 (List.mem_of_getElem? (i := 112) rfl)) rfl
theorem mw_X1_reach : MW yX1_reach cX1_reach 2 (some .int) 1 := ⟨q236, q237, q39, q235, by decide +kernel⟩
theorem q238 : Cond.methodLink RX4 157 yX3_sound ∈ AL := AL_in (tq3 (List.mem_of_getElem? (i := 114) rfl)) rfl
theorem q239 : Cond.code yX3_sound cX3_sound 3 none ∈ AL := AL_in (tq3 (List.mem_of_getElem? (i := 117) rfl)) rfl
theorem q240 : Cond.instanceMethod yX3_sound ∈ AL := AL_in (tq3 (List.mem_of_getElem? (i := 115) rfl)) rfl
theorem q241 : Cond.selects yX3_sound.cls yX3_sound yX3_sound ∈ AL := AL_in (tq3 (List.mem_of_getElem? (i := 116) rfl)) rfl
theorem mw_X3_sound : MW yX3_sound cX3_sound 3 none 2 := ⟨q240, q241, q63, q239, by decide +kernel⟩
theorem q242 : Cond.methodLink RX4 161 yX1_wear ∈ AL := AL_in (tq3 (List.mem_of_getElem? (i := 118) rfl)) rfl
theorem q243 : Cond.code yX1_wear cX1_wear 2 none ∈ AL := AL_in (tq3 (List.mem_of_getElem? (i := 121) rfl)) rfl
theorem q244 : Cond.instanceMethod yX1_wear ∈ AL := AL_in (tq3 (List.mem_of_getElem? (i := 119) rfl)) rfl
theorem q245 : Cond.selects yX1_wear.cls yX1_wear yX1_wear ∈ AL := AL_in (tq3 (List.mem_of_getElem? (i := 120) rfl)) rfl
theorem mw_X1_wear : MW yX1_wear cX1_wear 2 none 1 := ⟨q244, q245, q39, q243, by decide +kernel⟩
theorem q246 : Cond.methodLink RX4 164 yX0_turn ∈ AL := AL_in (tq3 (List.mem_of_getElem? (i := 123) rfl)) rfl
theorem q247 : Cond.code yX0_turn cX0_turn 1 none ∈ AL := AL_in (tq3 (List.mem_of_getElem? (i := 126) rfl)) rfl
theorem q248 : Cond.instanceMethod yX0_turn ∈ AL := AL_in (tq3 (List.mem_of_getElem? (i := 124) rfl)) rfl
theorem q249 : Cond.selects yX0_turn.cls yX0_turn yX0_turn ∈ AL := AL_in (tq3 (List.mem_of_getElem? (i := 125) rfl)) rfl
theorem mw_X0_turn : MW yX0_turn cX0_turn 1 none 0 := ⟨q248, q249, q33, q247, by decide +kernel⟩
theorem q250 : Cond.fieldLink RX4 167 "MuffledTolls$Toll" "strokes" "I" ∈ AL := AL_in (tq1 (List.mem_of_getElem? (i := 131) rfl)) rfl
theorem q251 : Cond.methodLink RX4 170 yX3_strokesDue ∈ AL := AL_in (tq3 (List.mem_of_getElem? (i := 127) rfl)) rfl
theorem q252 : Cond.methodLink RX4 176 yX3_pauseNow ∈ AL := AL_in (tq3 (List.mem_of_getElem? (i := 129) rfl)) rfl
theorem q253 : Cond.code yX3_pauseNow cX3_pauseNow 3 (some .int) ∈ AL := AL_in (tq3 (List.mem_of_getElem? (i := 132) rfl)) rfl
theorem q254 : Cond.instanceMethod yX3_pauseNow ∈ AL := AL_in (tq3 (List.mem_of_getElem? (i := 130) rfl)) rfl
theorem q255 : Cond.selects yX3_pauseNow.cls yX3_pauseNow yX3_pauseNow ∈ AL := AL_in (tq3 (List.mem_of_getElem? (i := 131) rfl)) rfl
theorem mw_X3_pauseNow : MW yX3_pauseNow cX3_pauseNow 3 (some .int) 0 := ⟨q254, q255, q63, q253, by decide +kernel⟩
theorem q256 : Cond.methodLink RX4 173 yX4_endToll ∈ AL := AL_in (tq3 (List.mem_of_getElem? (i := 128) rfl)) rfl
theorem q257 : Cond.methodLink RX2 27 yX2_rests ∈ AL := AL_in (tq3 (List.mem_of_getElem? (i := 137) rfl)) rfl
theorem q258 : Cond.methodLink RX2 31 Lib.Math.max.name ∈ AL := AL_in (tq3 (List.mem_of_getElem? (i := 138) rfl)) rfl
theorem q259 : Cond.methodLink RX4 101 yX4_goOn ∈ AL := AL_in (tq3 (List.mem_of_getElem? (i := 77) rfl)) rfl
theorem q260 : Cond.code yX4_goOn cX4_goOn 3 (some .int) ∈ AL := AL_in (tq3 (List.mem_of_getElem? (i := 80) rfl)) rfl
theorem q261 : Cond.instanceMethod yX4_goOn ∈ AL := AL_in (tq3 (List.mem_of_getElem? (i := 79) rfl)) rfl
theorem q262 : Cond.selects yX4_goOn.cls yX4_goOn yX4_goOn ∈ AL := AL_in (tq0 (List.mem_of_getElem? (i := 14) rfl)) rfl
theorem mw_X4_goOn : MW yX4_goOn cX4_goOn 3 (some .int) 1 := ⟨q261, q262, q77, q260, by decide +kernel⟩
theorem q263 : Cond.methodLink RX4 107 yX4_strike ∈ AL := AL_in (tq3 (List.mem_of_getElem? (i := 102) rfl)) rfl
theorem q264 : Cond.code yX4_strike cX4_strike 6 none ∈ AL := AL_in (tq3 (List.mem_of_getElem? (i := 105) rfl)) rfl
theorem q265 : Cond.instanceMethod yX4_strike ∈ AL := AL_in (tq3 (List.mem_of_getElem? (i := 104) rfl)) rfl
theorem q266 : Cond.selects yX4_strike.cls yX4_strike yX4_strike ∈ AL := AL_in (tq0 (List.mem_of_getElem? (i := 19) rfl)) rfl
theorem mw_X4_strike : MW yX4_strike cX4_strike 6 none 2 := ⟨q265, q266, q77, q264, by decide +kernel⟩
theorem q267 : Cond.methodLink RX4 111 yX2_restIfFree ∈ AL := AL_in (tq3 (List.mem_of_getElem? (i := 133) rfl)) rfl
theorem q268 : Cond.code yX2_restIfFree cX2_restIfFree 1 none ∈ AL := AL_in (tq3 (List.mem_of_getElem? (i := 136) rfl)) rfl
theorem q269 : Cond.instanceMethod yX2_restIfFree ∈ AL := AL_in (tq3 (List.mem_of_getElem? (i := 134) rfl)) rfl
theorem q270 : Cond.selects yX2_restIfFree.cls yX2_restIfFree yX2_restIfFree ∈ AL := AL_in (tq3 (List.mem_of_getElem? (i := 135) rfl)) rfl
theorem mw_X2_restIfFree : MW yX2_restIfFree cX2_restIfFree 1 none 0 := ⟨q269, q270, q102, q268, by decide +kernel⟩
theorem q271 : Cond.methodLink RX4 93 yX4_passMinute ∈ AL := AL_in (tq3 (List.mem_of_getElem? (i := 73) rfl)) rfl
theorem q272 : Cond.code yX4_passMinute cX4_passMinute 4 (some .int) ∈ AL := AL_in (tq3 (List.mem_of_getElem? (i := 76) rfl)) rfl
theorem q273 : Cond.instanceMethod yX4_passMinute ∈ AL := AL_in (tq3 (List.mem_of_getElem? (i := 75) rfl)) rfl
theorem q274 : Cond.selects yX4_passMinute.cls yX4_passMinute yX4_passMinute ∈ AL := AL_in (tq0 (List.mem_of_getElem? (i := 13) rfl)) rfl
theorem mw_X4_passMinute : MW yX4_passMinute cX4_passMinute 4 (some .int) 0 := ⟨q273, q274, q77, q272, by decide +kernel⟩
theorem q275 : Cond.methodLink RX5 147 yX4_passMinutes ∈ AL := AL_in (tq3 (List.mem_of_getElem? (i := 69) rfl)) rfl
theorem q276 : Cond.code yX4_passMinutes cX4_passMinutes 4 (some .int) ∈ AL := AL_in (tq3 (List.mem_of_getElem? (i := 72) rfl)) rfl
theorem q277 : Cond.instanceMethod yX4_passMinutes ∈ AL := AL_in (tq3 (List.mem_of_getElem? (i := 70) rfl)) rfl
theorem q278 : Cond.selects yX4_passMinutes.cls yX4_passMinutes yX4_passMinutes ∈ AL := AL_in (tq3 (List.mem_of_getElem? (i := 71) rfl)) rfl
theorem mw_X4_passMinutes : MW yX4_passMinutes cX4_passMinutes 4 (some .int) 1 := ⟨q277, q278, q77, q276, by decide +kernel⟩
theorem q279 : Cond.methodLink RX0 31 yX1_becomeLike ∈ AL := AL_in (tq3 (List.mem_of_getElem? (i := 154) rfl)) rfl
theorem q280 : Cond.code yX1_becomeLike cX1_becomeLike 2 none ∈ AL := AL_in (tq3 (List.mem_of_getElem? (i := 157) rfl)) rfl
theorem q281 : Cond.instanceMethod yX1_becomeLike ∈ AL := AL_in (tq3 (List.mem_of_getElem? (i := 155) rfl)) rfl
theorem q282 : Cond.selects yX1_becomeLike.cls yX1_becomeLike yX1_becomeLike ∈ AL := AL_in (tq3 (List.mem_of_getElem? (i := 156) rfl)) rfl
theorem mw_X1_becomeLike : MW yX1_becomeLike cX1_becomeLike 2 none 1 := ⟨q281, q282, q39, q280, by decide +kernel⟩
theorem q283 : Cond.fieldLink RX0 21 "MuffledTolls$Bell" "rope" "I" ∈ AL := AL_in (tq1 (List.mem_of_getElem? (i := 62) rfl)) rfl
theorem q284 : Cond.fieldLink RX0 25 "MuffledTolls$Bell" "goesOnWith" "I" ∈ AL := AL_in (tq1 (List.mem_of_getElem? (i := 65) rfl)) rfl
theorem q285 : Cond.fieldLink RX0 38 "MuffledTolls$Bell" "pause" "I" ∈ AL := AL_in (tq1 (List.mem_of_getElem? (i := 67) rfl)) rfl
theorem q286 : Cond.methodLink RX4 40 yX0_becomeLike ∈ AL := AL_in (tq3 (List.mem_of_getElem? (i := 150) rfl)) rfl
theorem q287 : Cond.code yX0_becomeLike cX0_becomeLike 2 none ∈ AL := AL_in (tq3 (List.mem_of_getElem? (i := 153) rfl)) rfl
theorem q288 : Cond.instanceMethod yX0_becomeLike ∈ AL := AL_in (tq3 (List.mem_of_getElem? (i := 151) rfl)) rfl
theorem q289 : Cond.selects yX0_becomeLike.cls yX0_becomeLike yX0_becomeLike ∈ AL := AL_in (tq3 (List.mem_of_getElem? (i := 152) rfl)) rfl
theorem mw_X0_becomeLike : MW yX0_becomeLike cX0_becomeLike 2 none 1 := ⟨q288, q289, q33, q287, by decide +kernel⟩
theorem q290 : Cond.methodLink RX4 47 yX2_becomeLike ∈ AL := AL_in (tq3 (List.mem_of_getElem? (i := 158) rfl)) rfl
theorem q291 : Cond.code yX2_becomeLike cX2_becomeLike 2 none ∈ AL := AL_in (tq3 (List.mem_of_getElem? (i := 161) rfl)) rfl
theorem q292 : Cond.instanceMethod yX2_becomeLike ∈ AL := AL_in (tq3 (List.mem_of_getElem? (i := 159) rfl)) rfl
theorem q293 : Cond.selects yX2_becomeLike.cls yX2_becomeLike yX2_becomeLike ∈ AL := AL_in (tq3 (List.mem_of_getElem? (i := 160) rfl)) rfl
theorem mw_X2_becomeLike : MW yX2_becomeLike cX2_becomeLike 2 none 1 := ⟨q292, q293, q102, q291, by decide +kernel⟩
theorem q294 : Cond.methodLink RX4 53 yX3_becomeLike ∈ AL := AL_in (tq3 (List.mem_of_getElem? (i := 162) rfl)) rfl
theorem q295 : Cond.code yX3_becomeLike cX3_becomeLike 2 none ∈ AL := AL_in (tq3 (List.mem_of_getElem? (i := 165) rfl)) rfl
theorem q296 : Cond.instanceMethod yX3_becomeLike ∈ AL := AL_in (tq3 (List.mem_of_getElem? (i := 163) rfl)) rfl
theorem q297 : Cond.selects yX3_becomeLike.cls yX3_becomeLike yX3_becomeLike ∈ AL := AL_in (tq3 (List.mem_of_getElem? (i := 164) rfl)) rfl
theorem mw_X3_becomeLike : MW yX3_becomeLike cX3_becomeLike 2 none 1 := ⟨q296, q297, q63, q295, by decide +kernel⟩
theorem q298 : Cond.fieldLink RX5 18 "MuffledTolls" "ahead" "LMuffledTolls$Tower;" ∈ AL := AL_in (tq1 (List.mem_of_getElem? (i := 183) rfl)) rfl
theorem q299 : Cond.methodLink RX5 150 yX4_becomeLike ∈ AL := AL_in (tq3 (List.mem_of_getElem? (i := 146) rfl)) rfl
theorem q300 : Cond.code yX4_becomeLike cX4_becomeLike 3 none ∈ AL := AL_in (tq3 (List.mem_of_getElem? (i := 149) rfl)) rfl
theorem q301 : Cond.instanceMethod yX4_becomeLike ∈ AL := AL_in (tq3 (List.mem_of_getElem? (i := 147) rfl)) rfl
theorem q302 : Cond.selects yX4_becomeLike.cls yX4_becomeLike yX4_becomeLike ∈ AL := AL_in (tq3 (List.mem_of_getElem? (i := 148) rfl)) rfl
theorem mw_X4_becomeLike : MW yX4_becomeLike cX4_becomeLike 3 none 1 := ⟨q301, q302, q77, q300, by decide +kernel⟩
theorem q303 : Cond.methodLink RX5 154 yX4_passTillDone ∈ AL := AL_in (tq3 (List.mem_of_getElem? (i := 166) rfl)) rfl
theorem q304 : Cond.code yX4_passTillDone cX4_passTillDone 5 (some .int) ∈ AL := AL_in (tq3 (List.mem_of_getElem? (i := 169) rfl)) rfl
theorem q305 : Cond.instanceMethod yX4_passTillDone ∈ AL := AL_in (tq3 (List.mem_of_getElem? (i := 167) rfl)) rfl
theorem q306 : Cond.selects yX4_passTillDone.cls yX4_passTillDone yX4_passTillDone ∈ AL := AL_in (tq3 (List.mem_of_getElem? (i := 168) rfl)) rfl
theorem mw_X4_passTillDone : MW yX4_passTillDone cX4_passTillDone 5 (some .int) 2 := ⟨q305, q306, q77, q304, by decide +kernel⟩
theorem q307 : Cond.fieldLink RX5 162 "MuffledTolls$Ringer" "tired" "I" ∈ AL := AL_in (tq1 (List.mem_of_getElem? (i := 99) rfl)) rfl
theorem q308 : Cond.constantLong RX5 167 (31 : Int64) ∈ AL := AL_in (tq1 (List.mem_of_getElem? (i := 198) rfl)) rfl
theorem q309 : Cond.constantLong RX5 165 (1249 : Int64) ∈ AL := AL_in (tq1 (List.mem_of_getElem? (i := 197) rfl)) rfl
theorem q310 : Cond.methodLink RX5 169 yX5_withBell ∈ AL := AL_in (tq1 (List.mem_of_getElem? (i := 235) rfl)) rfl
theorem q311 : Cond.code yX5_withBell cX5_withBell 7 (some .long) ∈ AL := AL_in (tq1 (List.mem_of_getElem? (i := 238) rfl)) rfl
theorem q312 : Cond.instanceMethod yX5_withBell ∈ AL := AL_in (tq1 (List.mem_of_getElem? (i := 237) rfl)) rfl
theorem q313 : Cond.selects yX5_withBell.cls yX5_withBell yX5_withBell ∈ AL := AL_in (tq0 (List.mem_of_getElem? (i := 5) rfl)) rfl
theorem mw_X5_withBell : MW yX5_withBell cX5_withBell 7 (some .long) 2 := ⟨q312, q313, q13, q311, by decide +kernel⟩
theorem q314 : Cond.methodLink RX5 173 yX5_withRinger ∈ AL := AL_in (tq2 (List.mem_of_getElem? (i := 16) rfl)) rfl
theorem q315 : Cond.code yX5_withRinger cX5_withRinger 6 (some .long) ∈ AL := AL_in (tq2 (List.mem_of_getElem? (i := 18) rfl)) rfl
theorem q316 : Cond.static yX5_withRinger ∈ AL := AL_in (tq2 (List.mem_of_getElem? (i := 17) rfl)) rfl
theorem mw_X5_withRinger : MS yX5_withRinger cX5_withRinger 6 (some .long) 2 := ⟨q316, q13, q315, by decide +kernel⟩
theorem q317 : Cond.methodLink RX5 177 yX5_withToll ∈ AL := AL_in (tq2 (List.mem_of_getElem? (i := 23) rfl)) rfl
theorem q318 : Cond.code yX5_withToll cX5_withToll 6 (some .long) ∈ AL := AL_in (tq2 (List.mem_of_getElem? (i := 25) rfl)) rfl
theorem q319 : Cond.static yX5_withToll ∈ AL := AL_in (tq2 (List.mem_of_getElem? (i := 24) rfl)) rfl
theorem mw_X5_withToll : MS yX5_withToll cX5_withToll 6 (some .long) 2 := ⟨q319, q13, q318, by decide +kernel⟩
theorem q320 : Cond.fieldLink RX7 40 "MuffledTollsModel" "thrown" "I" ∈ AL := AL_in (tq4 (List.mem_of_getElem? (i := 23) rfl)) rfl
theorem q321 : Cond.methodLink RX7 44 yX7_isIn ∈ AL := AL_in (tq4 (List.mem_of_getElem? (i := 74) rfl)) rfl
theorem q322 : Cond.code yX7_isIn cX7_isIn 3 (some .boolean) ∈ AL := AL_in (tq4 (List.mem_of_getElem? (i := 76) rfl)) rfl
theorem q323 : Cond.initialized "MuffledTollsModel" ∈ AL := AL_in (tq1 (List.mem_of_getElem? (i := 7) rfl)) rfl
theorem q324 : Cond.static yX7_isIn ∈ AL := AL_in (tq4 (List.mem_of_getElem? (i := 75) rfl)) rfl
theorem mw_X7_isIn : MS yX7_isIn cX7_isIn 3 (some .boolean) 3 := ⟨q324, q323, q322, by decide +kernel⟩
theorem q325 : Cond.fieldLink RX7 48 "MuffledTollsModel" "ringers" "I" ∈ AL := AL_in (tq4 (List.mem_of_getElem? (i := 24) rfl)) rfl
theorem q326 : Cond.fieldLink RX7 51 "MuffledTollsModel" "tolls" "I" ∈ AL := AL_in (tq4 (List.mem_of_getElem? (i := 28) rfl)) rfl
theorem q327 : Cond.fieldLink RX7 16 "MuffledTollsModel" "kind" "[I" ∈ AL := AL_in (tq4 (List.mem_of_getElem? (i := 31) rfl)) rfl
theorem q328 : Cond.methodLink RX7 54 yX7_tellers ∈ AL := AL_in (tq4 (List.mem_of_getElem? (i := 173) rfl)) rfl
theorem q329 : Cond.code yX7_tellers cX7_tellers 2 (some .int) ∈ AL := AL_in (tq4 (List.mem_of_getElem? (i := 176) rfl)) rfl
theorem q330 : Cond.instanceMethod yX7_tellers ∈ AL := AL_in (tq4 (List.mem_of_getElem? (i := 175) rfl)) rfl
theorem q331 : Cond.selects yX7_tellers.cls yX7_tellers yX7_tellers ∈ AL := AL_in (tq0 (List.mem_of_getElem? (i := 28) rfl)) rfl
theorem mw_X7_tellers : MW yX7_tellers cX7_tellers 2 (some .int) 1 := ⟨q330, q331, q323, q329, by decide +kernel⟩
theorem q332 : Cond.fieldLink RX7 19 "MuffledTollsModel" "age" "[I" ∈ AL := AL_in (tq4 (List.mem_of_getElem? (i := 33) rfl)) rfl
theorem q333 : Cond.methodLink RX7 58 yX7_isBell ∈ AL := AL_in (tq4 (List.mem_of_getElem? (i := 71) rfl)) rfl
theorem q334 : Cond.code yX7_isBell cX7_isBell 1 (some .boolean) ∈ AL := AL_in (tq4 (List.mem_of_getElem? (i := 73) rfl)) rfl
theorem q335 : Cond.static yX7_isBell ∈ AL := AL_in (tq4 (List.mem_of_getElem? (i := 72) rfl)) rfl
theorem mw_X7_isBell : MS yX7_isBell cX7_isBell 1 (some .boolean) 1 := ⟨q335, q323, q334, by decide +kernel⟩
theorem q336 : Cond.fieldLink RX7 33 "MuffledTollsModel" "s" "LMuffledTollsModel$State;" ∈ AL := AL_in (tq4 (List.mem_of_getElem? (i := 38) rfl)) rfl
theorem q337 : Cond.fieldLinkNest RX7 65 "MuffledTollsModel$State" "weight" "[I" "MuffledTollsModel" ∈ XL := XL_in (tq3 (List.mem_of_getElem? (i := 202) rfl)) rfl
theorem q338 : Cond.methodLink RX7 62 yX7_no ∈ AL := AL_in (tq4 (List.mem_of_getElem? (i := 77) rfl)) rfl
theorem q339 : Cond.code yX7_no cX7_no 2 (some .int) ∈ AL := AL_in (tq4 (List.mem_of_getElem? (i := 80) rfl)) rfl
theorem q340 : Cond.instanceMethod yX7_no ∈ AL := AL_in (tq4 (List.mem_of_getElem? (i := 79) rfl)) rfl
theorem q341 : Cond.selects yX7_no.cls yX7_no yX7_no ∈ AL := AL_in (tq0 (List.mem_of_getElem? (i := 20) rfl)) rfl
theorem mw_X7_no : MW yX7_no cX7_no 2 (some .int) 1 := ⟨q340, q341, q323, q339, by decide +kernel⟩
theorem q342 : Cond.fieldLink RX6 23 "MuffledTollsModel$State" "thick" "[I" ∈ AL := AL_in (tq3 (List.mem_of_getElem? (i := 203) rfl)) rfl
theorem q343 : Cond.fieldLink RX6 26 "MuffledTollsModel$State" "worn" "[I" ∈ AL := AL_in (tq3 (List.mem_of_getElem? (i := 205) rfl)) rfl
theorem q344 : Cond.methodLink RX7 68 yX7_isSide ∈ AL := AL_in (tq4 (List.mem_of_getElem? (i := 85) rfl)) rfl
theorem q345 : Cond.code yX7_isSide cX7_isSide 1 (some .boolean) ∈ AL := AL_in (tq4 (List.mem_of_getElem? (i := 87) rfl)) rfl
theorem q346 : Cond.static yX7_isSide ∈ AL := AL_in (tq4 (List.mem_of_getElem? (i := 86) rfl)) rfl
theorem mw_X7_isSide : MS yX7_isSide cX7_isSide 1 (some .boolean) 1 := ⟨q346, q323, q345, by decide +kernel⟩
theorem q347 : Cond.fieldLinkNest RX7 74 "MuffledTollsModel$State" "thick" "[I" "MuffledTollsModel" ∈ XL := XL_in (tq3 (List.mem_of_getElem? (i := 204) rfl)) rfl
theorem q348 : Cond.methodLink RX7 77 yX6_bare ∈ AL := AL_in (tq4 (List.mem_of_getElem? (i := 88) rfl)) rfl
theorem q349 : Cond.code yX6_bare cX6_bare 3 none ∈ AL := AL_in (tq4 (List.mem_of_getElem? (i := 91) rfl)) rfl
theorem q350 : Cond.initialized "MuffledTollsModel$State" ∈ AL := AL_in (tq1 (List.mem_of_getElem? (i := 8) rfl)) rfl
theorem q351 : Cond.instanceMethod yX6_bare ∈ AL := AL_in (tq4 (List.mem_of_getElem? (i := 89) rfl)) rfl
theorem q352 : Cond.selects yX6_bare.cls yX6_bare yX6_bare ∈ AL := AL_in (tq4 (List.mem_of_getElem? (i := 90) rfl)) rfl
theorem mw_X6_bare : MW yX6_bare cX6_bare 3 none 2 := ⟨q351, q352, q350, q349, by decide +kernel⟩
theorem q353 : Cond.fieldLinkNest RX7 71 "MuffledTollsModel$State" "store" "I" "MuffledTollsModel" ∈ XL := XL_in (tq3 (List.mem_of_getElem? (i := 199) rfl)) rfl
theorem q354 : Cond.methodLink RX7 81 Lib.Math.min.name ∈ AL := AL_in (tq4 (List.mem_of_getElem? (i := 96) rfl)) rfl
theorem q355 : Cond.fieldLinkNest RX7 87 "MuffledTollsModel$State" "worn" "[I" "MuffledTollsModel" ∈ XL := XL_in (tq3 (List.mem_of_getElem? (i := 206) rfl)) rfl
theorem q356 : Cond.methodLink RX7 90 yX7_lastsOn ∈ AL := AL_in (tq4 (List.mem_of_getElem? (i := 101) rfl)) rfl
theorem q357 : Cond.code yX7_lastsOn cX7_lastsOn 4 (some .int) ∈ AL := AL_in (tq4 (List.mem_of_getElem? (i := 104) rfl)) rfl
theorem q358 : Cond.instanceMethod yX7_lastsOn ∈ AL := AL_in (tq4 (List.mem_of_getElem? (i := 103) rfl)) rfl
theorem q359 : Cond.selects yX7_lastsOn.cls yX7_lastsOn yX7_lastsOn ∈ AL := AL_in (tq0 (List.mem_of_getElem? (i := 21) rfl)) rfl
theorem mw_X7_lastsOn : MW yX7_lastsOn cX7_lastsOn 4 (some .int) 2 := ⟨q358, q359, q323, q357, by decide +kernel⟩
theorem q360 : Cond.fieldLink RX6 68 "MuffledTollsModel$State" "known" "I" ∈ AL := AL_in (tq3 (List.mem_of_getElem? (i := 200) rfl)) rfl
theorem q361 : Cond.fieldLink RX6 3 "MuffledTollsModel$State" "this$0" "LMuffledTollsModel;" ∈ AL := AL_in (tq3 (List.mem_of_getElem? (i := 227) rfl)) rfl
theorem q362 : Cond.fieldLinkNest RX6 75 "MuffledTollsModel" "belongs" "[I" "MuffledTollsModel" ∈ XL := XL_in (tq4 (List.mem_of_getElem? (i := 30) rfl)) rfl
theorem q363 : Cond.fieldLink RX6 56 "MuffledTollsModel$State" "done" "[I" ∈ AL := AL_in (tq3 (List.mem_of_getElem? (i := 225) rfl)) rfl
theorem q364 : Cond.fieldLink RX7 13 "MuffledTollsModel" "belongs" "[I" ∈ AL := AL_in (tq4 (List.mem_of_getElem? (i := 29) rfl)) rfl
theorem q365 : Cond.fieldLinkNest RX7 93 "MuffledTollsModel$State" "done" "[I" "MuffledTollsModel" ∈ XL := XL_in (tq3 (List.mem_of_getElem? (i := 226) rfl)) rfl
theorem q366 : Cond.arrayClass .int ∈ AL := AL_in (tq1 (List.mem_of_getElem? (i := 153) rfl)) rfl
theorem q367 : Cond.fieldLinkNest RX7 96 "MuffledTollsModel$State" "side" "[I" "MuffledTollsModel" ∈ XL := XL_in (tq3 (List.mem_of_getElem? (i := 208) rfl)) rfl
theorem q368 : Cond.fieldLinkNest RX7 99 "MuffledTollsModel$State" "rope" "[I" "MuffledTollsModel" ∈ XL := XL_in (tq3 (List.mem_of_getElem? (i := 210) rfl)) rfl
theorem q369 : Cond.methodLink RX7 102 yX6_first ∈ AL := AL_in (tq4 (List.mem_of_getElem? (i := 113) rfl)) rfl
theorem q370 : Cond.code yX6_first cX6_first 3 (some .int) ∈ AL := AL_in (tq4 (List.mem_of_getElem? (i := 116) rfl)) rfl
theorem q371 : Cond.instanceMethod yX6_first ∈ AL := AL_in (tq4 (List.mem_of_getElem? (i := 114) rfl)) rfl
theorem q372 : Cond.selects yX6_first.cls yX6_first yX6_first ∈ AL := AL_in (tq4 (List.mem_of_getElem? (i := 115) rfl)) rfl
theorem mw_X6_first : MW yX6_first cX6_first 3 (some .int) 1 := ⟨q371, q372, q350, q370, by decide +kernel⟩
theorem q373 : Cond.fieldLinkNest RX7 105 "MuffledTollsModel$State" "pause" "[I" "MuffledTollsModel" ∈ XL := XL_in (tq3 (List.mem_of_getElem? (i := 212) rfl)) rfl
theorem q374 : Cond.fieldLinkNest RX7 108 "MuffledTollsModel$State" "rung" "[I" "MuffledTollsModel" ∈ XL := XL_in (tq3 (List.mem_of_getElem? (i := 214) rfl)) rfl
theorem q375 : Cond.methodLink RX7 111 yX7_bellTold ∈ AL := AL_in (tq4 (List.mem_of_getElem? (i := 109) rfl)) rfl
theorem q376 : Cond.code yX7_bellTold cX7_bellTold 5 (some .int) ∈ AL := AL_in (tq4 (List.mem_of_getElem? (i := 112) rfl)) rfl
theorem q377 : Cond.instanceMethod yX7_bellTold ∈ AL := AL_in (tq4 (List.mem_of_getElem? (i := 111) rfl)) rfl
theorem q378 : Cond.selects yX7_bellTold.cls yX7_bellTold yX7_bellTold ∈ AL := AL_in (tq0 (List.mem_of_getElem? (i := 22) rfl)) rfl
theorem mw_X7_bellTold : MW yX7_bellTold cX7_bellTold 5 (some .int) 2 := ⟨q377, q378, q323, q376, by decide +kernel⟩
theorem q379 : Cond.fieldLink RX7 9 "MuffledTollsModel" "strength" "[I" ∈ AL := AL_in (tq4 (List.mem_of_getElem? (i := 26) rfl)) rfl
theorem q380 : Cond.fieldLink RX6 32 "MuffledTollsModel$State" "rope" "[I" ∈ AL := AL_in (tq3 (List.mem_of_getElem? (i := 209) rfl)) rfl
theorem q381 : Cond.methodLink RX7 114 yX7_isRinger ∈ AL := AL_in (tq4 (List.mem_of_getElem? (i := 125) rfl)) rfl
theorem q382 : Cond.code yX7_isRinger cX7_isRinger 2 (some .boolean) ∈ AL := AL_in (tq4 (List.mem_of_getElem? (i := 128) rfl)) rfl
theorem q383 : Cond.instanceMethod yX7_isRinger ∈ AL := AL_in (tq4 (List.mem_of_getElem? (i := 127) rfl)) rfl
theorem q384 : Cond.selects yX7_isRinger.cls yX7_isRinger yX7_isRinger ∈ AL := AL_in (tq0 (List.mem_of_getElem? (i := 23) rfl)) rfl
theorem mw_X7_isRinger : MW yX7_isRinger cX7_isRinger 2 (some .boolean) 1 := ⟨q383, q384, q323, q382, by decide +kernel⟩
theorem q385 : Cond.methodLink RX7 117 yX6_bellOf ∈ AL := AL_in (tq4 (List.mem_of_getElem? (i := 129) rfl)) rfl
theorem q386 : Cond.code yX6_bellOf cX6_bellOf 3 (some .int) ∈ AL := AL_in (tq4 (List.mem_of_getElem? (i := 132) rfl)) rfl
theorem q387 : Cond.instanceMethod yX6_bellOf ∈ AL := AL_in (tq4 (List.mem_of_getElem? (i := 130) rfl)) rfl
theorem q388 : Cond.selects yX6_bellOf.cls yX6_bellOf yX6_bellOf ∈ AL := AL_in (tq4 (List.mem_of_getElem? (i := 131) rfl)) rfl
theorem mw_X6_bellOf : MW yX6_bellOf cX6_bellOf 3 (some .int) 1 := ⟨q387, q388, q350, q386, by decide +kernel⟩
theorem q389 : Cond.fieldLinkNest RX7 120 "MuffledTollsModel$State" "tired" "[I" "MuffledTollsModel" ∈ XL := XL_in (tq3 (List.mem_of_getElem? (i := 216) rfl)) rfl
theorem q390 : Cond.fieldLinkNest RX7 123 "MuffledTollsModel$State" "pulls" "[I" "MuffledTollsModel" ∈ XL := XL_in (tq3 (List.mem_of_getElem? (i := 218) rfl)) rfl
theorem q391 : Cond.fieldLinkNest RX7 126 "MuffledTollsModel$State" "reliefs" "[I" "MuffledTollsModel" ∈ XL := XL_in (tq3 (List.mem_of_getElem? (i := 220) rfl)) rfl
theorem q392 : Cond.methodLink RX7 129 yX7_ringerTold ∈ AL := AL_in (tq4 (List.mem_of_getElem? (i := 137) rfl)) rfl
theorem q393 : Cond.code yX7_ringerTold cX7_ringerTold 4 (some .int) ∈ AL := AL_in (tq4 (List.mem_of_getElem? (i := 140) rfl)) rfl
theorem q394 : Cond.instanceMethod yX7_ringerTold ∈ AL := AL_in (tq4 (List.mem_of_getElem? (i := 139) rfl)) rfl
theorem q395 : Cond.selects yX7_ringerTold.cls yX7_ringerTold yX7_ringerTold ∈ AL := AL_in (tq0 (List.mem_of_getElem? (i := 24) rfl)) rfl
theorem mw_X7_ringerTold : MW yX7_ringerTold cX7_ringerTold 4 (some .int) 2 := ⟨q394, q395, q323, q393, by decide +kernel⟩
theorem q396 : Cond.fieldLink RX7 22 "MuffledTollsModel" "pace" "[I" ∈ AL := AL_in (tq4 (List.mem_of_getElem? (i := 34) rfl)) rfl
theorem q397 : Cond.fieldLink RX6 50 "MuffledTollsModel$State" "strokes" "[I" ∈ AL := AL_in (tq3 (List.mem_of_getElem? (i := 221) rfl)) rfl
theorem q398 : Cond.fieldLink RX6 53 "MuffledTollsModel$State" "loud" "[I" ∈ AL := AL_in (tq3 (List.mem_of_getElem? (i := 223) rfl)) rfl
theorem q399 : Cond.methodLink RX7 132 yX7_isKind ∈ AL := AL_in (tq4 (List.mem_of_getElem? (i := 145) rfl)) rfl
theorem q400 : Cond.code yX7_isKind cX7_isKind 3 (some .boolean) ∈ AL := AL_in (tq4 (List.mem_of_getElem? (i := 147) rfl)) rfl
theorem q401 : Cond.static yX7_isKind ∈ AL := AL_in (tq4 (List.mem_of_getElem? (i := 146) rfl)) rfl
theorem mw_X7_isKind : MS yX7_isKind cX7_isKind 3 (some .boolean) 3 := ⟨q401, q323, q400, by decide +kernel⟩
theorem q402 : Cond.methodLink RX7 135 yX7_tell ∈ AL := AL_in (tq4 (List.mem_of_getElem? (i := 148) rfl)) rfl
theorem q403 : Cond.code yX7_tell cX7_tell 6 none ∈ AL := AL_in (tq4 (List.mem_of_getElem? (i := 151) rfl)) rfl
theorem q404 : Cond.instanceMethod yX7_tell ∈ AL := AL_in (tq4 (List.mem_of_getElem? (i := 150) rfl)) rfl
theorem q405 : Cond.selects yX7_tell.cls yX7_tell yX7_tell ∈ AL := AL_in (tq0 (List.mem_of_getElem? (i := 25) rfl)) rfl
theorem mw_X7_tell : MW yX7_tell cX7_tell 6 none 5 := ⟨q404, q405, q323, q403, by decide +kernel⟩
theorem q406 : Cond.methodLink RX7 139 yX6_come ∈ AL := AL_in (tq4 (List.mem_of_getElem? (i := 152) rfl)) rfl
theorem q407 : Cond.code yX6_come cX6_come 1 (some .int) ∈ AL := AL_in (tq4 (List.mem_of_getElem? (i := 155) rfl)) rfl
theorem q408 : Cond.instanceMethod yX6_come ∈ AL := AL_in (tq4 (List.mem_of_getElem? (i := 153) rfl)) rfl
theorem q409 : Cond.selects yX6_come.cls yX6_come yX6_come ∈ AL := AL_in (tq4 (List.mem_of_getElem? (i := 154) rfl)) rfl
theorem mw_X6_come : MW yX6_come cX6_come 1 (some .int) 0 := ⟨q408, q409, q350, q407, by decide +kernel⟩
theorem q410 : Cond.methodLink RX6 115 yX6_first ∈ AL := AL_in (tq4 (List.mem_of_getElem? (i := 168) rfl)) rfl
theorem q411 : Cond.fieldLink RX6 65 "MuffledTollsModel$State" "minute" "I" ∈ AL := AL_in (tq3 (List.mem_of_getElem? (i := 197) rfl)) rfl
theorem q412 : Cond.fieldLink RX6 35 "MuffledTollsModel$State" "pause" "[I" ∈ AL := AL_in (tq3 (List.mem_of_getElem? (i := 211) rfl)) rfl
theorem q413 : Cond.methodLink RX7 143 yX7_isToll ∈ AL := AL_in (tq4 (List.mem_of_getElem? (i := 160) rfl)) rfl
theorem q414 : Cond.code yX7_isToll cX7_isToll 2 (some .boolean) ∈ AL := AL_in (tq4 (List.mem_of_getElem? (i := 163) rfl)) rfl
theorem q415 : Cond.instanceMethod yX7_isToll ∈ AL := AL_in (tq4 (List.mem_of_getElem? (i := 162) rfl)) rfl
theorem q416 : Cond.selects yX7_isToll.cls yX7_isToll yX7_isToll ∈ AL := AL_in (tq0 (List.mem_of_getElem? (i := 26) rfl)) rfl
theorem mw_X7_isToll : MW yX7_isToll cX7_isToll 2 (some .boolean) 1 := ⟨q415, q416, q323, q414, by decide +kernel⟩
theorem q417 : Cond.methodLink RX7 146 yX6_end ∈ AL := AL_in (tq4 (List.mem_of_getElem? (i := 164) rfl)) rfl
theorem q418 : Cond.code yX6_end cX6_end 4 none ∈ AL := AL_in (tq4 (List.mem_of_getElem? (i := 167) rfl)) rfl
theorem q419 : Cond.instanceMethod yX6_end ∈ AL := AL_in (tq4 (List.mem_of_getElem? (i := 165) rfl)) rfl
theorem q420 : Cond.selects yX6_end.cls yX6_end yX6_end ∈ AL := AL_in (tq4 (List.mem_of_getElem? (i := 166) rfl)) rfl
theorem mw_X6_end : MW yX6_end cX6_end 4 none 1 := ⟨q419, q420, q350, q418, by decide +kernel⟩
theorem q421 : Cond.methodLink RX7 150 yX7_all ∈ AL := AL_in (tq4 (List.mem_of_getElem? (i := 169) rfl)) rfl
theorem q422 : Cond.code yX7_all cX7_all 2 (some .int) ∈ AL := AL_in (tq4 (List.mem_of_getElem? (i := 172) rfl)) rfl
theorem q423 : Cond.instanceMethod yX7_all ∈ AL := AL_in (tq4 (List.mem_of_getElem? (i := 171) rfl)) rfl
theorem q424 : Cond.selects yX7_all.cls yX7_all yX7_all ∈ AL := AL_in (tq0 (List.mem_of_getElem? (i := 27) rfl)) rfl
theorem mw_X7_all : MW yX7_all cX7_all 2 (some .int) 1 := ⟨q423, q424, q323, q422, by decide +kernel⟩
theorem q425 : Cond.fieldLinkNest RX7 153 "MuffledTollsModel$State" "strokes" "[I" "MuffledTollsModel" ∈ XL := XL_in (tq3 (List.mem_of_getElem? (i := 222) rfl)) rfl
theorem q426 : Cond.fieldLinkNest RX7 156 "MuffledTollsModel$State" "loud" "[I" "MuffledTollsModel" ∈ XL := XL_in (tq3 (List.mem_of_getElem? (i := 224) rfl)) rfl
theorem q427 : Cond.methodLink RX7 159 Lib.Math.max.name ∈ AL := AL_in (tq4 (List.mem_of_getElem? (i := 185) rfl)) rfl
theorem q428 : Cond.methodLink RX7 162 yX7_tollTold ∈ AL := AL_in (tq4 (List.mem_of_getElem? (i := 181) rfl)) rfl
theorem q429 : Cond.code yX7_tollTold cX7_tollTold 5 (some .int) ∈ AL := AL_in (tq4 (List.mem_of_getElem? (i := 184) rfl)) rfl
theorem q430 : Cond.instanceMethod yX7_tollTold ∈ AL := AL_in (tq4 (List.mem_of_getElem? (i := 183) rfl)) rfl
theorem q431 : Cond.selects yX7_tollTold.cls yX7_tollTold yX7_tollTold ∈ AL := AL_in (tq0 (List.mem_of_getElem? (i := 29) rfl)) rfl
theorem mw_X7_tollTold : MW yX7_tollTold cX7_tollTold 5 (some .int) 2 := ⟨q430, q431, q323, q429, by decide +kernel⟩
theorem q432 : Cond.fieldLink RX7 25 "MuffledTollsModel" "reached" "[I" ∈ AL := AL_in (tq4 (List.mem_of_getElem? (i := 36) rfl)) rfl
theorem q433 : Cond.methodLink RX7 165 yX7_heardOf ∈ AL := AL_in (tq4 (List.mem_of_getElem? (i := 190) rfl)) rfl
theorem q434 : Cond.code yX7_heardOf cX7_heardOf 5 (some .int) ∈ AL := AL_in (tq4 (List.mem_of_getElem? (i := 193) rfl)) rfl
theorem q435 : Cond.instanceMethod yX7_heardOf ∈ AL := AL_in (tq4 (List.mem_of_getElem? (i := 192) rfl)) rfl
theorem q436 : Cond.selects yX7_heardOf.cls yX7_heardOf yX7_heardOf ∈ AL := AL_in (tq0 (List.mem_of_getElem? (i := 30) rfl)) rfl
theorem mw_X7_heardOf : MW yX7_heardOf cX7_heardOf 5 (some .int) 2 := ⟨q435, q436, q323, q434, by decide +kernel⟩
theorem q437 : Cond.fieldLinkNest RX6 85 "MuffledTollsModel" "ringers" "I" "MuffledTollsModel" ∈ XL := XL_in (tq4 (List.mem_of_getElem? (i := 25) rfl)) rfl
theorem q438 : Cond.fieldLink RX6 15 "MuffledTollsModel$State" "store" "I" ∈ AL := AL_in (tq3 (List.mem_of_getElem? (i := 198) rfl)) rfl
theorem q439 : Cond.fieldLink RX6 38 "MuffledTollsModel$State" "rung" "[I" ∈ AL := AL_in (tq3 (List.mem_of_getElem? (i := 213) rfl)) rfl
theorem q440 : Cond.methodLink RX7 168 yX6_counted ∈ AL := AL_in (tq4 (List.mem_of_getElem? (i := 198) rfl)) rfl
theorem q441 : Cond.code yX6_counted cX6_counted 7 (some .int) ∈ AL := AL_in (tq4 (List.mem_of_getElem? (i := 201) rfl)) rfl
theorem q442 : Cond.instanceMethod yX6_counted ∈ AL := AL_in (tq4 (List.mem_of_getElem? (i := 199) rfl)) rfl
theorem q443 : Cond.selects yX6_counted.cls yX6_counted yX6_counted ∈ AL := AL_in (tq4 (List.mem_of_getElem? (i := 200) rfl)) rfl
theorem mw_X6_counted : MW yX6_counted cX6_counted 7 (some .int) 1 := ⟨q442, q443, q350, q441, by decide +kernel⟩
theorem q444 : Cond.fieldLink RX6 41 "MuffledTollsModel$State" "tired" "[I" ∈ AL := AL_in (tq3 (List.mem_of_getElem? (i := 215) rfl)) rfl
theorem q445 : Cond.fieldLink RX6 19 "MuffledTollsModel$State" "weight" "[I" ∈ AL := AL_in (tq3 (List.mem_of_getElem? (i := 201) rfl)) rfl
theorem q446 : Cond.fieldLinkNest RX6 78 "MuffledTollsModel" "strength" "[I" "MuffledTollsModel" ∈ XL := XL_in (tq4 (List.mem_of_getElem? (i := 27) rfl)) rfl
theorem q447 : Cond.methodLink RX6 88 yX6_bellOf ∈ AL := AL_in (tq4 (List.mem_of_getElem? (i := 218) rfl)) rfl
theorem q448 : Cond.methodLink RX6 81 yX6_canPull ∈ AL := AL_in (tq4 (List.mem_of_getElem? (i := 214) rfl)) rfl
theorem q449 : Cond.code yX6_canPull cX6_canPull 3 (some .boolean) ∈ AL := AL_in (tq4 (List.mem_of_getElem? (i := 217) rfl)) rfl
theorem q450 : Cond.instanceMethod yX6_canPull ∈ AL := AL_in (tq4 (List.mem_of_getElem? (i := 216) rfl)) rfl
theorem q451 : Cond.selects yX6_canPull.cls yX6_canPull yX6_canPull ∈ AL := AL_in (tq0 (List.mem_of_getElem? (i := 32) rfl)) rfl
theorem mw_X6_canPull : MW yX6_canPull cX6_canPull 3 (some .boolean) 2 := ⟨q450, q451, q350, q449, by decide +kernel⟩
theorem q452 : Cond.fieldLink RX6 47 "MuffledTollsModel$State" "reliefs" "[I" ∈ AL := AL_in (tq3 (List.mem_of_getElem? (i := 219) rfl)) rfl
theorem q453 : Cond.fieldLink RX6 29 "MuffledTollsModel$State" "side" "[I" ∈ AL := AL_in (tq3 (List.mem_of_getElem? (i := 207) rfl)) rfl
theorem q454 : Cond.fieldLink RX6 44 "MuffledTollsModel$State" "pulls" "[I" ∈ AL := AL_in (tq3 (List.mem_of_getElem? (i := 217) rfl)) rfl
theorem q455 : Cond.methodLinkNest RX6 92 yX7_tellers "MuffledTollsModel" ∈ XL := XL_in (tq4 (List.mem_of_getElem? (i := 223) rfl)) rfl
theorem q456 : Cond.fieldLinkNest RX6 105 "MuffledTollsModel" "pace" "[I" "MuffledTollsModel" ∈ XL := XL_in (tq4 (List.mem_of_getElem? (i := 35) rfl)) rfl
theorem q457 : Cond.methodLinkNest RX6 108 yX7_all "MuffledTollsModel" ∈ XL := XL_in (tq4 (List.mem_of_getElem? (i := 225) rfl)) rfl
theorem q458 : Cond.methodLink RX6 111 yX6_end ∈ AL := AL_in (tq4 (List.mem_of_getElem? (i := 226) rfl)) rfl
theorem q459 : Cond.fieldLinkNest RX6 102 "MuffledTollsModel" "kind" "[I" "MuffledTollsModel" ∈ XL := XL_in (tq4 (List.mem_of_getElem? (i := 32) rfl)) rfl
theorem q460 : Cond.methodLink RX6 98 yX6_bare ∈ AL := AL_in (tq4 (List.mem_of_getElem? (i := 224) rfl)) rfl
theorem q461 : Cond.fieldLinkNest RX6 95 "MuffledTollsModel" "reached" "[I" "MuffledTollsModel" ∈ XL := XL_in (tq4 (List.mem_of_getElem? (i := 37) rfl)) rfl
theorem q462 : Cond.methodLink RX6 118 yX6_isManned ∈ AL := AL_in (tq4 (List.mem_of_getElem? (i := 210) rfl)) rfl
theorem q463 : Cond.code yX6_isManned cX6_isManned 4 (some .boolean) ∈ AL := AL_in (tq4 (List.mem_of_getElem? (i := 213) rfl)) rfl
theorem q464 : Cond.instanceMethod yX6_isManned ∈ AL := AL_in (tq4 (List.mem_of_getElem? (i := 212) rfl)) rfl
theorem q465 : Cond.selects yX6_isManned.cls yX6_isManned yX6_isManned ∈ AL := AL_in (tq0 (List.mem_of_getElem? (i := 31) rfl)) rfl
theorem mw_X6_isManned : MW yX6_isManned cX6_isManned 4 (some .boolean) 1 := ⟨q464, q465, q350, q463, by decide +kernel⟩
theorem q466 : Cond.methodLink RX6 122 yX6_stroke ∈ AL := AL_in (tq4 (List.mem_of_getElem? (i := 219) rfl)) rfl
theorem q467 : Cond.code yX6_stroke cX6_stroke 7 none ∈ AL := AL_in (tq4 (List.mem_of_getElem? (i := 222) rfl)) rfl
theorem q468 : Cond.instanceMethod yX6_stroke ∈ AL := AL_in (tq4 (List.mem_of_getElem? (i := 221) rfl)) rfl
theorem q469 : Cond.selects yX6_stroke.cls yX6_stroke yX6_stroke ∈ AL := AL_in (tq0 (List.mem_of_getElem? (i := 33) rfl)) rfl
theorem mw_X6_stroke : MW yX6_stroke cX6_stroke 7 none 3 := ⟨q468, q469, q350, q467, by decide +kernel⟩
theorem q470 : Cond.methodLink RX6 126 Lib.Math.max.name ∈ AL := AL_in (tq4 (List.mem_of_getElem? (i := 227) rfl)) rfl
theorem q471 : Cond.methodLink RX7 171 yX6_pass ∈ AL := AL_in (tq4 (List.mem_of_getElem? (i := 206) rfl)) rfl
theorem q472 : Cond.code yX6_pass cX6_pass 5 (some .int) ∈ AL := AL_in (tq4 (List.mem_of_getElem? (i := 209) rfl)) rfl
theorem q473 : Cond.instanceMethod yX6_pass ∈ AL := AL_in (tq4 (List.mem_of_getElem? (i := 207) rfl)) rfl
theorem q474 : Cond.selects yX6_pass.cls yX6_pass yX6_pass ∈ AL := AL_in (tq4 (List.mem_of_getElem? (i := 208) rfl)) rfl
theorem mw_X6_pass : MW yX6_pass cX6_pass 5 (some .int) 1 := ⟨q473, q474, q350, q472, by decide +kernel⟩
theorem q475 : Cond.fieldLink RX7 37 "MuffledTollsModel" "ahead" "LMuffledTollsModel$State;" ∈ AL := AL_in (tq4 (List.mem_of_getElem? (i := 39) rfl)) rfl
theorem q476 : Cond.methodLink RX6 59 arraycopyName ∈ AL := AL_in (tq5 (List.mem_of_getElem? (i := 0) rfl)) rfl
theorem q477 : Cond.methodLink RX6 71 yX6_copy ∈ AL := AL_in (tq4 (List.mem_of_getElem? (i := 236) rfl)) rfl
theorem q478 : Cond.code yX6_copy cX6_copy 3 none ∈ AL := AL_in (tq4 (List.mem_of_getElem? (i := 239) rfl)) rfl
theorem q479 : Cond.instanceMethod yX6_copy ∈ AL := AL_in (tq4 (List.mem_of_getElem? (i := 238) rfl)) rfl
theorem q480 : Cond.selects yX6_copy.cls yX6_copy yX6_copy ∈ AL := AL_in (tq0 (List.mem_of_getElem? (i := 34) rfl)) rfl
theorem mw_X6_copy : MW yX6_copy cX6_copy 3 none 2 := ⟨q479, q480, q350, q478, by decide +kernel⟩
theorem q481 : Cond.methodLink RX7 175 yX6_become ∈ AL := AL_in (tq4 (List.mem_of_getElem? (i := 232) rfl)) rfl
theorem q482 : Cond.code yX6_become cX6_become 2 none ∈ AL := AL_in (tq4 (List.mem_of_getElem? (i := 235) rfl)) rfl
theorem q483 : Cond.instanceMethod yX6_become ∈ AL := AL_in (tq4 (List.mem_of_getElem? (i := 233) rfl)) rfl
theorem q484 : Cond.selects yX6_become.cls yX6_become yX6_become ∈ AL := AL_in (tq4 (List.mem_of_getElem? (i := 234) rfl)) rfl
theorem mw_X6_become : MW yX6_become cX6_become 2 none 1 := ⟨q483, q484, q350, q482, by decide +kernel⟩
theorem q485 : Cond.methodLink RX7 179 yX7_endOf ∈ AL := AL_in (tq5 (List.mem_of_getElem? (i := 3) rfl)) rfl
theorem q486 : Cond.code yX7_endOf cX7_endOf 3 (some .int) ∈ AL := AL_in (tq5 (List.mem_of_getElem? (i := 6) rfl)) rfl
theorem q487 : Cond.instanceMethod yX7_endOf ∈ AL := AL_in (tq5 (List.mem_of_getElem? (i := 5) rfl)) rfl
theorem q488 : Cond.selects yX7_endOf.cls yX7_endOf yX7_endOf ∈ AL := AL_in (tq0 (List.mem_of_getElem? (i := 35) rfl)) rfl
theorem mw_X7_endOf : MW yX7_endOf cX7_endOf 3 (some .int) 1 := ⟨q487, q488, q323, q486, by decide +kernel⟩
theorem q489 : Cond.constantLong RX7 182 (1249 : Int64) ∈ AL := AL_in (tq5 (List.mem_of_getElem? (i := 23) rfl)) rfl
theorem q490 : Cond.constantLong RX7 184 (31 : Int64) ∈ AL := AL_in (tq5 (List.mem_of_getElem? (i := 24) rfl)) rfl
theorem q491 : Cond.methodLink RX1 1 objectInit ∈ AL := AL_in (tq1 (List.mem_of_getElem? (i := 43) rfl)) rfl
theorem q492 : Cond.instanceMethod objectInit ∈ AL := AL_in (tq1 (List.mem_of_getElem? (i := 23) rfl)) rfl
theorem q493 : Cond.code objectInit ⟨#[0xb1]⟩ 1 none ∈ AL := AL_in (tq1 (List.mem_of_getElem? (i := 24) rfl)) rfl
theorem q494 : Cond.methodLink RX2 3 objectInit ∈ AL := AL_in (tq1 (List.mem_of_getElem? (i := 94) rfl)) rfl
theorem q495 : Cond.methodLink RX0 3 objectInit ∈ AL := AL_in (tq1 (List.mem_of_getElem? (i := 37) rfl)) rfl
theorem q496 : Cond.classLink RX0 9 RX1 ∈ AL := AL_in (tq1 (List.mem_of_getElem? (i := 38) rfl)) rfl
theorem q497 : Cond.instantiable RX1 2 ∈ AL := AL_in (tq1 (List.mem_of_getElem? (i := 39) rfl)) rfl
theorem q498 : Cond.methodLinkNest RX0 11 yX1_init "MuffledTolls" ∈ XL := XL_in (tq1 (List.mem_of_getElem? (i := 40) rfl)) rfl
theorem q499 : Cond.code yX1_init cX1_init 1 none ∈ AL := AL_in (tq1 (List.mem_of_getElem? (i := 42) rfl)) rfl
theorem q500 : Cond.instanceMethod yX1_init ∈ AL := AL_in (tq1 (List.mem_of_getElem? (i := 41) rfl)) rfl
theorem mwi_X1_init : Cond.instanceMethod yX1_init ∈ AL ∧ Cond.initialized yX1_init.cls ∈ AL ∧ Cond.code yX1_init cX1_init 1 none ∈ AL ∧ (yX1_init.cls ≠ "java/lang/invoke/MethodHandle" ∧ yX1_init.cls ≠ "java/lang/invoke/VarHandle" ∧ (parseMethodDescriptor yX1_init.desc).map (fun d => d.parameters.length) = some 0) := ⟨q500, q39, q499, by decide +kernel⟩
theorem q501 : Cond.methodLink RX3 3 objectInit ∈ AL := AL_in (tq1 (List.mem_of_getElem? (i := 122) rfl)) rfl
theorem q502 : Cond.methodLink RX4 3 objectInit ∈ AL := AL_in (tq1 (List.mem_of_getElem? (i := 30) rfl)) rfl
theorem q503 : Cond.classLink RX4 9 RX0 ∈ AL := AL_in (tq1 (List.mem_of_getElem? (i := 31) rfl)) rfl
theorem q504 : Cond.instantiable RX0 8 ∈ AL := AL_in (tq1 (List.mem_of_getElem? (i := 33) rfl)) rfl
theorem q505 : Cond.methodLink RX4 17 yX0_init ∈ AL := AL_in (tq1 (List.mem_of_getElem? (i := 34) rfl)) rfl
theorem q506 : Cond.code yX0_init cX0_init 2 none ∈ AL := AL_in (tq1 (List.mem_of_getElem? (i := 36) rfl)) rfl
theorem q507 : Cond.instanceMethod yX0_init ∈ AL := AL_in (tq1 (List.mem_of_getElem? (i := 35) rfl)) rfl
theorem mwi_X0_init : Cond.instanceMethod yX0_init ∈ AL ∧ Cond.initialized yX0_init.cls ∈ AL ∧ Cond.code yX0_init cX0_init 2 none ∈ AL ∧ (yX0_init.cls ≠ "java/lang/invoke/MethodHandle" ∧ yX0_init.cls ≠ "java/lang/invoke/VarHandle" ∧ (parseMethodDescriptor yX0_init.desc).map (fun d => d.parameters.length) = some 1) := ⟨q507, q33, q506, by decide +kernel⟩
theorem q508 : Cond.classLink RX4 20 RX2 ∈ AL := AL_in (tq1 (List.mem_of_getElem? (i := 88) rfl)) rfl
theorem q509 : Cond.instantiable RX2 5 ∈ AL := AL_in (tq1 (List.mem_of_getElem? (i := 90) rfl)) rfl
theorem q510 : Cond.methodLinkNest RX4 26 yX2_init "MuffledTolls" ∈ XL := XL_in (tq1 (List.mem_of_getElem? (i := 91) rfl)) rfl
theorem q511 : Cond.code yX2_init cX2_init 1 none ∈ AL := AL_in (tq1 (List.mem_of_getElem? (i := 93) rfl)) rfl
theorem q512 : Cond.instanceMethod yX2_init ∈ AL := AL_in (tq1 (List.mem_of_getElem? (i := 92) rfl)) rfl
theorem mwi_X2_init : Cond.instanceMethod yX2_init ∈ AL ∧ Cond.initialized yX2_init.cls ∈ AL ∧ Cond.code yX2_init cX2_init 1 none ∈ AL ∧ (yX2_init.cls ≠ "java/lang/invoke/MethodHandle" ∧ yX2_init.cls ≠ "java/lang/invoke/VarHandle" ∧ (parseMethodDescriptor yX2_init.desc).map (fun d => d.parameters.length) = some 0) := ⟨q512, q102, q511, by decide +kernel⟩
theorem q513 : Cond.classLink RX4 27 RX3 ∈ AL := AL_in (tq1 (List.mem_of_getElem? (i := 116) rfl)) rfl
theorem q514 : Cond.instantiable RX3 8 ∈ AL := AL_in (tq1 (List.mem_of_getElem? (i := 118) rfl)) rfl
theorem q515 : Cond.methodLink RX4 33 yX3_init ∈ AL := AL_in (tq1 (List.mem_of_getElem? (i := 119) rfl)) rfl
theorem q516 : Cond.code yX3_init cX3_init 2 none ∈ AL := AL_in (tq1 (List.mem_of_getElem? (i := 121) rfl)) rfl
theorem q517 : Cond.instanceMethod yX3_init ∈ AL := AL_in (tq1 (List.mem_of_getElem? (i := 120) rfl)) rfl
theorem mwi_X3_init : Cond.instanceMethod yX3_init ∈ AL ∧ Cond.initialized yX3_init.cls ∈ AL ∧ Cond.code yX3_init cX3_init 2 none ∈ AL ∧ (yX3_init.cls ≠ "java/lang/invoke/MethodHandle" ∧ yX3_init.cls ≠ "java/lang/invoke/VarHandle" ∧ (parseMethodDescriptor yX3_init.desc).map (fun d => d.parameters.length) = some 1) := ⟨q517, q63, q516, by decide +kernel⟩
theorem q518 : Cond.methodLink RX5 1 objectInit ∈ AL := AL_in (tq1 (List.mem_of_getElem? (i := 22) rfl)) rfl
theorem q519 : Cond.classLink RX5 7 RX4 ∈ AL := AL_in (tq1 (List.mem_of_getElem? (i := 25) rfl)) rfl
theorem q520 : Cond.instantiable RX4 7 ∈ AL := AL_in (tq1 (List.mem_of_getElem? (i := 26) rfl)) rfl
theorem q521 : Cond.methodLink RX5 9 yX4_init ∈ AL := AL_in (tq1 (List.mem_of_getElem? (i := 27) rfl)) rfl
theorem q522 : Cond.code yX4_init cX4_init 3 none ∈ AL := AL_in (tq1 (List.mem_of_getElem? (i := 29) rfl)) rfl
theorem q523 : Cond.instanceMethod yX4_init ∈ AL := AL_in (tq1 (List.mem_of_getElem? (i := 28) rfl)) rfl
theorem mwi_X4_init : Cond.instanceMethod yX4_init ∈ AL ∧ Cond.initialized yX4_init.cls ∈ AL ∧ Cond.code yX4_init cX4_init 3 none ∈ AL ∧ (yX4_init.cls ≠ "java/lang/invoke/MethodHandle" ∧ yX4_init.cls ≠ "java/lang/invoke/VarHandle" ∧ (parseMethodDescriptor yX4_init.desc).map (fun d => d.parameters.length) = some 1) := ⟨q523, q77, q522, by decide +kernel⟩
theorem q524 : Cond.methodLink RX6 9 objectInit ∈ AL := AL_in (tq3 (List.mem_of_getElem? (i := 196) rfl)) rfl
theorem q525 : Cond.methodLink RX7 1 objectInit ∈ AL := AL_in (tq3 (List.mem_of_getElem? (i := 190) rfl)) rfl
theorem q526 : Cond.classLink RX7 28 RX6 ∈ AL := AL_in (tq3 (List.mem_of_getElem? (i := 191) rfl)) rfl
theorem q527 : Cond.instantiable RX6 17 ∈ AL := AL_in (tq3 (List.mem_of_getElem? (i := 192) rfl)) rfl
theorem q528 : Cond.methodLink RX7 30 yX6_init ∈ AL := AL_in (tq3 (List.mem_of_getElem? (i := 193) rfl)) rfl
theorem q529 : Cond.code yX6_init cX6_init 3 none ∈ AL := AL_in (tq3 (List.mem_of_getElem? (i := 195) rfl)) rfl
theorem q530 : Cond.instanceMethod yX6_init ∈ AL := AL_in (tq3 (List.mem_of_getElem? (i := 194) rfl)) rfl
theorem mwi_X6_init : Cond.instanceMethod yX6_init ∈ AL ∧ Cond.initialized yX6_init.cls ∈ AL ∧ Cond.code yX6_init cX6_init 3 none ∈ AL ∧ (yX6_init.cls ≠ "java/lang/invoke/MethodHandle" ∧ yX6_init.cls ≠ "java/lang/invoke/VarHandle" ∧ (parseMethodDescriptor yX6_init.desc).map (fun d => d.parameters.length) = some 1) := ⟨q530, q350, q529, by decide +kernel⟩
