theorem q0 : Cond.static Lib.Math.max.name ∈ AL := AL_in (tq2 (List.mem_of_getElem? (i := 39) rfl)) rfl
theorem q1 : Cond.initialized "java/lang/Math" ∈ AL := AL_in (tq1 (List.mem_of_getElem? (i := 15) rfl)) rfl
theorem q2 : Cond.code Lib.Math.max.name Lib.Math.max.code 2 (some .int) ∈ AL := AL_in (tq2 (List.mem_of_getElem? (i := 40) rfl)) rfl
theorem q3 : Cond.static Lib.Math.min.name ∈ AL := AL_in (tq2 (List.mem_of_getElem? (i := 189) rfl)) rfl
theorem q4 : Cond.code Lib.Math.min.name Lib.Math.min.code 2 (some .int) ∈ AL := AL_in (tq2 (List.mem_of_getElem? (i := 190) rfl)) rfl
theorem mw_max : Cond.static Lib.Math.max.name ∈ AL ∧ Cond.initialized "java/lang/Math" ∈ AL ∧ Cond.code Lib.Math.max.name Lib.Math.max.code 2 (some .int) ∈ AL := ⟨q0, q1, q2⟩
theorem mw_min : Cond.static Lib.Math.min.name ∈ AL ∧ Cond.initialized "java/lang/Math" ∈ AL ∧ Cond.code Lib.Math.min.name Lib.Math.min.code 2 (some .int) ∈ AL := ⟨q3, q1, q4⟩
theorem q5 : Cond.fieldLink RX1 7 "MuffledTolls$Leather" "thick" "I" ∈ AL := AL_in (tq1 (List.mem_of_getElem? (i := 44) rfl)) rfl
theorem q6 : Cond.fieldLink RX1 13 "MuffledTolls$Leather" "worn" "I" ∈ AL := AL_in (tq1 (List.mem_of_getElem? (i := 47) rfl)) rfl
theorem q7 : Cond.methodLink RX1 16 yX1_renew ∈ AL := AL_in (tq3 (List.mem_of_getElem? (i := 114) rfl)) rfl
theorem q8 : Cond.code yX1_renew cX1_renew 2 none ∈ AL := AL_in (tq2 (List.mem_of_getElem? (i := 180) rfl)) rfl
theorem q9 : Cond.initialized "MuffledTolls$Leather" ∈ AL := AL_in (tq1 (List.mem_of_getElem? (i := 4) rfl)) rfl
theorem q10 : Cond.instanceMethod yX1_renew ∈ AL := AL_in (tq2 (List.mem_of_getElem? (i := 178) rfl)) rfl
theorem q11 : Cond.selects yX1_renew.cls yX1_renew yX1_renew ∈ AL := AL_in (tq2 (List.mem_of_getElem? (i := 179) rfl)) rfl
theorem mw_X1_renew : MW yX1_renew cX1_renew 2 none 1 := ⟨q10, q11, q9, q8, by decide +kernel⟩
theorem q12 : Cond.fieldLink RX2 15 "MuffledTolls$Ringer" "strength" "I" ∈ AL := AL_in (tq1 (List.mem_of_getElem? (i := 95) rfl)) rfl
theorem q13 : Cond.fieldLink RX2 18 "MuffledTolls$Ringer" "tired" "I" ∈ AL := AL_in (tq1 (List.mem_of_getElem? (i := 97) rfl)) rfl
theorem q14 : Cond.fieldLink RX2 9 "MuffledTolls$Ringer" "bell" "I" ∈ AL := AL_in (tq1 (List.mem_of_getElem? (i := 100) rfl)) rfl
theorem q15 : Cond.fieldLink RX2 21 "MuffledTolls$Ringer" "strokes" "I" ∈ AL := AL_in (tq1 (List.mem_of_getElem? (i := 102) rfl)) rfl
theorem q16 : Cond.fieldLink RX2 24 "MuffledTolls$Ringer" "reliefs" "I" ∈ AL := AL_in (tq1 (List.mem_of_getElem? (i := 103) rfl)) rfl
theorem q17 : Cond.methodLink RX2 27 yX2_rests ∈ AL := AL_in (tq3 (List.mem_of_getElem? (i := 129) rfl)) rfl
theorem q18 : Cond.code yX2_rests cX2_rests 1 (some .boolean) ∈ AL := AL_in (tq1 (List.mem_of_getElem? (i := 210) rfl)) rfl
theorem q19 : Cond.initialized "MuffledTolls$Ringer" ∈ AL := AL_in (tq1 (List.mem_of_getElem? (i := 5) rfl)) rfl
theorem q20 : Cond.instanceMethod yX2_rests ∈ AL := AL_in (tq1 (List.mem_of_getElem? (i := 208) rfl)) rfl
theorem q21 : Cond.selects yX2_rests.cls yX2_rests yX2_rests ∈ AL := AL_in (tq1 (List.mem_of_getElem? (i := 209) rfl)) rfl
theorem mw_X2_rests : MW yX2_rests cX2_rests 1 (some .boolean) 0 := ⟨q20, q21, q19, q18, by decide +kernel⟩
theorem q22 : Cond.methodLink RX2 31 Lib.Math.max.name ∈ AL := AL_in (tq3 (List.mem_of_getElem? (i := 130) rfl)) rfl
