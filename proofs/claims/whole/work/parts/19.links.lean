/-! what each call needs of the tables -/
def dOk (N : aM) (n : Nat) : Prop := N.nL ≤ 21 ∧ (N.y.cls ≠ "java/lang/invoke/MethodHandle" ∧ N.y.cls ≠ "java/lang/invoke/VarHandle" ∧ (parseMethodDescriptor N.y.desc).map (fun d => d.parameters.length) = some n)
def vOk (own : String) (N : aM) (idx n ci : Nat) : Prop := (Cond.code N.y N.cc N.nL N.ret ∈ gT ∧ N.hh = []) ∧ Cond.initialized N.y.cls ∈ gT ∧ Cond.methodLink own idx N.y ∈ gT ∧ Cond.instanceMethod N.y ∈ gT ∧ Cond.selects N.y.cls N.y N.y ∈ gT ∧ dOk N n ∧ ∃ q : vw_C, qC[ci]? = some q ∧ q.1 = N.y.cls
def sOk (own : String) (N : aM) (idx n : Nat) : Prop := (Cond.code N.y N.cc N.nL N.ret ∈ gT ∧ N.hh = []) ∧ Cond.initialized N.y.cls ∈ gT ∧ Cond.methodLink own idx N.y ∈ gT ∧ Cond.static N.y ∈ gT ∧ dOk N n
def sHOk (own : String) (N : aM) (idx n : Nat) : Prop := (Cond.codeWith N.y N.cc N.nL N.ret N.hh ∈ gT ∧ N.hh ≠ []) ∧ Cond.initialized N.y.cls ∈ gT ∧ Cond.methodLink own idx N.y ∈ gT ∧ Cond.static N.y ∈ gT ∧ dOk N n
def iOk (own : String) (N : aM) (idx n : Nat) : Prop := (Cond.code N.y N.cc N.nL N.ret ∈ gT ∧ N.hh = []) ∧ Cond.initialized N.y.cls ∈ gT ∧ Cond.methodLink own idx N.y ∈ gT ∧ Cond.instanceMethod N.y ∈ gT ∧ dOk N n ∧ N.ret = none ∧ N.y.name = "<init>"
theorem gW {w : Cond} (i : Nat) (h : lw_tbl[i]? = some w) (hg : goodWord w = true) : w ∈ gT := gT_in (List.mem_of_getElem? h) hg
set_option maxRecDepth 100000 in
theorem g89 : Cond.code yX8_init cX8_init 1 none ∈ gT := gW 89 rfl rfl
set_option maxRecDepth 100000 in
theorem g66 : Cond.initialized RX8 ∈ gT := gW 66 rfl rfl
set_option maxRecDepth 100000 in
theorem g87 : Cond.methodLink RL 82 yX8_init ∈ gT := gW 87 rfl rfl
theorem dkX8_init : dOk mX8_init 0 := by unfold dOk; decide +kernel
set_option maxRecDepth 100000 in
theorem g88 : Cond.instanceMethod yX8_init ∈ gT := gW 88 rfl rfl
theorem iL_82 : iOk RL mX8_init 82 0 := ⟨⟨g89, rfl⟩, g66, g87, g88, dkX8_init, rfl, rfl⟩
set_option maxRecDepth 100000 in
theorem g148 : Cond.code yX1_init cX1_init 9 none ∈ gT := gW 148 rfl rfl
set_option maxRecDepth 100000 in
theorem g70 : Cond.initialized RX1 ∈ gT := gW 70 rfl rfl
set_option maxRecDepth 100000 in
theorem g146 : Cond.methodLink RX3 31 yX1_init ∈ gT := gW 146 rfl rfl
theorem dkX1_init : dOk mX1_init 4 := by unfold dOk; decide +kernel
set_option maxRecDepth 100000 in
theorem g147 : Cond.instanceMethod yX1_init ∈ gT := gW 147 rfl rfl
theorem iX3_31 : iOk RX3 mX1_init 31 4 := ⟨⟨g148, rfl⟩, g70, g146, g147, dkX1_init, rfl, rfl⟩
set_option maxRecDepth 100000 in
theorem g152 : Cond.code yX1_placeOf cX1_placeOf 5 (some .int) ∈ gT := gW 152 rfl rfl
set_option maxRecDepth 100000 in
theorem g150 : Cond.methodLink RX1 9 yX1_placeOf ∈ gT := gW 150 rfl rfl
theorem dkX1_placeOf : dOk mX1_placeOf 5 := by unfold dOk; decide +kernel
set_option maxRecDepth 100000 in
theorem g151 : Cond.static yX1_placeOf ∈ gT := gW 151 rfl rfl
theorem sX1_9 : sOk RX1 mX1_placeOf 9 5 := ⟨⟨g152, rfl⟩, g70, g150, g151, dkX1_placeOf⟩
set_option maxRecDepth 100000 in
theorem g155 : Cond.code yX1_bitAt cX1_bitAt 2 (some .int) ∈ gT := gW 155 rfl rfl
set_option maxRecDepth 100000 in
theorem g153 : Cond.methodLink RX1 15 yX1_bitAt ∈ gT := gW 153 rfl rfl
theorem dkX1_bitAt : dOk mX1_bitAt 2 := by unfold dOk; decide +kernel
set_option maxRecDepth 100000 in
theorem g154 : Cond.static yX1_bitAt ∈ gT := gW 154 rfl rfl
theorem sX1_15 : sOk RX1 mX1_bitAt 15 2 := ⟨⟨g155, rfl⟩, g70, g153, g154, dkX1_bitAt⟩
set_option maxRecDepth 100000 in
theorem g221 : Cond.code yX4_init cX4_init 2 none ∈ gT := gW 221 rfl rfl
set_option maxRecDepth 100000 in
theorem g71 : Cond.initialized RX4 ∈ gT := gW 71 rfl rfl
set_option maxRecDepth 100000 in
theorem g219 : Cond.methodLink RX8 24 yX4_init ∈ gT := gW 219 rfl rfl
theorem dkX4_init : dOk mX4_init 0 := by unfold dOk; decide +kernel
set_option maxRecDepth 100000 in
theorem g220 : Cond.instanceMethod yX4_init ∈ gT := gW 220 rfl rfl
theorem iX8_24 : iOk RX8 mX4_init 24 0 := ⟨⟨g221, rfl⟩, g71, g219, g220, dkX4_init, rfl, rfl⟩
set_option maxRecDepth 100000 in
theorem g249 : Cond.methodLink RX8 37 yX1_init ∈ gT := gW 249 rfl rfl
theorem iX8_37 : iOk RX8 mX1_init 37 4 := ⟨⟨g148, rfl⟩, g70, g249, g147, dkX1_init, rfl, rfl⟩
set_option maxRecDepth 100000 in
theorem g275 : Cond.code yX8_terms cX8_terms 1 (some .int) ∈ gT := gW 275 rfl rfl
set_option maxRecDepth 100000 in
theorem g272 : Cond.methodLink RL 155 yX8_terms ∈ gT := gW 272 rfl rfl
theorem dkX8_terms : dOk mX8_terms 0 := by unfold dOk; decide +kernel
set_option maxRecDepth 100000 in
theorem g273 : Cond.instanceMethod yX8_terms ∈ gT := gW 273 rfl rfl
set_option maxRecDepth 100000 in
theorem g274 : Cond.selects RX8 yX8_terms yX8_terms ∈ gT := gW 274 rfl rfl
theorem vL_155 : vOk RL mX8_terms 155 0 8 := ⟨⟨g275, rfl⟩, g66, g272, g273, g274, dkX8_terms, _, rfl, rfl⟩
set_option maxRecDepth 100000 in
theorem g278 : Cond.codeWith yL_give cL_give 5 (some .int) [(0, 10, 13, 13), (0, 10, 17, 15)] ∈ gT := gW 278 rfl rfl
set_option maxRecDepth 100000 in
theorem g65 : Cond.initialized RL ∈ gT := gW 65 rfl rfl
set_option maxRecDepth 100000 in
theorem g276 : Cond.methodLink RL 86 yL_give ∈ gT := gW 276 rfl rfl
theorem dkL_give : dOk mL_give 4 := by unfold dOk; decide +kernel
set_option maxRecDepth 100000 in
theorem g277 : Cond.static yL_give ∈ gT := gW 277 rfl rfl
theorem hL_86 : sHOk RL mL_give 86 4 := ⟨⟨g278, by decide⟩, g65, g276, g277, dkL_give⟩
set_option maxRecDepth 100000 in
theorem g284 : Cond.code yX8_give cX8_give 3 (some .int) ∈ gT := gW 284 rfl rfl
set_option maxRecDepth 100000 in
theorem g281 : Cond.methodLink RL 7 yX8_give ∈ gT := gW 281 rfl rfl
theorem dkX8_give : dOk mX8_give 2 := by unfold dOk; decide +kernel
set_option maxRecDepth 100000 in
theorem g282 : Cond.instanceMethod yX8_give ∈ gT := gW 282 rfl rfl
set_option maxRecDepth 100000 in
theorem g283 : Cond.selects RX8 yX8_give yX8_give ∈ gT := gW 283 rfl rfl
theorem vL_7 : vOk RL mX8_give 7 2 8 := ⟨⟨g284, rfl⟩, g66, g281, g282, g283, dkX8_give, _, rfl, rfl⟩
set_option maxRecDepth 100000 in
theorem g288 : Cond.code yX8_keepAct cX8_keepAct 4 (some .int) ∈ gT := gW 288 rfl rfl
set_option maxRecDepth 100000 in
theorem g285 : Cond.methodLink RX8 46 yX8_keepAct ∈ gT := gW 285 rfl rfl
theorem dkX8_keepAct : dOk mX8_keepAct 3 := by unfold dOk; decide +kernel
set_option maxRecDepth 100000 in
theorem g287 : Cond.instanceMethod yX8_keepAct ∈ gT := gW 287 rfl rfl
set_option maxRecDepth 100000 in
theorem g0 : Cond.selects RX8 yX8_keepAct yX8_keepAct ∈ gT := gW 0 rfl rfl
theorem vX8_46 : vOk RX8 mX8_keepAct 46 3 8 := ⟨⟨g288, rfl⟩, g66, g285, g287, g0, dkX8_keepAct, _, rfl, rfl⟩
set_option maxRecDepth 100000 in
theorem g292 : Cond.code yX8_requireOperand cX8_requireOperand 3 none ∈ gT := gW 292 rfl rfl
set_option maxRecDepth 100000 in
theorem g289 : Cond.methodLink RX8 76 yX8_requireOperand ∈ gT := gW 289 rfl rfl
theorem dkX8_requireOperand : dOk mX8_requireOperand 2 := by unfold dOk; decide +kernel
set_option maxRecDepth 100000 in
theorem g291 : Cond.instanceMethod yX8_requireOperand ∈ gT := gW 291 rfl rfl
set_option maxRecDepth 100000 in
theorem g1 : Cond.selects RX8 yX8_requireOperand yX8_requireOperand ∈ gT := gW 1 rfl rfl
theorem vX8_76 : vOk RX8 mX8_requireOperand 76 2 8 := ⟨⟨g292, rfl⟩, g66, g289, g291, g1, dkX8_requireOperand, _, rfl, rfl⟩
set_option maxRecDepth 100000 in
theorem g295 : Cond.code yX8_requireName cX8_requireName 1 none ∈ gT := gW 295 rfl rfl
set_option maxRecDepth 100000 in
theorem g293 : Cond.methodLink RX8 50 yX8_requireName ∈ gT := gW 293 rfl rfl
theorem dkX8_requireName : dOk mX8_requireName 1 := by unfold dOk; decide +kernel
set_option maxRecDepth 100000 in
theorem g294 : Cond.static yX8_requireName ∈ gT := gW 294 rfl rfl
theorem sX8_50 : sOk RX8 mX8_requireName 50 1 := ⟨⟨g295, rfl⟩, g66, g293, g294, dkX8_requireName⟩
set_option maxRecDepth 100000 in
theorem g368 : Cond.code yX7_init cX7_init 7 none ∈ gT := gW 368 rfl rfl
set_option maxRecDepth 100000 in
theorem g78 : Cond.initialized RX7 ∈ gT := gW 78 rfl rfl
set_option maxRecDepth 100000 in
theorem g366 : Cond.methodLink RX8 61 yX7_init ∈ gT := gW 366 rfl rfl
theorem dkX7_init : dOk mX7_init 6 := by unfold dOk; decide +kernel
set_option maxRecDepth 100000 in
theorem g367 : Cond.instanceMethod yX7_init ∈ gT := gW 367 rfl rfl
theorem iX8_61 : iOk RX8 mX7_init 61 6 := ⟨⟨g368, rfl⟩, g78, g366, g367, dkX7_init, rfl, rfl⟩
set_option maxRecDepth 100000 in
theorem g372 : Cond.code yX7_heightOf cX7_heightOf 1 (some .int) ∈ gT := gW 372 rfl rfl
set_option maxRecDepth 100000 in
theorem g370 : Cond.methodLink RX7 30 yX7_heightOf ∈ gT := gW 370 rfl rfl
theorem dkX7_heightOf : dOk mX7_heightOf 1 := by unfold dOk; decide +kernel
set_option maxRecDepth 100000 in
theorem g371 : Cond.static yX7_heightOf ∈ gT := gW 371 rfl rfl
theorem sX7_30 : sOk RX7 mX7_heightOf 30 1 := ⟨⟨g372, rfl⟩, g78, g370, g371, dkX7_heightOf⟩
set_option maxRecDepth 100000 in
theorem g375 : Cond.code yJ9_max_7cf53 cJ9_max_7cf53 2 (some .int) ∈ gT := gW 375 rfl rfl
set_option maxRecDepth 100000 in
theorem g79 : Cond.initialized RJ9 ∈ gT := gW 79 rfl rfl
set_option maxRecDepth 100000 in
theorem g373 : Cond.methodLink RX7 34 yJ9_max_7cf53 ∈ gT := gW 373 rfl rfl
theorem dkJ9_max_7cf53 : dOk mJ9_max_7cf53 2 := by unfold dOk; decide +kernel
set_option maxRecDepth 100000 in
theorem g374 : Cond.static yJ9_max_7cf53 ∈ gT := gW 374 rfl rfl
theorem sX7_34 : sOk RX7 mJ9_max_7cf53 34 2 := ⟨⟨g375, rfl⟩, g79, g373, g374, dkJ9_max_7cf53⟩
set_option maxRecDepth 100000 in
theorem g378 : Cond.code yX0_layersOf cX0_layersOf 1 (some .int) ∈ gT := gW 378 rfl rfl
set_option maxRecDepth 100000 in
theorem g80 : Cond.initialized RX0 ∈ gT := gW 80 rfl rfl
set_option maxRecDepth 100000 in
theorem g376 : Cond.methodLink RX7 43 yX0_layersOf ∈ gT := gW 376 rfl rfl
theorem dkX0_layersOf : dOk mX0_layersOf 1 := by unfold dOk; decide +kernel
set_option maxRecDepth 100000 in
theorem g377 : Cond.static yX0_layersOf ∈ gT := gW 377 rfl rfl
theorem sX7_43 : sOk RX7 mX0_layersOf 43 1 := ⟨⟨g378, rfl⟩, g80, g376, g377, dkX0_layersOf⟩
set_option maxRecDepth 100000 in
theorem g381 : Cond.code yX7_layersOf cX7_layersOf 1 (some .int) ∈ gT := gW 381 rfl rfl
set_option maxRecDepth 100000 in
theorem g379 : Cond.methodLink RX7 49 yX7_layersOf ∈ gT := gW 379 rfl rfl
theorem dkX7_layersOf : dOk mX7_layersOf 1 := by unfold dOk; decide +kernel
set_option maxRecDepth 100000 in
theorem g380 : Cond.static yX7_layersOf ∈ gT := gW 380 rfl rfl
theorem sX7_49 : sOk RX7 mX7_layersOf 49 1 := ⟨⟨g381, rfl⟩, g78, g379, g380, dkX7_layersOf⟩
set_option maxRecDepth 100000 in
theorem g418 : Cond.code yX8_keep cX8_keep 2 (some .int) ∈ gT := gW 418 rfl rfl
set_option maxRecDepth 100000 in
theorem g415 : Cond.methodLink RX8 64 yX8_keep ∈ gT := gW 415 rfl rfl
theorem dkX8_keep : dOk mX8_keep 1 := by unfold dOk; decide +kernel
set_option maxRecDepth 100000 in
theorem g417 : Cond.instanceMethod yX8_keep ∈ gT := gW 417 rfl rfl
set_option maxRecDepth 100000 in
theorem g3 : Cond.selects RX8 yX8_keep yX8_keep ∈ gT := gW 3 rfl rfl
theorem vX8_64 : vOk RX8 mX8_keep 64 1 8 := ⟨⟨g418, rfl⟩, g66, g415, g417, g3, dkX8_keep, _, rfl, rfl⟩
set_option maxRecDepth 100000 in
theorem g437 : Cond.codeWith yL_of cL_of 6 (some .int) [(0, 12, 15, 13), (0, 12, 19, 21), (0, 12, 23, 15)] ∈ gT := gW 437 rfl rfl
set_option maxRecDepth 100000 in
theorem g435 : Cond.methodLink RL 95 yL_of ∈ gT := gW 435 rfl rfl
theorem dkL_of : dOk mL_of 5 := by unfold dOk; decide +kernel
set_option maxRecDepth 100000 in
theorem g436 : Cond.static yL_of ∈ gT := gW 436 rfl rfl
theorem hL_95 : sHOk RL mL_of 95 5 := ⟨⟨g437, by decide⟩, g65, g435, g436, dkL_of⟩
set_option maxRecDepth 100000 in
theorem g442 : Cond.code yX8_of cX8_of 4 (some .int) ∈ gT := gW 442 rfl rfl
set_option maxRecDepth 100000 in
theorem g439 : Cond.methodLink RL 17 yX8_of ∈ gT := gW 439 rfl rfl
theorem dkX8_of : dOk mX8_of 3 := by unfold dOk; decide +kernel
set_option maxRecDepth 100000 in
theorem g440 : Cond.instanceMethod yX8_of ∈ gT := gW 440 rfl rfl
set_option maxRecDepth 100000 in
theorem g441 : Cond.selects RX8 yX8_of yX8_of ∈ gT := gW 441 rfl rfl
theorem vL_17 : vOk RL mX8_of 17 3 8 := ⟨⟨g442, rfl⟩, g66, g439, g440, g441, dkX8_of, _, rfl, rfl⟩
set_option maxRecDepth 100000 in
theorem g461 : Cond.codeWith yL_read cL_read 3 (some .int) [(0, 8, 11, 15)] ∈ gT := gW 461 rfl rfl
set_option maxRecDepth 100000 in
theorem g459 : Cond.methodLink RL 99 yL_read ∈ gT := gW 459 rfl rfl
theorem dkL_read : dOk mL_read 2 := by unfold dOk; decide +kernel
set_option maxRecDepth 100000 in
theorem g460 : Cond.static yL_read ∈ gT := gW 460 rfl rfl
theorem hL_99 : sHOk RL mL_read 99 2 := ⟨⟨g461, by decide⟩, g65, g459, g460, dkL_read⟩
set_option maxRecDepth 100000 in
theorem g465 : Cond.code yX8_read cX8_read 1 (some .int) ∈ gT := gW 465 rfl rfl
set_option maxRecDepth 100000 in
theorem g462 : Cond.methodLink RL 23 yX8_read ∈ gT := gW 462 rfl rfl
theorem dkX8_read : dOk mX8_read 0 := by unfold dOk; decide +kernel
set_option maxRecDepth 100000 in
theorem g463 : Cond.instanceMethod yX8_read ∈ gT := gW 463 rfl rfl
set_option maxRecDepth 100000 in
theorem g464 : Cond.selects RX8 yX8_read yX8_read ∈ gT := gW 464 rfl rfl
theorem vL_23 : vOk RL mX8_read 23 0 8 := ⟨⟨g465, rfl⟩, g66, g462, g463, g464, dkX8_read, _, rfl, rfl⟩
set_option maxRecDepth 100000 in
theorem g468 : Cond.codeWith yL_write cL_write 5 (some .int) [(0, 10, 13, 13), (0, 10, 17, 15)] ∈ gT := gW 468 rfl rfl
set_option maxRecDepth 100000 in
theorem g466 : Cond.methodLink RL 103 yL_write ∈ gT := gW 466 rfl rfl
theorem dkL_write : dOk mL_write 4 := by unfold dOk; decide +kernel
set_option maxRecDepth 100000 in
theorem g467 : Cond.static yL_write ∈ gT := gW 467 rfl rfl
theorem hL_103 : sHOk RL mL_write 103 4 := ⟨⟨g468, by decide⟩, g65, g466, g467, dkL_write⟩
set_option maxRecDepth 100000 in
theorem g472 : Cond.code yX8_write cX8_write 3 (some .int) ∈ gT := gW 472 rfl rfl
set_option maxRecDepth 100000 in
theorem g469 : Cond.methodLink RL 27 yX8_write ∈ gT := gW 469 rfl rfl
theorem dkX8_write : dOk mX8_write 2 := by unfold dOk; decide +kernel
set_option maxRecDepth 100000 in
theorem g470 : Cond.instanceMethod yX8_write ∈ gT := gW 470 rfl rfl
set_option maxRecDepth 100000 in
theorem g471 : Cond.selects RX8 yX8_write yX8_write ∈ gT := gW 471 rfl rfl
theorem vL_27 : vOk RL mX8_write 27 2 8 := ⟨⟨g472, rfl⟩, g66, g469, g470, g471, dkX8_write, _, rfl, rfl⟩
set_option maxRecDepth 100000 in
theorem g475 : Cond.codeWith yL_say cL_say 5 (some .int) [(0, 10, 13, 13), (0, 10, 17, 15)] ∈ gT := gW 475 rfl rfl
set_option maxRecDepth 100000 in
theorem g473 : Cond.methodLink RL 106 yL_say ∈ gT := gW 473 rfl rfl
theorem dkL_say : dOk mL_say 4 := by unfold dOk; decide +kernel
set_option maxRecDepth 100000 in
theorem g474 : Cond.static yL_say ∈ gT := gW 474 rfl rfl
theorem hL_106 : sHOk RL mL_say 106 4 := ⟨⟨g475, by decide⟩, g65, g473, g474, dkL_say⟩
set_option maxRecDepth 100000 in
theorem g479 : Cond.code yX8_say cX8_say 3 (some .int) ∈ gT := gW 479 rfl rfl
set_option maxRecDepth 100000 in
theorem g476 : Cond.methodLink RL 30 yX8_say ∈ gT := gW 476 rfl rfl
theorem dkX8_say : dOk mX8_say 2 := by unfold dOk; decide +kernel
set_option maxRecDepth 100000 in
theorem g477 : Cond.instanceMethod yX8_say ∈ gT := gW 477 rfl rfl
set_option maxRecDepth 100000 in
theorem g478 : Cond.selects RX8 yX8_say yX8_say ∈ gT := gW 478 rfl rfl
theorem vL_30 : vOk RL mX8_say 30 2 8 := ⟨⟨g479, rfl⟩, g66, g476, g477, g478, dkX8_say, _, rfl, rfl⟩
set_option maxRecDepth 100000 in
theorem g482 : Cond.codeWith yL_fail cL_fail 5 (some .int) [(0, 10, 13, 13), (0, 10, 17, 15)] ∈ gT := gW 482 rfl rfl
set_option maxRecDepth 100000 in
theorem g480 : Cond.methodLink RL 109 yL_fail ∈ gT := gW 480 rfl rfl
theorem dkL_fail : dOk mL_fail 4 := by unfold dOk; decide +kernel
set_option maxRecDepth 100000 in
theorem g481 : Cond.static yL_fail ∈ gT := gW 481 rfl rfl
theorem hL_109 : sHOk RL mL_fail 109 4 := ⟨⟨g482, by decide⟩, g65, g480, g481, dkL_fail⟩
set_option maxRecDepth 100000 in
theorem g486 : Cond.code yX8_fail cX8_fail 3 (some .int) ∈ gT := gW 486 rfl rfl
set_option maxRecDepth 100000 in
theorem g483 : Cond.methodLink RL 33 yX8_fail ∈ gT := gW 483 rfl rfl
theorem dkX8_fail : dOk mX8_fail 2 := by unfold dOk; decide +kernel
set_option maxRecDepth 100000 in
theorem g484 : Cond.instanceMethod yX8_fail ∈ gT := gW 484 rfl rfl
set_option maxRecDepth 100000 in
theorem g485 : Cond.selects RX8 yX8_fail yX8_fail ∈ gT := gW 485 rfl rfl
theorem vL_33 : vOk RL mX8_fail 33 2 8 := ⟨⟨g486, rfl⟩, g66, g483, g484, g485, dkX8_fail, _, rfl, rfl⟩
set_option maxRecDepth 100000 in
theorem g489 : Cond.codeWith yL_none cL_none 3 (some .int) [(0, 8, 11, 15)] ∈ gT := gW 489 rfl rfl
set_option maxRecDepth 100000 in
theorem g487 : Cond.methodLink RL 112 yL_none ∈ gT := gW 487 rfl rfl
theorem dkL_none : dOk mL_none 2 := by unfold dOk; decide +kernel
set_option maxRecDepth 100000 in
theorem g488 : Cond.static yL_none ∈ gT := gW 488 rfl rfl
theorem hL_112 : sHOk RL mL_none 112 2 := ⟨⟨g489, by decide⟩, g65, g487, g488, dkL_none⟩
set_option maxRecDepth 100000 in
theorem g493 : Cond.code yX8_none cX8_none 1 (some .int) ∈ gT := gW 493 rfl rfl
set_option maxRecDepth 100000 in
theorem g490 : Cond.methodLink RL 36 yX8_none ∈ gT := gW 490 rfl rfl
theorem dkX8_none : dOk mX8_none 0 := by unfold dOk; decide +kernel
set_option maxRecDepth 100000 in
theorem g491 : Cond.instanceMethod yX8_none ∈ gT := gW 491 rfl rfl
set_option maxRecDepth 100000 in
theorem g492 : Cond.selects RX8 yX8_none yX8_none ∈ gT := gW 492 rfl rfl
theorem vL_36 : vOk RL mX8_none 36 0 8 := ⟨⟨g493, rfl⟩, g66, g490, g491, g492, dkX8_none, _, rfl, rfl⟩
set_option maxRecDepth 100000 in
theorem g496 : Cond.codeWith yL_either cL_either 5 (some .int) [(0, 10, 13, 13), (0, 10, 17, 15)] ∈ gT := gW 496 rfl rfl
set_option maxRecDepth 100000 in
theorem g494 : Cond.methodLink RL 115 yL_either ∈ gT := gW 494 rfl rfl
theorem dkL_either : dOk mL_either 4 := by unfold dOk; decide +kernel
set_option maxRecDepth 100000 in
theorem g495 : Cond.static yL_either ∈ gT := gW 495 rfl rfl
theorem hL_115 : sHOk RL mL_either 115 4 := ⟨⟨g496, by decide⟩, g65, g494, g495, dkL_either⟩
set_option maxRecDepth 100000 in
theorem g500 : Cond.code yX8_either cX8_either 3 (some .int) ∈ gT := gW 500 rfl rfl
set_option maxRecDepth 100000 in
theorem g497 : Cond.methodLink RL 39 yX8_either ∈ gT := gW 497 rfl rfl
theorem dkX8_either : dOk mX8_either 2 := by unfold dOk; decide +kernel
set_option maxRecDepth 100000 in
theorem g498 : Cond.instanceMethod yX8_either ∈ gT := gW 498 rfl rfl
set_option maxRecDepth 100000 in
theorem g499 : Cond.selects RX8 yX8_either yX8_either ∈ gT := gW 499 rfl rfl
theorem vL_39 : vOk RL mX8_either 39 2 8 := ⟨⟨g500, rfl⟩, g66, g497, g498, g499, dkX8_either, _, rfl, rfl⟩
set_option maxRecDepth 100000 in
theorem g504 : Cond.code yX8_termAt cX8_termAt 3 (some (.object "LayeredActs$Term")) ∈ gT := gW 504 rfl rfl
set_option maxRecDepth 100000 in
theorem g501 : Cond.methodLink RX8 68 yX8_termAt ∈ gT := gW 501 rfl rfl
theorem dkX8_termAt : dOk mX8_termAt 1 := by unfold dOk; decide +kernel
set_option maxRecDepth 100000 in
theorem g503 : Cond.instanceMethod yX8_termAt ∈ gT := gW 503 rfl rfl
set_option maxRecDepth 100000 in
theorem g4 : Cond.selects RX8 yX8_termAt yX8_termAt ∈ gT := gW 4 rfl rfl
theorem vX8_68 : vOk RX8 mX8_termAt 68 1 8 := ⟨⟨g504, rfl⟩, g66, g501, g503, g4, dkX8_termAt, _, rfl, rfl⟩
set_option maxRecDepth 100000 in
theorem g508 : Cond.codeWith yL_then cL_then 6 (some .int) [(0, 12, 15, 13), (0, 12, 19, 15)] ∈ gT := gW 508 rfl rfl
set_option maxRecDepth 100000 in
theorem g506 : Cond.methodLink RL 119 yL_then ∈ gT := gW 506 rfl rfl
theorem dkL_then : dOk mL_then 5 := by unfold dOk; decide +kernel
set_option maxRecDepth 100000 in
theorem g507 : Cond.static yL_then ∈ gT := gW 507 rfl rfl
theorem hL_119 : sHOk RL mL_then 119 5 := ⟨⟨g508, by decide⟩, g65, g506, g507, dkL_then⟩
set_option maxRecDepth 100000 in
theorem g512 : Cond.code yX8_then cX8_then 4 (some .int) ∈ gT := gW 512 rfl rfl
set_option maxRecDepth 100000 in
theorem g509 : Cond.methodLink RL 43 yX8_then ∈ gT := gW 509 rfl rfl
theorem dkX8_then : dOk mX8_then 3 := by unfold dOk; decide +kernel
set_option maxRecDepth 100000 in
theorem g510 : Cond.instanceMethod yX8_then ∈ gT := gW 510 rfl rfl
set_option maxRecDepth 100000 in
theorem g511 : Cond.selects RX8 yX8_then yX8_then ∈ gT := gW 511 rfl rfl
theorem vL_43 : vOk RL mX8_then 43 3 8 := ⟨⟨g512, rfl⟩, g66, g509, g510, g511, dkX8_then, _, rfl, rfl⟩
set_option maxRecDepth 100000 in
theorem g516 : Cond.code yX8_keepNaming cX8_keepNaming 5 (some .int) ∈ gT := gW 516 rfl rfl
set_option maxRecDepth 100000 in
theorem g513 : Cond.methodLink RX8 72 yX8_keepNaming ∈ gT := gW 513 rfl rfl
theorem dkX8_keepNaming : dOk mX8_keepNaming 4 := by unfold dOk; decide +kernel
set_option maxRecDepth 100000 in
theorem g515 : Cond.instanceMethod yX8_keepNaming ∈ gT := gW 515 rfl rfl
set_option maxRecDepth 100000 in
theorem g5 : Cond.selects RX8 yX8_keepNaming yX8_keepNaming ∈ gT := gW 5 rfl rfl
theorem vX8_72 : vOk RX8 mX8_keepNaming 72 4 8 := ⟨⟨g516, rfl⟩, g66, g513, g515, g5, dkX8_keepNaming, _, rfl, rfl⟩
set_option maxRecDepth 100000 in
theorem g519 : Cond.codeWith yL_saved cL_saved 6 (some .int) [(0, 12, 15, 13), (0, 12, 19, 15)] ∈ gT := gW 519 rfl rfl
set_option maxRecDepth 100000 in
theorem g517 : Cond.methodLink RL 122 yL_saved ∈ gT := gW 517 rfl rfl
theorem dkL_saved : dOk mL_saved 5 := by unfold dOk; decide +kernel
set_option maxRecDepth 100000 in
theorem g518 : Cond.static yL_saved ∈ gT := gW 518 rfl rfl
theorem hL_122 : sHOk RL mL_saved 122 5 := ⟨⟨g519, by decide⟩, g65, g517, g518, dkL_saved⟩
set_option maxRecDepth 100000 in
theorem g523 : Cond.code yX8_saved cX8_saved 4 (some .int) ∈ gT := gW 523 rfl rfl
set_option maxRecDepth 100000 in
theorem g520 : Cond.methodLink RL 46 yX8_saved ∈ gT := gW 520 rfl rfl
theorem dkX8_saved : dOk mX8_saved 3 := by unfold dOk; decide +kernel
set_option maxRecDepth 100000 in
theorem g521 : Cond.instanceMethod yX8_saved ∈ gT := gW 521 rfl rfl
set_option maxRecDepth 100000 in
theorem g522 : Cond.selects RX8 yX8_saved yX8_saved ∈ gT := gW 522 rfl rfl
theorem vL_46 : vOk RL mX8_saved 46 3 8 := ⟨⟨g523, rfl⟩, g66, g520, g521, g522, dkX8_saved, _, rfl, rfl⟩
set_option maxRecDepth 100000 in
theorem g526 : Cond.codeWith yL_when cL_when 6 (some .int) [(0, 12, 15, 13), (0, 12, 19, 15)] ∈ gT := gW 526 rfl rfl
set_option maxRecDepth 100000 in
theorem g524 : Cond.methodLink RL 125 yL_when ∈ gT := gW 524 rfl rfl
theorem dkL_when : dOk mL_when 5 := by unfold dOk; decide +kernel
set_option maxRecDepth 100000 in
theorem g525 : Cond.static yL_when ∈ gT := gW 525 rfl rfl
theorem hL_125 : sHOk RL mL_when 125 5 := ⟨⟨g526, by decide⟩, g65, g524, g525, dkL_when⟩
set_option maxRecDepth 100000 in
theorem g530 : Cond.code yX8_when cX8_when 4 (some .int) ∈ gT := gW 530 rfl rfl
set_option maxRecDepth 100000 in
theorem g527 : Cond.methodLink RL 49 yX8_when ∈ gT := gW 527 rfl rfl
theorem dkX8_when : dOk mX8_when 3 := by unfold dOk; decide +kernel
set_option maxRecDepth 100000 in
theorem g528 : Cond.instanceMethod yX8_when ∈ gT := gW 528 rfl rfl
set_option maxRecDepth 100000 in
theorem g529 : Cond.selects RX8 yX8_when yX8_when ∈ gT := gW 529 rfl rfl
theorem vL_49 : vOk RL mX8_when 49 3 8 := ⟨⟨g530, rfl⟩, g66, g527, g528, g529, dkX8_when, _, rfl, rfl⟩
set_option maxRecDepth 100000 in
theorem g533 : Cond.codeWith yL_times cL_times 6 (some .int) [(0, 12, 15, 13), (0, 12, 19, 15)] ∈ gT := gW 533 rfl rfl
set_option maxRecDepth 100000 in
theorem g531 : Cond.methodLink RL 128 yL_times ∈ gT := gW 531 rfl rfl
theorem dkL_times : dOk mL_times 5 := by unfold dOk; decide +kernel
set_option maxRecDepth 100000 in
theorem g532 : Cond.static yL_times ∈ gT := gW 532 rfl rfl
theorem hL_128 : sHOk RL mL_times 128 5 := ⟨⟨g533, by decide⟩, g65, g531, g532, dkL_times⟩
set_option maxRecDepth 100000 in
theorem g537 : Cond.code yX8_times cX8_times 4 (some .int) ∈ gT := gW 537 rfl rfl
set_option maxRecDepth 100000 in
theorem g534 : Cond.methodLink RL 52 yX8_times ∈ gT := gW 534 rfl rfl
theorem dkX8_times : dOk mX8_times 3 := by unfold dOk; decide +kernel
set_option maxRecDepth 100000 in
theorem g535 : Cond.instanceMethod yX8_times ∈ gT := gW 535 rfl rfl
set_option maxRecDepth 100000 in
theorem g536 : Cond.selects RX8 yX8_times yX8_times ∈ gT := gW 536 rfl rfl
theorem vL_52 : vOk RL mX8_times 52 3 8 := ⟨⟨g537, rfl⟩, g66, g534, g535, g536, dkX8_times, _, rfl, rfl⟩
set_option maxRecDepth 100000 in
theorem g540 : Cond.codeWith yL_as cL_as 5 (some .int) [(0, 10, 13, 13), (0, 10, 17, 21), (0, 10, 21, 15)] ∈ gT := gW 540 rfl rfl
set_option maxRecDepth 100000 in
theorem g538 : Cond.methodLink RL 132 yL_as ∈ gT := gW 538 rfl rfl
theorem dkL_as : dOk mL_as 4 := by unfold dOk; decide +kernel
set_option maxRecDepth 100000 in
theorem g539 : Cond.static yL_as ∈ gT := gW 539 rfl rfl
theorem hL_132 : sHOk RL mL_as 132 4 := ⟨⟨g540, by decide⟩, g65, g538, g539, dkL_as⟩
set_option maxRecDepth 100000 in
theorem g544 : Cond.code yX8_as cX8_as 4 (some .int) ∈ gT := gW 544 rfl rfl
set_option maxRecDepth 100000 in
theorem g541 : Cond.methodLink RL 56 yX8_as ∈ gT := gW 541 rfl rfl
theorem dkX8_as : dOk mX8_as 2 := by unfold dOk; decide +kernel
set_option maxRecDepth 100000 in
theorem g542 : Cond.instanceMethod yX8_as ∈ gT := gW 542 rfl rfl
set_option maxRecDepth 100000 in
theorem g543 : Cond.selects RX8 yX8_as yX8_as ∈ gT := gW 543 rfl rfl
theorem vL_56 : vOk RL mX8_as 56 2 8 := ⟨⟨g544, rfl⟩, g66, g541, g542, g543, dkX8_as, _, rfl, rfl⟩
set_option maxRecDepth 100000 in
theorem g548 : Cond.codeWith yL_order cL_order 7 (some .int) [(0, 14, 17, 21)] ∈ gT := gW 548 rfl rfl
set_option maxRecDepth 100000 in
theorem g546 : Cond.methodLink RL 135 yL_order ∈ gT := gW 546 rfl rfl
theorem dkL_order : dOk mL_order 6 := by unfold dOk; decide +kernel
set_option maxRecDepth 100000 in
theorem g547 : Cond.static yL_order ∈ gT := gW 547 rfl rfl
theorem hL_135 : sHOk RL mL_order 135 6 := ⟨⟨g548, by decide⟩, g65, g546, g547, dkL_order⟩
set_option maxRecDepth 100000 in
theorem g552 : Cond.code yX8_order cX8_order 6 (some .int) ∈ gT := gW 552 rfl rfl
set_option maxRecDepth 100000 in
theorem g549 : Cond.methodLink RL 59 yX8_order ∈ gT := gW 549 rfl rfl
theorem dkX8_order : dOk mX8_order 4 := by unfold dOk; decide +kernel
set_option maxRecDepth 100000 in
theorem g550 : Cond.instanceMethod yX8_order ∈ gT := gW 550 rfl rfl
set_option maxRecDepth 100000 in
theorem g551 : Cond.selects RX8 yX8_order yX8_order ∈ gT := gW 551 rfl rfl
theorem vL_59 : vOk RL mX8_order 59 4 8 := ⟨⟨g552, rfl⟩, g66, g549, g550, g551, dkX8_order, _, rfl, rfl⟩
set_option maxRecDepth 100000 in
theorem g555 : Cond.code yX8_withLayer cX8_withLayer 2 (some .int) ∈ gT := gW 555 rfl rfl
set_option maxRecDepth 100000 in
theorem g553 : Cond.methodLink RX8 82 yX8_withLayer ∈ gT := gW 553 rfl rfl
theorem dkX8_withLayer : dOk mX8_withLayer 2 := by unfold dOk; decide +kernel
set_option maxRecDepth 100000 in
theorem g554 : Cond.static yX8_withLayer ∈ gT := gW 554 rfl rfl
theorem sX8_82 : sOk RX8 mX8_withLayer 82 2 := ⟨⟨g555, rfl⟩, g66, g553, g554, dkX8_withLayer⟩
set_option maxRecDepth 100000 in
theorem g559 : Cond.code yJ6_bitCount_0f7a4 cJ6_bitCount_0f7a4 1 (some .int) ∈ gT := gW 559 rfl rfl
set_option maxRecDepth 100000 in
theorem g83 : Cond.initialized RJ6 ∈ gT := gW 83 rfl rfl
set_option maxRecDepth 100000 in
theorem g557 : Cond.methodLink RX8 86 yJ6_bitCount_0f7a4 ∈ gT := gW 557 rfl rfl
theorem dkJ6_bitCount_0f7a4 : dOk mJ6_bitCount_0f7a4 1 := by unfold dOk; decide +kernel
set_option maxRecDepth 100000 in
theorem g558 : Cond.static yJ6_bitCount_0f7a4 ∈ gT := gW 558 rfl rfl
theorem sX8_86 : sOk RX8 mJ6_bitCount_0f7a4 86 1 := ⟨⟨g559, rfl⟩, g83, g557, g558, dkJ6_bitCount_0f7a4⟩
set_option maxRecDepth 100000 in
theorem g565 : Cond.codeWith yL_needs cL_needs 4 (some .int) [(0, 9, 12, 13)] ∈ gT := gW 565 rfl rfl
set_option maxRecDepth 100000 in
theorem g563 : Cond.methodLink RL 139 yL_needs ∈ gT := gW 563 rfl rfl
theorem dkL_needs : dOk mL_needs 3 := by unfold dOk; decide +kernel
set_option maxRecDepth 100000 in
theorem g564 : Cond.static yL_needs ∈ gT := gW 564 rfl rfl
theorem hL_139 : sHOk RL mL_needs 139 3 := ⟨⟨g565, by decide⟩, g65, g563, g564, dkL_needs⟩
set_option maxRecDepth 100000 in
theorem g569 : Cond.code yX8_needs cX8_needs 2 (some .int) ∈ gT := gW 569 rfl rfl
set_option maxRecDepth 100000 in
theorem g566 : Cond.methodLink RL 63 yX8_needs ∈ gT := gW 566 rfl rfl
theorem dkX8_needs : dOk mX8_needs 1 := by unfold dOk; decide +kernel
set_option maxRecDepth 100000 in
theorem g567 : Cond.instanceMethod yX8_needs ∈ gT := gW 567 rfl rfl
set_option maxRecDepth 100000 in
theorem g568 : Cond.selects RX8 yX8_needs yX8_needs ∈ gT := gW 568 rfl rfl
theorem vL_63 : vOk RL mX8_needs 63 1 8 := ⟨⟨g569, rfl⟩, g66, g566, g567, g568, dkX8_needs, _, rfl, rfl⟩
set_option maxRecDepth 100000 in
theorem g572 : Cond.codeWith yL_run cL_run 6 (some .int) [(0, 12, 15, 13), (0, 12, 19, 21), (0, 12, 23, 70)] ∈ gT := gW 572 rfl rfl
set_option maxRecDepth 100000 in
theorem g570 : Cond.methodLink RL 143 yL_run ∈ gT := gW 570 rfl rfl
theorem dkL_run : dOk mL_run 5 := by unfold dOk; decide +kernel
set_option maxRecDepth 100000 in
theorem g571 : Cond.static yL_run ∈ gT := gW 571 rfl rfl
theorem hL_143 : sHOk RL mL_run 143 5 := ⟨⟨g572, by decide⟩, g65, g570, g571, dkL_run⟩
set_option maxRecDepth 100000 in
theorem g577 : Cond.code yX8_run cX8_run 5 (some .int) ∈ gT := gW 577 rfl rfl
set_option maxRecDepth 100000 in
theorem g574 : Cond.methodLink RL 67 yX8_run ∈ gT := gW 574 rfl rfl
theorem dkX8_run : dOk mX8_run 3 := by unfold dOk; decide +kernel
set_option maxRecDepth 100000 in
theorem g575 : Cond.instanceMethod yX8_run ∈ gT := gW 575 rfl rfl
set_option maxRecDepth 100000 in
theorem g576 : Cond.selects RX8 yX8_run yX8_run ∈ gT := gW 576 rfl rfl
theorem vL_67 : vOk RL mX8_run 67 3 8 := ⟨⟨g577, rfl⟩, g66, g574, g575, g576, dkX8_run, _, rfl, rfl⟩
set_option maxRecDepth 100000 in
theorem g580 : Cond.code yX8_requireSteps cX8_requireSteps 1 none ∈ gT := gW 580 rfl rfl
set_option maxRecDepth 100000 in
theorem g578 : Cond.methodLink RX8 96 yX8_requireSteps ∈ gT := gW 578 rfl rfl
theorem dkX8_requireSteps : dOk mX8_requireSteps 1 := by unfold dOk; decide +kernel
set_option maxRecDepth 100000 in
theorem g579 : Cond.static yX8_requireSteps ∈ gT := gW 579 rfl rfl
theorem sX8_96 : sOk RX8 mX8_requireSteps 96 1 := ⟨⟨g580, rfl⟩, g66, g578, g579, dkX8_requireSteps⟩
set_option maxRecDepth 100000 in
theorem g585 : Cond.code yX8_requireLayers cX8_requireLayers 2 none ∈ gT := gW 585 rfl rfl
set_option maxRecDepth 100000 in
theorem g582 : Cond.methodLink RX8 99 yX8_requireLayers ∈ gT := gW 582 rfl rfl
theorem dkX8_requireLayers : dOk mX8_requireLayers 1 := by unfold dOk; decide +kernel
set_option maxRecDepth 100000 in
theorem g584 : Cond.instanceMethod yX8_requireLayers ∈ gT := gW 584 rfl rfl
set_option maxRecDepth 100000 in
theorem g6 : Cond.selects RX8 yX8_requireLayers yX8_requireLayers ∈ gT := gW 6 rfl rfl
theorem vX8_99 : vOk RX8 mX8_requireLayers 99 1 8 := ⟨⟨g585, rfl⟩, g66, g582, g584, g6, dkX8_requireLayers, _, rfl, rfl⟩
set_option maxRecDepth 100000 in
theorem g605 : Cond.code yX3_carryOut cX3_carryOut 7 none ∈ gT := gW 605 rfl rfl
set_option maxRecDepth 100000 in
theorem g67 : Cond.initialized RX3 ∈ gT := gW 67 rfl rfl
set_option maxRecDepth 100000 in
theorem g602 : Cond.methodLink RX8 102 yX3_carryOut ∈ gT := gW 602 rfl rfl
theorem dkX3_carryOut : dOk mX3_carryOut 5 := by unfold dOk; decide +kernel
set_option maxRecDepth 100000 in
theorem g603 : Cond.instanceMethod yX3_carryOut ∈ gT := gW 603 rfl rfl
set_option maxRecDepth 100000 in
theorem g604 : Cond.selects RX3 yX3_carryOut yX3_carryOut ∈ gT := gW 604 rfl rfl
theorem vX8_102 : vOk RX8 mX3_carryOut 102 5 3 := ⟨⟨g605, rfl⟩, g67, g602, g603, g604, dkX3_carryOut, _, rfl, rfl⟩
set_option maxRecDepth 100000 in
theorem g609 : Cond.code yX3_clear cX3_clear 2 none ∈ gT := gW 609 rfl rfl
set_option maxRecDepth 100000 in
theorem g606 : Cond.methodLink RX3 45 yX3_clear ∈ gT := gW 606 rfl rfl
theorem dkX3_clear : dOk mX3_clear 0 := by unfold dOk; decide +kernel
set_option maxRecDepth 100000 in
theorem g608 : Cond.instanceMethod yX3_clear ∈ gT := gW 608 rfl rfl
set_option maxRecDepth 100000 in
theorem g7 : Cond.selects RX3 yX3_clear yX3_clear ∈ gT := gW 7 rfl rfl
theorem vX3_45 : vOk RX3 mX3_clear 45 0 3 := ⟨⟨g609, rfl⟩, g67, g606, g608, g7, dkX3_clear, _, rfl, rfl⟩
set_option maxRecDepth 100000 in
theorem g613 : Cond.code yX2_clear cX2_clear 1 none ∈ gT := gW 613 rfl rfl
set_option maxRecDepth 100000 in
theorem g69 : Cond.initialized RX2 ∈ gT := gW 69 rfl rfl
set_option maxRecDepth 100000 in
theorem g610 : Cond.methodLink RX3 74 yX2_clear ∈ gT := gW 610 rfl rfl
theorem dkX2_clear : dOk mX2_clear 0 := by unfold dOk; decide +kernel
set_option maxRecDepth 100000 in
theorem g611 : Cond.instanceMethod yX2_clear ∈ gT := gW 611 rfl rfl
set_option maxRecDepth 100000 in
theorem g612 : Cond.selects RX2 yX2_clear yX2_clear ∈ gT := gW 612 rfl rfl
theorem vX3_74 : vOk RX3 mX2_clear 74 0 2 := ⟨⟨g613, rfl⟩, g69, g610, g611, g612, dkX2_clear, _, rfl, rfl⟩
set_option maxRecDepth 100000 in
theorem g617 : Cond.code yX5_cutTo cX5_cutTo 2 none ∈ gT := gW 617 rfl rfl
set_option maxRecDepth 100000 in
theorem g68 : Cond.initialized RX5 ∈ gT := gW 68 rfl rfl
set_option maxRecDepth 100000 in
theorem g614 : Cond.methodLink RX3 75 yX5_cutTo ∈ gT := gW 614 rfl rfl
theorem dkX5_cutTo : dOk mX5_cutTo 1 := by unfold dOk; decide +kernel
set_option maxRecDepth 100000 in
theorem g615 : Cond.instanceMethod yX5_cutTo ∈ gT := gW 615 rfl rfl
set_option maxRecDepth 100000 in
theorem g616 : Cond.selects RX5 yX5_cutTo yX5_cutTo ∈ gT := gW 616 rfl rfl
theorem vX3_75 : vOk RX3 mX5_cutTo 75 1 5 := ⟨⟨g617, rfl⟩, g68, g614, g615, g616, dkX5_cutTo, _, rfl, rfl⟩
set_option maxRecDepth 100000 in
theorem g621 : Cond.code yX3_perform cX3_perform 2 (some .int) ∈ gT := gW 621 rfl rfl
set_option maxRecDepth 100000 in
theorem g618 : Cond.methodLink RX3 48 yX3_perform ∈ gT := gW 618 rfl rfl
theorem dkX3_perform : dOk mX3_perform 1 := by unfold dOk; decide +kernel
set_option maxRecDepth 100000 in
theorem g620 : Cond.instanceMethod yX3_perform ∈ gT := gW 620 rfl rfl
set_option maxRecDepth 100000 in
theorem g8 : Cond.selects RX3 yX3_perform yX3_perform ∈ gT := gW 8 rfl rfl
theorem vX3_48 : vOk RX3 mX3_perform 48 1 3 := ⟨⟨g621, rfl⟩, g67, g618, g620, g8, dkX3_perform, _, rfl, rfl⟩
set_option maxRecDepth 100000 in
theorem g625 : Cond.code yX3_operandOf cX3_operandOf 2 (some .int) ∈ gT := gW 625 rfl rfl
set_option maxRecDepth 100000 in
theorem g622 : Cond.methodLink RX3 147 yX3_operandOf ∈ gT := gW 622 rfl rfl
theorem dkX3_operandOf : dOk mX3_operandOf 1 := by unfold dOk; decide +kernel
set_option maxRecDepth 100000 in
theorem g624 : Cond.instanceMethod yX3_operandOf ∈ gT := gW 624 rfl rfl
set_option maxRecDepth 100000 in
theorem g9 : Cond.selects RX3 yX3_operandOf yX3_operandOf ∈ gT := gW 9 rfl rfl
theorem vX3_147 : vOk RX3 mX3_operandOf 147 1 3 := ⟨⟨g625, rfl⟩, g67, g622, g624, g9, dkX3_operandOf, _, rfl, rfl⟩
set_option maxRecDepth 100000 in
theorem g629 : Cond.code yX3_numberOf cX3_numberOf 2 (some .int) ∈ gT := gW 629 rfl rfl
set_option maxRecDepth 100000 in
theorem g626 : Cond.methodLink RX3 173 yX3_numberOf ∈ gT := gW 626 rfl rfl
theorem dkX3_numberOf : dOk mX3_numberOf 1 := by unfold dOk; decide +kernel
set_option maxRecDepth 100000 in
theorem g628 : Cond.instanceMethod yX3_numberOf ∈ gT := gW 628 rfl rfl
set_option maxRecDepth 100000 in
theorem g10 : Cond.selects RX3 yX3_numberOf yX3_numberOf ∈ gT := gW 10 rfl rfl
theorem vX3_173 : vOk RX3 mX3_numberOf 173 1 3 := ⟨⟨g629, rfl⟩, g67, g626, g628, g10, dkX3_numberOf, _, rfl, rfl⟩
set_option maxRecDepth 100000 in
theorem g633 : Cond.code yX3_answer cX3_answer 2 (some .int) ∈ gT := gW 633 rfl rfl
set_option maxRecDepth 100000 in
theorem g630 : Cond.methodLink RX3 150 yX3_answer ∈ gT := gW 630 rfl rfl
theorem dkX3_answer : dOk mX3_answer 1 := by unfold dOk; decide +kernel
set_option maxRecDepth 100000 in
theorem g632 : Cond.instanceMethod yX3_answer ∈ gT := gW 632 rfl rfl
set_option maxRecDepth 100000 in
theorem g11 : Cond.selects RX3 yX3_answer yX3_answer ∈ gT := gW 11 rfl rfl
theorem vX3_150 : vOk RX3 mX3_answer 150 1 3 := ⟨⟨g633, rfl⟩, g67, g630, g632, g11, dkX3_answer, _, rfl, rfl⟩
set_option maxRecDepth 100000 in
theorem g637 : Cond.code yX5_push cX5_push 5 (some .boolean) ∈ gT := gW 637 rfl rfl
set_option maxRecDepth 100000 in
theorem g634 : Cond.methodLink RX3 203 yX5_push ∈ gT := gW 634 rfl rfl
theorem dkX5_push : dOk mX5_push 4 := by unfold dOk; decide +kernel
set_option maxRecDepth 100000 in
theorem g635 : Cond.instanceMethod yX5_push ∈ gT := gW 635 rfl rfl
set_option maxRecDepth 100000 in
theorem g636 : Cond.selects RX5 yX5_push yX5_push ∈ gT := gW 636 rfl rfl
theorem vX3_203 : vOk RX3 mX5_push 203 4 5 := ⟨⟨g637, rfl⟩, g68, g634, g635, g636, dkX5_push, _, rfl, rfl⟩
set_option maxRecDepth 100000 in
theorem g641 : Cond.code yX3_performWrite cX3_performWrite 3 (some .int) ∈ gT := gW 641 rfl rfl
set_option maxRecDepth 100000 in
theorem g638 : Cond.methodLink RX3 152 yX3_performWrite ∈ gT := gW 638 rfl rfl
theorem dkX3_performWrite : dOk mX3_performWrite 1 := by unfold dOk; decide +kernel
set_option maxRecDepth 100000 in
theorem g640 : Cond.instanceMethod yX3_performWrite ∈ gT := gW 640 rfl rfl
set_option maxRecDepth 100000 in
theorem g12 : Cond.selects RX3 yX3_performWrite yX3_performWrite ∈ gT := gW 12 rfl rfl
theorem vX3_152 : vOk RX3 mX3_performWrite 152 1 3 := ⟨⟨g641, rfl⟩, g67, g638, g640, g12, dkX3_performWrite, _, rfl, rfl⟩
set_option maxRecDepth 100000 in
theorem g645 : Cond.code yX3_performSay cX3_performSay 3 (some .int) ∈ gT := gW 645 rfl rfl
set_option maxRecDepth 100000 in
theorem g642 : Cond.methodLink RX3 155 yX3_performSay ∈ gT := gW 642 rfl rfl
theorem dkX3_performSay : dOk mX3_performSay 1 := by unfold dOk; decide +kernel
set_option maxRecDepth 100000 in
theorem g644 : Cond.instanceMethod yX3_performSay ∈ gT := gW 644 rfl rfl
set_option maxRecDepth 100000 in
theorem g13 : Cond.selects RX3 yX3_performSay yX3_performSay ∈ gT := gW 13 rfl rfl
theorem vX3_155 : vOk RX3 mX3_performSay 155 1 3 := ⟨⟨g645, rfl⟩, g67, g642, g644, g13, dkX3_performSay, _, rfl, rfl⟩
set_option maxRecDepth 100000 in
theorem g649 : Cond.code yX2_with cX2_with 4 (some .int) ∈ gT := gW 649 rfl rfl
set_option maxRecDepth 100000 in
theorem g646 : Cond.methodLink RX3 207 yX2_with ∈ gT := gW 646 rfl rfl
theorem dkX2_with : dOk mX2_with 2 := by unfold dOk; decide +kernel
set_option maxRecDepth 100000 in
theorem g647 : Cond.instanceMethod yX2_with ∈ gT := gW 647 rfl rfl
set_option maxRecDepth 100000 in
theorem g648 : Cond.selects RX2 yX2_with yX2_with ∈ gT := gW 648 rfl rfl
theorem vX3_207 : vOk RX3 mX2_with 207 2 2 := ⟨⟨g649, rfl⟩, g69, g646, g647, g648, dkX2_with, _, rfl, rfl⟩
set_option maxRecDepth 100000 in
theorem g653 : Cond.code yX2_lengthOf cX2_lengthOf 2 (some .int) ∈ gT := gW 653 rfl rfl
set_option maxRecDepth 100000 in
theorem g650 : Cond.methodLink RX2 29 yX2_lengthOf ∈ gT := gW 650 rfl rfl
theorem dkX2_lengthOf : dOk mX2_lengthOf 1 := by unfold dOk; decide +kernel
set_option maxRecDepth 100000 in
theorem g651 : Cond.instanceMethod yX2_lengthOf ∈ gT := gW 651 rfl rfl
set_option maxRecDepth 100000 in
theorem g652 : Cond.selects RX2 yX2_lengthOf yX2_lengthOf ∈ gT := gW 652 rfl rfl
theorem vX2_29 : vOk RX2 mX2_lengthOf 29 1 2 := ⟨⟨g653, rfl⟩, g69, g650, g651, g652, dkX2_lengthOf, _, rfl, rfl⟩
set_option maxRecDepth 100000 in
theorem g657 : Cond.code yX2_has cX2_has 2 (some .boolean) ∈ gT := gW 657 rfl rfl
set_option maxRecDepth 100000 in
theorem g654 : Cond.methodLink RX2 25 yX2_has ∈ gT := gW 654 rfl rfl
theorem dkX2_has : dOk mX2_has 1 := by unfold dOk; decide +kernel
set_option maxRecDepth 100000 in
theorem g656 : Cond.instanceMethod yX2_has ∈ gT := gW 656 rfl rfl
set_option maxRecDepth 100000 in
theorem g14 : Cond.selects RX2 yX2_has yX2_has ∈ gT := gW 14 rfl rfl
theorem vX2_25 : vOk RX2 mX2_has 25 1 2 := ⟨⟨g657, rfl⟩, g69, g654, g656, g14, dkX2_has, _, rfl, rfl⟩
set_option maxRecDepth 100000 in
theorem g661 : Cond.code yX3_performFail cX3_performFail 2 (some .int) ∈ gT := gW 661 rfl rfl
set_option maxRecDepth 100000 in
theorem g658 : Cond.methodLink RX3 158 yX3_performFail ∈ gT := gW 658 rfl rfl
theorem dkX3_performFail : dOk mX3_performFail 1 := by unfold dOk; decide +kernel
set_option maxRecDepth 100000 in
theorem g660 : Cond.instanceMethod yX3_performFail ∈ gT := gW 660 rfl rfl
set_option maxRecDepth 100000 in
theorem g15 : Cond.selects RX3 yX3_performFail yX3_performFail ∈ gT := gW 15 rfl rfl
theorem vX3_158 : vOk RX3 mX3_performFail 158 1 3 := ⟨⟨g661, rfl⟩, g67, g658, g660, g15, dkX3_performFail, _, rfl, rfl⟩
set_option maxRecDepth 100000 in
theorem g665 : Cond.code yX3_performEither cX3_performEither 6 (some .int) ∈ gT := gW 665 rfl rfl
set_option maxRecDepth 100000 in
theorem g662 : Cond.methodLink RX3 161 yX3_performEither ∈ gT := gW 662 rfl rfl
theorem dkX3_performEither : dOk mX3_performEither 1 := by unfold dOk; decide +kernel
set_option maxRecDepth 100000 in
theorem g664 : Cond.instanceMethod yX3_performEither ∈ gT := gW 664 rfl rfl
set_option maxRecDepth 100000 in
theorem g16 : Cond.selects RX3 yX3_performEither yX3_performEither ∈ gT := gW 16 rfl rfl
theorem vX3_161 : vOk RX3 mX3_performEither 161 1 3 := ⟨⟨g665, rfl⟩, g67, g662, g664, g16, dkX3_performEither, _, rfl, rfl⟩
set_option maxRecDepth 100000 in
theorem g669 : Cond.code yX5_size cX5_size 1 (some .int) ∈ gT := gW 669 rfl rfl
set_option maxRecDepth 100000 in
theorem g666 : Cond.methodLink RX3 52 yX5_size ∈ gT := gW 666 rfl rfl
theorem dkX5_size : dOk mX5_size 0 := by unfold dOk; decide +kernel
set_option maxRecDepth 100000 in
theorem g667 : Cond.instanceMethod yX5_size ∈ gT := gW 667 rfl rfl
set_option maxRecDepth 100000 in
theorem g668 : Cond.selects RX5 yX5_size yX5_size ∈ gT := gW 668 rfl rfl
theorem vX3_52 : vOk RX3 mX5_size 52 0 5 := ⟨⟨g669, rfl⟩, g68, g666, g667, g668, dkX5_size, _, rfl, rfl⟩
set_option maxRecDepth 100000 in
theorem g673 : Cond.code yX3_takeOwn cX3_takeOwn 3 none ∈ gT := gW 673 rfl rfl
set_option maxRecDepth 100000 in
theorem g670 : Cond.methodLink RX3 214 yX3_takeOwn ∈ gT := gW 670 rfl rfl
theorem dkX3_takeOwn : dOk mX3_takeOwn 2 := by unfold dOk; decide +kernel
set_option maxRecDepth 100000 in
theorem g672 : Cond.instanceMethod yX3_takeOwn ∈ gT := gW 672 rfl rfl
set_option maxRecDepth 100000 in
theorem g17 : Cond.selects RX3 yX3_takeOwn yX3_takeOwn ∈ gT := gW 17 rfl rfl
theorem vX3_214 : vOk RX3 mX3_takeOwn 214 2 3 := ⟨⟨g673, rfl⟩, g67, g670, g672, g17, dkX3_takeOwn, _, rfl, rfl⟩
set_option maxRecDepth 100000 in
theorem g677 : Cond.code yX3_isTooMany cX3_isTooMany 2 (some .boolean) ∈ gT := gW 677 rfl rfl
set_option maxRecDepth 100000 in
theorem g674 : Cond.methodLink RX3 217 yX3_isTooMany ∈ gT := gW 674 rfl rfl
theorem dkX3_isTooMany : dOk mX3_isTooMany 1 := by unfold dOk; decide +kernel
set_option maxRecDepth 100000 in
theorem g676 : Cond.instanceMethod yX3_isTooMany ∈ gT := gW 676 rfl rfl
set_option maxRecDepth 100000 in
theorem g18 : Cond.selects RX3 yX3_isTooMany yX3_isTooMany ∈ gT := gW 18 rfl rfl
theorem vX3_217 : vOk RX3 mX3_isTooMany 217 1 3 := ⟨⟨g677, rfl⟩, g67, g674, g676, g18, dkX3_isTooMany, _, rfl, rfl⟩
set_option maxRecDepth 100000 in
theorem g681 : Cond.code yX3_performThen cX3_performThen 4 (some .int) ∈ gT := gW 681 rfl rfl
set_option maxRecDepth 100000 in
theorem g678 : Cond.methodLink RX3 164 yX3_performThen ∈ gT := gW 678 rfl rfl
theorem dkX3_performThen : dOk mX3_performThen 1 := by unfold dOk; decide +kernel
set_option maxRecDepth 100000 in
theorem g680 : Cond.instanceMethod yX3_performThen ∈ gT := gW 680 rfl rfl
set_option maxRecDepth 100000 in
theorem g19 : Cond.selects RX3 yX3_performThen yX3_performThen ∈ gT := gW 19 rfl rfl
theorem vX3_164 : vOk RX3 mX3_performThen 164 1 3 := ⟨⟨g681, rfl⟩, g67, g678, g680, g19, dkX3_performThen, _, rfl, rfl⟩
set_option maxRecDepth 100000 in
theorem g685 : Cond.code yX3_performEach cX3_performEach 8 (some .int) ∈ gT := gW 685 rfl rfl
set_option maxRecDepth 100000 in
theorem g682 : Cond.methodLink RX3 220 yX3_performEach ∈ gT := gW 682 rfl rfl
theorem dkX3_performEach : dOk mX3_performEach 4 := by unfold dOk; decide +kernel
set_option maxRecDepth 100000 in
theorem g684 : Cond.instanceMethod yX3_performEach ∈ gT := gW 684 rfl rfl
set_option maxRecDepth 100000 in
theorem g20 : Cond.selects RX3 yX3_performEach yX3_performEach ∈ gT := gW 20 rfl rfl
theorem vX3_220 : vOk RX3 mX3_performEach 220 4 3 := ⟨⟨g685, rfl⟩, g67, g682, g684, g20, dkX3_performEach, _, rfl, rfl⟩
set_option maxRecDepth 100000 in
theorem g689 : Cond.code yX5_isError cX5_isError 2 (some .boolean) ∈ gT := gW 689 rfl rfl
set_option maxRecDepth 100000 in
theorem g686 : Cond.methodLink RX3 122 yX5_isError ∈ gT := gW 686 rfl rfl
theorem dkX5_isError : dOk mX5_isError 1 := by unfold dOk; decide +kernel
set_option maxRecDepth 100000 in
theorem g687 : Cond.instanceMethod yX5_isError ∈ gT := gW 687 rfl rfl
set_option maxRecDepth 100000 in
theorem g688 : Cond.selects RX5 yX5_isError yX5_isError ∈ gT := gW 688 rfl rfl
theorem vX3_122 : vOk RX3 mX5_isError 122 1 5 := ⟨⟨g689, rfl⟩, g68, g686, g687, g688, dkX5_isError, _, rfl, rfl⟩
set_option maxRecDepth 100000 in
theorem g693 : Cond.code yX5_has cX5_has 2 (some .boolean) ∈ gT := gW 693 rfl rfl
set_option maxRecDepth 100000 in
theorem g690 : Cond.methodLink RX5 29 yX5_has ∈ gT := gW 690 rfl rfl
theorem dkX5_has : dOk mX5_has 1 := by unfold dOk; decide +kernel
set_option maxRecDepth 100000 in
theorem g692 : Cond.instanceMethod yX5_has ∈ gT := gW 692 rfl rfl
set_option maxRecDepth 100000 in
theorem g21 : Cond.selects RX5 yX5_has yX5_has ∈ gT := gW 21 rfl rfl
theorem vX5_29 : vOk RX5 mX5_has 29 1 5 := ⟨⟨g693, rfl⟩, g68, g690, g692, g21, dkX5_has, _, rfl, rfl⟩
set_option maxRecDepth 100000 in
theorem g697 : Cond.code yX5_stateOf cX5_stateOf 2 (some .int) ∈ gT := gW 697 rfl rfl
set_option maxRecDepth 100000 in
theorem g694 : Cond.methodLink RX3 133 yX5_stateOf ∈ gT := gW 694 rfl rfl
theorem dkX5_stateOf : dOk mX5_stateOf 1 := by unfold dOk; decide +kernel
set_option maxRecDepth 100000 in
theorem g695 : Cond.instanceMethod yX5_stateOf ∈ gT := gW 695 rfl rfl
set_option maxRecDepth 100000 in
theorem g696 : Cond.selects RX5 yX5_stateOf yX5_stateOf ∈ gT := gW 696 rfl rfl
theorem vX3_133 : vOk RX3 mX5_stateOf 133 1 5 := ⟨⟨g697, rfl⟩, g68, g694, g695, g696, dkX5_stateOf, _, rfl, rfl⟩
set_option maxRecDepth 100000 in
theorem g701 : Cond.code yX5_logOf cX5_logOf 2 (some .int) ∈ gT := gW 701 rfl rfl
set_option maxRecDepth 100000 in
theorem g698 : Cond.methodLink RX3 139 yX5_logOf ∈ gT := gW 698 rfl rfl
theorem dkX5_logOf : dOk mX5_logOf 1 := by unfold dOk; decide +kernel
set_option maxRecDepth 100000 in
theorem g699 : Cond.instanceMethod yX5_logOf ∈ gT := gW 699 rfl rfl
set_option maxRecDepth 100000 in
theorem g700 : Cond.selects RX5 yX5_logOf yX5_logOf ∈ gT := gW 700 rfl rfl
theorem vX3_139 : vOk RX3 mX5_logOf 139 1 5 := ⟨⟨g701, rfl⟩, g68, g698, g699, g700, dkX5_logOf, _, rfl, rfl⟩
set_option maxRecDepth 100000 in
theorem g705 : Cond.code yX5_numberOf cX5_numberOf 2 (some .int) ∈ gT := gW 705 rfl rfl
set_option maxRecDepth 100000 in
theorem g702 : Cond.methodLink RX3 126 yX5_numberOf ∈ gT := gW 702 rfl rfl
theorem dkX5_numberOf : dOk mX5_numberOf 1 := by unfold dOk; decide +kernel
set_option maxRecDepth 100000 in
theorem g703 : Cond.instanceMethod yX5_numberOf ∈ gT := gW 703 rfl rfl
set_option maxRecDepth 100000 in
theorem g704 : Cond.selects RX5 yX5_numberOf yX5_numberOf ∈ gT := gW 704 rfl rfl
theorem vX3_126 : vOk RX3 mX5_numberOf 126 1 5 := ⟨⟨g705, rfl⟩, g68, g702, g703, g704, dkX5_numberOf, _, rfl, rfl⟩
set_option maxRecDepth 100000 in
theorem g709 : Cond.code yX3_performNaming cX3_performNaming 6 (some .int) ∈ gT := gW 709 rfl rfl
set_option maxRecDepth 100000 in
theorem g706 : Cond.methodLink RX3 224 yX3_performNaming ∈ gT := gW 706 rfl rfl
theorem dkX3_performNaming : dOk mX3_performNaming 3 := by unfold dOk; decide +kernel
set_option maxRecDepth 100000 in
theorem g708 : Cond.instanceMethod yX3_performNaming ∈ gT := gW 708 rfl rfl
set_option maxRecDepth 100000 in
theorem g22 : Cond.selects RX3 yX3_performNaming yX3_performNaming ∈ gT := gW 22 rfl rfl
theorem vX3_224 : vOk RX3 mX3_performNaming 224 3 3 := ⟨⟨g709, rfl⟩, g67, g706, g708, g22, dkX3_performNaming, _, rfl, rfl⟩
set_option maxRecDepth 100000 in
theorem g713 : Cond.code yX5_pushAgain cX5_pushAgain 2 (some .boolean) ∈ gT := gW 713 rfl rfl
set_option maxRecDepth 100000 in
theorem g710 : Cond.methodLink RX3 246 yX5_pushAgain ∈ gT := gW 710 rfl rfl
theorem dkX5_pushAgain : dOk mX5_pushAgain 1 := by unfold dOk; decide +kernel
set_option maxRecDepth 100000 in
theorem g711 : Cond.instanceMethod yX5_pushAgain ∈ gT := gW 711 rfl rfl
set_option maxRecDepth 100000 in
theorem g712 : Cond.selects RX5 yX5_pushAgain yX5_pushAgain ∈ gT := gW 712 rfl rfl
theorem vX3_246 : vOk RX3 mX5_pushAgain 246 1 5 := ⟨⟨g713, rfl⟩, g68, g710, g711, g712, dkX5_pushAgain, _, rfl, rfl⟩
set_option maxRecDepth 100000 in
theorem g714 : Cond.methodLink RX5 35 yX5_numberOf ∈ gT := gW 714 rfl rfl
theorem vX5_35 : vOk RX5 mX5_numberOf 35 1 5 := ⟨⟨g705, rfl⟩, g68, g714, g703, g704, dkX5_numberOf, _, rfl, rfl⟩
set_option maxRecDepth 100000 in
theorem g715 : Cond.methodLink RX5 39 yX5_isError ∈ gT := gW 715 rfl rfl
theorem vX5_39 : vOk RX5 mX5_isError 39 1 5 := ⟨⟨g689, rfl⟩, g68, g715, g687, g688, dkX5_isError, _, rfl, rfl⟩
set_option maxRecDepth 100000 in
theorem g716 : Cond.methodLink RX5 42 yX5_stateOf ∈ gT := gW 716 rfl rfl
theorem vX5_42 : vOk RX5 mX5_stateOf 42 1 5 := ⟨⟨g697, rfl⟩, g68, g716, g695, g696, dkX5_stateOf, _, rfl, rfl⟩
set_option maxRecDepth 100000 in
theorem g717 : Cond.methodLink RX5 45 yX5_logOf ∈ gT := gW 717 rfl rfl
theorem vX5_45 : vOk RX5 mX5_logOf 45 1 5 := ⟨⟨g701, rfl⟩, g68, g717, g699, g700, dkX5_logOf, _, rfl, rfl⟩
set_option maxRecDepth 100000 in
theorem g718 : Cond.methodLink RX5 48 yX5_push ∈ gT := gW 718 rfl rfl
theorem vX5_48 : vOk RX5 mX5_push 48 4 5 := ⟨⟨g637, rfl⟩, g68, g718, g635, g636, dkX5_push, _, rfl, rfl⟩
set_option maxRecDepth 100000 in
theorem g722 : Cond.code yX5_closeGap cX5_closeGap 5 none ∈ gT := gW 722 rfl rfl
set_option maxRecDepth 100000 in
theorem g719 : Cond.methodLink RX3 249 yX5_closeGap ∈ gT := gW 719 rfl rfl
theorem dkX5_closeGap : dOk mX5_closeGap 2 := by unfold dOk; decide +kernel
set_option maxRecDepth 100000 in
theorem g720 : Cond.instanceMethod yX5_closeGap ∈ gT := gW 720 rfl rfl
set_option maxRecDepth 100000 in
theorem g721 : Cond.selects RX5 yX5_closeGap yX5_closeGap ∈ gT := gW 721 rfl rfl
theorem vX3_249 : vOk RX3 mX5_closeGap 249 2 5 := ⟨⟨g722, rfl⟩, g68, g719, g720, g721, dkX5_closeGap, _, rfl, rfl⟩
set_option maxRecDepth 100000 in
theorem g725 : Cond.code yJ9_min_7cf53 cJ9_min_7cf53 2 (some .int) ∈ gT := gW 725 rfl rfl
set_option maxRecDepth 100000 in
theorem g723 : Cond.methodLink RX5 52 yJ9_min_7cf53 ∈ gT := gW 723 rfl rfl
theorem dkJ9_min_7cf53 : dOk mJ9_min_7cf53 2 := by unfold dOk; decide +kernel
set_option maxRecDepth 100000 in
theorem g724 : Cond.static yJ9_min_7cf53 ∈ gT := gW 724 rfl rfl
theorem sX5_52 : sOk RX5 mJ9_min_7cf53 52 2 := ⟨⟨g725, rfl⟩, g79, g723, g724, dkJ9_min_7cf53⟩
set_option maxRecDepth 100000 in
theorem g726 : Cond.methodLink RX5 58 yX5_cutTo ∈ gT := gW 726 rfl rfl
theorem vX5_58 : vOk RX5 mX5_cutTo 58 1 5 := ⟨⟨g617, rfl⟩, g68, g726, g615, g616, dkX5_cutTo, _, rfl, rfl⟩
set_option maxRecDepth 100000 in
theorem g727 : Cond.methodLink RX5 62 yJ9_max_7cf53 ∈ gT := gW 727 rfl rfl
theorem sX5_62 : sOk RX5 mJ9_max_7cf53 62 2 := ⟨⟨g375, rfl⟩, g79, g727, g374, dkJ9_max_7cf53⟩
set_option maxRecDepth 100000 in
theorem g731 : Cond.code yX3_performSaved cX3_performSaved 8 (some .int) ∈ gT := gW 731 rfl rfl
set_option maxRecDepth 100000 in
theorem g728 : Cond.methodLink RX3 167 yX3_performSaved ∈ gT := gW 728 rfl rfl
theorem dkX3_performSaved : dOk mX3_performSaved 1 := by unfold dOk; decide +kernel
set_option maxRecDepth 100000 in
theorem g730 : Cond.instanceMethod yX3_performSaved ∈ gT := gW 730 rfl rfl
set_option maxRecDepth 100000 in
theorem g23 : Cond.selects RX3 yX3_performSaved yX3_performSaved ∈ gT := gW 23 rfl rfl
theorem vX3_167 : vOk RX3 mX3_performSaved 167 1 3 := ⟨⟨g731, rfl⟩, g67, g728, g730, g23, dkX3_performSaved, _, rfl, rfl⟩
set_option maxRecDepth 100000 in
theorem g735 : Cond.code yX5_setState cX5_setState 3 none ∈ gT := gW 735 rfl rfl
set_option maxRecDepth 100000 in
theorem g732 : Cond.methodLink RX3 228 yX5_setState ∈ gT := gW 732 rfl rfl
theorem dkX5_setState : dOk mX5_setState 2 := by unfold dOk; decide +kernel
set_option maxRecDepth 100000 in
theorem g733 : Cond.instanceMethod yX5_setState ∈ gT := gW 733 rfl rfl
set_option maxRecDepth 100000 in
theorem g734 : Cond.selects RX5 yX5_setState yX5_setState ∈ gT := gW 734 rfl rfl
theorem vX3_228 : vOk RX3 mX5_setState 228 2 5 := ⟨⟨g735, rfl⟩, g68, g732, g733, g734, dkX5_setState, _, rfl, rfl⟩
set_option maxRecDepth 100000 in
theorem g739 : Cond.code yX5_setLog cX5_setLog 3 none ∈ gT := gW 739 rfl rfl
set_option maxRecDepth 100000 in
theorem g736 : Cond.methodLink RX3 230 yX5_setLog ∈ gT := gW 736 rfl rfl
theorem dkX5_setLog : dOk mX5_setLog 2 := by unfold dOk; decide +kernel
set_option maxRecDepth 100000 in
theorem g737 : Cond.instanceMethod yX5_setLog ∈ gT := gW 737 rfl rfl
set_option maxRecDepth 100000 in
theorem g738 : Cond.selects RX5 yX5_setLog yX5_setLog ∈ gT := gW 738 rfl rfl
theorem vX3_230 : vOk RX3 mX5_setLog 230 2 5 := ⟨⟨g739, rfl⟩, g68, g736, g737, g738, dkX5_setLog, _, rfl, rfl⟩
set_option maxRecDepth 100000 in
theorem g743 : Cond.code yX3_performTimes cX3_performTimes 6 (some .int) ∈ gT := gW 743 rfl rfl
set_option maxRecDepth 100000 in
theorem g740 : Cond.methodLink RX3 181 yX3_performTimes ∈ gT := gW 740 rfl rfl
theorem dkX3_performTimes : dOk mX3_performTimes 1 := by unfold dOk; decide +kernel
set_option maxRecDepth 100000 in
theorem g742 : Cond.instanceMethod yX3_performTimes ∈ gT := gW 742 rfl rfl
set_option maxRecDepth 100000 in
theorem g24 : Cond.selects RX3 yX3_performTimes yX3_performTimes ∈ gT := gW 24 rfl rfl
theorem vX3_181 : vOk RX3 mX3_performTimes 181 1 3 := ⟨⟨g743, rfl⟩, g67, g740, g742, g24, dkX3_performTimes, _, rfl, rfl⟩
set_option maxRecDepth 100000 in
theorem g744 : Cond.methodLink RX3 232 yJ9_min_7cf53 ∈ gT := gW 744 rfl rfl
theorem sX3_232 : sOk RX3 mJ9_min_7cf53 232 2 := ⟨⟨g725, rfl⟩, g79, g744, g724, dkJ9_min_7cf53⟩
set_option maxRecDepth 100000 in
theorem g745 : Cond.methodLink RX3 237 yJ9_max_7cf53 ∈ gT := gW 745 rfl rfl
theorem sX3_237 : sOk RX3 mJ9_max_7cf53 237 2 := ⟨⟨g375, rfl⟩, g79, g745, g374, dkJ9_max_7cf53⟩
set_option maxRecDepth 100000 in
theorem g749 : Cond.code yX3_performOnce cX3_performOnce 4 (some .int) ∈ gT := gW 749 rfl rfl
set_option maxRecDepth 100000 in
theorem g746 : Cond.methodLink RX3 184 yX3_performOnce ∈ gT := gW 746 rfl rfl
theorem dkX3_performOnce : dOk mX3_performOnce 1 := by unfold dOk; decide +kernel
set_option maxRecDepth 100000 in
theorem g748 : Cond.instanceMethod yX3_performOnce ∈ gT := gW 748 rfl rfl
set_option maxRecDepth 100000 in
theorem g25 : Cond.selects RX3 yX3_performOnce yX3_performOnce ∈ gT := gW 25 rfl rfl
theorem vX3_184 : vOk RX3 mX3_performOnce 184 1 3 := ⟨⟨g749, rfl⟩, g67, g746, g748, g25, dkX3_performOnce, _, rfl, rfl⟩
set_option maxRecDepth 100000 in
theorem g753 : Cond.code yX3_performHeard cX3_performHeard 8 (some .int) ∈ gT := gW 753 rfl rfl
set_option maxRecDepth 100000 in
theorem g750 : Cond.methodLink RX3 187 yX3_performHeard ∈ gT := gW 750 rfl rfl
theorem dkX3_performHeard : dOk mX3_performHeard 1 := by unfold dOk; decide +kernel
set_option maxRecDepth 100000 in
theorem g752 : Cond.instanceMethod yX3_performHeard ∈ gT := gW 752 rfl rfl
set_option maxRecDepth 100000 in
theorem g26 : Cond.selects RX3 yX3_performHeard yX3_performHeard ∈ gT := gW 26 rfl rfl
theorem vX3_187 : vOk RX3 mX3_performHeard 187 1 3 := ⟨⟨g753, rfl⟩, g67, g750, g752, g26, dkX3_performHeard, _, rfl, rfl⟩
set_option maxRecDepth 100000 in
theorem g754 : Cond.methodLink RX3 240 yX2_lengthOf ∈ gT := gW 754 rfl rfl
theorem vX3_240 : vOk RX3 mX2_lengthOf 240 1 2 := ⟨⟨g653, rfl⟩, g69, g754, g651, g652, dkX2_lengthOf, _, rfl, rfl⟩
set_option maxRecDepth 100000 in
theorem g758 : Cond.code yX5_setNumber cX5_setNumber 3 none ∈ gT := gW 758 rfl rfl
set_option maxRecDepth 100000 in
theorem g755 : Cond.methodLink RX3 243 yX5_setNumber ∈ gT := gW 755 rfl rfl
theorem dkX5_setNumber : dOk mX5_setNumber 2 := by unfold dOk; decide +kernel
set_option maxRecDepth 100000 in
theorem g756 : Cond.instanceMethod yX5_setNumber ∈ gT := gW 756 rfl rfl
set_option maxRecDepth 100000 in
theorem g757 : Cond.selects RX5 yX5_setNumber yX5_setNumber ∈ gT := gW 757 rfl rfl
theorem vX3_243 : vOk RX3 mX5_setNumber 243 2 5 := ⟨⟨g758, rfl⟩, g68, g755, g756, g757, dkX5_setNumber, _, rfl, rfl⟩
set_option maxRecDepth 100000 in
theorem g762 : Cond.code yX3_performHidden cX3_performHidden 7 (some .int) ∈ gT := gW 762 rfl rfl
set_option maxRecDepth 100000 in
theorem g759 : Cond.methodLink RX3 190 yX3_performHidden ∈ gT := gW 759 rfl rfl
theorem dkX3_performHidden : dOk mX3_performHidden 1 := by unfold dOk; decide +kernel
set_option maxRecDepth 100000 in
theorem g761 : Cond.instanceMethod yX3_performHidden ∈ gT := gW 761 rfl rfl
set_option maxRecDepth 100000 in
theorem g27 : Cond.selects RX3 yX3_performHidden yX3_performHidden ∈ gT := gW 27 rfl rfl
theorem vX3_190 : vOk RX3 mX3_performHidden 190 1 3 := ⟨⟨g762, rfl⟩, g67, g759, g761, g27, dkX3_performHidden, _, rfl, rfl⟩
set_option maxRecDepth 100000 in
theorem g765 : Cond.code yX3_reckon cX3_reckon 3 (some .int) ∈ gT := gW 765 rfl rfl
set_option maxRecDepth 100000 in
theorem g763 : Cond.methodLink RX3 193 yX3_reckon ∈ gT := gW 763 rfl rfl
theorem dkX3_reckon : dOk mX3_reckon 3 := by unfold dOk; decide +kernel
set_option maxRecDepth 100000 in
theorem g764 : Cond.static yX3_reckon ∈ gT := gW 764 rfl rfl
theorem sX3_193 : sOk RX3 mX3_reckon 193 3 := ⟨⟨g765, rfl⟩, g67, g763, g764, dkX3_reckon⟩
set_option maxRecDepth 100000 in
theorem g769 : Cond.code yX3_tell cX3_tell 4 none ∈ gT := gW 769 rfl rfl
set_option maxRecDepth 100000 in
theorem g766 : Cond.methodLink RX3 61 yX3_tell ∈ gT := gW 766 rfl rfl
theorem dkX3_tell : dOk mX3_tell 1 := by unfold dOk; decide +kernel
set_option maxRecDepth 100000 in
theorem g768 : Cond.instanceMethod yX3_tell ∈ gT := gW 768 rfl rfl
set_option maxRecDepth 100000 in
theorem g28 : Cond.selects RX3 yX3_tell yX3_tell ∈ gT := gW 28 rfl rfl
theorem vX3_61 : vOk RX3 mX3_tell 61 1 3 := ⟨⟨g769, rfl⟩, g67, g766, g768, g28, dkX3_tell, _, rfl, rfl⟩
set_option maxRecDepth 100000 in
theorem g773 : Cond.code yX3_tellCommon cX3_tellCommon 3 none ∈ gT := gW 773 rfl rfl
set_option maxRecDepth 100000 in
theorem g770 : Cond.methodLink RX3 83 yX3_tellCommon ∈ gT := gW 770 rfl rfl
theorem dkX3_tellCommon : dOk mX3_tellCommon 2 := by unfold dOk; decide +kernel
set_option maxRecDepth 100000 in
theorem g772 : Cond.instanceMethod yX3_tellCommon ∈ gT := gW 772 rfl rfl
set_option maxRecDepth 100000 in
theorem g29 : Cond.selects RX3 yX3_tellCommon yX3_tellCommon ∈ gT := gW 29 rfl rfl
theorem vX3_83 : vOk RX3 mX3_tellCommon 83 2 3 := ⟨⟨g773, rfl⟩, g67, g770, g772, g29, dkX3_tellCommon, _, rfl, rfl⟩
set_option maxRecDepth 100000 in
theorem g777 : Cond.code yX6_setHead cX6_setHead 3 none ∈ gT := gW 777 rfl rfl
set_option maxRecDepth 100000 in
theorem g72 : Cond.initialized RX6 ∈ gT := gW 72 rfl rfl
set_option maxRecDepth 100000 in
theorem g774 : Cond.methodLink RX3 95 yX6_setHead ∈ gT := gW 774 rfl rfl
theorem dkX6_setHead : dOk mX6_setHead 2 := by unfold dOk; decide +kernel
set_option maxRecDepth 100000 in
theorem g775 : Cond.instanceMethod yX6_setHead ∈ gT := gW 775 rfl rfl
set_option maxRecDepth 100000 in
theorem g776 : Cond.selects RX6 yX6_setHead yX6_setHead ∈ gT := gW 776 rfl rfl
theorem vX3_95 : vOk RX3 mX6_setHead 95 2 6 := ⟨⟨g777, rfl⟩, g72, g774, g775, g776, dkX6_setHead, _, rfl, rfl⟩
set_option maxRecDepth 100000 in
theorem g781 : Cond.code yX6_setState cX6_setState 3 none ∈ gT := gW 781 rfl rfl
set_option maxRecDepth 100000 in
theorem g778 : Cond.methodLink RX3 108 yX6_setState ∈ gT := gW 778 rfl rfl
theorem dkX6_setState : dOk mX6_setState 2 := by unfold dOk; decide +kernel
set_option maxRecDepth 100000 in
theorem g779 : Cond.instanceMethod yX6_setState ∈ gT := gW 779 rfl rfl
set_option maxRecDepth 100000 in
theorem g780 : Cond.selects RX6 yX6_setState yX6_setState ∈ gT := gW 780 rfl rfl
theorem vX3_108 : vOk RX3 mX6_setState 108 2 6 := ⟨⟨g781, rfl⟩, g72, g778, g779, g780, dkX6_setState, _, rfl, rfl⟩
set_option maxRecDepth 100000 in
theorem g785 : Cond.code yX6_setLog cX6_setLog 6 none ∈ gT := gW 785 rfl rfl
set_option maxRecDepth 100000 in
theorem g782 : Cond.methodLink RX3 118 yX6_setLog ∈ gT := gW 782 rfl rfl
theorem dkX6_setLog : dOk mX6_setLog 3 := by unfold dOk; decide +kernel
set_option maxRecDepth 100000 in
theorem g783 : Cond.instanceMethod yX6_setLog ∈ gT := gW 783 rfl rfl
set_option maxRecDepth 100000 in
theorem g784 : Cond.selects RX6 yX6_setLog yX6_setLog ∈ gT := gW 784 rfl rfl
theorem vX3_118 : vOk RX3 mX6_setLog 118 3 6 := ⟨⟨g785, rfl⟩, g72, g782, g783, g784, dkX6_setLog, _, rfl, rfl⟩
set_option maxRecDepth 100000 in
theorem g786 : Cond.methodLink RX6 25 yX2_lengthOf ∈ gT := gW 786 rfl rfl
theorem vX6_25 : vOk RX6 mX2_lengthOf 25 1 2 := ⟨⟨g653, rfl⟩, g69, g786, g651, g652, dkX2_lengthOf, _, rfl, rfl⟩
set_option maxRecDepth 100000 in
theorem g787 : Cond.methodLink RX6 31 yJ9_min_7cf53 ∈ gT := gW 787 rfl rfl
theorem sX6_31 : sOk RX6 mJ9_min_7cf53 31 2 := ⟨⟨g725, rfl⟩, g79, g787, g724, dkJ9_min_7cf53⟩
set_option maxRecDepth 100000 in
theorem g791 : Cond.code yX2_lastOf cX2_lastOf 2 (some .int) ∈ gT := gW 791 rfl rfl
set_option maxRecDepth 100000 in
theorem g788 : Cond.methodLink RX6 34 yX2_lastOf ∈ gT := gW 788 rfl rfl
theorem dkX2_lastOf : dOk mX2_lastOf 1 := by unfold dOk; decide +kernel
set_option maxRecDepth 100000 in
theorem g789 : Cond.instanceMethod yX2_lastOf ∈ gT := gW 789 rfl rfl
set_option maxRecDepth 100000 in
theorem g790 : Cond.selects RX2 yX2_lastOf yX2_lastOf ∈ gT := gW 790 rfl rfl
theorem vX6_34 : vOk RX6 mX2_lastOf 34 1 2 := ⟨⟨g791, rfl⟩, g69, g788, g789, g790, dkX2_lastOf, _, rfl, rfl⟩
set_option maxRecDepth 100000 in
theorem g795 : Cond.code yX2_withoutLast cX2_withoutLast 2 (some .int) ∈ gT := gW 795 rfl rfl
set_option maxRecDepth 100000 in
theorem g792 : Cond.methodLink RX6 37 yX2_withoutLast ∈ gT := gW 792 rfl rfl
theorem dkX2_withoutLast : dOk mX2_withoutLast 1 := by unfold dOk; decide +kernel
set_option maxRecDepth 100000 in
theorem g793 : Cond.instanceMethod yX2_withoutLast ∈ gT := gW 793 rfl rfl
set_option maxRecDepth 100000 in
theorem g794 : Cond.selects RX2 yX2_withoutLast yX2_withoutLast ∈ gT := gW 794 rfl rfl
theorem vX6_37 : vOk RX6 mX2_withoutLast 37 1 2 := ⟨⟨g795, rfl⟩, g69, g792, g793, g794, dkX2_withoutLast, _, rfl, rfl⟩
set_option maxRecDepth 100000 in
theorem g799 : Cond.code yX4_rowOf cX4_rowOf 2 (some (.object "LayeredActs$Row")) ∈ gT := gW 799 rfl rfl
set_option maxRecDepth 100000 in
theorem g796 : Cond.methodLink RX3 87 yX4_rowOf ∈ gT := gW 796 rfl rfl
theorem dkX4_rowOf : dOk mX4_rowOf 1 := by unfold dOk; decide +kernel
set_option maxRecDepth 100000 in
theorem g797 : Cond.instanceMethod yX4_rowOf ∈ gT := gW 797 rfl rfl
set_option maxRecDepth 100000 in
theorem g798 : Cond.selects RX4 yX4_rowOf yX4_rowOf ∈ gT := gW 798 rfl rfl
theorem vX3_87 : vOk RX3 mX4_rowOf 87 1 4 := ⟨⟨g799, rfl⟩, g71, g796, g797, g798, dkX4_rowOf, _, rfl, rfl⟩
set_option maxRecDepth 100000 in
theorem g803 : Cond.code yX3_tellResult cX3_tellResult 4 none ∈ gT := gW 803 rfl rfl
set_option maxRecDepth 100000 in
theorem g800 : Cond.methodLink RX3 91 yX3_tellResult ∈ gT := gW 800 rfl rfl
theorem dkX3_tellResult : dOk mX3_tellResult 2 := by unfold dOk; decide +kernel
set_option maxRecDepth 100000 in
theorem g802 : Cond.instanceMethod yX3_tellResult ∈ gT := gW 802 rfl rfl
set_option maxRecDepth 100000 in
theorem g30 : Cond.selects RX3 yX3_tellResult yX3_tellResult ∈ gT := gW 30 rfl rfl
theorem vX3_91 : vOk RX3 mX3_tellResult 91 2 3 := ⟨⟨g803, rfl⟩, g67, g800, g802, g30, dkX3_tellResult, _, rfl, rfl⟩
set_option maxRecDepth 100000 in
theorem g806 : Cond.codeWith yL_result cL_result 5 (some .int) [(0, 10, 13, 13), (0, 10, 17, 21)] ∈ gT := gW 806 rfl rfl
set_option maxRecDepth 100000 in
theorem g804 : Cond.methodLink RL 146 yL_result ∈ gT := gW 804 rfl rfl
theorem dkL_result : dOk mL_result 4 := by unfold dOk; decide +kernel
set_option maxRecDepth 100000 in
theorem g805 : Cond.static yL_result ∈ gT := gW 805 rfl rfl
theorem hL_146 : sHOk RL mL_result 146 4 := ⟨⟨g806, by decide⟩, g65, g804, g805, dkL_result⟩
set_option maxRecDepth 100000 in
theorem g810 : Cond.code yX8_result cX8_result 4 (some .int) ∈ gT := gW 810 rfl rfl
set_option maxRecDepth 100000 in
theorem g807 : Cond.methodLink RL 72 yX8_result ∈ gT := gW 807 rfl rfl
theorem dkX8_result : dOk mX8_result 2 := by unfold dOk; decide +kernel
set_option maxRecDepth 100000 in
theorem g808 : Cond.instanceMethod yX8_result ∈ gT := gW 808 rfl rfl
set_option maxRecDepth 100000 in
theorem g809 : Cond.selects RX8 yX8_result yX8_result ∈ gT := gW 809 rfl rfl
theorem vL_72 : vOk RL mX8_result 72 2 8 := ⟨⟨g810, rfl⟩, g66, g807, g808, g809, dkX8_result, _, rfl, rfl⟩
set_option maxRecDepth 100000 in
theorem g811 : Cond.methodLink RX8 109 yX4_rowOf ∈ gT := gW 811 rfl rfl
theorem vX8_109 : vOk RX8 mX4_rowOf 109 1 4 := ⟨⟨g799, rfl⟩, g71, g811, g797, g798, dkX4_rowOf, _, rfl, rfl⟩
set_option maxRecDepth 100000 in
theorem g815 : Cond.code yX8_tellOf cX8_tellOf 2 (some .int) ∈ gT := gW 815 rfl rfl
set_option maxRecDepth 100000 in
theorem g813 : Cond.methodLink RX8 118 yX8_tellOf ∈ gT := gW 813 rfl rfl
theorem dkX8_tellOf : dOk mX8_tellOf 2 := by unfold dOk; decide +kernel
set_option maxRecDepth 100000 in
theorem g814 : Cond.static yX8_tellOf ∈ gT := gW 814 rfl rfl
theorem sX8_118 : sOk RX8 mX8_tellOf 118 2 := ⟨⟨g815, rfl⟩, g66, g813, g814, dkX8_tellOf⟩
set_option maxRecDepth 100000 in
theorem g819 : Cond.code yX6_tells cX6_tells 2 (some .boolean) ∈ gT := gW 819 rfl rfl
set_option maxRecDepth 100000 in
theorem g816 : Cond.methodLink RX8 157 yX6_tells ∈ gT := gW 816 rfl rfl
theorem dkX6_tells : dOk mX6_tells 1 := by unfold dOk; decide +kernel
set_option maxRecDepth 100000 in
theorem g817 : Cond.instanceMethod yX6_tells ∈ gT := gW 817 rfl rfl
set_option maxRecDepth 100000 in
theorem g818 : Cond.selects RX6 yX6_tells yX6_tells ∈ gT := gW 818 rfl rfl
theorem vX8_157 : vOk RX8 mX6_tells 157 1 6 := ⟨⟨g819, rfl⟩, g72, g816, g817, g818, dkX6_tells, _, rfl, rfl⟩
set_option maxRecDepth 100000 in
theorem g820 : Cond.methodLink RX6 15 yJ9_max_7cf53 ∈ gT := gW 820 rfl rfl
theorem sX6_15 : sOk RX6 mJ9_max_7cf53 15 2 := ⟨⟨g375, rfl⟩, g79, g820, g374, dkJ9_max_7cf53⟩
set_option maxRecDepth 100000 in
theorem g825 : Cond.code yX6_at cX6_at 2 (some .int) ∈ gT := gW 825 rfl rfl
set_option maxRecDepth 100000 in
theorem g822 : Cond.methodLink RX8 165 yX6_at ∈ gT := gW 822 rfl rfl
theorem dkX6_at : dOk mX6_at 1 := by unfold dOk; decide +kernel
set_option maxRecDepth 100000 in
theorem g823 : Cond.instanceMethod yX6_at ∈ gT := gW 823 rfl rfl
set_option maxRecDepth 100000 in
theorem g824 : Cond.selects RX6 yX6_at yX6_at ∈ gT := gW 824 rfl rfl
theorem vX8_165 : vOk RX8 mX6_at 165 1 6 := ⟨⟨g825, rfl⟩, g72, g822, g823, g824, dkX6_at, _, rfl, rfl⟩
set_option maxRecDepth 100000 in
theorem g826 : Cond.methodLink RX6 21 yX6_tells ∈ gT := gW 826 rfl rfl
theorem vX6_21 : vOk RX6 mX6_tells 21 1 6 := ⟨⟨g819, rfl⟩, g72, g826, g817, g818, dkX6_tells, _, rfl, rfl⟩
set_option maxRecDepth 100000 in
theorem g829 : Cond.codeWith yL_shared cL_shared 4 (some .int) [(0, 9, 12, 70), (0, 9, 15, 21)] ∈ gT := gW 829 rfl rfl
set_option maxRecDepth 100000 in
theorem g827 : Cond.methodLink RL 149 yL_shared ∈ gT := gW 827 rfl rfl
theorem dkL_shared : dOk mL_shared 3 := by unfold dOk; decide +kernel
set_option maxRecDepth 100000 in
theorem g828 : Cond.static yL_shared ∈ gT := gW 828 rfl rfl
theorem hL_149 : sHOk RL mL_shared 149 3 := ⟨⟨g829, by decide⟩, g65, g827, g828, dkL_shared⟩
set_option maxRecDepth 100000 in
theorem g833 : Cond.code yX8_shared cX8_shared 2 (some .int) ∈ gT := gW 833 rfl rfl
set_option maxRecDepth 100000 in
theorem g830 : Cond.methodLink RL 75 yX8_shared ∈ gT := gW 830 rfl rfl
theorem dkX8_shared : dOk mX8_shared 1 := by unfold dOk; decide +kernel
set_option maxRecDepth 100000 in
theorem g831 : Cond.instanceMethod yX8_shared ∈ gT := gW 831 rfl rfl
set_option maxRecDepth 100000 in
theorem g832 : Cond.selects RX8 yX8_shared yX8_shared ∈ gT := gW 832 rfl rfl
theorem vL_75 : vOk RL mX8_shared 75 1 8 := ⟨⟨g833, rfl⟩, g66, g830, g831, g832, dkX8_shared, _, rfl, rfl⟩
set_option maxRecDepth 100000 in
theorem g837 : Cond.codeWith yL_alike cL_alike 7 (some .int) [(0, 21, 24, 13), (0, 21, 28, 21), (0, 21, 32, 70)] ∈ gT := gW 837 rfl rfl
set_option maxRecDepth 100000 in
theorem g835 : Cond.methodLink RL 152 yL_alike ∈ gT := gW 835 rfl rfl
theorem dkL_alike : dOk mL_alike 6 := by unfold dOk; decide +kernel
set_option maxRecDepth 100000 in
theorem g836 : Cond.static yL_alike ∈ gT := gW 836 rfl rfl
theorem hL_152 : sHOk RL mL_alike 152 6 := ⟨⟨g837, by decide⟩, g65, g835, g836, dkL_alike⟩
set_option maxRecDepth 100000 in
theorem g841 : Cond.code yX8_alike cX8_alike 7 (some .boolean) ∈ gT := gW 841 rfl rfl
set_option maxRecDepth 100000 in
theorem g838 : Cond.methodLink RL 78 yX8_alike ∈ gT := gW 838 rfl rfl
theorem dkX8_alike : dOk mX8_alike 4 := by unfold dOk; decide +kernel
set_option maxRecDepth 100000 in
theorem g839 : Cond.instanceMethod yX8_alike ∈ gT := gW 839 rfl rfl
set_option maxRecDepth 100000 in
theorem g840 : Cond.selects RX8 yX8_alike yX8_alike ∈ gT := gW 840 rfl rfl
theorem vL_78 : vOk RL mX8_alike 78 4 8 := ⟨⟨g841, rfl⟩, g66, g838, g839, g840, dkX8_alike, _, rfl, rfl⟩
set_option maxRecDepth 100000 in
theorem g845 : Cond.code yX4_isLike cX4_isLike 5 (some .boolean) ∈ gT := gW 845 rfl rfl
set_option maxRecDepth 100000 in
theorem g842 : Cond.methodLink RX8 131 yX4_isLike ∈ gT := gW 842 rfl rfl
theorem dkX4_isLike : dOk mX4_isLike 1 := by unfold dOk; decide +kernel
set_option maxRecDepth 100000 in
theorem g843 : Cond.instanceMethod yX4_isLike ∈ gT := gW 843 rfl rfl
set_option maxRecDepth 100000 in
theorem g844 : Cond.selects RX4 yX4_isLike yX4_isLike ∈ gT := gW 844 rfl rfl
theorem vX8_131 : vOk RX8 mX4_isLike 131 1 4 := ⟨⟨g845, rfl⟩, g71, g842, g843, g844, dkX4_isLike, _, rfl, rfl⟩
set_option maxRecDepth 100000 in
theorem g849 : Cond.code yX6_isLike cX6_isLike 4 (some .boolean) ∈ gT := gW 849 rfl rfl
set_option maxRecDepth 100000 in
theorem g846 : Cond.methodLink RX4 26 yX6_isLike ∈ gT := gW 846 rfl rfl
theorem dkX6_isLike : dOk mX6_isLike 2 := by unfold dOk; decide +kernel
set_option maxRecDepth 100000 in
theorem g847 : Cond.instanceMethod yX6_isLike ∈ gT := gW 847 rfl rfl
set_option maxRecDepth 100000 in
theorem g848 : Cond.selects RX6 yX6_isLike yX6_isLike ∈ gT := gW 848 rfl rfl
theorem vX4_26 : vOk RX4 mX6_isLike 26 2 6 := ⟨⟨g849, rfl⟩, g72, g846, g847, g848, dkX6_isLike, _, rfl, rfl⟩
set_option maxRecDepth 100000 in
theorem g850 : Cond.methodLink RX6 40 yX6_at ∈ gT := gW 850 rfl rfl
theorem vX6_40 : vOk RX6 mX6_at 40 1 6 := ⟨⟨g825, rfl⟩, g72, g850, g823, g824, dkX6_at, _, rfl, rfl⟩
set_option maxRecDepth 100000 in
theorem g851 : Cond.methodLink RX4 30 yX4_rowOf ∈ gT := gW 851 rfl rfl
theorem vX4_30 : vOk RX4 mX4_rowOf 30 1 4 := ⟨⟨g799, rfl⟩, g71, g851, g797, g798, dkX4_rowOf, _, rfl, rfl⟩
set_option maxRecDepth 100000 in
theorem g855 : Cond.code yX9_thrown cX9_thrown 1 (some .int) ∈ gT := gW 855 rfl rfl
set_option maxRecDepth 100000 in
theorem g73 : Cond.initialized RX9 ∈ gT := gW 73 rfl rfl
set_option maxRecDepth 100000 in
theorem g852 : Cond.methodLink RL 92 yX9_thrown ∈ gT := gW 852 rfl rfl
theorem dkX9_thrown : dOk mX9_thrown 0 := by unfold dOk; decide +kernel
set_option maxRecDepth 100000 in
theorem g853 : Cond.instanceMethod yX9_thrown ∈ gT := gW 853 rfl rfl
set_option maxRecDepth 100000 in
theorem g854 : Cond.selects RX9 yX9_thrown yX9_thrown ∈ gT := gW 854 rfl rfl
theorem vL_92 : vOk RL mX9_thrown 92 0 9 := ⟨⟨g855, rfl⟩, g73, g852, g853, g854, dkX9_thrown, _, rfl, rfl⟩
set_option maxRecDepth 100000 in
theorem g860 : Cond.code yX9_init cX9_init 2 none ∈ gT := gW 860 rfl rfl
set_option maxRecDepth 100000 in
theorem g858 : Cond.methodLink RL 85 yX9_init ∈ gT := gW 858 rfl rfl
theorem dkX9_init : dOk mX9_init 0 := by unfold dOk; decide +kernel
set_option maxRecDepth 100000 in
theorem g859 : Cond.instanceMethod yX9_init ∈ gT := gW 859 rfl rfl
theorem iL_85 : iOk RL mX9_init 85 0 := ⟨⟨g860, rfl⟩, g73, g858, g859, dkX9_init, rfl, rfl⟩
set_option maxRecDepth 100000 in
theorem g1028 : Cond.code yX9_give cX9_give 3 (some .int) ∈ gT := gW 1028 rfl rfl
set_option maxRecDepth 100000 in
theorem g1025 : Cond.methodLink RL 91 yX9_give ∈ gT := gW 1025 rfl rfl
theorem dkX9_give : dOk mX9_give 2 := by unfold dOk; decide +kernel
set_option maxRecDepth 100000 in
theorem g1026 : Cond.instanceMethod yX9_give ∈ gT := gW 1026 rfl rfl
set_option maxRecDepth 100000 in
theorem g1027 : Cond.selects RX9 yX9_give yX9_give ∈ gT := gW 1027 rfl rfl
theorem vL_91 : vOk RL mX9_give 91 2 9 := ⟨⟨g1028, rfl⟩, g73, g1025, g1026, g1027, dkX9_give, _, rfl, rfl⟩
set_option maxRecDepth 100000 in
theorem g1032 : Cond.code yX9_operand cX9_operand 5 (some .int) ∈ gT := gW 1032 rfl rfl
set_option maxRecDepth 100000 in
theorem g1029 : Cond.methodLink RX9 160 yX9_operand ∈ gT := gW 1029 rfl rfl
theorem dkX9_operand : dOk mX9_operand 4 := by unfold dOk; decide +kernel
set_option maxRecDepth 100000 in
theorem g1031 : Cond.instanceMethod yX9_operand ∈ gT := gW 1031 rfl rfl
set_option maxRecDepth 100000 in
theorem g31 : Cond.selects RX9 yX9_operand yX9_operand ∈ gT := gW 31 rfl rfl
theorem vX9_160 : vOk RX9 mX9_operand 160 4 9 := ⟨⟨g1032, rfl⟩, g73, g1029, g1031, g31, dkX9_operand, _, rfl, rfl⟩
set_option maxRecDepth 100000 in
theorem g1035 : Cond.code yX9_isName cX9_isName 1 (some .boolean) ∈ gT := gW 1035 rfl rfl
set_option maxRecDepth 100000 in
theorem g1033 : Cond.methodLink RX9 148 yX9_isName ∈ gT := gW 1033 rfl rfl
theorem dkX9_isName : dOk mX9_isName 1 := by unfold dOk; decide +kernel
set_option maxRecDepth 100000 in
theorem g1034 : Cond.static yX9_isName ∈ gT := gW 1034 rfl rfl
theorem sX9_148 : sOk RX9 mX9_isName 148 1 := ⟨⟨g1035, rfl⟩, g73, g1033, g1034, dkX9_isName⟩
set_option maxRecDepth 100000 in
theorem g1039 : Cond.code yX9_refuse cX9_refuse 2 (some .int) ∈ gT := gW 1039 rfl rfl
set_option maxRecDepth 100000 in
theorem g1036 : Cond.methodLink RX9 152 yX9_refuse ∈ gT := gW 1036 rfl rfl
theorem dkX9_refuse : dOk mX9_refuse 1 := by unfold dOk; decide +kernel
set_option maxRecDepth 100000 in
theorem g1038 : Cond.instanceMethod yX9_refuse ∈ gT := gW 1038 rfl rfl
set_option maxRecDepth 100000 in
theorem g32 : Cond.selects RX9 yX9_refuse yX9_refuse ∈ gT := gW 32 rfl rfl
theorem vX9_152 : vOk RX9 mX9_refuse 152 1 9 := ⟨⟨g1039, rfl⟩, g73, g1036, g1038, g32, dkX9_refuse, _, rfl, rfl⟩
set_option maxRecDepth 100000 in
theorem g1043 : Cond.code yX9_made cX9_made 7 (some .int) ∈ gT := gW 1043 rfl rfl
set_option maxRecDepth 100000 in
theorem g1040 : Cond.methodLink RX9 156 yX9_made ∈ gT := gW 1040 rfl rfl
theorem dkX9_made : dOk mX9_made 6 := by unfold dOk; decide +kernel
set_option maxRecDepth 100000 in
theorem g1042 : Cond.instanceMethod yX9_made ∈ gT := gW 1042 rfl rfl
set_option maxRecDepth 100000 in
theorem g33 : Cond.selects RX9 yX9_made yX9_made ∈ gT := gW 33 rfl rfl
theorem vX9_156 : vOk RX9 mX9_made 156 6 9 := ⟨⟨g1043, rfl⟩, g73, g1040, g1042, g33, dkX9_made, _, rfl, rfl⟩
set_option maxRecDepth 100000 in
theorem g1047 : Cond.code yX9_above cX9_above 3 (some .int) ∈ gT := gW 1047 rfl rfl
set_option maxRecDepth 100000 in
theorem g1044 : Cond.methodLink RX9 144 yX9_above ∈ gT := gW 1044 rfl rfl
theorem dkX9_above : dOk mX9_above 2 := by unfold dOk; decide +kernel
set_option maxRecDepth 100000 in
theorem g1046 : Cond.instanceMethod yX9_above ∈ gT := gW 1046 rfl rfl
set_option maxRecDepth 100000 in
theorem g34 : Cond.selects RX9 yX9_above yX9_above ∈ gT := gW 34 rfl rfl
theorem vX9_144 : vOk RX9 mX9_above 144 2 9 := ⟨⟨g1047, rfl⟩, g73, g1044, g1046, g34, dkX9_above, _, rfl, rfl⟩
set_option maxRecDepth 100000 in
theorem g1051 : Cond.code yX9_of cX9_of 4 (some .int) ∈ gT := gW 1051 rfl rfl
set_option maxRecDepth 100000 in
theorem g1048 : Cond.methodLink RL 98 yX9_of ∈ gT := gW 1048 rfl rfl
theorem dkX9_of : dOk mX9_of 3 := by unfold dOk; decide +kernel
set_option maxRecDepth 100000 in
theorem g1049 : Cond.instanceMethod yX9_of ∈ gT := gW 1049 rfl rfl
set_option maxRecDepth 100000 in
theorem g1050 : Cond.selects RX9 yX9_of yX9_of ∈ gT := gW 1050 rfl rfl
theorem vL_98 : vOk RL mX9_of 98 3 9 := ⟨⟨g1051, rfl⟩, g73, g1048, g1049, g1050, dkX9_of, _, rfl, rfl⟩
set_option maxRecDepth 100000 in
theorem g1055 : Cond.code yX9_read cX9_read 1 (some .int) ∈ gT := gW 1055 rfl rfl
set_option maxRecDepth 100000 in
theorem g1052 : Cond.methodLink RL 102 yX9_read ∈ gT := gW 1052 rfl rfl
theorem dkX9_read : dOk mX9_read 0 := by unfold dOk; decide +kernel
set_option maxRecDepth 100000 in
theorem g1053 : Cond.instanceMethod yX9_read ∈ gT := gW 1053 rfl rfl
set_option maxRecDepth 100000 in
theorem g1054 : Cond.selects RX9 yX9_read yX9_read ∈ gT := gW 1054 rfl rfl
theorem vL_102 : vOk RL mX9_read 102 0 9 := ⟨⟨g1055, rfl⟩, g73, g1052, g1053, g1054, dkX9_read, _, rfl, rfl⟩
set_option maxRecDepth 100000 in
theorem g1059 : Cond.code yX9_write cX9_write 3 (some .int) ∈ gT := gW 1059 rfl rfl
set_option maxRecDepth 100000 in
theorem g1056 : Cond.methodLink RL 105 yX9_write ∈ gT := gW 1056 rfl rfl
theorem dkX9_write : dOk mX9_write 2 := by unfold dOk; decide +kernel
set_option maxRecDepth 100000 in
theorem g1057 : Cond.instanceMethod yX9_write ∈ gT := gW 1057 rfl rfl
set_option maxRecDepth 100000 in
theorem g1058 : Cond.selects RX9 yX9_write yX9_write ∈ gT := gW 1058 rfl rfl
theorem vL_105 : vOk RL mX9_write 105 2 9 := ⟨⟨g1059, rfl⟩, g73, g1056, g1057, g1058, dkX9_write, _, rfl, rfl⟩
set_option maxRecDepth 100000 in
theorem g1063 : Cond.code yX9_say cX9_say 3 (some .int) ∈ gT := gW 1063 rfl rfl
set_option maxRecDepth 100000 in
theorem g1060 : Cond.methodLink RL 108 yX9_say ∈ gT := gW 1060 rfl rfl
theorem dkX9_say : dOk mX9_say 2 := by unfold dOk; decide +kernel
set_option maxRecDepth 100000 in
theorem g1061 : Cond.instanceMethod yX9_say ∈ gT := gW 1061 rfl rfl
set_option maxRecDepth 100000 in
theorem g1062 : Cond.selects RX9 yX9_say yX9_say ∈ gT := gW 1062 rfl rfl
theorem vL_108 : vOk RL mX9_say 108 2 9 := ⟨⟨g1063, rfl⟩, g73, g1060, g1061, g1062, dkX9_say, _, rfl, rfl⟩
set_option maxRecDepth 100000 in
theorem g1067 : Cond.code yX9_fail cX9_fail 3 (some .int) ∈ gT := gW 1067 rfl rfl
set_option maxRecDepth 100000 in
theorem g1064 : Cond.methodLink RL 111 yX9_fail ∈ gT := gW 1064 rfl rfl
theorem dkX9_fail : dOk mX9_fail 2 := by unfold dOk; decide +kernel
set_option maxRecDepth 100000 in
theorem g1065 : Cond.instanceMethod yX9_fail ∈ gT := gW 1065 rfl rfl
set_option maxRecDepth 100000 in
theorem g1066 : Cond.selects RX9 yX9_fail yX9_fail ∈ gT := gW 1066 rfl rfl
theorem vL_111 : vOk RL mX9_fail 111 2 9 := ⟨⟨g1067, rfl⟩, g73, g1064, g1065, g1066, dkX9_fail, _, rfl, rfl⟩
set_option maxRecDepth 100000 in
theorem g1071 : Cond.code yX9_none cX9_none 1 (some .int) ∈ gT := gW 1071 rfl rfl
set_option maxRecDepth 100000 in
theorem g1068 : Cond.methodLink RL 114 yX9_none ∈ gT := gW 1068 rfl rfl
theorem dkX9_none : dOk mX9_none 0 := by unfold dOk; decide +kernel
set_option maxRecDepth 100000 in
theorem g1069 : Cond.instanceMethod yX9_none ∈ gT := gW 1069 rfl rfl
set_option maxRecDepth 100000 in
theorem g1070 : Cond.selects RX9 yX9_none yX9_none ∈ gT := gW 1070 rfl rfl
theorem vL_114 : vOk RL mX9_none 114 0 9 := ⟨⟨g1071, rfl⟩, g73, g1068, g1069, g1070, dkX9_none, _, rfl, rfl⟩
set_option maxRecDepth 100000 in
theorem g1075 : Cond.code yX9_either cX9_either 3 (some .int) ∈ gT := gW 1075 rfl rfl
set_option maxRecDepth 100000 in
theorem g1072 : Cond.methodLink RL 118 yX9_either ∈ gT := gW 1072 rfl rfl
theorem dkX9_either : dOk mX9_either 2 := by unfold dOk; decide +kernel
set_option maxRecDepth 100000 in
theorem g1073 : Cond.instanceMethod yX9_either ∈ gT := gW 1073 rfl rfl
set_option maxRecDepth 100000 in
theorem g1074 : Cond.selects RX9 yX9_either yX9_either ∈ gT := gW 1074 rfl rfl
theorem vL_118 : vOk RL mX9_either 118 2 9 := ⟨⟨g1075, rfl⟩, g73, g1072, g1073, g1074, dkX9_either, _, rfl, rfl⟩
set_option maxRecDepth 100000 in
theorem g1079 : Cond.code yX9_isTerm cX9_isTerm 2 (some .boolean) ∈ gT := gW 1079 rfl rfl
set_option maxRecDepth 100000 in
theorem g1076 : Cond.methodLink RX9 164 yX9_isTerm ∈ gT := gW 1076 rfl rfl
theorem dkX9_isTerm : dOk mX9_isTerm 1 := by unfold dOk; decide +kernel
set_option maxRecDepth 100000 in
theorem g1078 : Cond.instanceMethod yX9_isTerm ∈ gT := gW 1078 rfl rfl
set_option maxRecDepth 100000 in
theorem g35 : Cond.selects RX9 yX9_isTerm yX9_isTerm ∈ gT := gW 35 rfl rfl
theorem vX9_164 : vOk RX9 mX9_isTerm 164 1 9 := ⟨⟨g1079, rfl⟩, g73, g1076, g1078, g35, dkX9_isTerm, _, rfl, rfl⟩
set_option maxRecDepth 100000 in
theorem g1083 : Cond.code yX9_isFull cX9_isFull 3 (some .boolean) ∈ gT := gW 1083 rfl rfl
set_option maxRecDepth 100000 in
theorem g1080 : Cond.methodLink RX9 167 yX9_isFull ∈ gT := gW 1080 rfl rfl
theorem dkX9_isFull : dOk mX9_isFull 2 := by unfold dOk; decide +kernel
set_option maxRecDepth 100000 in
theorem g1082 : Cond.instanceMethod yX9_isFull ∈ gT := gW 1082 rfl rfl
set_option maxRecDepth 100000 in
theorem g36 : Cond.selects RX9 yX9_isFull yX9_isFull ∈ gT := gW 36 rfl rfl
theorem vX9_167 : vOk RX9 mX9_isFull 167 2 9 := ⟨⟨g1083, rfl⟩, g73, g1080, g1082, g36, dkX9_isFull, _, rfl, rfl⟩
set_option maxRecDepth 100000 in
theorem g1087 : Cond.code yX9_then cX9_then 4 (some .int) ∈ gT := gW 1087 rfl rfl
set_option maxRecDepth 100000 in
theorem g1084 : Cond.methodLink RL 121 yX9_then ∈ gT := gW 1084 rfl rfl
theorem dkX9_then : dOk mX9_then 3 := by unfold dOk; decide +kernel
set_option maxRecDepth 100000 in
theorem g1085 : Cond.instanceMethod yX9_then ∈ gT := gW 1085 rfl rfl
set_option maxRecDepth 100000 in
theorem g1086 : Cond.selects RX9 yX9_then yX9_then ∈ gT := gW 1086 rfl rfl
theorem vL_121 : vOk RL mX9_then 121 3 9 := ⟨⟨g1087, rfl⟩, g73, g1084, g1085, g1086, dkX9_then, _, rfl, rfl⟩
set_option maxRecDepth 100000 in
theorem g1091 : Cond.code yX9_three cX9_three 6 (some .int) ∈ gT := gW 1091 rfl rfl
set_option maxRecDepth 100000 in
theorem g1088 : Cond.methodLink RX9 171 yX9_three ∈ gT := gW 1088 rfl rfl
theorem dkX9_three : dOk mX9_three 5 := by unfold dOk; decide +kernel
set_option maxRecDepth 100000 in
theorem g1090 : Cond.instanceMethod yX9_three ∈ gT := gW 1090 rfl rfl
set_option maxRecDepth 100000 in
theorem g37 : Cond.selects RX9 yX9_three yX9_three ∈ gT := gW 37 rfl rfl
theorem vX9_171 : vOk RX9 mX9_three 171 5 9 := ⟨⟨g1091, rfl⟩, g73, g1088, g1090, g37, dkX9_three, _, rfl, rfl⟩
set_option maxRecDepth 100000 in
theorem g1095 : Cond.code yX9_saved cX9_saved 4 (some .int) ∈ gT := gW 1095 rfl rfl
set_option maxRecDepth 100000 in
theorem g1092 : Cond.methodLink RL 124 yX9_saved ∈ gT := gW 1092 rfl rfl
theorem dkX9_saved : dOk mX9_saved 3 := by unfold dOk; decide +kernel
set_option maxRecDepth 100000 in
theorem g1093 : Cond.instanceMethod yX9_saved ∈ gT := gW 1093 rfl rfl
set_option maxRecDepth 100000 in
theorem g1094 : Cond.selects RX9 yX9_saved yX9_saved ∈ gT := gW 1094 rfl rfl
theorem vL_124 : vOk RL mX9_saved 124 3 9 := ⟨⟨g1095, rfl⟩, g73, g1092, g1093, g1094, dkX9_saved, _, rfl, rfl⟩
set_option maxRecDepth 100000 in
theorem g1099 : Cond.code yX9_when cX9_when 4 (some .int) ∈ gT := gW 1099 rfl rfl
set_option maxRecDepth 100000 in
theorem g1096 : Cond.methodLink RL 127 yX9_when ∈ gT := gW 1096 rfl rfl
theorem dkX9_when : dOk mX9_when 3 := by unfold dOk; decide +kernel
set_option maxRecDepth 100000 in
theorem g1097 : Cond.instanceMethod yX9_when ∈ gT := gW 1097 rfl rfl
set_option maxRecDepth 100000 in
theorem g1098 : Cond.selects RX9 yX9_when yX9_when ∈ gT := gW 1098 rfl rfl
theorem vL_127 : vOk RL mX9_when 127 3 9 := ⟨⟨g1099, rfl⟩, g73, g1096, g1097, g1098, dkX9_when, _, rfl, rfl⟩
set_option maxRecDepth 100000 in
theorem g1103 : Cond.code yX9_times cX9_times 4 (some .int) ∈ gT := gW 1103 rfl rfl
set_option maxRecDepth 100000 in
theorem g1100 : Cond.methodLink RL 131 yX9_times ∈ gT := gW 1100 rfl rfl
theorem dkX9_times : dOk mX9_times 3 := by unfold dOk; decide +kernel
set_option maxRecDepth 100000 in
theorem g1101 : Cond.instanceMethod yX9_times ∈ gT := gW 1101 rfl rfl
set_option maxRecDepth 100000 in
theorem g1102 : Cond.selects RX9 yX9_times yX9_times ∈ gT := gW 1102 rfl rfl
theorem vL_131 : vOk RL mX9_times 131 3 9 := ⟨⟨g1103, rfl⟩, g73, g1100, g1101, g1102, dkX9_times, _, rfl, rfl⟩
set_option maxRecDepth 100000 in
theorem g1107 : Cond.code yX9_as cX9_as 3 (some .int) ∈ gT := gW 1107 rfl rfl
set_option maxRecDepth 100000 in
theorem g1104 : Cond.methodLink RL 134 yX9_as ∈ gT := gW 1104 rfl rfl
theorem dkX9_as : dOk mX9_as 2 := by unfold dOk; decide +kernel
set_option maxRecDepth 100000 in
theorem g1105 : Cond.instanceMethod yX9_as ∈ gT := gW 1105 rfl rfl
set_option maxRecDepth 100000 in
theorem g1106 : Cond.selects RX9 yX9_as yX9_as ∈ gT := gW 1106 rfl rfl
theorem vL_134 : vOk RL mX9_as 134 2 9 := ⟨⟨g1107, rfl⟩, g73, g1104, g1105, g1106, dkX9_as, _, rfl, rfl⟩
set_option maxRecDepth 100000 in
theorem g1111 : Cond.code yX9_terms cX9_terms 1 (some .int) ∈ gT := gW 1111 rfl rfl
set_option maxRecDepth 100000 in
theorem g1108 : Cond.methodLink RL 158 yX9_terms ∈ gT := gW 1108 rfl rfl
theorem dkX9_terms : dOk mX9_terms 0 := by unfold dOk; decide +kernel
set_option maxRecDepth 100000 in
theorem g1109 : Cond.instanceMethod yX9_terms ∈ gT := gW 1109 rfl rfl
set_option maxRecDepth 100000 in
theorem g1110 : Cond.selects RX9 yX9_terms yX9_terms ∈ gT := gW 1110 rfl rfl
theorem vL_158 : vOk RL mX9_terms 158 0 9 := ⟨⟨g1111, rfl⟩, g73, g1108, g1109, g1110, dkX9_terms, _, rfl, rfl⟩
set_option maxRecDepth 100000 in
theorem g1115 : Cond.code yX9_needs cX9_needs 2 (some .int) ∈ gT := gW 1115 rfl rfl
set_option maxRecDepth 100000 in
theorem g1112 : Cond.methodLink RL 142 yX9_needs ∈ gT := gW 1112 rfl rfl
theorem dkX9_needs : dOk mX9_needs 1 := by unfold dOk; decide +kernel
set_option maxRecDepth 100000 in
theorem g1113 : Cond.instanceMethod yX9_needs ∈ gT := gW 1113 rfl rfl
set_option maxRecDepth 100000 in
theorem g1114 : Cond.selects RX9 yX9_needs yX9_needs ∈ gT := gW 1114 rfl rfl
theorem vL_142 : vOk RL mX9_needs 142 1 9 := ⟨⟨g1115, rfl⟩, g73, g1112, g1113, g1114, dkX9_needs, _, rfl, rfl⟩
set_option maxRecDepth 100000 in
theorem g1119 : Cond.code yX9_order cX9_order 9 (some .int) ∈ gT := gW 1119 rfl rfl
set_option maxRecDepth 100000 in
theorem g1116 : Cond.methodLink RL 138 yX9_order ∈ gT := gW 1116 rfl rfl
theorem dkX9_order : dOk mX9_order 4 := by unfold dOk; decide +kernel
set_option maxRecDepth 100000 in
theorem g1117 : Cond.instanceMethod yX9_order ∈ gT := gW 1117 rfl rfl
set_option maxRecDepth 100000 in
theorem g1118 : Cond.selects RX9 yX9_order yX9_order ∈ gT := gW 1118 rfl rfl
theorem vL_138 : vOk RL mX9_order 138 4 9 := ⟨⟨g1119, rfl⟩, g73, g1116, g1117, g1118, dkX9_order, _, rfl, rfl⟩
set_option maxRecDepth 100000 in
theorem g1123 : Cond.code yX9_run cX9_run 4 (some .int) ∈ gT := gW 1123 rfl rfl
set_option maxRecDepth 100000 in
theorem g1120 : Cond.methodLink RL 145 yX9_run ∈ gT := gW 1120 rfl rfl
theorem dkX9_run : dOk mX9_run 3 := by unfold dOk; decide +kernel
set_option maxRecDepth 100000 in
theorem g1121 : Cond.instanceMethod yX9_run ∈ gT := gW 1121 rfl rfl
set_option maxRecDepth 100000 in
theorem g1122 : Cond.selects RX9 yX9_run yX9_run ∈ gT := gW 1122 rfl rfl
theorem vL_145 : vOk RL mX9_run 145 3 9 := ⟨⟨g1123, rfl⟩, g73, g1120, g1121, g1122, dkX9_run, _, rfl, rfl⟩
set_option maxRecDepth 100000 in
theorem g1127 : Cond.code yX9_lacks cX9_lacks 4 (some .boolean) ∈ gT := gW 1127 rfl rfl
set_option maxRecDepth 100000 in
theorem g1124 : Cond.methodLink RX9 278 yX9_lacks ∈ gT := gW 1124 rfl rfl
theorem dkX9_lacks : dOk mX9_lacks 1 := by unfold dOk; decide +kernel
set_option maxRecDepth 100000 in
theorem g1126 : Cond.instanceMethod yX9_lacks ∈ gT := gW 1126 rfl rfl
set_option maxRecDepth 100000 in
theorem g38 : Cond.selects RX9 yX9_lacks yX9_lacks ∈ gT := gW 38 rfl rfl
theorem vX9_278 : vOk RX9 mX9_lacks 278 1 9 := ⟨⟨g1127, rfl⟩, g73, g1124, g1126, g38, dkX9_lacks, _, rfl, rfl⟩
set_option maxRecDepth 100000 in
theorem g1131 : Cond.code yX9_has cX9_has 2 (some .boolean) ∈ gT := gW 1131 rfl rfl
set_option maxRecDepth 100000 in
theorem g1128 : Cond.methodLink RX9 175 yX9_has ∈ gT := gW 1128 rfl rfl
theorem dkX9_has : dOk mX9_has 1 := by unfold dOk; decide +kernel
set_option maxRecDepth 100000 in
theorem g1130 : Cond.instanceMethod yX9_has ∈ gT := gW 1130 rfl rfl
set_option maxRecDepth 100000 in
theorem g39 : Cond.selects RX9 yX9_has yX9_has ∈ gT := gW 39 rfl rfl
theorem vX9_175 : vOk RX9 mX9_has 175 1 9 := ⟨⟨g1131, rfl⟩, g73, g1128, g1130, g39, dkX9_has, _, rfl, rfl⟩
set_option maxRecDepth 100000 in
theorem g1135 : Cond.code yX9_doIt cX9_doIt 4 none ∈ gT := gW 1135 rfl rfl
set_option maxRecDepth 100000 in
theorem g1132 : Cond.methodLink RX9 281 yX9_doIt ∈ gT := gW 1132 rfl rfl
theorem dkX9_doIt : dOk mX9_doIt 3 := by unfold dOk; decide +kernel
set_option maxRecDepth 100000 in
theorem g1134 : Cond.instanceMethod yX9_doIt ∈ gT := gW 1134 rfl rfl
set_option maxRecDepth 100000 in
theorem g40 : Cond.selects RX9 yX9_doIt yX9_doIt ∈ gT := gW 40 rfl rfl
theorem vX9_281 : vOk RX9 mX9_doIt 281 3 9 := ⟨⟨g1135, rfl⟩, g73, g1132, g1134, g40, dkX9_doIt, _, rfl, rfl⟩
set_option maxRecDepth 100000 in
theorem g1139 : Cond.code yX9_push cX9_push 8 none ∈ gT := gW 1139 rfl rfl
set_option maxRecDepth 100000 in
theorem g1136 : Cond.methodLink RX9 237 yX9_push ∈ gT := gW 1136 rfl rfl
theorem dkX9_push : dOk mX9_push 6 := by unfold dOk; decide +kernel
set_option maxRecDepth 100000 in
theorem g1138 : Cond.instanceMethod yX9_push ∈ gT := gW 1138 rfl rfl
set_option maxRecDepth 100000 in
theorem g41 : Cond.selects RX9 yX9_push yX9_push ∈ gT := gW 41 rfl rfl
theorem vX9_237 : vOk RX9 mX9_push 237 6 9 := ⟨⟨g1139, rfl⟩, g73, g1136, g1138, g41, dkX9_push, _, rfl, rfl⟩
set_option maxRecDepth 100000 in
theorem g1143 : Cond.code yX9_go cX9_go 3 none ∈ gT := gW 1143 rfl rfl
set_option maxRecDepth 100000 in
theorem g1140 : Cond.methodLink RX9 271 yX9_go ∈ gT := gW 1140 rfl rfl
theorem dkX9_go : dOk mX9_go 0 := by unfold dOk; decide +kernel
set_option maxRecDepth 100000 in
theorem g1142 : Cond.instanceMethod yX9_go ∈ gT := gW 1142 rfl rfl
set_option maxRecDepth 100000 in
theorem g42 : Cond.selects RX9 yX9_go yX9_go ∈ gT := gW 42 rfl rfl
theorem vX9_271 : vOk RX9 mX9_go 271 0 9 := ⟨⟨g1143, rfl⟩, g73, g1140, g1142, g42, dkX9_go, _, rfl, rfl⟩
set_option maxRecDepth 100000 in
theorem g1147 : Cond.code yX9_leaf cX9_leaf 7 none ∈ gT := gW 1147 rfl rfl
set_option maxRecDepth 100000 in
theorem g1144 : Cond.methodLink RX9 241 yX9_leaf ∈ gT := gW 1144 rfl rfl
theorem dkX9_leaf : dOk mX9_leaf 1 := by unfold dOk; decide +kernel
set_option maxRecDepth 100000 in
theorem g1146 : Cond.instanceMethod yX9_leaf ∈ gT := gW 1146 rfl rfl
set_option maxRecDepth 100000 in
theorem g43 : Cond.selects RX9 yX9_leaf yX9_leaf ∈ gT := gW 43 rfl rfl
theorem vX9_241 : vOk RX9 mX9_leaf 241 1 9 := ⟨⟨g1147, rfl⟩, g73, g1144, g1146, g43, dkX9_leaf, _, rfl, rfl⟩
set_option maxRecDepth 100000 in
theorem g1151 : Cond.code yX9_value cX9_value 4 (some .int) ∈ gT := gW 1151 rfl rfl
set_option maxRecDepth 100000 in
theorem g1148 : Cond.methodLink RX9 210 yX9_value ∈ gT := gW 1148 rfl rfl
theorem dkX9_value : dOk mX9_value 3 := by unfold dOk; decide +kernel
set_option maxRecDepth 100000 in
theorem g1150 : Cond.instanceMethod yX9_value ∈ gT := gW 1150 rfl rfl
set_option maxRecDepth 100000 in
theorem g44 : Cond.selects RX9 yX9_value yX9_value ∈ gT := gW 44 rfl rfl
theorem vX9_210 : vOk RX9 mX9_value 210 3 9 := ⟨⟨g1151, rfl⟩, g73, g1148, g1150, g44, dkX9_value, _, rfl, rfl⟩
set_option maxRecDepth 100000 in
theorem g1154 : Cond.code yX9_op cX9_op 3 (some .int) ∈ gT := gW 1154 rfl rfl
set_option maxRecDepth 100000 in
theorem g1152 : Cond.methodLink RX9 214 yX9_op ∈ gT := gW 1152 rfl rfl
theorem dkX9_op : dOk mX9_op 3 := by unfold dOk; decide +kernel
set_option maxRecDepth 100000 in
theorem g1153 : Cond.static yX9_op ∈ gT := gW 1153 rfl rfl
theorem sX9_214 : sOk RX9 mX9_op 214 3 := ⟨⟨g1154, rfl⟩, g73, g1152, g1153, dkX9_op⟩
set_option maxRecDepth 100000 in
theorem g1158 : Cond.code yX9_isOwn cX9_isOwn 2 (some .boolean) ∈ gT := gW 1158 rfl rfl
set_option maxRecDepth 100000 in
theorem g1155 : Cond.methodLink RX9 178 yX9_isOwn ∈ gT := gW 1155 rfl rfl
theorem dkX9_isOwn : dOk mX9_isOwn 1 := by unfold dOk; decide +kernel
set_option maxRecDepth 100000 in
theorem g1157 : Cond.instanceMethod yX9_isOwn ∈ gT := gW 1157 rfl rfl
set_option maxRecDepth 100000 in
theorem g45 : Cond.selects RX9 yX9_isOwn yX9_isOwn ∈ gT := gW 45 rfl rfl
theorem vX9_178 : vOk RX9 mX9_isOwn 178 1 9 := ⟨⟨g1158, rfl⟩, g73, g1155, g1157, g45, dkX9_isOwn, _, rfl, rfl⟩
set_option maxRecDepth 100000 in
theorem g1162 : Cond.code yX9_longer cX9_longer 3 (some .int) ∈ gT := gW 1162 rfl rfl
set_option maxRecDepth 100000 in
theorem g1159 : Cond.methodLink RX9 218 yX9_longer ∈ gT := gW 1159 rfl rfl
theorem dkX9_longer : dOk mX9_longer 2 := by unfold dOk; decide +kernel
set_option maxRecDepth 100000 in
theorem g1161 : Cond.instanceMethod yX9_longer ∈ gT := gW 1161 rfl rfl
set_option maxRecDepth 100000 in
theorem g46 : Cond.selects RX9 yX9_longer yX9_longer ∈ gT := gW 46 rfl rfl
theorem vX9_218 : vOk RX9 mX9_longer 218 2 9 := ⟨⟨g1162, rfl⟩, g73, g1159, g1161, g46, dkX9_longer, _, rfl, rfl⟩
set_option maxRecDepth 100000 in
theorem g1166 : Cond.code yX9_isShared cX9_isShared 2 (some .boolean) ∈ gT := gW 1166 rfl rfl
set_option maxRecDepth 100000 in
theorem g1163 : Cond.methodLink RX9 221 yX9_isShared ∈ gT := gW 1163 rfl rfl
theorem dkX9_isShared : dOk mX9_isShared 1 := by unfold dOk; decide +kernel
set_option maxRecDepth 100000 in
theorem g1165 : Cond.instanceMethod yX9_isShared ∈ gT := gW 1165 rfl rfl
set_option maxRecDepth 100000 in
theorem g47 : Cond.selects RX9 yX9_isShared yX9_isShared ∈ gT := gW 47 rfl rfl
theorem vX9_221 : vOk RX9 mX9_isShared 221 1 9 := ⟨⟨g1166, rfl⟩, g73, g1163, g1165, g47, dkX9_isShared, _, rfl, rfl⟩
set_option maxRecDepth 100000 in
theorem g1170 : Cond.code yX9_unwind cX9_unwind 3 none ∈ gT := gW 1170 rfl rfl
set_option maxRecDepth 100000 in
theorem g1167 : Cond.methodLink RX9 224 yX9_unwind ∈ gT := gW 1167 rfl rfl
theorem dkX9_unwind : dOk mX9_unwind 1 := by unfold dOk; decide +kernel
set_option maxRecDepth 100000 in
theorem g1169 : Cond.instanceMethod yX9_unwind ∈ gT := gW 1169 rfl rfl
set_option maxRecDepth 100000 in
theorem g48 : Cond.selects RX9 yX9_unwind yX9_unwind ∈ gT := gW 48 rfl rfl
theorem vX9_224 : vOk RX9 mX9_unwind 224 1 9 := ⟨⟨g1170, rfl⟩, g73, g1167, g1169, g48, dkX9_unwind, _, rfl, rfl⟩
set_option maxRecDepth 100000 in
theorem g1174 : Cond.code yX9_isOutside cX9_isOutside 2 (some .boolean) ∈ gT := gW 1174 rfl rfl
set_option maxRecDepth 100000 in
theorem g1171 : Cond.methodLink RX9 234 yX9_isOutside ∈ gT := gW 1171 rfl rfl
theorem dkX9_isOutside : dOk mX9_isOutside 1 := by unfold dOk; decide +kernel
set_option maxRecDepth 100000 in
theorem g1173 : Cond.instanceMethod yX9_isOutside ∈ gT := gW 1173 rfl rfl
set_option maxRecDepth 100000 in
theorem g49 : Cond.selects RX9 yX9_isOutside yX9_isOutside ∈ gT := gW 49 rfl rfl
theorem vX9_234 : vOk RX9 mX9_isOutside 234 1 9 := ⟨⟨g1174, rfl⟩, g73, g1171, g1173, g49, dkX9_isOutside, _, rfl, rfl⟩
set_option maxRecDepth 100000 in
theorem g1178 : Cond.code yX9_tell cX9_tell 7 none ∈ gT := gW 1178 rfl rfl
set_option maxRecDepth 100000 in
theorem g1175 : Cond.methodLink RX9 203 yX9_tell ∈ gT := gW 1175 rfl rfl
theorem dkX9_tell : dOk mX9_tell 5 := by unfold dOk; decide +kernel
set_option maxRecDepth 100000 in
theorem g1177 : Cond.instanceMethod yX9_tell ∈ gT := gW 1177 rfl rfl
set_option maxRecDepth 100000 in
theorem g50 : Cond.selects RX9 yX9_tell yX9_tell ∈ gT := gW 50 rfl rfl
theorem vX9_203 : vOk RX9 mX9_tell 203 5 9 := ⟨⟨g1178, rfl⟩, g73, g1175, g1177, g50, dkX9_tell, _, rfl, rfl⟩
set_option maxRecDepth 100000 in
theorem g1182 : Cond.code yX9_row cX9_row 3 (some .int) ∈ gT := gW 1182 rfl rfl
set_option maxRecDepth 100000 in
theorem g1179 : Cond.methodLink RX9 200 yX9_row ∈ gT := gW 1179 rfl rfl
theorem dkX9_row : dOk mX9_row 2 := by unfold dOk; decide +kernel
set_option maxRecDepth 100000 in
theorem g1181 : Cond.instanceMethod yX9_row ∈ gT := gW 1181 rfl rfl
set_option maxRecDepth 100000 in
theorem g51 : Cond.selects RX9 yX9_row yX9_row ∈ gT := gW 51 rfl rfl
theorem vX9_200 : vOk RX9 mX9_row 200 2 9 := ⟨⟨g1182, rfl⟩, g73, g1179, g1181, g51, dkX9_row, _, rfl, rfl⟩
set_option maxRecDepth 100000 in
theorem g1186 : Cond.code yX9_either_ cX9_either_ 2 none ∈ gT := gW 1186 rfl rfl
set_option maxRecDepth 100000 in
theorem g1183 : Cond.methodLink RX9 244 yX9_either_ ∈ gT := gW 1183 rfl rfl
theorem dkX9_either_ : dOk mX9_either_ 1 := by unfold dOk; decide +kernel
set_option maxRecDepth 100000 in
theorem g1185 : Cond.instanceMethod yX9_either_ ∈ gT := gW 1185 rfl rfl
set_option maxRecDepth 100000 in
theorem g52 : Cond.selects RX9 yX9_either_ yX9_either_ ∈ gT := gW 52 rfl rfl
theorem vX9_244 : vOk RX9 mX9_either_ 244 1 9 := ⟨⟨g1186, rfl⟩, g73, g1183, g1185, g52, dkX9_either_, _, rfl, rfl⟩
set_option maxRecDepth 100000 in
theorem g1190 : Cond.code yX9_gather cX9_gather 4 none ∈ gT := gW 1190 rfl rfl
set_option maxRecDepth 100000 in
theorem g1187 : Cond.methodLink RX9 259 yX9_gather ∈ gT := gW 1187 rfl rfl
theorem dkX9_gather : dOk mX9_gather 1 := by unfold dOk; decide +kernel
set_option maxRecDepth 100000 in
theorem g1189 : Cond.instanceMethod yX9_gather ∈ gT := gW 1189 rfl rfl
set_option maxRecDepth 100000 in
theorem g53 : Cond.selects RX9 yX9_gather yX9_gather ∈ gT := gW 53 rfl rfl
theorem vX9_259 : vOk RX9 mX9_gather 259 1 9 := ⟨⟨g1190, rfl⟩, g73, g1187, g1189, g53, dkX9_gather, _, rfl, rfl⟩
set_option maxRecDepth 100000 in
theorem g1194 : Cond.code yX9_finish cX9_finish 1 none ∈ gT := gW 1194 rfl rfl
set_option maxRecDepth 100000 in
theorem g1191 : Cond.methodLink RX9 262 yX9_finish ∈ gT := gW 1191 rfl rfl
theorem dkX9_finish : dOk mX9_finish 0 := by unfold dOk; decide +kernel
set_option maxRecDepth 100000 in
theorem g1193 : Cond.instanceMethod yX9_finish ∈ gT := gW 1193 rfl rfl
set_option maxRecDepth 100000 in
theorem g54 : Cond.selects RX9 yX9_finish yX9_finish ∈ gT := gW 54 rfl rfl
theorem vX9_262 : vOk RX9 mX9_finish 262 0 9 := ⟨⟨g1194, rfl⟩, g73, g1191, g1193, g54, dkX9_finish, _, rfl, rfl⟩
set_option maxRecDepth 100000 in
theorem g1198 : Cond.code yX9_along cX9_along 8 none ∈ gT := gW 1198 rfl rfl
set_option maxRecDepth 100000 in
theorem g1195 : Cond.methodLink RX9 247 yX9_along ∈ gT := gW 1195 rfl rfl
theorem dkX9_along : dOk mX9_along 1 := by unfold dOk; decide +kernel
set_option maxRecDepth 100000 in
theorem g1197 : Cond.instanceMethod yX9_along ∈ gT := gW 1197 rfl rfl
set_option maxRecDepth 100000 in
theorem g55 : Cond.selects RX9 yX9_along yX9_along ∈ gT := gW 55 rfl rfl
theorem vX9_247 : vOk RX9 mX9_along 247 1 9 := ⟨⟨g1198, rfl⟩, g73, g1195, g1197, g55, dkX9_along, _, rfl, rfl⟩
set_option maxRecDepth 100000 in
theorem g1202 : Cond.code yX9_gatherNext cX9_gatherNext 2 none ∈ gT := gW 1202 rfl rfl
set_option maxRecDepth 100000 in
theorem g1199 : Cond.methodLink RX9 265 yX9_gatherNext ∈ gT := gW 1199 rfl rfl
theorem dkX9_gatherNext : dOk mX9_gatherNext 1 := by unfold dOk; decide +kernel
set_option maxRecDepth 100000 in
theorem g1201 : Cond.instanceMethod yX9_gatherNext ∈ gT := gW 1201 rfl rfl
set_option maxRecDepth 100000 in
theorem g56 : Cond.selects RX9 yX9_gatherNext yX9_gatherNext ∈ gT := gW 56 rfl rfl
theorem vX9_265 : vOk RX9 mX9_gatherNext 265 1 9 := ⟨⟨g1202, rfl⟩, g73, g1199, g1201, g56, dkX9_gatherNext, _, rfl, rfl⟩
set_option maxRecDepth 100000 in
theorem g1206 : Cond.code yX9_turn cX9_turn 5 none ∈ gT := gW 1206 rfl rfl
set_option maxRecDepth 100000 in
theorem g1203 : Cond.methodLink RX9 268 yX9_turn ∈ gT := gW 1203 rfl rfl
theorem dkX9_turn : dOk mX9_turn 1 := by unfold dOk; decide +kernel
set_option maxRecDepth 100000 in
theorem g1205 : Cond.instanceMethod yX9_turn ∈ gT := gW 1205 rfl rfl
set_option maxRecDepth 100000 in
theorem g57 : Cond.selects RX9 yX9_turn yX9_turn ∈ gT := gW 57 rfl rfl
theorem vX9_268 : vOk RX9 mX9_turn 268 1 9 := ⟨⟨g1206, rfl⟩, g73, g1203, g1205, g57, dkX9_turn, _, rfl, rfl⟩
set_option maxRecDepth 100000 in
theorem g1210 : Cond.code yX9_choose cX9_choose 3 none ∈ gT := gW 1210 rfl rfl
set_option maxRecDepth 100000 in
theorem g1207 : Cond.methodLink RX9 250 yX9_choose ∈ gT := gW 1207 rfl rfl
theorem dkX9_choose : dOk mX9_choose 1 := by unfold dOk; decide +kernel
set_option maxRecDepth 100000 in
theorem g1209 : Cond.instanceMethod yX9_choose ∈ gT := gW 1209 rfl rfl
set_option maxRecDepth 100000 in
theorem g58 : Cond.selects RX9 yX9_choose yX9_choose ∈ gT := gW 58 rfl rfl
theorem vX9_250 : vOk RX9 mX9_choose 250 1 9 := ⟨⟨g1210, rfl⟩, g73, g1207, g1209, g58, dkX9_choose, _, rfl, rfl⟩
set_option maxRecDepth 100000 in
theorem g1214 : Cond.code yX9_again cX9_again 4 none ∈ gT := gW 1214 rfl rfl
set_option maxRecDepth 100000 in
theorem g1211 : Cond.methodLink RX9 253 yX9_again ∈ gT := gW 1211 rfl rfl
theorem dkX9_again : dOk mX9_again 1 := by unfold dOk; decide +kernel
set_option maxRecDepth 100000 in
theorem g1213 : Cond.instanceMethod yX9_again ∈ gT := gW 1213 rfl rfl
set_option maxRecDepth 100000 in
theorem g59 : Cond.selects RX9 yX9_again yX9_again ∈ gT := gW 59 rfl rfl
theorem vX9_253 : vOk RX9 mX9_again 253 1 9 := ⟨⟨g1214, rfl⟩, g73, g1211, g1213, g59, dkX9_again, _, rfl, rfl⟩
set_option maxRecDepth 100000 in
theorem g1218 : Cond.code yX9_within cX9_within 6 none ∈ gT := gW 1218 rfl rfl
set_option maxRecDepth 100000 in
theorem g1215 : Cond.methodLink RX9 256 yX9_within ∈ gT := gW 1215 rfl rfl
theorem dkX9_within : dOk mX9_within 1 := by unfold dOk; decide +kernel
set_option maxRecDepth 100000 in
theorem g1217 : Cond.instanceMethod yX9_within ∈ gT := gW 1217 rfl rfl
set_option maxRecDepth 100000 in
theorem g60 : Cond.selects RX9 yX9_within yX9_within ∈ gT := gW 60 rfl rfl
theorem vX9_256 : vOk RX9 mX9_within 256 1 9 := ⟨⟨g1218, rfl⟩, g73, g1215, g1217, g60, dkX9_within, _, rfl, rfl⟩
set_option maxRecDepth 100000 in
theorem g1222 : Cond.code yX9_keep cX9_keep 7 none ∈ gT := gW 1222 rfl rfl
set_option maxRecDepth 100000 in
theorem g1219 : Cond.methodLink RX9 285 yX9_keep ∈ gT := gW 1219 rfl rfl
theorem dkX9_keep : dOk mX9_keep 1 := by unfold dOk; decide +kernel
set_option maxRecDepth 100000 in
theorem g1221 : Cond.instanceMethod yX9_keep ∈ gT := gW 1221 rfl rfl
set_option maxRecDepth 100000 in
theorem g61 : Cond.selects RX9 yX9_keep yX9_keep ∈ gT := gW 61 rfl rfl
theorem vX9_285 : vOk RX9 mX9_keep 285 1 9 := ⟨⟨g1222, rfl⟩, g73, g1219, g1221, g61, dkX9_keep, _, rfl, rfl⟩
set_option maxRecDepth 100000 in
theorem g1226 : Cond.code yX9_writeLog cX9_writeLog 6 none ∈ gT := gW 1226 rfl rfl
set_option maxRecDepth 100000 in
theorem g1223 : Cond.methodLink RX9 274 yX9_writeLog ∈ gT := gW 1223 rfl rfl
theorem dkX9_writeLog : dOk mX9_writeLog 3 := by unfold dOk; decide +kernel
set_option maxRecDepth 100000 in
theorem g1225 : Cond.instanceMethod yX9_writeLog ∈ gT := gW 1225 rfl rfl
set_option maxRecDepth 100000 in
theorem g62 : Cond.selects RX9 yX9_writeLog yX9_writeLog ∈ gT := gW 62 rfl rfl
theorem vX9_274 : vOk RX9 mX9_writeLog 274 3 9 := ⟨⟨g1226, rfl⟩, g73, g1223, g1225, g62, dkX9_writeLog, _, rfl, rfl⟩
set_option maxRecDepth 100000 in
theorem g1230 : Cond.code yX9_result cX9_result 3 (some .int) ∈ gT := gW 1230 rfl rfl
set_option maxRecDepth 100000 in
theorem g1227 : Cond.methodLink RL 148 yX9_result ∈ gT := gW 1227 rfl rfl
theorem dkX9_result : dOk mX9_result 2 := by unfold dOk; decide +kernel
set_option maxRecDepth 100000 in
theorem g1228 : Cond.instanceMethod yX9_result ∈ gT := gW 1228 rfl rfl
set_option maxRecDepth 100000 in
theorem g1229 : Cond.selects RX9 yX9_result yX9_result ∈ gT := gW 1229 rfl rfl
theorem vL_148 : vOk RL mX9_result 148 2 9 := ⟨⟨g1230, rfl⟩, g73, g1227, g1228, g1229, dkX9_result, _, rfl, rfl⟩
set_option maxRecDepth 100000 in
theorem g1234 : Cond.code yX9_shared cX9_shared 2 (some .int) ∈ gT := gW 1234 rfl rfl
set_option maxRecDepth 100000 in
theorem g1231 : Cond.methodLink RL 151 yX9_shared ∈ gT := gW 1231 rfl rfl
theorem dkX9_shared : dOk mX9_shared 1 := by unfold dOk; decide +kernel
set_option maxRecDepth 100000 in
theorem g1232 : Cond.instanceMethod yX9_shared ∈ gT := gW 1232 rfl rfl
set_option maxRecDepth 100000 in
theorem g1233 : Cond.selects RX9 yX9_shared yX9_shared ∈ gT := gW 1233 rfl rfl
theorem vL_151 : vOk RL mX9_shared 151 1 9 := ⟨⟨g1234, rfl⟩, g73, g1231, g1232, g1233, dkX9_shared, _, rfl, rfl⟩
set_option maxRecDepth 100000 in
theorem g1238 : Cond.code yX9_alike cX9_alike 5 (some .boolean) ∈ gT := gW 1238 rfl rfl
set_option maxRecDepth 100000 in
theorem g1235 : Cond.methodLink RL 154 yX9_alike ∈ gT := gW 1235 rfl rfl
theorem dkX9_alike : dOk mX9_alike 4 := by unfold dOk; decide +kernel
set_option maxRecDepth 100000 in
theorem g1236 : Cond.instanceMethod yX9_alike ∈ gT := gW 1236 rfl rfl
set_option maxRecDepth 100000 in
theorem g1237 : Cond.selects RX9 yX9_alike yX9_alike ∈ gT := gW 1237 rfl rfl
theorem vL_154 : vOk RL mX9_alike 154 4 9 := ⟨⟨g1238, rfl⟩, g73, g1235, g1236, g1237, dkX9_alike, _, rfl, rfl⟩
set_option maxRecDepth 100000 in
theorem g1242 : Cond.code yX9_lay cX9_lay 4 none ∈ gT := gW 1242 rfl rfl
set_option maxRecDepth 100000 in
theorem g1239 : Cond.methodLink RX9 291 yX9_lay ∈ gT := gW 1239 rfl rfl
theorem dkX9_lay : dOk mX9_lay 0 := by unfold dOk; decide +kernel
set_option maxRecDepth 100000 in
theorem g1241 : Cond.instanceMethod yX9_lay ∈ gT := gW 1241 rfl rfl
set_option maxRecDepth 100000 in
theorem g63 : Cond.selects RX9 yX9_lay yX9_lay ∈ gT := gW 63 rfl rfl
theorem vX9_291 : vOk RX9 mX9_lay 291 0 9 := ⟨⟨g1242, rfl⟩, g73, g1239, g1241, g63, dkX9_lay, _, rfl, rfl⟩
set_option maxRecDepth 100000 in
theorem g1246 : Cond.code yX9_isAsLaid cX9_isAsLaid 5 (some .boolean) ∈ gT := gW 1246 rfl rfl
set_option maxRecDepth 100000 in
theorem g1243 : Cond.methodLink RX9 294 yX9_isAsLaid ∈ gT := gW 1243 rfl rfl
theorem dkX9_isAsLaid : dOk mX9_isAsLaid 0 := by unfold dOk; decide +kernel
set_option maxRecDepth 100000 in
theorem g1245 : Cond.instanceMethod yX9_isAsLaid ∈ gT := gW 1245 rfl rfl
set_option maxRecDepth 100000 in
theorem g64 : Cond.selects RX9 yX9_isAsLaid yX9_isAsLaid ∈ gT := gW 64 rfl rfl
theorem vX9_294 : vOk RX9 mX9_isAsLaid 294 0 9 := ⟨⟨g1246, rfl⟩, g73, g1243, g1245, g64, dkX9_isAsLaid, _, rfl, rfl⟩
