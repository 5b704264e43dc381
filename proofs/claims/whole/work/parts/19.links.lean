/-! what each call needs of the tables -/
def dOk (N : aM) (n : Nat) : Prop := N.nL ≤ 21 ∧ (N.y.cls ≠ "java/lang/invoke/MethodHandle" ∧ N.y.cls ≠ "java/lang/invoke/VarHandle" ∧ (parseMethodDescriptor N.y.desc).map (fun d => d.parameters.length) = some n)
def vOk (own : String) (N : aM) (idx n ci : Nat) : Prop := (Cond.code N.y N.cc N.nL N.ret ∈ gT ∧ N.hh = []) ∧ Cond.initialized N.y.cls ∈ gT ∧ Cond.methodLink own idx N.y ∈ gT ∧ Cond.instanceMethod N.y ∈ gT ∧ Cond.selects N.y.cls N.y N.y ∈ gT ∧ dOk N n ∧ ∃ q : vw_C, qC[ci]? = some q ∧ q.1 = N.y.cls
def sOk (own : String) (N : aM) (idx n : Nat) : Prop := (Cond.code N.y N.cc N.nL N.ret ∈ gT ∧ N.hh = []) ∧ Cond.initialized N.y.cls ∈ gT ∧ Cond.methodLink own idx N.y ∈ gT ∧ Cond.static N.y ∈ gT ∧ dOk N n
def sHOk (own : String) (N : aM) (idx n : Nat) : Prop := (Cond.codeWith N.y N.cc N.nL N.ret N.hh ∈ gT ∧ N.hh ≠ []) ∧ Cond.initialized N.y.cls ∈ gT ∧ Cond.methodLink own idx N.y ∈ gT ∧ Cond.static N.y ∈ gT ∧ dOk N n
def iOk (own : String) (N : aM) (idx n : Nat) : Prop := (Cond.code N.y N.cc N.nL N.ret ∈ gT ∧ N.hh = []) ∧ Cond.initialized N.y.cls ∈ gT ∧ Cond.methodLink own idx N.y ∈ gT ∧ Cond.instanceMethod N.y ∈ gT ∧ dOk N n ∧ N.ret = none ∧ N.y.name = "<init>"
theorem gW {w : Cond} (i : Nat) (h : lw_tbl[i]? = some w) (hg : goodWord w = true) : w ∈ gT := gT_in (List.mem_of_getElem? h) hg
set_option maxRecDepth 100000 in
theorem g89 : Cond.code yX8_init cX8_init 1 none ∈ gT := gW 89 rfl rfl
set_option maxRecDepth 100000 in
theorem g66 : Cond.initialized RX8 ∈ gT := gW 66 rfl rfl
set_option maxRecDepth 100000 in
theorem g87 : Cond.methodLink RL 82 yX8_init ∈ gT := gW 87 rfl rfl
theorem dkX8_init : dOk mX8_init 0 := by unfold dOk; decide +kernel
set_option maxRecDepth 100000 in
theorem g88 : Cond.instanceMethod yX8_init ∈ gT := gW 88 rfl rfl
theorem iL_82 : iOk RL mX8_init 82 0 := ⟨⟨g89, rfl⟩, g66, g87, g88, dkX8_init, rfl, rfl⟩
set_option maxRecDepth 100000 in
theorem g148 : Cond.code yX1_init cX1_init 9 none ∈ gT := gW 148 rfl rfl
set_option maxRecDepth 100000 in
theorem g70 : Cond.initialized RX1 ∈ gT := gW 70 rfl rfl
set_option maxRecDepth 100000 in
theorem g146 : Cond.methodLink RX3 31 yX1_init ∈ gT := gW 146 rfl rfl
theorem dkX1_init : dOk mX1_init 4 := by unfold dOk; decide +kernel
set_option maxRecDepth 100000 in
theorem g147 : Cond.instanceMethod yX1_init ∈ gT := gW 147 rfl rfl
theorem iX3_31 : iOk RX3 mX1_init 31 4 := ⟨⟨g148, rfl⟩, g70, g146, g147, dkX1_init, rfl, rfl⟩
set_option maxRecDepth 100000 in
theorem g152 : Cond.code yX1_placeOf cX1_placeOf 5 (some .int) ∈ gT := gW 152 rfl rfl
set_option maxRecDepth 100000 in
theorem g150 : Cond.methodLink RX1 9 yX1_placeOf ∈ gT := gW 150 rfl rfl
theorem dkX1_placeOf : dOk mX1_placeOf 5 := by unfold dOk; decide +kernel
set_option maxRecDepth 100000 in
theorem g151 : Cond.static yX1_placeOf ∈ gT := gW 151 rfl rfl
theorem sX1_9 : sOk RX1 mX1_placeOf 9 5 := ⟨⟨g152, rfl⟩, g70, g150, g151, dkX1_placeOf⟩
set_option maxRecDepth 100000 in
theorem g155 : Cond.code yX1_bitAt cX1_bitAt 2 (some .int) ∈ gT := gW 155 rfl rfl
set_option maxRecDepth 100000 in
theorem g153 : Cond.methodLink RX1 15 yX1_bitAt ∈ gT := gW 153 rfl rfl
theorem dkX1_bitAt : dOk mX1_bitAt 2 := by unfold dOk; decide +kernel
set_option maxRecDepth 100000 in
theorem g154 : Cond.static yX1_bitAt ∈ gT := gW 154 rfl rfl
theorem sX1_15 : sOk RX1 mX1_bitAt 15 2 := ⟨⟨g155, rfl⟩, g70, g153, g154, dkX1_bitAt⟩
set_option maxRecDepth 100000 in
theorem g221 : Cond.code yX4_init cX4_init 2 none ∈ gT := gW 221 rfl rfl
set_option maxRecDepth 100000 in
theorem g71 : Cond.initialized RX4 ∈ gT := gW 71 rfl rfl
set_option maxRecDepth 100000 in
theorem g219 : Cond.methodLink RX8 24 yX4_init ∈ gT := gW 219 rfl rfl
theorem dkX4_init : dOk mX4_init 0 := by unfold dOk; decide +kernel
set_option maxRecDepth 100000 in
theorem g220 : Cond.instanceMethod yX4_init ∈ gT := gW 220 rfl rfl
theorem iX8_24 : iOk RX8 mX4_init 24 0 := ⟨⟨g221, rfl⟩, g71, g219, g220, dkX4_init, rfl, rfl⟩
set_option maxRecDepth 100000 in
theorem g250 : Cond.methodLink RX8 37 yX1_init ∈ gT := gW 250 rfl rfl
theorem iX8_37 : iOk RX8 mX1_init 37 4 := ⟨⟨g148, rfl⟩, g70, g250, g147, dkX1_init, rfl, rfl⟩
set_option maxRecDepth 100000 in
theorem g276 : Cond.code yX8_terms cX8_terms 1 (some .int) ∈ gT := gW 276 rfl rfl
set_option maxRecDepth 100000 in
theorem g273 : Cond.methodLink RL 155 yX8_terms ∈ gT := gW 273 rfl rfl
theorem dkX8_terms : dOk mX8_terms 0 := by unfold dOk; decide +kernel
set_option maxRecDepth 100000 in
theorem g274 : Cond.instanceMethod yX8_terms ∈ gT := gW 274 rfl rfl
set_option maxRecDepth 100000 in
theorem g275 : Cond.selects RX8 yX8_terms yX8_terms ∈ gT := gW 275 rfl rfl
theorem vL_155 : vOk RL mX8_terms 155 0 8 := ⟨⟨g276, rfl⟩, g66, g273, g274, g275, dkX8_terms, _, rfl, rfl⟩
set_option maxRecDepth 100000 in
theorem g279 : Cond.codeWith yL_give cL_give 5 (some .int) [(0, 10, 13, 13), (0, 10, 17, 15)] ∈ gT := gW 279 rfl rfl
set_option maxRecDepth 100000 in
theorem g65 : Cond.initialized RL ∈ gT := gW 65 rfl rfl
set_option maxRecDepth 100000 in
theorem g277 : Cond.methodLink RL 86 yL_give ∈ gT := gW 277 rfl rfl
theorem dkL_give : dOk mL_give 4 := by unfold dOk; decide +kernel
set_option maxRecDepth 100000 in
theorem g278 : Cond.static yL_give ∈ gT := gW 278 rfl rfl
theorem hL_86 : sHOk RL mL_give 86 4 := ⟨⟨g279, by decide⟩, g65, g277, g278, dkL_give⟩
set_option maxRecDepth 100000 in
theorem g285 : Cond.code yX8_give cX8_give 3 (some .int) ∈ gT := gW 285 rfl rfl
set_option maxRecDepth 100000 in
theorem g282 : Cond.methodLink RL 7 yX8_give ∈ gT := gW 282 rfl rfl
theorem dkX8_give : dOk mX8_give 2 := by unfold dOk; decide +kernel
set_option maxRecDepth 100000 in
theorem g283 : Cond.instanceMethod yX8_give ∈ gT := gW 283 rfl rfl
set_option maxRecDepth 100000 in
theorem g284 : Cond.selects RX8 yX8_give yX8_give ∈ gT := gW 284 rfl rfl
theorem vL_7 : vOk RL mX8_give 7 2 8 := ⟨⟨g285, rfl⟩, g66, g282, g283, g284, dkX8_give, _, rfl, rfl⟩
set_option maxRecDepth 100000 in
theorem g289 : Cond.code yX8_keepAct cX8_keepAct 4 (some .int) ∈ gT := gW 289 rfl rfl
set_option maxRecDepth 100000 in
theorem g286 : Cond.methodLink RX8 46 yX8_keepAct ∈ gT := gW 286 rfl rfl
theorem dkX8_keepAct : dOk mX8_keepAct 3 := by unfold dOk; decide +kernel
set_option maxRecDepth 100000 in
theorem g288 : Cond.instanceMethod yX8_keepAct ∈ gT := gW 288 rfl rfl
set_option maxRecDepth 100000 in
theorem g0 : Cond.selects RX8 yX8_keepAct yX8_keepAct ∈ gT := gW 0 rfl rfl
theorem vX8_46 : vOk RX8 mX8_keepAct 46 3 8 := ⟨⟨g289, rfl⟩, g66, g286, g288, g0, dkX8_keepAct, _, rfl, rfl⟩
set_option maxRecDepth 100000 in
theorem g293 : Cond.code yX8_requireOperand cX8_requireOperand 3 none ∈ gT := gW 293 rfl rfl
set_option maxRecDepth 100000 in
theorem g290 : Cond.methodLink RX8 76 yX8_requireOperand ∈ gT := gW 290 rfl rfl
theorem dkX8_requireOperand : dOk mX8_requireOperand 2 := by unfold dOk; decide +kernel
set_option maxRecDepth 100000 in
theorem g292 : Cond.instanceMethod yX8_requireOperand ∈ gT := gW 292 rfl rfl
set_option maxRecDepth 100000 in
theorem g1 : Cond.selects RX8 yX8_requireOperand yX8_requireOperand ∈ gT := gW 1 rfl rfl
theorem vX8_76 : vOk RX8 mX8_requireOperand 76 2 8 := ⟨⟨g293, rfl⟩, g66, g290, g292, g1, dkX8_requireOperand, _, rfl, rfl⟩
set_option maxRecDepth 100000 in
theorem g296 : Cond.code yX8_requireName cX8_requireName 1 none ∈ gT := gW 296 rfl rfl
set_option maxRecDepth 100000 in
theorem g294 : Cond.methodLink RX8 50 yX8_requireName ∈ gT := gW 294 rfl rfl
theorem dkX8_requireName : dOk mX8_requireName 1 := by unfold dOk; decide +kernel
set_option maxRecDepth 100000 in
theorem g295 : Cond.static yX8_requireName ∈ gT := gW 295 rfl rfl
theorem sX8_50 : sOk RX8 mX8_requireName 50 1 := ⟨⟨g296, rfl⟩, g66, g294, g295, dkX8_requireName⟩
set_option maxRecDepth 100000 in
theorem g369 : Cond.code yX7_init cX7_init 7 none ∈ gT := gW 369 rfl rfl
set_option maxRecDepth 100000 in
theorem g78 : Cond.initialized RX7 ∈ gT := gW 78 rfl rfl
set_option maxRecDepth 100000 in
theorem g367 : Cond.methodLink RX8 61 yX7_init ∈ gT := gW 367 rfl rfl
theorem dkX7_init : dOk mX7_init 6 := by unfold dOk; decide +kernel
set_option maxRecDepth 100000 in
theorem g368 : Cond.instanceMethod yX7_init ∈ gT := gW 368 rfl rfl
theorem iX8_61 : iOk RX8 mX7_init 61 6 := ⟨⟨g369, rfl⟩, g78, g367, g368, dkX7_init, rfl, rfl⟩
set_option maxRecDepth 100000 in
theorem g373 : Cond.code yX7_heightOf cX7_heightOf 1 (some .int) ∈ gT := gW 373 rfl rfl
set_option maxRecDepth 100000 in
theorem g371 : Cond.methodLink RX7 30 yX7_heightOf ∈ gT := gW 371 rfl rfl
theorem dkX7_heightOf : dOk mX7_heightOf 1 := by unfold dOk; decide +kernel
set_option maxRecDepth 100000 in
theorem g372 : Cond.static yX7_heightOf ∈ gT := gW 372 rfl rfl
theorem sX7_30 : sOk RX7 mX7_heightOf 30 1 := ⟨⟨g373, rfl⟩, g78, g371, g372, dkX7_heightOf⟩
set_option maxRecDepth 100000 in
theorem g376 : Cond.code yJ9_max_7cf53 cJ9_max_7cf53 2 (some .int) ∈ gT := gW 376 rfl rfl
set_option maxRecDepth 100000 in
theorem g79 : Cond.initialized RJ9 ∈ gT := gW 79 rfl rfl
set_option maxRecDepth 100000 in
theorem g374 : Cond.methodLink RX7 34 yJ9_max_7cf53 ∈ gT := gW 374 rfl rfl
theorem dkJ9_max_7cf53 : dOk mJ9_max_7cf53 2 := by unfold dOk; decide +kernel
set_option maxRecDepth 100000 in
theorem g375 : Cond.static yJ9_max_7cf53 ∈ gT := gW 375 rfl rfl
theorem sX7_34 : sOk RX7 mJ9_max_7cf53 34 2 := ⟨⟨g376, rfl⟩, g79, g374, g375, dkJ9_max_7cf53⟩
set_option maxRecDepth 100000 in
theorem g379 : Cond.code yX0_layersOf cX0_layersOf 1 (some .int) ∈ gT := gW 379 rfl rfl
set_option maxRecDepth 100000 in
theorem g80 : Cond.initialized RX0 ∈ gT := gW 80 rfl rfl
set_option maxRecDepth 100000 in
theorem g377 : Cond.methodLink RX7 43 yX0_layersOf ∈ gT := gW 377 rfl rfl
theorem dkX0_layersOf : dOk mX0_layersOf 1 := by unfold dOk; decide +kernel
set_option maxRecDepth 100000 in
theorem g378 : Cond.static yX0_layersOf ∈ gT := gW 378 rfl rfl
theorem sX7_43 : sOk RX7 mX0_layersOf 43 1 := ⟨⟨g379, rfl⟩, g80, g377, g378, dkX0_layersOf⟩
set_option maxRecDepth 100000 in
theorem g382 : Cond.code yX7_layersOf cX7_layersOf 1 (some .int) ∈ gT := gW 382 rfl rfl
set_option maxRecDepth 100000 in
theorem g380 : Cond.methodLink RX7 49 yX7_layersOf ∈ gT := gW 380 rfl rfl
theorem dkX7_layersOf : dOk mX7_layersOf 1 := by unfold dOk; decide +kernel
set_option maxRecDepth 100000 in
theorem g381 : Cond.static yX7_layersOf ∈ gT := gW 381 rfl rfl
theorem sX7_49 : sOk RX7 mX7_layersOf 49 1 := ⟨⟨g382, rfl⟩, g78, g380, g381, dkX7_layersOf⟩
set_option maxRecDepth 100000 in
theorem g419 : Cond.code yX8_keep cX8_keep 2 (some .int) ∈ gT := gW 419 rfl rfl
set_option maxRecDepth 100000 in
theorem g416 : Cond.methodLink RX8 64 yX8_keep ∈ gT := gW 416 rfl rfl
theorem dkX8_keep : dOk mX8_keep 1 := by unfold dOk; decide +kernel
set_option maxRecDepth 100000 in
theorem g418 : Cond.instanceMethod yX8_keep ∈ gT := gW 418 rfl rfl
set_option maxRecDepth 100000 in
theorem g3 : Cond.selects RX8 yX8_keep yX8_keep ∈ gT := gW 3 rfl rfl
theorem vX8_64 : vOk RX8 mX8_keep 64 1 8 := ⟨⟨g419, rfl⟩, g66, g416, g418, g3, dkX8_keep, _, rfl, rfl⟩
set_option maxRecDepth 100000 in
theorem g438 : Cond.codeWith yL_of cL_of 6 (some .int) [(0, 12, 15, 13), (0, 12, 19, 21), (0, 12, 23, 15)] ∈ gT := gW 438 rfl rfl
set_option maxRecDepth 100000 in
theorem g436 : Cond.methodLink RL 95 yL_of ∈ gT := gW 436 rfl rfl
theorem dkL_of : dOk mL_of 5 := by unfold dOk; decide +kernel
set_option maxRecDepth 100000 in
theorem g437 : Cond.static yL_of ∈ gT := gW 437 rfl rfl
theorem hL_95 : sHOk RL mL_of 95 5 := ⟨⟨g438, by decide⟩, g65, g436, g437, dkL_of⟩
set_option maxRecDepth 100000 in
theorem g443 : Cond.code yX8_of cX8_of 4 (some .int) ∈ gT := gW 443 rfl rfl
set_option maxRecDepth 100000 in
theorem g440 : Cond.methodLink RL 17 yX8_of ∈ gT := gW 440 rfl rfl
theorem dkX8_of : dOk mX8_of 3 := by unfold dOk; decide +kernel
set_option maxRecDepth 100000 in
theorem g441 : Cond.instanceMethod yX8_of ∈ gT := gW 441 rfl rfl
set_option maxRecDepth 100000 in
theorem g442 : Cond.selects RX8 yX8_of yX8_of ∈ gT := gW 442 rfl rfl
theorem vL_17 : vOk RL mX8_of 17 3 8 := ⟨⟨g443, rfl⟩, g66, g440, g441, g442, dkX8_of, _, rfl, rfl⟩
set_option maxRecDepth 100000 in
theorem g462 : Cond.codeWith yL_read cL_read 3 (some .int) [(0, 8, 11, 15)] ∈ gT := gW 462 rfl rfl
set_option maxRecDepth 100000 in
theorem g460 : Cond.methodLink RL 99 yL_read ∈ gT := gW 460 rfl rfl
theorem dkL_read : dOk mL_read 2 := by unfold dOk; decide +kernel
set_option maxRecDepth 100000 in
theorem g461 : Cond.static yL_read ∈ gT := gW 461 rfl rfl
theorem hL_99 : sHOk RL mL_read 99 2 := ⟨⟨g462, by decide⟩, g65, g460, g461, dkL_read⟩
set_option maxRecDepth 100000 in
theorem g466 : Cond.code yX8_read cX8_read 1 (some .int) ∈ gT := gW 466 rfl rfl
set_option maxRecDepth 100000 in
theorem g463 : Cond.methodLink RL 23 yX8_read ∈ gT := gW 463 rfl rfl
theorem dkX8_read : dOk mX8_read 0 := by unfold dOk; decide +kernel
set_option maxRecDepth 100000 in
theorem g464 : Cond.instanceMethod yX8_read ∈ gT := gW 464 rfl rfl
set_option maxRecDepth 100000 in
theorem g465 : Cond.selects RX8 yX8_read yX8_read ∈ gT := gW 465 rfl rfl
theorem vL_23 : vOk RL mX8_read 23 0 8 := ⟨⟨g466, rfl⟩, g66, g463, g464, g465, dkX8_read, _, rfl, rfl⟩
set_option maxRecDepth 100000 in
theorem g469 : Cond.codeWith yL_write cL_write 5 (some .int) [(0, 10, 13, 13), (0, 10, 17, 15)] ∈ gT := gW 469 rfl rfl
set_option maxRecDepth 100000 in
theorem g467 : Cond.methodLink RL 103 yL_write ∈ gT := gW 467 rfl rfl
theorem dkL_write : dOk mL_write 4 := by unfold dOk; decide +kernel
set_option maxRecDepth 100000 in
theorem g468 : Cond.static yL_write ∈ gT := gW 468 rfl rfl
theorem hL_103 : sHOk RL mL_write 103 4 := ⟨⟨g469, by decide⟩, g65, g467, g468, dkL_write⟩
set_option maxRecDepth 100000 in
theorem g473 : Cond.code yX8_write cX8_write 3 (some .int) ∈ gT := gW 473 rfl rfl
set_option maxRecDepth 100000 in
theorem g470 : Cond.methodLink RL 27 yX8_write ∈ gT := gW 470 rfl rfl
theorem dkX8_write : dOk mX8_write 2 := by unfold dOk; decide +kernel
set_option maxRecDepth 100000 in
theorem g471 : Cond.instanceMethod yX8_write ∈ gT := gW 471 rfl rfl
set_option maxRecDepth 100000 in
theorem g472 : Cond.selects RX8 yX8_write yX8_write ∈ gT := gW 472 rfl rfl
theorem vL_27 : vOk RL mX8_write 27 2 8 := ⟨⟨g473, rfl⟩, g66, g470, g471, g472, dkX8_write, _, rfl, rfl⟩
set_option maxRecDepth 100000 in
theorem g476 : Cond.codeWith yL_say cL_say 5 (some .int) [(0, 10, 13, 13), (0, 10, 17, 15)] ∈ gT := gW 476 rfl rfl
set_option maxRecDepth 100000 in
theorem g474 : Cond.methodLink RL 106 yL_say ∈ gT := gW 474 rfl rfl
theorem dkL_say : dOk mL_say 4 := by unfold dOk; decide +kernel
set_option maxRecDepth 100000 in
theorem g475 : Cond.static yL_say ∈ gT := gW 475 rfl rfl
theorem hL_106 : sHOk RL mL_say 106 4 := ⟨⟨g476, by decide⟩, g65, g474, g475, dkL_say⟩
set_option maxRecDepth 100000 in
theorem g480 : Cond.code yX8_say cX8_say 3 (some .int) ∈ gT := gW 480 rfl rfl
set_option maxRecDepth 100000 in
theorem g477 : Cond.methodLink RL 30 yX8_say ∈ gT := gW 477 rfl rfl
theorem dkX8_say : dOk mX8_say 2 := by unfold dOk; decide +kernel
set_option maxRecDepth 100000 in
theorem g478 : Cond.instanceMethod yX8_say ∈ gT := gW 478 rfl rfl
set_option maxRecDepth 100000 in
theorem g479 : Cond.selects RX8 yX8_say yX8_say ∈ gT := gW 479 rfl rfl
theorem vL_30 : vOk RL mX8_say 30 2 8 := ⟨⟨g480, rfl⟩, g66, g477, g478, g479, dkX8_say, _, rfl, rfl⟩
set_option maxRecDepth 100000 in
theorem g483 : Cond.codeWith yL_fail cL_fail 5 (some .int) [(0, 10, 13, 13), (0, 10, 17, 15)] ∈ gT := gW 483 rfl rfl
set_option maxRecDepth 100000 in
theorem g481 : Cond.methodLink RL 109 yL_fail ∈ gT := gW 481 rfl rfl
theorem dkL_fail : dOk mL_fail 4 := by unfold dOk; decide +kernel
set_option maxRecDepth 100000 in
theorem g482 : Cond.static yL_fail ∈ gT := gW 482 rfl rfl
theorem hL_109 : sHOk RL mL_fail 109 4 := ⟨⟨g483, by decide⟩, g65, g481, g482, dkL_fail⟩
set_option maxRecDepth 100000 in
theorem g487 : Cond.code yX8_fail cX8_fail 3 (some .int) ∈ gT := gW 487 rfl rfl
set_option maxRecDepth 100000 in
theorem g484 : Cond.methodLink RL 33 yX8_fail ∈ gT := gW 484 rfl rfl
theorem dkX8_fail : dOk mX8_fail 2 := by unfold dOk; decide +kernel
set_option maxRecDepth 100000 in
theorem g485 : Cond.instanceMethod yX8_fail ∈ gT := gW 485 rfl rfl
set_option maxRecDepth 100000 in
theorem g486 : Cond.selects RX8 yX8_fail yX8_fail ∈ gT := gW 486 rfl rfl
theorem vL_33 : vOk RL mX8_fail 33 2 8 := ⟨⟨g487, rfl⟩, g66, g484, g485, g486, dkX8_fail, _, rfl, rfl⟩
set_option maxRecDepth 100000 in
theorem g490 : Cond.codeWith yL_none cL_none 3 (some .int) [(0, 8, 11, 15)] ∈ gT := gW 490 rfl rfl
set_option maxRecDepth 100000 in
theorem g488 : Cond.methodLink RL 112 yL_none ∈ gT := gW 488 rfl rfl
theorem dkL_none : dOk mL_none 2 := by unfold dOk; decide +kernel
set_option maxRecDepth 100000 in
theorem g489 : Cond.static yL_none ∈ gT := gW 489 rfl rfl
theorem hL_112 : sHOk RL mL_none 112 2 := ⟨⟨g490, by decide⟩, g65, g488, g489, dkL_none⟩
set_option maxRecDepth 100000 in
theorem g494 : Cond.code yX8_none cX8_none 1 (some .int) ∈ gT := gW 494 rfl rfl
set_option maxRecDepth 100000 in
theorem g491 : Cond.methodLink RL 36 yX8_none ∈ gT := gW 491 rfl rfl
theorem dkX8_none : dOk mX8_none 0 := by unfold dOk; decide +kernel
set_option maxRecDepth 100000 in
theorem g492 : Cond.instanceMethod yX8_none ∈ gT := gW 492 rfl rfl
set_option maxRecDepth 100000 in
theorem g493 : Cond.selects RX8 yX8_none yX8_none ∈ gT := gW 493 rfl rfl
theorem vL_36 : vOk RL mX8_none 36 0 8 := ⟨⟨g494, rfl⟩, g66, g491, g492, g493, dkX8_none, _, rfl, rfl⟩
set_option maxRecDepth 100000 in
theorem g497 : Cond.codeWith yL_either cL_either 5 (some .int) [(0, 10, 13, 13), (0, 10, 17, 15)] ∈ gT := gW 497 rfl rfl
set_option maxRecDepth 100000 in
theorem g495 : Cond.methodLink RL 115 yL_either ∈ gT := gW 495 rfl rfl
theorem dkL_either : dOk mL_either 4 := by unfold dOk; decide +kernel
set_option maxRecDepth 100000 in
theorem g496 : Cond.static yL_either ∈ gT := gW 496 rfl rfl
theorem hL_115 : sHOk RL mL_either 115 4 := ⟨⟨g497, by decide⟩, g65, g495, g496, dkL_either⟩
set_option maxRecDepth 100000 in
theorem g501 : Cond.code yX8_either cX8_either 3 (some .int) ∈ gT := gW 501 rfl rfl
set_option maxRecDepth 100000 in
theorem g498 : Cond.methodLink RL 39 yX8_either ∈ gT := gW 498 rfl rfl
theorem dkX8_either : dOk mX8_either 2 := by unfold dOk; decide +kernel
set_option maxRecDepth 100000 in
theorem g499 : Cond.instanceMethod yX8_either ∈ gT := gW 499 rfl rfl
set_option maxRecDepth 100000 in
theorem g500 : Cond.selects RX8 yX8_either yX8_either ∈ gT := gW 500 rfl rfl
theorem vL_39 : vOk RL mX8_either 39 2 8 := ⟨⟨g501, rfl⟩, g66, g498, g499, g500, dkX8_either, _, rfl, rfl⟩
set_option maxRecDepth 100000 in
theorem g505 : Cond.code yX8_termAt cX8_termAt 3 (some (.object "LayeredActs$Term")) ∈ gT := gW 505 rfl rfl
set_option maxRecDepth 100000 in
theorem g502 : Cond.methodLink RX8 68 yX8_termAt ∈ gT := gW 502 rfl rfl
theorem dkX8_termAt : dOk mX8_termAt 1 := by unfold dOk; decide +kernel
set_option maxRecDepth 100000 in
theorem g504 : Cond.instanceMethod yX8_termAt ∈ gT := gW 504 rfl rfl
set_option maxRecDepth 100000 in
theorem g4 : Cond.selects RX8 yX8_termAt yX8_termAt ∈ gT := gW 4 rfl rfl
theorem vX8_68 : vOk RX8 mX8_termAt 68 1 8 := ⟨⟨g505, rfl⟩, g66, g502, g504, g4, dkX8_termAt, _, rfl, rfl⟩
set_option maxRecDepth 100000 in
theorem g509 : Cond.codeWith yL_then cL_then 6 (some .int) [(0, 12, 15, 13), (0, 12, 19, 15)] ∈ gT := gW 509 rfl rfl
set_option maxRecDepth 100000 in
theorem g507 : Cond.methodLink RL 119 yL_then ∈ gT := gW 507 rfl rfl
theorem dkL_then : dOk mL_then 5 := by unfold dOk; decide +kernel
set_option maxRecDepth 100000 in
theorem g508 : Cond.static yL_then ∈ gT := gW 508 rfl rfl
theorem hL_119 : sHOk RL mL_then 119 5 := ⟨⟨g509, by decide⟩, g65, g507, g508, dkL_then⟩
set_option maxRecDepth 100000 in
theorem g513 : Cond.code yX8_then cX8_then 4 (some .int) ∈ gT := gW 513 rfl rfl
set_option maxRecDepth 100000 in
theorem g510 : Cond.methodLink RL 43 yX8_then ∈ gT := gW 510 rfl rfl
theorem dkX8_then : dOk mX8_then 3 := by unfold dOk; decide +kernel
set_option maxRecDepth 100000 in
theorem g511 : Cond.instanceMethod yX8_then ∈ gT := gW 511 rfl rfl
set_option maxRecDepth 100000 in
theorem g512 : Cond.selects RX8 yX8_then yX8_then ∈ gT := gW 512 rfl rfl
theorem vL_43 : vOk RL mX8_then 43 3 8 := ⟨⟨g513, rfl⟩, g66, g510, g511, g512, dkX8_then, _, rfl, rfl⟩
set_option maxRecDepth 100000 in
theorem g517 : Cond.code yX8_keepNaming cX8_keepNaming 5 (some .int) ∈ gT := gW 517 rfl rfl
set_option maxRecDepth 100000 in
theorem g514 : Cond.methodLink RX8 72 yX8_keepNaming ∈ gT := gW 514 rfl rfl
theorem dkX8_keepNaming : dOk mX8_keepNaming 4 := by unfold dOk; decide +kernel
set_option maxRecDepth 100000 in
theorem g516 : Cond.instanceMethod yX8_keepNaming ∈ gT := gW 516 rfl rfl
set_option maxRecDepth 100000 in
theorem g5 : Cond.selects RX8 yX8_keepNaming yX8_keepNaming ∈ gT := gW 5 rfl rfl
theorem vX8_72 : vOk RX8 mX8_keepNaming 72 4 8 := ⟨⟨g517, rfl⟩, g66, g514, g516, g5, dkX8_keepNaming, _, rfl, rfl⟩
set_option maxRecDepth 100000 in
theorem g520 : Cond.codeWith yL_saved cL_saved 6 (some .int) [(0, 12, 15, 13), (0, 12, 19, 15)] ∈ gT := gW 520 rfl rfl
set_option maxRecDepth 100000 in
theorem g518 : Cond.methodLink RL 122 yL_saved ∈ gT := gW 518 rfl rfl
theorem dkL_saved : dOk mL_saved 5 := by unfold dOk; decide +kernel
set_option maxRecDepth 100000 in
theorem g519 : Cond.static yL_saved ∈ gT := gW 519 rfl rfl
theorem hL_122 : sHOk RL mL_saved 122 5 := ⟨⟨g520, by decide⟩, g65, g518, g519, dkL_saved⟩
set_option maxRecDepth 100000 in
theorem g524 : Cond.code yX8_saved cX8_saved 4 (some .int) ∈ gT := gW 524 rfl rfl
set_option maxRecDepth 100000 in
theorem g521 : Cond.methodLink RL 46 yX8_saved ∈ gT := gW 521 rfl rfl
theorem dkX8_saved : dOk mX8_saved 3 := by unfold dOk; decide +kernel
set_option maxRecDepth 100000 in
theorem g522 : Cond.instanceMethod yX8_saved ∈ gT := gW 522 rfl rfl
set_option maxRecDepth 100000 in
theorem g523 : Cond.selects RX8 yX8_saved yX8_saved ∈ gT := gW 523 rfl rfl
theorem vL_46 : vOk RL mX8_saved 46 3 8 := ⟨⟨g524, rfl⟩, g66, g521, g522, g523, dkX8_saved, _, rfl, rfl⟩
set_option maxRecDepth 100000 in
theorem g527 : Cond.codeWith yL_when cL_when 6 (some .int) [(0, 12, 15, 13), (0, 12, 19, 15)] ∈ gT := gW 527 rfl rfl
set_option maxRecDepth 100000 in
theorem g525 : Cond.methodLink RL 125 yL_when ∈ gT := gW 525 rfl rfl
theorem dkL_when : dOk mL_when 5 := by unfold dOk; decide +kernel
set_option maxRecDepth 100000 in
theorem g526 : Cond.static yL_when ∈ gT := gW 526 rfl rfl
theorem hL_125 : sHOk RL mL_when 125 5 := ⟨⟨g527, by decide⟩, g65, g525, g526, dkL_when⟩
set_option maxRecDepth 100000 in
theorem g531 : Cond.code yX8_when cX8_when 4 (some .int) ∈ gT := gW 531 rfl rfl
set_option maxRecDepth 100000 in
theorem g528 : Cond.methodLink RL 49 yX8_when ∈ gT := gW 528 rfl rfl
theorem dkX8_when : dOk mX8_when 3 := by unfold dOk; decide +kernel
set_option maxRecDepth 100000 in
theorem g529 : Cond.instanceMethod yX8_when ∈ gT := gW 529 rfl rfl
set_option maxRecDepth 100000 in
theorem g530 : Cond.selects RX8 yX8_when yX8_when ∈ gT := gW 530 rfl rfl
theorem vL_49 : vOk RL mX8_when 49 3 8 := ⟨⟨g531, rfl⟩, g66, g528, g529, g530, dkX8_when, _, rfl, rfl⟩
set_option maxRecDepth 100000 in
theorem g534 : Cond.codeWith yL_times cL_times 6 (some .int) [(0, 12, 15, 13), (0, 12, 19, 15)] ∈ gT := gW 534 rfl rfl
set_option maxRecDepth 100000 in
theorem g532 : Cond.methodLink RL 128 yL_times ∈ gT := gW 532 rfl rfl
theorem dkL_times : dOk mL_times 5 := by unfold dOk; decide +kernel
set_option maxRecDepth 100000 in
theorem g533 : Cond.static yL_times ∈ gT := gW 533 rfl rfl
theorem hL_128 : sHOk RL mL_times 128 5 := ⟨⟨g534, by decide⟩, g65, g532, g533, dkL_times⟩
set_option maxRecDepth 100000 in
theorem g538 : Cond.code yX8_times cX8_times 4 (some .int) ∈ gT := gW 538 rfl rfl
set_option maxRecDepth 100000 in
theorem g535 : Cond.methodLink RL 52 yX8_times ∈ gT := gW 535 rfl rfl
theorem dkX8_times : dOk mX8_times 3 := by unfold dOk; decide +kernel
set_option maxRecDepth 100000 in
theorem g536 : Cond.instanceMethod yX8_times ∈ gT := gW 536 rfl rfl
set_option maxRecDepth 100000 in
theorem g537 : Cond.selects RX8 yX8_times yX8_times ∈ gT := gW 537 rfl rfl
theorem vL_52 : vOk RL mX8_times 52 3 8 := ⟨⟨g538, rfl⟩, g66, g535, g536, g537, dkX8_times, _, rfl, rfl⟩
set_option maxRecDepth 100000 in
theorem g541 : Cond.codeWith yL_as cL_as 5 (some .int) [(0, 10, 13, 13), (0, 10, 17, 21), (0, 10, 21, 15)] ∈ gT := gW 541 rfl rfl
set_option maxRecDepth 100000 in
theorem g539 : Cond.methodLink RL 132 yL_as ∈ gT := gW 539 rfl rfl
theorem dkL_as : dOk mL_as 4 := by unfold dOk; decide +kernel
set_option maxRecDepth 100000 in
theorem g540 : Cond.static yL_as ∈ gT := gW 540 rfl rfl
theorem hL_132 : sHOk RL mL_as 132 4 := ⟨⟨g541, by decide⟩, g65, g539, g540, dkL_as⟩
set_option maxRecDepth 100000 in
theorem g545 : Cond.code yX8_as cX8_as 4 (some .int) ∈ gT := gW 545 rfl rfl
set_option maxRecDepth 100000 in
theorem g542 : Cond.methodLink RL 56 yX8_as ∈ gT := gW 542 rfl rfl
theorem dkX8_as : dOk mX8_as 2 := by unfold dOk; decide +kernel
set_option maxRecDepth 100000 in
theorem g543 : Cond.instanceMethod yX8_as ∈ gT := gW 543 rfl rfl
set_option maxRecDepth 100000 in
theorem g544 : Cond.selects RX8 yX8_as yX8_as ∈ gT := gW 544 rfl rfl
theorem vL_56 : vOk RL mX8_as 56 2 8 := ⟨⟨g545, rfl⟩, g66, g542, g543, g544, dkX8_as, _, rfl, rfl⟩
set_option maxRecDepth 100000 in
theorem g549 : Cond.codeWith yL_order cL_order 7 (some .int) [(0, 14, 17, 21)] ∈ gT := gW 549 rfl rfl
set_option maxRecDepth 100000 in
theorem g547 : Cond.methodLink RL 135 yL_order ∈ gT := gW 547 rfl rfl
theorem dkL_order : dOk mL_order 6 := by unfold dOk; decide +kernel
set_option maxRecDepth 100000 in
theorem g548 : Cond.static yL_order ∈ gT := gW 548 rfl rfl
theorem hL_135 : sHOk RL mL_order 135 6 := ⟨⟨g549, by decide⟩, g65, g547, g548, dkL_order⟩
set_option maxRecDepth 100000 in
theorem g553 : Cond.code yX8_order cX8_order 6 (some .int) ∈ gT := gW 553 rfl rfl
set_option maxRecDepth 100000 in
theorem g550 : Cond.methodLink RL 59 yX8_order ∈ gT := gW 550 rfl rfl
theorem dkX8_order : dOk mX8_order 4 := by unfold dOk; decide +kernel
set_option maxRecDepth 100000 in
theorem g551 : Cond.instanceMethod yX8_order ∈ gT := gW 551 rfl rfl
set_option maxRecDepth 100000 in
theorem g552 : Cond.selects RX8 yX8_order yX8_order ∈ gT := gW 552 rfl rfl
theorem vL_59 : vOk RL mX8_order 59 4 8 := ⟨⟨g553, rfl⟩, g66, g550, g551, g552, dkX8_order, _, rfl, rfl⟩
set_option maxRecDepth 100000 in
theorem g556 : Cond.code yX8_withLayer cX8_withLayer 2 (some .int) ∈ gT := gW 556 rfl rfl
set_option maxRecDepth 100000 in
theorem g554 : Cond.methodLink RX8 82 yX8_withLayer ∈ gT := gW 554 rfl rfl
theorem dkX8_withLayer : dOk mX8_withLayer 2 := by unfold dOk; decide +kernel
set_option maxRecDepth 100000 in
theorem g555 : Cond.static yX8_withLayer ∈ gT := gW 555 rfl rfl
theorem sX8_82 : sOk RX8 mX8_withLayer 82 2 := ⟨⟨g556, rfl⟩, g66, g554, g555, dkX8_withLayer⟩
set_option maxRecDepth 100000 in
theorem g560 : Cond.code yJ6_bitCount_0f7a4 cJ6_bitCount_0f7a4 1 (some .int) ∈ gT := gW 560 rfl rfl
set_option maxRecDepth 100000 in
theorem g83 : Cond.initialized RJ6 ∈ gT := gW 83 rfl rfl
set_option maxRecDepth 100000 in
theorem g558 : Cond.methodLink RX8 86 yJ6_bitCount_0f7a4 ∈ gT := gW 558 rfl rfl
theorem dkJ6_bitCount_0f7a4 : dOk mJ6_bitCount_0f7a4 1 := by unfold dOk; decide +kernel
set_option maxRecDepth 100000 in
theorem g559 : Cond.static yJ6_bitCount_0f7a4 ∈ gT := gW 559 rfl rfl
theorem sX8_86 : sOk RX8 mJ6_bitCount_0f7a4 86 1 := ⟨⟨g560, rfl⟩, g83, g558, g559, dkJ6_bitCount_0f7a4⟩
set_option maxRecDepth 100000 in
theorem g566 : Cond.codeWith yL_needs cL_needs 4 (some .int) [(0, 9, 12, 13)] ∈ gT := gW 566 rfl rfl
set_option maxRecDepth 100000 in
theorem g564 : Cond.methodLink RL 139 yL_needs ∈ gT := gW 564 rfl rfl
theorem dkL_needs : dOk mL_needs 3 := by unfold dOk; decide +kernel
set_option maxRecDepth 100000 in
theorem g565 : Cond.static yL_needs ∈ gT := gW 565 rfl rfl
theorem hL_139 : sHOk RL mL_needs 139 3 := ⟨⟨g566, by decide⟩, g65, g564, g565, dkL_needs⟩
set_option maxRecDepth 100000 in
theorem g570 : Cond.code yX8_needs cX8_needs 2 (some .int) ∈ gT := gW 570 rfl rfl
set_option maxRecDepth 100000 in
theorem g567 : Cond.methodLink RL 63 yX8_needs ∈ gT := gW 567 rfl rfl
theorem dkX8_needs : dOk mX8_needs 1 := by unfold dOk; decide +kernel
set_option maxRecDepth 100000 in
theorem g568 : Cond.instanceMethod yX8_needs ∈ gT := gW 568 rfl rfl
set_option maxRecDepth 100000 in
theorem g569 : Cond.selects RX8 yX8_needs yX8_needs ∈ gT := gW 569 rfl rfl
theorem vL_63 : vOk RL mX8_needs 63 1 8 := ⟨⟨g570, rfl⟩, g66, g567, g568, g569, dkX8_needs, _, rfl, rfl⟩
set_option maxRecDepth 100000 in
theorem g573 : Cond.codeWith yL_run cL_run 6 (some .int) [(0, 12, 15, 13), (0, 12, 19, 21), (0, 12, 23, 70)] ∈ gT := gW 573 rfl rfl
set_option maxRecDepth 100000 in
theorem g571 : Cond.methodLink RL 143 yL_run ∈ gT := gW 571 rfl rfl
theorem dkL_run : dOk mL_run 5 := by unfold dOk; decide +kernel
set_option maxRecDepth 100000 in
theorem g572 : Cond.static yL_run ∈ gT := gW 572 rfl rfl
theorem hL_143 : sHOk RL mL_run 143 5 := ⟨⟨g573, by decide⟩, g65, g571, g572, dkL_run⟩
set_option maxRecDepth 100000 in
theorem g578 : Cond.code yX8_run cX8_run 5 (some .int) ∈ gT := gW 578 rfl rfl
set_option maxRecDepth 100000 in
theorem g575 : Cond.methodLink RL 67 yX8_run ∈ gT := gW 575 rfl rfl
theorem dkX8_run : dOk mX8_run 3 := by unfold dOk; decide +kernel
set_option maxRecDepth 100000 in
theorem g576 : Cond.instanceMethod yX8_run ∈ gT := gW 576 rfl rfl
set_option maxRecDepth 100000 in
theorem g577 : Cond.selects RX8 yX8_run yX8_run ∈ gT := gW 577 rfl rfl
theorem vL_67 : vOk RL mX8_run 67 3 8 := ⟨⟨g578, rfl⟩, g66, g575, g576, g577, dkX8_run, _, rfl, rfl⟩
set_option maxRecDepth 100000 in
theorem g581 : Cond.code yX8_requireSteps cX8_requireSteps 1 none ∈ gT := gW 581 rfl rfl
set_option maxRecDepth 100000 in
theorem g579 : Cond.methodLink RX8 96 yX8_requireSteps ∈ gT := gW 579 rfl rfl
theorem dkX8_requireSteps : dOk mX8_requireSteps 1 := by unfold dOk; decide +kernel
set_option maxRecDepth 100000 in
theorem g580 : Cond.static yX8_requireSteps ∈ gT := gW 580 rfl rfl
theorem sX8_96 : sOk RX8 mX8_requireSteps 96 1 := ⟨⟨g581, rfl⟩, g66, g579, g580, dkX8_requireSteps⟩
set_option maxRecDepth 100000 in
theorem g586 : Cond.code yX8_requireLayers cX8_requireLayers 2 none ∈ gT := gW 586 rfl rfl
set_option maxRecDepth 100000 in
theorem g583 : Cond.methodLink RX8 99 yX8_requireLayers ∈ gT := gW 583 rfl rfl
theorem dkX8_requireLayers : dOk mX8_requireLayers 1 := by unfold dOk; decide +kernel
set_option maxRecDepth 100000 in
theorem g585 : Cond.instanceMethod yX8_requireLayers ∈ gT := gW 585 rfl rfl
set_option maxRecDepth 100000 in
theorem g6 : Cond.selects RX8 yX8_requireLayers yX8_requireLayers ∈ gT := gW 6 rfl rfl
theorem vX8_99 : vOk RX8 mX8_requireLayers 99 1 8 := ⟨⟨g586, rfl⟩, g66, g583, g585, g6, dkX8_requireLayers, _, rfl, rfl⟩
set_option maxRecDepth 100000 in
theorem g606 : Cond.code yX3_carryOut cX3_carryOut 7 none ∈ gT := gW 606 rfl rfl
set_option maxRecDepth 100000 in
theorem g67 : Cond.initialized RX3 ∈ gT := gW 67 rfl rfl
set_option maxRecDepth 100000 in
theorem g603 : Cond.methodLink RX8 102 yX3_carryOut ∈ gT := gW 603 rfl rfl
theorem dkX3_carryOut : dOk mX3_carryOut 5 := by unfold dOk; decide +kernel
set_option maxRecDepth 100000 in
theorem g604 : Cond.instanceMethod yX3_carryOut ∈ gT := gW 604 rfl rfl
set_option maxRecDepth 100000 in
theorem g605 : Cond.selects RX3 yX3_carryOut yX3_carryOut ∈ gT := gW 605 rfl rfl
theorem vX8_102 : vOk RX8 mX3_carryOut 102 5 3 := ⟨⟨g606, rfl⟩, g67, g603, g604, g605, dkX3_carryOut, _, rfl, rfl⟩
set_option maxRecDepth 100000 in
theorem g610 : Cond.code yX3_clear cX3_clear 2 none ∈ gT := gW 610 rfl rfl
set_option maxRecDepth 100000 in
theorem g607 : Cond.methodLink RX3 45 yX3_clear ∈ gT := gW 607 rfl rfl
theorem dkX3_clear : dOk mX3_clear 0 := by unfold dOk; decide +kernel
set_option maxRecDepth 100000 in
theorem g609 : Cond.instanceMethod yX3_clear ∈ gT := gW 609 rfl rfl
set_option maxRecDepth 100000 in
theorem g7 : Cond.selects RX3 yX3_clear yX3_clear ∈ gT := gW 7 rfl rfl
theorem vX3_45 : vOk RX3 mX3_clear 45 0 3 := ⟨⟨g610, rfl⟩, g67, g607, g609, g7, dkX3_clear, _, rfl, rfl⟩
set_option maxRecDepth 100000 in
theorem g614 : Cond.code yX2_clear cX2_clear 1 none ∈ gT := gW 614 rfl rfl
set_option maxRecDepth 100000 in
theorem g69 : Cond.initialized RX2 ∈ gT := gW 69 rfl rfl
set_option maxRecDepth 100000 in
theorem g611 : Cond.methodLink RX3 74 yX2_clear ∈ gT := gW 611 rfl rfl
theorem dkX2_clear : dOk mX2_clear 0 := by unfold dOk; decide +kernel
set_option maxRecDepth 100000 in
theorem g612 : Cond.instanceMethod yX2_clear ∈ gT := gW 612 rfl rfl
set_option maxRecDepth 100000 in
theorem g613 : Cond.selects RX2 yX2_clear yX2_clear ∈ gT := gW 613 rfl rfl
theorem vX3_74 : vOk RX3 mX2_clear 74 0 2 := ⟨⟨g614, rfl⟩, g69, g611, g612, g613, dkX2_clear, _, rfl, rfl⟩
set_option maxRecDepth 100000 in
theorem g618 : Cond.code yX5_cutTo cX5_cutTo 2 none ∈ gT := gW 618 rfl rfl
set_option maxRecDepth 100000 in
theorem g68 : Cond.initialized RX5 ∈ gT := gW 68 rfl rfl
set_option maxRecDepth 100000 in
theorem g615 : Cond.methodLink RX3 75 yX5_cutTo ∈ gT := gW 615 rfl rfl
theorem dkX5_cutTo : dOk mX5_cutTo 1 := by unfold dOk; decide +kernel
set_option maxRecDepth 100000 in
theorem g616 : Cond.instanceMethod yX5_cutTo ∈ gT := gW 616 rfl rfl
set_option maxRecDepth 100000 in
theorem g617 : Cond.selects RX5 yX5_cutTo yX5_cutTo ∈ gT := gW 617 rfl rfl
theorem vX3_75 : vOk RX3 mX5_cutTo 75 1 5 := ⟨⟨g618, rfl⟩, g68, g615, g616, g617, dkX5_cutTo, _, rfl, rfl⟩
set_option maxRecDepth 100000 in
theorem g622 : Cond.code yX3_perform cX3_perform 2 (some .int) ∈ gT := gW 622 rfl rfl
set_option maxRecDepth 100000 in
theorem g619 : Cond.methodLink RX3 48 yX3_perform ∈ gT := gW 619 rfl rfl
theorem dkX3_perform : dOk mX3_perform 1 := by unfold dOk; decide +kernel
set_option maxRecDepth 100000 in
theorem g621 : Cond.instanceMethod yX3_perform ∈ gT := gW 621 rfl rfl
set_option maxRecDepth 100000 in
theorem g8 : Cond.selects RX3 yX3_perform yX3_perform ∈ gT := gW 8 rfl rfl
theorem vX3_48 : vOk RX3 mX3_perform 48 1 3 := ⟨⟨g622, rfl⟩, g67, g619, g621, g8, dkX3_perform, _, rfl, rfl⟩
set_option maxRecDepth 100000 in
theorem g626 : Cond.code yX3_operandOf cX3_operandOf 2 (some .int) ∈ gT := gW 626 rfl rfl
set_option maxRecDepth 100000 in
theorem g623 : Cond.methodLink RX3 147 yX3_operandOf ∈ gT := gW 623 rfl rfl
theorem dkX3_operandOf : dOk mX3_operandOf 1 := by unfold dOk; decide +kernel
set_option maxRecDepth 100000 in
theorem g625 : Cond.instanceMethod yX3_operandOf ∈ gT := gW 625 rfl rfl
set_option maxRecDepth 100000 in
theorem g9 : Cond.selects RX3 yX3_operandOf yX3_operandOf ∈ gT := gW 9 rfl rfl
theorem vX3_147 : vOk RX3 mX3_operandOf 147 1 3 := ⟨⟨g626, rfl⟩, g67, g623, g625, g9, dkX3_operandOf, _, rfl, rfl⟩
set_option maxRecDepth 100000 in
theorem g630 : Cond.code yX3_numberOf cX3_numberOf 2 (some .int) ∈ gT := gW 630 rfl rfl
set_option maxRecDepth 100000 in
theorem g627 : Cond.methodLink RX3 173 yX3_numberOf ∈ gT := gW 627 rfl rfl
theorem dkX3_numberOf : dOk mX3_numberOf 1 := by unfold dOk; decide +kernel
set_option maxRecDepth 100000 in
theorem g629 : Cond.instanceMethod yX3_numberOf ∈ gT := gW 629 rfl rfl
set_option maxRecDepth 100000 in
theorem g10 : Cond.selects RX3 yX3_numberOf yX3_numberOf ∈ gT := gW 10 rfl rfl
theorem vX3_173 : vOk RX3 mX3_numberOf 173 1 3 := ⟨⟨g630, rfl⟩, g67, g627, g629, g10, dkX3_numberOf, _, rfl, rfl⟩
set_option maxRecDepth 100000 in
theorem g634 : Cond.code yX3_answer cX3_answer 2 (some .int) ∈ gT := gW 634 rfl rfl
set_option maxRecDepth 100000 in
theorem g631 : Cond.methodLink RX3 150 yX3_answer ∈ gT := gW 631 rfl rfl
theorem dkX3_answer : dOk mX3_answer 1 := by unfold dOk; decide +kernel
set_option maxRecDepth 100000 in
theorem g633 : Cond.instanceMethod yX3_answer ∈ gT := gW 633 rfl rfl
set_option maxRecDepth 100000 in
theorem g11 : Cond.selects RX3 yX3_answer yX3_answer ∈ gT := gW 11 rfl rfl
theorem vX3_150 : vOk RX3 mX3_answer 150 1 3 := ⟨⟨g634, rfl⟩, g67, g631, g633, g11, dkX3_answer, _, rfl, rfl⟩
set_option maxRecDepth 100000 in
theorem g638 : Cond.code yX5_push cX5_push 5 (some .boolean) ∈ gT := gW 638 rfl rfl
set_option maxRecDepth 100000 in
theorem g635 : Cond.methodLink RX3 203 yX5_push ∈ gT := gW 635 rfl rfl
theorem dkX5_push : dOk mX5_push 4 := by unfold dOk; decide +kernel
set_option maxRecDepth 100000 in
theorem g636 : Cond.instanceMethod yX5_push ∈ gT := gW 636 rfl rfl
set_option maxRecDepth 100000 in
theorem g637 : Cond.selects RX5 yX5_push yX5_push ∈ gT := gW 637 rfl rfl
theorem vX3_203 : vOk RX3 mX5_push 203 4 5 := ⟨⟨g638, rfl⟩, g68, g635, g636, g637, dkX5_push, _, rfl, rfl⟩
set_option maxRecDepth 100000 in
theorem g642 : Cond.code yX3_performWrite cX3_performWrite 3 (some .int) ∈ gT := gW 642 rfl rfl
set_option maxRecDepth 100000 in
theorem g639 : Cond.methodLink RX3 152 yX3_performWrite ∈ gT := gW 639 rfl rfl
theorem dkX3_performWrite : dOk mX3_performWrite 1 := by unfold dOk; decide +kernel
set_option maxRecDepth 100000 in
theorem g641 : Cond.instanceMethod yX3_performWrite ∈ gT := gW 641 rfl rfl
set_option maxRecDepth 100000 in
theorem g12 : Cond.selects RX3 yX3_performWrite yX3_performWrite ∈ gT := gW 12 rfl rfl
theorem vX3_152 : vOk RX3 mX3_performWrite 152 1 3 := ⟨⟨g642, rfl⟩, g67, g639, g641, g12, dkX3_performWrite, _, rfl, rfl⟩
set_option maxRecDepth 100000 in
theorem g646 : Cond.code yX3_performSay cX3_performSay 3 (some .int) ∈ gT := gW 646 rfl rfl
set_option maxRecDepth 100000 in
theorem g643 : Cond.methodLink RX3 155 yX3_performSay ∈ gT := gW 643 rfl rfl
theorem dkX3_performSay : dOk mX3_performSay 1 := by unfold dOk; decide +kernel
set_option maxRecDepth 100000 in
theorem g645 : Cond.instanceMethod yX3_performSay ∈ gT := gW 645 rfl rfl
set_option maxRecDepth 100000 in
theorem g13 : Cond.selects RX3 yX3_performSay yX3_performSay ∈ gT := gW 13 rfl rfl
theorem vX3_155 : vOk RX3 mX3_performSay 155 1 3 := ⟨⟨g646, rfl⟩, g67, g643, g645, g13, dkX3_performSay, _, rfl, rfl⟩
set_option maxRecDepth 100000 in
theorem g650 : Cond.code yX2_with cX2_with 4 (some .int) ∈ gT := gW 650 rfl rfl
set_option maxRecDepth 100000 in
theorem g647 : Cond.methodLink RX3 207 yX2_with ∈ gT := gW 647 rfl rfl
theorem dkX2_with : dOk mX2_with 2 := by unfold dOk; decide +kernel
set_option maxRecDepth 100000 in
theorem g648 : Cond.instanceMethod yX2_with ∈ gT := gW 648 rfl rfl
set_option maxRecDepth 100000 in
theorem g649 : Cond.selects RX2 yX2_with yX2_with ∈ gT := gW 649 rfl rfl
theorem vX3_207 : vOk RX3 mX2_with 207 2 2 := ⟨⟨g650, rfl⟩, g69, g647, g648, g649, dkX2_with, _, rfl, rfl⟩
set_option maxRecDepth 100000 in
theorem g654 : Cond.code yX2_lengthOf cX2_lengthOf 2 (some .int) ∈ gT := gW 654 rfl rfl
set_option maxRecDepth 100000 in
theorem g651 : Cond.methodLink RX2 29 yX2_lengthOf ∈ gT := gW 651 rfl rfl
theorem dkX2_lengthOf : dOk mX2_lengthOf 1 := by unfold dOk; decide +kernel
set_option maxRecDepth 100000 in
theorem g652 : Cond.instanceMethod yX2_lengthOf ∈ gT := gW 652 rfl rfl
set_option maxRecDepth 100000 in
theorem g653 : Cond.selects RX2 yX2_lengthOf yX2_lengthOf ∈ gT := gW 653 rfl rfl
theorem vX2_29 : vOk RX2 mX2_lengthOf 29 1 2 := ⟨⟨g654, rfl⟩, g69, g651, g652, g653, dkX2_lengthOf, _, rfl, rfl⟩
set_option maxRecDepth 100000 in
theorem g658 : Cond.code yX2_has cX2_has 2 (some .boolean) ∈ gT := gW 658 rfl rfl
set_option maxRecDepth 100000 in
theorem g655 : Cond.methodLink RX2 25 yX2_has ∈ gT := gW 655 rfl rfl
theorem dkX2_has : dOk mX2_has 1 := by unfold dOk; decide +kernel
set_option maxRecDepth 100000 in
theorem g657 : Cond.instanceMethod yX2_has ∈ gT := gW 657 rfl rfl
set_option maxRecDepth 100000 in
theorem g14 : Cond.selects RX2 yX2_has yX2_has ∈ gT := gW 14 rfl rfl
theorem vX2_25 : vOk RX2 mX2_has 25 1 2 := ⟨⟨g658, rfl⟩, g69, g655, g657, g14, dkX2_has, _, rfl, rfl⟩
set_option maxRecDepth 100000 in
theorem g662 : Cond.code yX3_performFail cX3_performFail 2 (some .int) ∈ gT := gW 662 rfl rfl
set_option maxRecDepth 100000 in
theorem g659 : Cond.methodLink RX3 158 yX3_performFail ∈ gT := gW 659 rfl rfl
theorem dkX3_performFail : dOk mX3_performFail 1 := by unfold dOk; decide +kernel
set_option maxRecDepth 100000 in
theorem g661 : Cond.instanceMethod yX3_performFail ∈ gT := gW 661 rfl rfl
set_option maxRecDepth 100000 in
theorem g15 : Cond.selects RX3 yX3_performFail yX3_performFail ∈ gT := gW 15 rfl rfl
theorem vX3_158 : vOk RX3 mX3_performFail 158 1 3 := ⟨⟨g662, rfl⟩, g67, g659, g661, g15, dkX3_performFail, _, rfl, rfl⟩
set_option maxRecDepth 100000 in
theorem g666 : Cond.code yX3_performEither cX3_performEither 6 (some .int) ∈ gT := gW 666 rfl rfl
set_option maxRecDepth 100000 in
theorem g663 : Cond.methodLink RX3 161 yX3_performEither ∈ gT := gW 663 rfl rfl
theorem dkX3_performEither : dOk mX3_performEither 1 := by unfold dOk; decide +kernel
set_option maxRecDepth 100000 in
theorem g665 : Cond.instanceMethod yX3_performEither ∈ gT := gW 665 rfl rfl
set_option maxRecDepth 100000 in
theorem g16 : Cond.selects RX3 yX3_performEither yX3_performEither ∈ gT := gW 16 rfl rfl
theorem vX3_161 : vOk RX3 mX3_performEither 161 1 3 := ⟨⟨g666, rfl⟩, g67, g663, g665, g16, dkX3_performEither, _, rfl, rfl⟩
set_option maxRecDepth 100000 in
theorem g670 : Cond.code yX5_size cX5_size 1 (some .int) ∈ gT := gW 670 rfl rfl
set_option maxRecDepth 100000 in
theorem g667 : Cond.methodLink RX3 52 yX5_size ∈ gT := gW 667 rfl rfl
theorem dkX5_size : dOk mX5_size 0 := by unfold dOk; decide +kernel
set_option maxRecDepth 100000 in
theorem g668 : Cond.instanceMethod yX5_size ∈ gT := gW 668 rfl rfl
set_option maxRecDepth 100000 in
theorem g669 : Cond.selects RX5 yX5_size yX5_size ∈ gT := gW 669 rfl rfl
theorem vX3_52 : vOk RX3 mX5_size 52 0 5 := ⟨⟨g670, rfl⟩, g68, g667, g668, g669, dkX5_size, _, rfl, rfl⟩
set_option maxRecDepth 100000 in
theorem g674 : Cond.code yX3_takeOwn cX3_takeOwn 3 none ∈ gT := gW 674 rfl rfl
set_option maxRecDepth 100000 in
theorem g671 : Cond.methodLink RX3 214 yX3_takeOwn ∈ gT := gW 671 rfl rfl
theorem dkX3_takeOwn : dOk mX3_takeOwn 2 := by unfold dOk; decide +kernel
set_option maxRecDepth 100000 in
theorem g673 : Cond.instanceMethod yX3_takeOwn ∈ gT := gW 673 rfl rfl
set_option maxRecDepth 100000 in
theorem g17 : Cond.selects RX3 yX3_takeOwn yX3_takeOwn ∈ gT := gW 17 rfl rfl
theorem vX3_214 : vOk RX3 mX3_takeOwn 214 2 3 := ⟨⟨g674, rfl⟩, g67, g671, g673, g17, dkX3_takeOwn, _, rfl, rfl⟩
set_option maxRecDepth 100000 in
theorem g678 : Cond.code yX3_isTooMany cX3_isTooMany 2 (some .boolean) ∈ gT := gW 678 rfl rfl
set_option maxRecDepth 100000 in
theorem g675 : Cond.methodLink RX3 217 yX3_isTooMany ∈ gT := gW 675 rfl rfl
theorem dkX3_isTooMany : dOk mX3_isTooMany 1 := by unfold dOk; decide +kernel
set_option maxRecDepth 100000 in
theorem g677 : Cond.instanceMethod yX3_isTooMany ∈ gT := gW 677 rfl rfl
set_option maxRecDepth 100000 in
theorem g18 : Cond.selects RX3 yX3_isTooMany yX3_isTooMany ∈ gT := gW 18 rfl rfl
theorem vX3_217 : vOk RX3 mX3_isTooMany 217 1 3 := ⟨⟨g678, rfl⟩, g67, g675, g677, g18, dkX3_isTooMany, _, rfl, rfl⟩
set_option maxRecDepth 100000 in
theorem g682 : Cond.code yX3_performThen cX3_performThen 4 (some .int) ∈ gT := gW 682 rfl rfl
set_option maxRecDepth 100000 in
theorem g679 : Cond.methodLink RX3 164 yX3_performThen ∈ gT := gW 679 rfl rfl
theorem dkX3_performThen : dOk mX3_performThen 1 := by unfold dOk; decide +kernel
set_option maxRecDepth 100000 in
theorem g681 : Cond.instanceMethod yX3_performThen ∈ gT := gW 681 rfl rfl
set_option maxRecDepth 100000 in
theorem g19 : Cond.selects RX3 yX3_performThen yX3_performThen ∈ gT := gW 19 rfl rfl
theorem vX3_164 : vOk RX3 mX3_performThen 164 1 3 := ⟨⟨g682, rfl⟩, g67, g679, g681, g19, dkX3_performThen, _, rfl, rfl⟩
set_option maxRecDepth 100000 in
theorem g686 : Cond.code yX3_performEach cX3_performEach 8 (some .int) ∈ gT := gW 686 rfl rfl
set_option maxRecDepth 100000 in
theorem g683 : Cond.methodLink RX3 220 yX3_performEach ∈ gT := gW 683 rfl rfl
theorem dkX3_performEach : dOk mX3_performEach 4 := by unfold dOk; decide +kernel
set_option maxRecDepth 100000 in
theorem g685 : Cond.instanceMethod yX3_performEach ∈ gT := gW 685 rfl rfl
set_option maxRecDepth 100000 in
theorem g20 : Cond.selects RX3 yX3_performEach yX3_performEach ∈ gT := gW 20 rfl rfl
theorem vX3_220 : vOk RX3 mX3_performEach 220 4 3 := ⟨⟨g686, rfl⟩, g67, g683, g685, g20, dkX3_performEach, _, rfl, rfl⟩
set_option maxRecDepth 100000 in
theorem g690 : Cond.code yX5_isError cX5_isError 2 (some .boolean) ∈ gT := gW 690 rfl rfl
set_option maxRecDepth 100000 in
theorem g687 : Cond.methodLink RX3 122 yX5_isError ∈ gT := gW 687 rfl rfl
theorem dkX5_isError : dOk mX5_isError 1 := by unfold dOk; decide +kernel
set_option maxRecDepth 100000 in
theorem g688 : Cond.instanceMethod yX5_isError ∈ gT := gW 688 rfl rfl
set_option maxRecDepth 100000 in
theorem g689 : Cond.selects RX5 yX5_isError yX5_isError ∈ gT := gW 689 rfl rfl
theorem vX3_122 : vOk RX3 mX5_isError 122 1 5 := ⟨⟨g690, rfl⟩, g68, g687, g688, g689, dkX5_isError, _, rfl, rfl⟩
set_option maxRecDepth 100000 in
theorem g694 : Cond.code yX5_has cX5_has 2 (some .boolean) ∈ gT := gW 694 rfl rfl
set_option maxRecDepth 100000 in
theorem g691 : Cond.methodLink RX5 29 yX5_has ∈ gT := gW 691 rfl rfl
theorem dkX5_has : dOk mX5_has 1 := by unfold dOk; decide +kernel
set_option maxRecDepth 100000 in
theorem g693 : Cond.instanceMethod yX5_has ∈ gT := gW 693 rfl rfl
set_option maxRecDepth 100000 in
theorem g21 : Cond.selects RX5 yX5_has yX5_has ∈ gT := gW 21 rfl rfl
theorem vX5_29 : vOk RX5 mX5_has 29 1 5 := ⟨⟨g694, rfl⟩, g68, g691, g693, g21, dkX5_has, _, rfl, rfl⟩
set_option maxRecDepth 100000 in
theorem g698 : Cond.code yX5_stateOf cX5_stateOf 2 (some .int) ∈ gT := gW 698 rfl rfl
set_option maxRecDepth 100000 in
theorem g695 : Cond.methodLink RX3 133 yX5_stateOf ∈ gT := gW 695 rfl rfl
theorem dkX5_stateOf : dOk mX5_stateOf 1 := by unfold dOk; decide +kernel
set_option maxRecDepth 100000 in
theorem g696 : Cond.instanceMethod yX5_stateOf ∈ gT := gW 696 rfl rfl
set_option maxRecDepth 100000 in
theorem g697 : Cond.selects RX5 yX5_stateOf yX5_stateOf ∈ gT := gW 697 rfl rfl
theorem vX3_133 : vOk RX3 mX5_stateOf 133 1 5 := ⟨⟨g698, rfl⟩, g68, g695, g696, g697, dkX5_stateOf, _, rfl, rfl⟩
set_option maxRecDepth 100000 in
theorem g702 : Cond.code yX5_logOf cX5_logOf 2 (some .int) ∈ gT := gW 702 rfl rfl
set_option maxRecDepth 100000 in
theorem g699 : Cond.methodLink RX3 139 yX5_logOf ∈ gT := gW 699 rfl rfl
theorem dkX5_logOf : dOk mX5_logOf 1 := by unfold dOk; decide +kernel
set_option maxRecDepth 100000 in
theorem g700 : Cond.instanceMethod yX5_logOf ∈ gT := gW 700 rfl rfl
set_option maxRecDepth 100000 in
theorem g701 : Cond.selects RX5 yX5_logOf yX5_logOf ∈ gT := gW 701 rfl rfl
theorem vX3_139 : vOk RX3 mX5_logOf 139 1 5 := ⟨⟨g702, rfl⟩, g68, g699, g700, g701, dkX5_logOf, _, rfl, rfl⟩
set_option maxRecDepth 100000 in
theorem g706 : Cond.code yX5_numberOf cX5_numberOf 2 (some .int) ∈ gT := gW 706 rfl rfl
set_option maxRecDepth 100000 in
theorem g703 : Cond.methodLink RX3 126 yX5_numberOf ∈ gT := gW 703 rfl rfl
theorem dkX5_numberOf : dOk mX5_numberOf 1 := by unfold dOk; decide +kernel
set_option maxRecDepth 100000 in
theorem g704 : Cond.instanceMethod yX5_numberOf ∈ gT := gW 704 rfl rfl
set_option maxRecDepth 100000 in
theorem g705 : Cond.selects RX5 yX5_numberOf yX5_numberOf ∈ gT := gW 705 rfl rfl
theorem vX3_126 : vOk RX3 mX5_numberOf 126 1 5 := ⟨⟨g706, rfl⟩, g68, g703, g704, g705, dkX5_numberOf, _, rfl, rfl⟩
set_option maxRecDepth 100000 in
theorem g710 : Cond.code yX3_performNaming cX3_performNaming 6 (some .int) ∈ gT := gW 710 rfl rfl
set_option maxRecDepth 100000 in
theorem g707 : Cond.methodLink RX3 224 yX3_performNaming ∈ gT := gW 707 rfl rfl
theorem dkX3_performNaming : dOk mX3_performNaming 3 := by unfold dOk; decide +kernel
set_option maxRecDepth 100000 in
theorem g709 : Cond.instanceMethod yX3_performNaming ∈ gT := gW 709 rfl rfl
set_option maxRecDepth 100000 in
theorem g22 : Cond.selects RX3 yX3_performNaming yX3_performNaming ∈ gT := gW 22 rfl rfl
theorem vX3_224 : vOk RX3 mX3_performNaming 224 3 3 := ⟨⟨g710, rfl⟩, g67, g707, g709, g22, dkX3_performNaming, _, rfl, rfl⟩
set_option maxRecDepth 100000 in
theorem g714 : Cond.code yX5_pushAgain cX5_pushAgain 2 (some .boolean) ∈ gT := gW 714 rfl rfl
set_option maxRecDepth 100000 in
theorem g711 : Cond.methodLink RX3 246 yX5_pushAgain ∈ gT := gW 711 rfl rfl
theorem dkX5_pushAgain : dOk mX5_pushAgain 1 := by unfold dOk; decide +kernel
set_option maxRecDepth 100000 in
theorem g712 : Cond.instanceMethod yX5_pushAgain ∈ gT := gW 712 rfl rfl
set_option maxRecDepth 100000 in
theorem g713 : Cond.selects RX5 yX5_pushAgain yX5_pushAgain ∈ gT := gW 713 rfl rfl
theorem vX3_246 : vOk RX3 mX5_pushAgain 246 1 5 := ⟨⟨g714, rfl⟩, g68, g711, g712, g713, dkX5_pushAgain, _, rfl, rfl⟩
set_option maxRecDepth 100000 in
theorem g715 : Cond.methodLink RX5 35 yX5_numberOf ∈ gT := gW 715 rfl rfl
theorem vX5_35 : vOk RX5 mX5_numberOf 35 1 5 := ⟨⟨g706, rfl⟩, g68, g715, g704, g705, dkX5_numberOf, _, rfl, rfl⟩
set_option maxRecDepth 100000 in
theorem g716 : Cond.methodLink RX5 39 yX5_isError ∈ gT := gW 716 rfl rfl
theorem vX5_39 : vOk RX5 mX5_isError 39 1 5 := ⟨⟨g690, rfl⟩, g68, g716, g688, g689, dkX5_isError, _, rfl, rfl⟩
set_option maxRecDepth 100000 in
theorem g717 : Cond.methodLink RX5 42 yX5_stateOf ∈ gT := gW 717 rfl rfl
theorem vX5_42 : vOk RX5 mX5_stateOf 42 1 5 := ⟨⟨g698, rfl⟩, g68, g717, g696, g697, dkX5_stateOf, _, rfl, rfl⟩
set_option maxRecDepth 100000 in
theorem g718 : Cond.methodLink RX5 45 yX5_logOf ∈ gT := gW 718 rfl rfl
theorem vX5_45 : vOk RX5 mX5_logOf 45 1 5 := ⟨⟨g702, rfl⟩, g68, g718, g700, g701, dkX5_logOf, _, rfl, rfl⟩
set_option maxRecDepth 100000 in
theorem g719 : Cond.methodLink RX5 48 yX5_push ∈ gT := gW 719 rfl rfl
theorem vX5_48 : vOk RX5 mX5_push 48 4 5 := ⟨⟨g638, rfl⟩, g68, g719, g636, g637, dkX5_push, _, rfl, rfl⟩
set_option maxRecDepth 100000 in
theorem g723 : Cond.code yX5_closeGap cX5_closeGap 5 none ∈ gT := gW 723 rfl rfl
set_option maxRecDepth 100000 in
theorem g720 : Cond.methodLink RX3 249 yX5_closeGap ∈ gT := gW 720 rfl rfl
theorem dkX5_closeGap : dOk mX5_closeGap 2 := by unfold dOk; decide +kernel
set_option maxRecDepth 100000 in
theorem g721 : Cond.instanceMethod yX5_closeGap ∈ gT := gW 721 rfl rfl
set_option maxRecDepth 100000 in
theorem g722 : Cond.selects RX5 yX5_closeGap yX5_closeGap ∈ gT := gW 722 rfl rfl
theorem vX3_249 : vOk RX3 mX5_closeGap 249 2 5 := ⟨⟨g723, rfl⟩, g68, g720, g721, g722, dkX5_closeGap, _, rfl, rfl⟩
set_option maxRecDepth 100000 in
theorem g726 : Cond.code yJ9_min_7cf53 cJ9_min_7cf53 2 (some .int) ∈ gT := gW 726 rfl rfl
set_option maxRecDepth 100000 in
theorem g724 : Cond.methodLink RX5 52 yJ9_min_7cf53 ∈ gT := gW 724 rfl rfl
theorem dkJ9_min_7cf53 : dOk mJ9_min_7cf53 2 := by unfold dOk; decide +kernel
set_option maxRecDepth 100000 in
theorem g725 : Cond.static yJ9_min_7cf53 ∈ gT := gW 725 rfl rfl
theorem sX5_52 : sOk RX5 mJ9_min_7cf53 52 2 := ⟨⟨g726, rfl⟩, g79, g724, g725, dkJ9_min_7cf53⟩
set_option maxRecDepth 100000 in
theorem g727 : Cond.methodLink RX5 58 yX5_cutTo ∈ gT := gW 727 rfl rfl
theorem vX5_58 : vOk RX5 mX5_cutTo 58 1 5 := ⟨⟨g618, rfl⟩, g68, g727, g616, g617, dkX5_cutTo, _, rfl, rfl⟩
set_option maxRecDepth 100000 in
theorem g728 : Cond.methodLink RX5 62 yJ9_max_7cf53 ∈ gT := gW 728 rfl rfl
theorem sX5_62 : sOk RX5 mJ9_max_7cf53 62 2 := ⟨⟨g376, rfl⟩, g79, g728, g375, dkJ9_max_7cf53⟩
set_option maxRecDepth 100000 in
theorem g732 : Cond.code yX3_performSaved cX3_performSaved 8 (some .int) ∈ gT := gW 732 rfl rfl
set_option maxRecDepth 100000 in
theorem g729 : Cond.methodLink RX3 167 yX3_performSaved ∈ gT := gW 729 rfl rfl
theorem dkX3_performSaved : dOk mX3_performSaved 1 := by unfold dOk; decide +kernel
set_option maxRecDepth 100000 in
theorem g731 : Cond.instanceMethod yX3_performSaved ∈ gT := gW 731 rfl rfl
set_option maxRecDepth 100000 in
theorem g23 : Cond.selects RX3 yX3_performSaved yX3_performSaved ∈ gT := gW 23 rfl rfl
theorem vX3_167 : vOk RX3 mX3_performSaved 167 1 3 := ⟨⟨g732, rfl⟩, g67, g729, g731, g23, dkX3_performSaved, _, rfl, rfl⟩
set_option maxRecDepth 100000 in
theorem g736 : Cond.code yX5_setState cX5_setState 3 none ∈ gT := gW 736 rfl rfl
set_option maxRecDepth 100000 in
theorem g733 : Cond.methodLink RX3 228 yX5_setState ∈ gT := gW 733 rfl rfl
theorem dkX5_setState : dOk mX5_setState 2 := by unfold dOk; decide +kernel
set_option maxRecDepth 100000 in
theorem g734 : Cond.instanceMethod yX5_setState ∈ gT := gW 734 rfl rfl
set_option maxRecDepth 100000 in
theorem g735 : Cond.selects RX5 yX5_setState yX5_setState ∈ gT := gW 735 rfl rfl
theorem vX3_228 : vOk RX3 mX5_setState 228 2 5 := ⟨⟨g736, rfl⟩, g68, g733, g734, g735, dkX5_setState, _, rfl, rfl⟩
set_option maxRecDepth 100000 in
theorem g740 : Cond.code yX5_setLog cX5_setLog 3 none ∈ gT := gW 740 rfl rfl
set_option maxRecDepth 100000 in
theorem g737 : Cond.methodLink RX3 230 yX5_setLog ∈ gT := gW 737 rfl rfl
theorem dkX5_setLog : dOk mX5_setLog 2 := by unfold dOk; decide +kernel
set_option maxRecDepth 100000 in
theorem g738 : Cond.instanceMethod yX5_setLog ∈ gT := gW 738 rfl rfl
set_option maxRecDepth 100000 in
theorem g739 : Cond.selects RX5 yX5_setLog yX5_setLog ∈ gT := gW 739 rfl rfl
theorem vX3_230 : vOk RX3 mX5_setLog 230 2 5 := ⟨⟨g740, rfl⟩, g68, g737, g738, g739, dkX5_setLog, _, rfl, rfl⟩
set_option maxRecDepth 100000 in
theorem g744 : Cond.code yX3_performTimes cX3_performTimes 6 (some .int) ∈ gT := gW 744 rfl rfl
set_option maxRecDepth 100000 in
theorem g741 : Cond.methodLink RX3 181 yX3_performTimes ∈ gT := gW 741 rfl rfl
theorem dkX3_performTimes : dOk mX3_performTimes 1 := by unfold dOk; decide +kernel
set_option maxRecDepth 100000 in
theorem g743 : Cond.instanceMethod yX3_performTimes ∈ gT := gW 743 rfl rfl
set_option maxRecDepth 100000 in
theorem g24 : Cond.selects RX3 yX3_performTimes yX3_performTimes ∈ gT := gW 24 rfl rfl
theorem vX3_181 : vOk RX3 mX3_performTimes 181 1 3 := ⟨⟨g744, rfl⟩, g67, g741, g743, g24, dkX3_performTimes, _, rfl, rfl⟩
set_option maxRecDepth 100000 in
theorem g745 : Cond.methodLink RX3 232 yJ9_min_7cf53 ∈ gT := gW 745 rfl rfl
theorem sX3_232 : sOk RX3 mJ9_min_7cf53 232 2 := ⟨⟨g726, rfl⟩, g79, g745, g725, dkJ9_min_7cf53⟩
set_option maxRecDepth 100000 in
theorem g746 : Cond.methodLink RX3 237 yJ9_max_7cf53 ∈ gT := gW 746 rfl rfl
theorem sX3_237 : sOk RX3 mJ9_max_7cf53 237 2 := ⟨⟨g376, rfl⟩, g79, g746, g375, dkJ9_max_7cf53⟩
set_option maxRecDepth 100000 in
theorem g750 : Cond.code yX3_performOnce cX3_performOnce 4 (some .int) ∈ gT := gW 750 rfl rfl
set_option maxRecDepth 100000 in
theorem g747 : Cond.methodLink RX3 184 yX3_performOnce ∈ gT := gW 747 rfl rfl
theorem dkX3_performOnce : dOk mX3_performOnce 1 := by unfold dOk; decide +kernel
set_option maxRecDepth 100000 in
theorem g749 : Cond.instanceMethod yX3_performOnce ∈ gT := gW 749 rfl rfl
set_option maxRecDepth 100000 in
theorem g25 : Cond.selects RX3 yX3_performOnce yX3_performOnce ∈ gT := gW 25 rfl rfl
theorem vX3_184 : vOk RX3 mX3_performOnce 184 1 3 := ⟨⟨g750, rfl⟩, g67, g747, g749, g25, dkX3_performOnce, _, rfl, rfl⟩
set_option maxRecDepth 100000 in
theorem g754 : Cond.code yX3_performHeard cX3_performHeard 8 (some .int) ∈ gT := gW 754 rfl rfl
set_option maxRecDepth 100000 in
theorem g751 : Cond.methodLink RX3 187 yX3_performHeard ∈ gT := gW 751 rfl rfl
theorem dkX3_performHeard : dOk mX3_performHeard 1 := by unfold dOk; decide +kernel
set_option maxRecDepth 100000 in
theorem g753 : Cond.instanceMethod yX3_performHeard ∈ gT := gW 753 rfl rfl
set_option maxRecDepth 100000 in
theorem g26 : Cond.selects RX3 yX3_performHeard yX3_performHeard ∈ gT := gW 26 rfl rfl
theorem vX3_187 : vOk RX3 mX3_performHeard 187 1 3 := ⟨⟨g754, rfl⟩, g67, g751, g753, g26, dkX3_performHeard, _, rfl, rfl⟩
set_option maxRecDepth 100000 in
theorem g755 : Cond.methodLink RX3 240 yX2_lengthOf ∈ gT := gW 755 rfl rfl
theorem vX3_240 : vOk RX3 mX2_lengthOf 240 1 2 := ⟨⟨g654, rfl⟩, g69, g755, g652, g653, dkX2_lengthOf, _, rfl, rfl⟩
set_option maxRecDepth 100000 in
theorem g759 : Cond.code yX5_setNumber cX5_setNumber 3 none ∈ gT := gW 759 rfl rfl
set_option maxRecDepth 100000 in
theorem g756 : Cond.methodLink RX3 243 yX5_setNumber ∈ gT := gW 756 rfl rfl
theorem dkX5_setNumber : dOk mX5_setNumber 2 := by unfold dOk; decide +kernel
set_option maxRecDepth 100000 in
theorem g757 : Cond.instanceMethod yX5_setNumber ∈ gT := gW 757 rfl rfl
set_option maxRecDepth 100000 in
theorem g758 : Cond.selects RX5 yX5_setNumber yX5_setNumber ∈ gT := gW 758 rfl rfl
theorem vX3_243 : vOk RX3 mX5_setNumber 243 2 5 := ⟨⟨g759, rfl⟩, g68, g756, g757, g758, dkX5_setNumber, _, rfl, rfl⟩
set_option maxRecDepth 100000 in
theorem g763 : Cond.code yX3_performHidden cX3_performHidden 7 (some .int) ∈ gT := gW 763 rfl rfl
set_option maxRecDepth 100000 in
theorem g760 : Cond.methodLink RX3 190 yX3_performHidden ∈ gT := gW 760 rfl rfl
theorem dkX3_performHidden : dOk mX3_performHidden 1 := by unfold dOk; decide +kernel
set_option maxRecDepth 100000 in
theorem g762 : Cond.instanceMethod yX3_performHidden ∈ gT := gW 762 rfl rfl
set_option maxRecDepth 100000 in
theorem g27 : Cond.selects RX3 yX3_performHidden yX3_performHidden ∈ gT := gW 27 rfl rfl
theorem vX3_190 : vOk RX3 mX3_performHidden 190 1 3 := ⟨⟨g763, rfl⟩, g67, g760, g762, g27, dkX3_performHidden, _, rfl, rfl⟩
set_option maxRecDepth 100000 in
theorem g766 : Cond.code yX3_reckon cX3_reckon 3 (some .int) ∈ gT := gW 766 rfl rfl
set_option maxRecDepth 100000 in
theorem g764 : Cond.methodLink RX3 193 yX3_reckon ∈ gT := gW 764 rfl rfl
theorem dkX3_reckon : dOk mX3_reckon 3 := by unfold dOk; decide +kernel
set_option maxRecDepth 100000 in
theorem g765 : Cond.static yX3_reckon ∈ gT := gW 765 rfl rfl
theorem sX3_193 : sOk RX3 mX3_reckon 193 3 := ⟨⟨g766, rfl⟩, g67, g764, g765, dkX3_reckon⟩
set_option maxRecDepth 100000 in
theorem g770 : Cond.code yX3_tell cX3_tell 3 none ∈ gT := gW 770 rfl rfl
set_option maxRecDepth 100000 in
theorem g767 : Cond.methodLink RX3 61 yX3_tell ∈ gT := gW 767 rfl rfl
theorem dkX3_tell : dOk mX3_tell 1 := by unfold dOk; decide +kernel
set_option maxRecDepth 100000 in
theorem g769 : Cond.instanceMethod yX3_tell ∈ gT := gW 769 rfl rfl
set_option maxRecDepth 100000 in
theorem g28 : Cond.selects RX3 yX3_tell yX3_tell ∈ gT := gW 28 rfl rfl
theorem vX3_61 : vOk RX3 mX3_tell 61 1 3 := ⟨⟨g770, rfl⟩, g67, g767, g769, g28, dkX3_tell, _, rfl, rfl⟩
set_option maxRecDepth 100000 in
theorem g774 : Cond.code yX3_tellCommon cX3_tellCommon 3 none ∈ gT := gW 774 rfl rfl
set_option maxRecDepth 100000 in
theorem g771 : Cond.methodLink RX3 83 yX3_tellCommon ∈ gT := gW 771 rfl rfl
theorem dkX3_tellCommon : dOk mX3_tellCommon 2 := by unfold dOk; decide +kernel
set_option maxRecDepth 100000 in
theorem g773 : Cond.instanceMethod yX3_tellCommon ∈ gT := gW 773 rfl rfl
set_option maxRecDepth 100000 in
theorem g29 : Cond.selects RX3 yX3_tellCommon yX3_tellCommon ∈ gT := gW 29 rfl rfl
theorem vX3_83 : vOk RX3 mX3_tellCommon 83 2 3 := ⟨⟨g774, rfl⟩, g67, g771, g773, g29, dkX3_tellCommon, _, rfl, rfl⟩
set_option maxRecDepth 100000 in
theorem g778 : Cond.code yX6_setHead cX6_setHead 3 none ∈ gT := gW 778 rfl rfl
set_option maxRecDepth 100000 in
theorem g72 : Cond.initialized RX6 ∈ gT := gW 72 rfl rfl
set_option maxRecDepth 100000 in
theorem g775 : Cond.methodLink RX3 95 yX6_setHead ∈ gT := gW 775 rfl rfl
theorem dkX6_setHead : dOk mX6_setHead 2 := by unfold dOk; decide +kernel
set_option maxRecDepth 100000 in
theorem g776 : Cond.instanceMethod yX6_setHead ∈ gT := gW 776 rfl rfl
set_option maxRecDepth 100000 in
theorem g777 : Cond.selects RX6 yX6_setHead yX6_setHead ∈ gT := gW 777 rfl rfl
theorem vX3_95 : vOk RX3 mX6_setHead 95 2 6 := ⟨⟨g778, rfl⟩, g72, g775, g776, g777, dkX6_setHead, _, rfl, rfl⟩
set_option maxRecDepth 100000 in
theorem g782 : Cond.code yX6_setState cX6_setState 3 none ∈ gT := gW 782 rfl rfl
set_option maxRecDepth 100000 in
theorem g779 : Cond.methodLink RX3 108 yX6_setState ∈ gT := gW 779 rfl rfl
theorem dkX6_setState : dOk mX6_setState 2 := by unfold dOk; decide +kernel
set_option maxRecDepth 100000 in
theorem g780 : Cond.instanceMethod yX6_setState ∈ gT := gW 780 rfl rfl
set_option maxRecDepth 100000 in
theorem g781 : Cond.selects RX6 yX6_setState yX6_setState ∈ gT := gW 781 rfl rfl
theorem vX3_108 : vOk RX3 mX6_setState 108 2 6 := ⟨⟨g782, rfl⟩, g72, g779, g780, g781, dkX6_setState, _, rfl, rfl⟩
set_option maxRecDepth 100000 in
theorem g786 : Cond.code yX6_setLog cX6_setLog 6 none ∈ gT := gW 786 rfl rfl
set_option maxRecDepth 100000 in
theorem g783 : Cond.methodLink RX3 118 yX6_setLog ∈ gT := gW 783 rfl rfl
theorem dkX6_setLog : dOk mX6_setLog 3 := by unfold dOk; decide +kernel
set_option maxRecDepth 100000 in
theorem g784 : Cond.instanceMethod yX6_setLog ∈ gT := gW 784 rfl rfl
set_option maxRecDepth 100000 in
theorem g785 : Cond.selects RX6 yX6_setLog yX6_setLog ∈ gT := gW 785 rfl rfl
theorem vX3_118 : vOk RX3 mX6_setLog 118 3 6 := ⟨⟨g786, rfl⟩, g72, g783, g784, g785, dkX6_setLog, _, rfl, rfl⟩
set_option maxRecDepth 100000 in
theorem g787 : Cond.methodLink RX6 25 yX2_lengthOf ∈ gT := gW 787 rfl rfl
theorem vX6_25 : vOk RX6 mX2_lengthOf 25 1 2 := ⟨⟨g654, rfl⟩, g69, g787, g652, g653, dkX2_lengthOf, _, rfl, rfl⟩
set_option maxRecDepth 100000 in
theorem g788 : Cond.methodLink RX6 31 yJ9_min_7cf53 ∈ gT := gW 788 rfl rfl
theorem sX6_31 : sOk RX6 mJ9_min_7cf53 31 2 := ⟨⟨g726, rfl⟩, g79, g788, g725, dkJ9_min_7cf53⟩
set_option maxRecDepth 100000 in
theorem g792 : Cond.code yX2_lastOf cX2_lastOf 2 (some .int) ∈ gT := gW 792 rfl rfl
set_option maxRecDepth 100000 in
theorem g789 : Cond.methodLink RX6 34 yX2_lastOf ∈ gT := gW 789 rfl rfl
theorem dkX2_lastOf : dOk mX2_lastOf 1 := by unfold dOk; decide +kernel
set_option maxRecDepth 100000 in
theorem g790 : Cond.instanceMethod yX2_lastOf ∈ gT := gW 790 rfl rfl
set_option maxRecDepth 100000 in
theorem g791 : Cond.selects RX2 yX2_lastOf yX2_lastOf ∈ gT := gW 791 rfl rfl
theorem vX6_34 : vOk RX6 mX2_lastOf 34 1 2 := ⟨⟨g792, rfl⟩, g69, g789, g790, g791, dkX2_lastOf, _, rfl, rfl⟩
set_option maxRecDepth 100000 in
theorem g796 : Cond.code yX2_withoutLast cX2_withoutLast 2 (some .int) ∈ gT := gW 796 rfl rfl
set_option maxRecDepth 100000 in
theorem g793 : Cond.methodLink RX6 37 yX2_withoutLast ∈ gT := gW 793 rfl rfl
theorem dkX2_withoutLast : dOk mX2_withoutLast 1 := by unfold dOk; decide +kernel
set_option maxRecDepth 100000 in
theorem g794 : Cond.instanceMethod yX2_withoutLast ∈ gT := gW 794 rfl rfl
set_option maxRecDepth 100000 in
theorem g795 : Cond.selects RX2 yX2_withoutLast yX2_withoutLast ∈ gT := gW 795 rfl rfl
theorem vX6_37 : vOk RX6 mX2_withoutLast 37 1 2 := ⟨⟨g796, rfl⟩, g69, g793, g794, g795, dkX2_withoutLast, _, rfl, rfl⟩
set_option maxRecDepth 100000 in
theorem g800 : Cond.code yX3_tellResult cX3_tellResult 4 none ∈ gT := gW 800 rfl rfl
set_option maxRecDepth 100000 in
theorem g797 : Cond.methodLink RX3 91 yX3_tellResult ∈ gT := gW 797 rfl rfl
theorem dkX3_tellResult : dOk mX3_tellResult 2 := by unfold dOk; decide +kernel
set_option maxRecDepth 100000 in
theorem g799 : Cond.instanceMethod yX3_tellResult ∈ gT := gW 799 rfl rfl
set_option maxRecDepth 100000 in
theorem g30 : Cond.selects RX3 yX3_tellResult yX3_tellResult ∈ gT := gW 30 rfl rfl
theorem vX3_91 : vOk RX3 mX3_tellResult 91 2 3 := ⟨⟨g800, rfl⟩, g67, g797, g799, g30, dkX3_tellResult, _, rfl, rfl⟩
set_option maxRecDepth 100000 in
theorem g803 : Cond.codeWith yL_result cL_result 5 (some .int) [(0, 10, 13, 13), (0, 10, 17, 21)] ∈ gT := gW 803 rfl rfl
set_option maxRecDepth 100000 in
theorem g801 : Cond.methodLink RL 146 yL_result ∈ gT := gW 801 rfl rfl
theorem dkL_result : dOk mL_result 4 := by unfold dOk; decide +kernel
set_option maxRecDepth 100000 in
theorem g802 : Cond.static yL_result ∈ gT := gW 802 rfl rfl
theorem hL_146 : sHOk RL mL_result 146 4 := ⟨⟨g803, by decide⟩, g65, g801, g802, dkL_result⟩
set_option maxRecDepth 100000 in
theorem g807 : Cond.code yX8_result cX8_result 4 (some .int) ∈ gT := gW 807 rfl rfl
set_option maxRecDepth 100000 in
theorem g804 : Cond.methodLink RL 72 yX8_result ∈ gT := gW 804 rfl rfl
theorem dkX8_result : dOk mX8_result 2 := by unfold dOk; decide +kernel
set_option maxRecDepth 100000 in
theorem g805 : Cond.instanceMethod yX8_result ∈ gT := gW 805 rfl rfl
set_option maxRecDepth 100000 in
theorem g806 : Cond.selects RX8 yX8_result yX8_result ∈ gT := gW 806 rfl rfl
theorem vL_72 : vOk RL mX8_result 72 2 8 := ⟨⟨g807, rfl⟩, g66, g804, g805, g806, dkX8_result, _, rfl, rfl⟩
set_option maxRecDepth 100000 in
theorem g811 : Cond.code yX4_rowOf cX4_rowOf 2 (some (.object "LayeredActs$Row")) ∈ gT := gW 811 rfl rfl
set_option maxRecDepth 100000 in
theorem g808 : Cond.methodLink RX8 109 yX4_rowOf ∈ gT := gW 808 rfl rfl
theorem dkX4_rowOf : dOk mX4_rowOf 1 := by unfold dOk; decide +kernel
set_option maxRecDepth 100000 in
theorem g809 : Cond.instanceMethod yX4_rowOf ∈ gT := gW 809 rfl rfl
set_option maxRecDepth 100000 in
theorem g810 : Cond.selects RX4 yX4_rowOf yX4_rowOf ∈ gT := gW 810 rfl rfl
theorem vX8_109 : vOk RX8 mX4_rowOf 109 1 4 := ⟨⟨g811, rfl⟩, g71, g808, g809, g810, dkX4_rowOf, _, rfl, rfl⟩
set_option maxRecDepth 100000 in
theorem g815 : Cond.code yX8_tellOf cX8_tellOf 2 (some .int) ∈ gT := gW 815 rfl rfl
set_option maxRecDepth 100000 in
theorem g813 : Cond.methodLink RX8 118 yX8_tellOf ∈ gT := gW 813 rfl rfl
theorem dkX8_tellOf : dOk mX8_tellOf 2 := by unfold dOk; decide +kernel
set_option maxRecDepth 100000 in
theorem g814 : Cond.static yX8_tellOf ∈ gT := gW 814 rfl rfl
theorem sX8_118 : sOk RX8 mX8_tellOf 118 2 := ⟨⟨g815, rfl⟩, g66, g813, g814, dkX8_tellOf⟩
set_option maxRecDepth 100000 in
theorem g819 : Cond.code yX6_tells cX6_tells 2 (some .boolean) ∈ gT := gW 819 rfl rfl
set_option maxRecDepth 100000 in
theorem g816 : Cond.methodLink RX8 157 yX6_tells ∈ gT := gW 816 rfl rfl
theorem dkX6_tells : dOk mX6_tells 1 := by unfold dOk; decide +kernel
set_option maxRecDepth 100000 in
theorem g817 : Cond.instanceMethod yX6_tells ∈ gT := gW 817 rfl rfl
set_option maxRecDepth 100000 in
theorem g818 : Cond.selects RX6 yX6_tells yX6_tells ∈ gT := gW 818 rfl rfl
theorem vX8_157 : vOk RX8 mX6_tells 157 1 6 := ⟨⟨g819, rfl⟩, g72, g816, g817, g818, dkX6_tells, _, rfl, rfl⟩
set_option maxRecDepth 100000 in
theorem g820 : Cond.methodLink RX6 15 yJ9_max_7cf53 ∈ gT := gW 820 rfl rfl
theorem sX6_15 : sOk RX6 mJ9_max_7cf53 15 2 := ⟨⟨g376, rfl⟩, g79, g820, g375, dkJ9_max_7cf53⟩
set_option maxRecDepth 100000 in
theorem g825 : Cond.code yX6_at cX6_at 2 (some .int) ∈ gT := gW 825 rfl rfl
set_option maxRecDepth 100000 in
theorem g822 : Cond.methodLink RX8 165 yX6_at ∈ gT := gW 822 rfl rfl
theorem dkX6_at : dOk mX6_at 1 := by unfold dOk; decide +kernel
set_option maxRecDepth 100000 in
theorem g823 : Cond.instanceMethod yX6_at ∈ gT := gW 823 rfl rfl
set_option maxRecDepth 100000 in
theorem g824 : Cond.selects RX6 yX6_at yX6_at ∈ gT := gW 824 rfl rfl
theorem vX8_165 : vOk RX8 mX6_at 165 1 6 := ⟨⟨g825, rfl⟩, g72, g822, g823, g824, dkX6_at, _, rfl, rfl⟩
set_option maxRecDepth 100000 in
theorem g826 : Cond.methodLink RX6 21 yX6_tells ∈ gT := gW 826 rfl rfl
theorem vX6_21 : vOk RX6 mX6_tells 21 1 6 := ⟨⟨g819, rfl⟩, g72, g826, g817, g818, dkX6_tells, _, rfl, rfl⟩
set_option maxRecDepth 100000 in
theorem g829 : Cond.codeWith yL_shared cL_shared 4 (some .int) [(0, 9, 12, 70), (0, 9, 15, 21)] ∈ gT := gW 829 rfl rfl
set_option maxRecDepth 100000 in
theorem g827 : Cond.methodLink RL 149 yL_shared ∈ gT := gW 827 rfl rfl
theorem dkL_shared : dOk mL_shared 3 := by unfold dOk; decide +kernel
set_option maxRecDepth 100000 in
theorem g828 : Cond.static yL_shared ∈ gT := gW 828 rfl rfl
theorem hL_149 : sHOk RL mL_shared 149 3 := ⟨⟨g829, by decide⟩, g65, g827, g828, dkL_shared⟩
set_option maxRecDepth 100000 in
theorem g833 : Cond.code yX8_shared cX8_shared 2 (some .int) ∈ gT := gW 833 rfl rfl
set_option maxRecDepth 100000 in
theorem g830 : Cond.methodLink RL 75 yX8_shared ∈ gT := gW 830 rfl rfl
theorem dkX8_shared : dOk mX8_shared 1 := by unfold dOk; decide +kernel
set_option maxRecDepth 100000 in
theorem g831 : Cond.instanceMethod yX8_shared ∈ gT := gW 831 rfl rfl
set_option maxRecDepth 100000 in
theorem g832 : Cond.selects RX8 yX8_shared yX8_shared ∈ gT := gW 832 rfl rfl
theorem vL_75 : vOk RL mX8_shared 75 1 8 := ⟨⟨g833, rfl⟩, g66, g830, g831, g832, dkX8_shared, _, rfl, rfl⟩
set_option maxRecDepth 100000 in
theorem g837 : Cond.codeWith yL_alike cL_alike 7 (some .int) [(0, 21, 24, 13), (0, 21, 28, 21), (0, 21, 32, 70)] ∈ gT := gW 837 rfl rfl
set_option maxRecDepth 100000 in
theorem g835 : Cond.methodLink RL 152 yL_alike ∈ gT := gW 835 rfl rfl
theorem dkL_alike : dOk mL_alike 6 := by unfold dOk; decide +kernel
set_option maxRecDepth 100000 in
theorem g836 : Cond.static yL_alike ∈ gT := gW 836 rfl rfl
theorem hL_152 : sHOk RL mL_alike 152 6 := ⟨⟨g837, by decide⟩, g65, g835, g836, dkL_alike⟩
set_option maxRecDepth 100000 in
theorem g841 : Cond.code yX8_alike cX8_alike 7 (some .boolean) ∈ gT := gW 841 rfl rfl
set_option maxRecDepth 100000 in
theorem g838 : Cond.methodLink RL 78 yX8_alike ∈ gT := gW 838 rfl rfl
theorem dkX8_alike : dOk mX8_alike 4 := by unfold dOk; decide +kernel
set_option maxRecDepth 100000 in
theorem g839 : Cond.instanceMethod yX8_alike ∈ gT := gW 839 rfl rfl
set_option maxRecDepth 100000 in
theorem g840 : Cond.selects RX8 yX8_alike yX8_alike ∈ gT := gW 840 rfl rfl
theorem vL_78 : vOk RL mX8_alike 78 4 8 := ⟨⟨g841, rfl⟩, g66, g838, g839, g840, dkX8_alike, _, rfl, rfl⟩
set_option maxRecDepth 100000 in
theorem g845 : Cond.code yX4_isLike cX4_isLike 3 (some .boolean) ∈ gT := gW 845 rfl rfl
set_option maxRecDepth 100000 in
theorem g842 : Cond.methodLink RX8 131 yX4_isLike ∈ gT := gW 842 rfl rfl
theorem dkX4_isLike : dOk mX4_isLike 1 := by unfold dOk; decide +kernel
set_option maxRecDepth 100000 in
theorem g843 : Cond.instanceMethod yX4_isLike ∈ gT := gW 843 rfl rfl
set_option maxRecDepth 100000 in
theorem g844 : Cond.selects RX4 yX4_isLike yX4_isLike ∈ gT := gW 844 rfl rfl
theorem vX8_131 : vOk RX8 mX4_isLike 131 1 4 := ⟨⟨g845, rfl⟩, g71, g842, g843, g844, dkX4_isLike, _, rfl, rfl⟩
set_option maxRecDepth 100000 in
theorem g849 : Cond.code yX6_isLike cX6_isLike 4 (some .boolean) ∈ gT := gW 849 rfl rfl
set_option maxRecDepth 100000 in
theorem g846 : Cond.methodLink RX4 26 yX6_isLike ∈ gT := gW 846 rfl rfl
theorem dkX6_isLike : dOk mX6_isLike 2 := by unfold dOk; decide +kernel
set_option maxRecDepth 100000 in
theorem g847 : Cond.instanceMethod yX6_isLike ∈ gT := gW 847 rfl rfl
set_option maxRecDepth 100000 in
theorem g848 : Cond.selects RX6 yX6_isLike yX6_isLike ∈ gT := gW 848 rfl rfl
theorem vX4_26 : vOk RX4 mX6_isLike 26 2 6 := ⟨⟨g849, rfl⟩, g72, g846, g847, g848, dkX6_isLike, _, rfl, rfl⟩
set_option maxRecDepth 100000 in
theorem g850 : Cond.methodLink RX6 40 yX6_at ∈ gT := gW 850 rfl rfl
theorem vX6_40 : vOk RX6 mX6_at 40 1 6 := ⟨⟨g825, rfl⟩, g72, g850, g823, g824, dkX6_at, _, rfl, rfl⟩
set_option maxRecDepth 100000 in
theorem g854 : Cond.code yX9_thrown cX9_thrown 1 (some .int) ∈ gT := gW 854 rfl rfl
set_option maxRecDepth 100000 in
theorem g73 : Cond.initialized RX9 ∈ gT := gW 73 rfl rfl
set_option maxRecDepth 100000 in
theorem g851 : Cond.methodLink RL 92 yX9_thrown ∈ gT := gW 851 rfl rfl
theorem dkX9_thrown : dOk mX9_thrown 0 := by unfold dOk; decide +kernel
set_option maxRecDepth 100000 in
theorem g852 : Cond.instanceMethod yX9_thrown ∈ gT := gW 852 rfl rfl
set_option maxRecDepth 100000 in
theorem g853 : Cond.selects RX9 yX9_thrown yX9_thrown ∈ gT := gW 853 rfl rfl
theorem vL_92 : vOk RL mX9_thrown 92 0 9 := ⟨⟨g854, rfl⟩, g73, g851, g852, g853, dkX9_thrown, _, rfl, rfl⟩
set_option maxRecDepth 100000 in
theorem g859 : Cond.code yX9_init cX9_init 2 none ∈ gT := gW 859 rfl rfl
set_option maxRecDepth 100000 in
theorem g857 : Cond.methodLink RL 85 yX9_init ∈ gT := gW 857 rfl rfl
theorem dkX9_init : dOk mX9_init 0 := by unfold dOk; decide +kernel
set_option maxRecDepth 100000 in
theorem g858 : Cond.instanceMethod yX9_init ∈ gT := gW 858 rfl rfl
theorem iL_85 : iOk RL mX9_init 85 0 := ⟨⟨g859, rfl⟩, g73, g857, g858, dkX9_init, rfl, rfl⟩
set_option maxRecDepth 100000 in
theorem g1027 : Cond.code yX9_give cX9_give 3 (some .int) ∈ gT := gW 1027 rfl rfl
set_option maxRecDepth 100000 in
theorem g1024 : Cond.methodLink RL 91 yX9_give ∈ gT := gW 1024 rfl rfl
theorem dkX9_give : dOk mX9_give 2 := by unfold dOk; decide +kernel
set_option maxRecDepth 100000 in
theorem g1025 : Cond.instanceMethod yX9_give ∈ gT := gW 1025 rfl rfl
set_option maxRecDepth 100000 in
theorem g1026 : Cond.selects RX9 yX9_give yX9_give ∈ gT := gW 1026 rfl rfl
theorem vL_91 : vOk RL mX9_give 91 2 9 := ⟨⟨g1027, rfl⟩, g73, g1024, g1025, g1026, dkX9_give, _, rfl, rfl⟩
set_option maxRecDepth 100000 in
theorem g1031 : Cond.code yX9_operand cX9_operand 5 (some .int) ∈ gT := gW 1031 rfl rfl
set_option maxRecDepth 100000 in
theorem g1028 : Cond.methodLink RX9 160 yX9_operand ∈ gT := gW 1028 rfl rfl
theorem dkX9_operand : dOk mX9_operand 4 := by unfold dOk; decide +kernel
set_option maxRecDepth 100000 in
theorem g1030 : Cond.instanceMethod yX9_operand ∈ gT := gW 1030 rfl rfl
set_option maxRecDepth 100000 in
theorem g31 : Cond.selects RX9 yX9_operand yX9_operand ∈ gT := gW 31 rfl rfl
theorem vX9_160 : vOk RX9 mX9_operand 160 4 9 := ⟨⟨g1031, rfl⟩, g73, g1028, g1030, g31, dkX9_operand, _, rfl, rfl⟩
set_option maxRecDepth 100000 in
theorem g1034 : Cond.code yX9_isName cX9_isName 1 (some .boolean) ∈ gT := gW 1034 rfl rfl
set_option maxRecDepth 100000 in
theorem g1032 : Cond.methodLink RX9 148 yX9_isName ∈ gT := gW 1032 rfl rfl
theorem dkX9_isName : dOk mX9_isName 1 := by unfold dOk; decide +kernel
set_option maxRecDepth 100000 in
theorem g1033 : Cond.static yX9_isName ∈ gT := gW 1033 rfl rfl
theorem sX9_148 : sOk RX9 mX9_isName 148 1 := ⟨⟨g1034, rfl⟩, g73, g1032, g1033, dkX9_isName⟩
set_option maxRecDepth 100000 in
theorem g1038 : Cond.code yX9_refuse cX9_refuse 2 (some .int) ∈ gT := gW 1038 rfl rfl
set_option maxRecDepth 100000 in
theorem g1035 : Cond.methodLink RX9 152 yX9_refuse ∈ gT := gW 1035 rfl rfl
theorem dkX9_refuse : dOk mX9_refuse 1 := by unfold dOk; decide +kernel
set_option maxRecDepth 100000 in
theorem g1037 : Cond.instanceMethod yX9_refuse ∈ gT := gW 1037 rfl rfl
set_option maxRecDepth 100000 in
theorem g32 : Cond.selects RX9 yX9_refuse yX9_refuse ∈ gT := gW 32 rfl rfl
theorem vX9_152 : vOk RX9 mX9_refuse 152 1 9 := ⟨⟨g1038, rfl⟩, g73, g1035, g1037, g32, dkX9_refuse, _, rfl, rfl⟩
set_option maxRecDepth 100000 in
theorem g1042 : Cond.code yX9_made cX9_made 7 (some .int) ∈ gT := gW 1042 rfl rfl
set_option maxRecDepth 100000 in
theorem g1039 : Cond.methodLink RX9 156 yX9_made ∈ gT := gW 1039 rfl rfl
theorem dkX9_made : dOk mX9_made 6 := by unfold dOk; decide +kernel
set_option maxRecDepth 100000 in
theorem g1041 : Cond.instanceMethod yX9_made ∈ gT := gW 1041 rfl rfl
set_option maxRecDepth 100000 in
theorem g33 : Cond.selects RX9 yX9_made yX9_made ∈ gT := gW 33 rfl rfl
theorem vX9_156 : vOk RX9 mX9_made 156 6 9 := ⟨⟨g1042, rfl⟩, g73, g1039, g1041, g33, dkX9_made, _, rfl, rfl⟩
set_option maxRecDepth 100000 in
theorem g1046 : Cond.code yX9_above cX9_above 3 (some .int) ∈ gT := gW 1046 rfl rfl
set_option maxRecDepth 100000 in
theorem g1043 : Cond.methodLink RX9 144 yX9_above ∈ gT := gW 1043 rfl rfl
theorem dkX9_above : dOk mX9_above 2 := by unfold dOk; decide +kernel
set_option maxRecDepth 100000 in
theorem g1045 : Cond.instanceMethod yX9_above ∈ gT := gW 1045 rfl rfl
set_option maxRecDepth 100000 in
theorem g34 : Cond.selects RX9 yX9_above yX9_above ∈ gT := gW 34 rfl rfl
theorem vX9_144 : vOk RX9 mX9_above 144 2 9 := ⟨⟨g1046, rfl⟩, g73, g1043, g1045, g34, dkX9_above, _, rfl, rfl⟩
set_option maxRecDepth 100000 in
theorem g1050 : Cond.code yX9_of cX9_of 4 (some .int) ∈ gT := gW 1050 rfl rfl
set_option maxRecDepth 100000 in
theorem g1047 : Cond.methodLink RL 98 yX9_of ∈ gT := gW 1047 rfl rfl
theorem dkX9_of : dOk mX9_of 3 := by unfold dOk; decide +kernel
set_option maxRecDepth 100000 in
theorem g1048 : Cond.instanceMethod yX9_of ∈ gT := gW 1048 rfl rfl
set_option maxRecDepth 100000 in
theorem g1049 : Cond.selects RX9 yX9_of yX9_of ∈ gT := gW 1049 rfl rfl
theorem vL_98 : vOk RL mX9_of 98 3 9 := ⟨⟨g1050, rfl⟩, g73, g1047, g1048, g1049, dkX9_of, _, rfl, rfl⟩
set_option maxRecDepth 100000 in
theorem g1054 : Cond.code yX9_read cX9_read 1 (some .int) ∈ gT := gW 1054 rfl rfl
set_option maxRecDepth 100000 in
theorem g1051 : Cond.methodLink RL 102 yX9_read ∈ gT := gW 1051 rfl rfl
theorem dkX9_read : dOk mX9_read 0 := by unfold dOk; decide +kernel
set_option maxRecDepth 100000 in
theorem g1052 : Cond.instanceMethod yX9_read ∈ gT := gW 1052 rfl rfl
set_option maxRecDepth 100000 in
theorem g1053 : Cond.selects RX9 yX9_read yX9_read ∈ gT := gW 1053 rfl rfl
theorem vL_102 : vOk RL mX9_read 102 0 9 := ⟨⟨g1054, rfl⟩, g73, g1051, g1052, g1053, dkX9_read, _, rfl, rfl⟩
set_option maxRecDepth 100000 in
theorem g1058 : Cond.code yX9_write cX9_write 3 (some .int) ∈ gT := gW 1058 rfl rfl
set_option maxRecDepth 100000 in
theorem g1055 : Cond.methodLink RL 105 yX9_write ∈ gT := gW 1055 rfl rfl
theorem dkX9_write : dOk mX9_write 2 := by unfold dOk; decide +kernel
set_option maxRecDepth 100000 in
theorem g1056 : Cond.instanceMethod yX9_write ∈ gT := gW 1056 rfl rfl
set_option maxRecDepth 100000 in
theorem g1057 : Cond.selects RX9 yX9_write yX9_write ∈ gT := gW 1057 rfl rfl
theorem vL_105 : vOk RL mX9_write 105 2 9 := ⟨⟨g1058, rfl⟩, g73, g1055, g1056, g1057, dkX9_write, _, rfl, rfl⟩
set_option maxRecDepth 100000 in
theorem g1062 : Cond.code yX9_say cX9_say 3 (some .int) ∈ gT := gW 1062 rfl rfl
set_option maxRecDepth 100000 in
theorem g1059 : Cond.methodLink RL 108 yX9_say ∈ gT := gW 1059 rfl rfl
theorem dkX9_say : dOk mX9_say 2 := by unfold dOk; decide +kernel
set_option maxRecDepth 100000 in
theorem g1060 : Cond.instanceMethod yX9_say ∈ gT := gW 1060 rfl rfl
set_option maxRecDepth 100000 in
theorem g1061 : Cond.selects RX9 yX9_say yX9_say ∈ gT := gW 1061 rfl rfl
theorem vL_108 : vOk RL mX9_say 108 2 9 := ⟨⟨g1062, rfl⟩, g73, g1059, g1060, g1061, dkX9_say, _, rfl, rfl⟩
set_option maxRecDepth 100000 in
theorem g1066 : Cond.code yX9_fail cX9_fail 3 (some .int) ∈ gT := gW 1066 rfl rfl
set_option maxRecDepth 100000 in
theorem g1063 : Cond.methodLink RL 111 yX9_fail ∈ gT := gW 1063 rfl rfl
theorem dkX9_fail : dOk mX9_fail 2 := by unfold dOk; decide +kernel
set_option maxRecDepth 100000 in
theorem g1064 : Cond.instanceMethod yX9_fail ∈ gT := gW 1064 rfl rfl
set_option maxRecDepth 100000 in
theorem g1065 : Cond.selects RX9 yX9_fail yX9_fail ∈ gT := gW 1065 rfl rfl
theorem vL_111 : vOk RL mX9_fail 111 2 9 := ⟨⟨g1066, rfl⟩, g73, g1063, g1064, g1065, dkX9_fail, _, rfl, rfl⟩
set_option maxRecDepth 100000 in
theorem g1070 : Cond.code yX9_none cX9_none 1 (some .int) ∈ gT := gW 1070 rfl rfl
set_option maxRecDepth 100000 in
theorem g1067 : Cond.methodLink RL 114 yX9_none ∈ gT := gW 1067 rfl rfl
theorem dkX9_none : dOk mX9_none 0 := by unfold dOk; decide +kernel
set_option maxRecDepth 100000 in
theorem g1068 : Cond.instanceMethod yX9_none ∈ gT := gW 1068 rfl rfl
set_option maxRecDepth 100000 in
theorem g1069 : Cond.selects RX9 yX9_none yX9_none ∈ gT := gW 1069 rfl rfl
theorem vL_114 : vOk RL mX9_none 114 0 9 := ⟨⟨g1070, rfl⟩, g73, g1067, g1068, g1069, dkX9_none, _, rfl, rfl⟩
set_option maxRecDepth 100000 in
theorem g1074 : Cond.code yX9_either cX9_either 3 (some .int) ∈ gT := gW 1074 rfl rfl
set_option maxRecDepth 100000 in
theorem g1071 : Cond.methodLink RL 118 yX9_either ∈ gT := gW 1071 rfl rfl
theorem dkX9_either : dOk mX9_either 2 := by unfold dOk; decide +kernel
set_option maxRecDepth 100000 in
theorem g1072 : Cond.instanceMethod yX9_either ∈ gT := gW 1072 rfl rfl
set_option maxRecDepth 100000 in
theorem g1073 : Cond.selects RX9 yX9_either yX9_either ∈ gT := gW 1073 rfl rfl
theorem vL_118 : vOk RL mX9_either 118 2 9 := ⟨⟨g1074, rfl⟩, g73, g1071, g1072, g1073, dkX9_either, _, rfl, rfl⟩
set_option maxRecDepth 100000 in
theorem g1078 : Cond.code yX9_isTerm cX9_isTerm 2 (some .boolean) ∈ gT := gW 1078 rfl rfl
set_option maxRecDepth 100000 in
theorem g1075 : Cond.methodLink RX9 164 yX9_isTerm ∈ gT := gW 1075 rfl rfl
theorem dkX9_isTerm : dOk mX9_isTerm 1 := by unfold dOk; decide +kernel
set_option maxRecDepth 100000 in
theorem g1077 : Cond.instanceMethod yX9_isTerm ∈ gT := gW 1077 rfl rfl
set_option maxRecDepth 100000 in
theorem g35 : Cond.selects RX9 yX9_isTerm yX9_isTerm ∈ gT := gW 35 rfl rfl
theorem vX9_164 : vOk RX9 mX9_isTerm 164 1 9 := ⟨⟨g1078, rfl⟩, g73, g1075, g1077, g35, dkX9_isTerm, _, rfl, rfl⟩
set_option maxRecDepth 100000 in
theorem g1082 : Cond.code yX9_isFull cX9_isFull 3 (some .boolean) ∈ gT := gW 1082 rfl rfl
set_option maxRecDepth 100000 in
theorem g1079 : Cond.methodLink RX9 167 yX9_isFull ∈ gT := gW 1079 rfl rfl
theorem dkX9_isFull : dOk mX9_isFull 2 := by unfold dOk; decide +kernel
set_option maxRecDepth 100000 in
theorem g1081 : Cond.instanceMethod yX9_isFull ∈ gT := gW 1081 rfl rfl
set_option maxRecDepth 100000 in
theorem g36 : Cond.selects RX9 yX9_isFull yX9_isFull ∈ gT := gW 36 rfl rfl
theorem vX9_167 : vOk RX9 mX9_isFull 167 2 9 := ⟨⟨g1082, rfl⟩, g73, g1079, g1081, g36, dkX9_isFull, _, rfl, rfl⟩
set_option maxRecDepth 100000 in
theorem g1086 : Cond.code yX9_then cX9_then 4 (some .int) ∈ gT := gW 1086 rfl rfl
set_option maxRecDepth 100000 in
theorem g1083 : Cond.methodLink RL 121 yX9_then ∈ gT := gW 1083 rfl rfl
theorem dkX9_then : dOk mX9_then 3 := by unfold dOk; decide +kernel
set_option maxRecDepth 100000 in
theorem g1084 : Cond.instanceMethod yX9_then ∈ gT := gW 1084 rfl rfl
set_option maxRecDepth 100000 in
theorem g1085 : Cond.selects RX9 yX9_then yX9_then ∈ gT := gW 1085 rfl rfl
theorem vL_121 : vOk RL mX9_then 121 3 9 := ⟨⟨g1086, rfl⟩, g73, g1083, g1084, g1085, dkX9_then, _, rfl, rfl⟩
set_option maxRecDepth 100000 in
theorem g1090 : Cond.code yX9_three cX9_three 6 (some .int) ∈ gT := gW 1090 rfl rfl
set_option maxRecDepth 100000 in
theorem g1087 : Cond.methodLink RX9 171 yX9_three ∈ gT := gW 1087 rfl rfl
theorem dkX9_three : dOk mX9_three 5 := by unfold dOk; decide +kernel
set_option maxRecDepth 100000 in
theorem g1089 : Cond.instanceMethod yX9_three ∈ gT := gW 1089 rfl rfl
set_option maxRecDepth 100000 in
theorem g37 : Cond.selects RX9 yX9_three yX9_three ∈ gT := gW 37 rfl rfl
theorem vX9_171 : vOk RX9 mX9_three 171 5 9 := ⟨⟨g1090, rfl⟩, g73, g1087, g1089, g37, dkX9_three, _, rfl, rfl⟩
set_option maxRecDepth 100000 in
theorem g1094 : Cond.code yX9_saved cX9_saved 4 (some .int) ∈ gT := gW 1094 rfl rfl
set_option maxRecDepth 100000 in
theorem g1091 : Cond.methodLink RL 124 yX9_saved ∈ gT := gW 1091 rfl rfl
theorem dkX9_saved : dOk mX9_saved 3 := by unfold dOk; decide +kernel
set_option maxRecDepth 100000 in
theorem g1092 : Cond.instanceMethod yX9_saved ∈ gT := gW 1092 rfl rfl
set_option maxRecDepth 100000 in
theorem g1093 : Cond.selects RX9 yX9_saved yX9_saved ∈ gT := gW 1093 rfl rfl
theorem vL_124 : vOk RL mX9_saved 124 3 9 := ⟨⟨g1094, rfl⟩, g73, g1091, g1092, g1093, dkX9_saved, _, rfl, rfl⟩
set_option maxRecDepth 100000 in
theorem g1098 : Cond.code yX9_when cX9_when 4 (some .int) ∈ gT := gW 1098 rfl rfl
set_option maxRecDepth 100000 in
theorem g1095 : Cond.methodLink RL 127 yX9_when ∈ gT := gW 1095 rfl rfl
theorem dkX9_when : dOk mX9_when 3 := by unfold dOk; decide +kernel
set_option maxRecDepth 100000 in
theorem g1096 : Cond.instanceMethod yX9_when ∈ gT := gW 1096 rfl rfl
set_option maxRecDepth 100000 in
theorem g1097 : Cond.selects RX9 yX9_when yX9_when ∈ gT := gW 1097 rfl rfl
theorem vL_127 : vOk RL mX9_when 127 3 9 := ⟨⟨g1098, rfl⟩, g73, g1095, g1096, g1097, dkX9_when, _, rfl, rfl⟩
set_option maxRecDepth 100000 in
theorem g1102 : Cond.code yX9_times cX9_times 4 (some .int) ∈ gT := gW 1102 rfl rfl
set_option maxRecDepth 100000 in
theorem g1099 : Cond.methodLink RL 131 yX9_times ∈ gT := gW 1099 rfl rfl
theorem dkX9_times : dOk mX9_times 3 := by unfold dOk; decide +kernel
set_option maxRecDepth 100000 in
theorem g1100 : Cond.instanceMethod yX9_times ∈ gT := gW 1100 rfl rfl
set_option maxRecDepth 100000 in
theorem g1101 : Cond.selects RX9 yX9_times yX9_times ∈ gT := gW 1101 rfl rfl
theorem vL_131 : vOk RL mX9_times 131 3 9 := ⟨⟨g1102, rfl⟩, g73, g1099, g1100, g1101, dkX9_times, _, rfl, rfl⟩
set_option maxRecDepth 100000 in
theorem g1106 : Cond.code yX9_as cX9_as 3 (some .int) ∈ gT := gW 1106 rfl rfl
set_option maxRecDepth 100000 in
theorem g1103 : Cond.methodLink RL 134 yX9_as ∈ gT := gW 1103 rfl rfl
theorem dkX9_as : dOk mX9_as 2 := by unfold dOk; decide +kernel
set_option maxRecDepth 100000 in
theorem g1104 : Cond.instanceMethod yX9_as ∈ gT := gW 1104 rfl rfl
set_option maxRecDepth 100000 in
theorem g1105 : Cond.selects RX9 yX9_as yX9_as ∈ gT := gW 1105 rfl rfl
theorem vL_134 : vOk RL mX9_as 134 2 9 := ⟨⟨g1106, rfl⟩, g73, g1103, g1104, g1105, dkX9_as, _, rfl, rfl⟩
set_option maxRecDepth 100000 in
theorem g1110 : Cond.code yX9_terms cX9_terms 1 (some .int) ∈ gT := gW 1110 rfl rfl
set_option maxRecDepth 100000 in
theorem g1107 : Cond.methodLink RL 158 yX9_terms ∈ gT := gW 1107 rfl rfl
theorem dkX9_terms : dOk mX9_terms 0 := by unfold dOk; decide +kernel
set_option maxRecDepth 100000 in
theorem g1108 : Cond.instanceMethod yX9_terms ∈ gT := gW 1108 rfl rfl
set_option maxRecDepth 100000 in
theorem g1109 : Cond.selects RX9 yX9_terms yX9_terms ∈ gT := gW 1109 rfl rfl
theorem vL_158 : vOk RL mX9_terms 158 0 9 := ⟨⟨g1110, rfl⟩, g73, g1107, g1108, g1109, dkX9_terms, _, rfl, rfl⟩
set_option maxRecDepth 100000 in
theorem g1114 : Cond.code yX9_needs cX9_needs 2 (some .int) ∈ gT := gW 1114 rfl rfl
set_option maxRecDepth 100000 in
theorem g1111 : Cond.methodLink RL 142 yX9_needs ∈ gT := gW 1111 rfl rfl
theorem dkX9_needs : dOk mX9_needs 1 := by unfold dOk; decide +kernel
set_option maxRecDepth 100000 in
theorem g1112 : Cond.instanceMethod yX9_needs ∈ gT := gW 1112 rfl rfl
set_option maxRecDepth 100000 in
theorem g1113 : Cond.selects RX9 yX9_needs yX9_needs ∈ gT := gW 1113 rfl rfl
theorem vL_142 : vOk RL mX9_needs 142 1 9 := ⟨⟨g1114, rfl⟩, g73, g1111, g1112, g1113, dkX9_needs, _, rfl, rfl⟩
set_option maxRecDepth 100000 in
theorem g1118 : Cond.code yX9_order cX9_order 9 (some .int) ∈ gT := gW 1118 rfl rfl
set_option maxRecDepth 100000 in
theorem g1115 : Cond.methodLink RL 138 yX9_order ∈ gT := gW 1115 rfl rfl
theorem dkX9_order : dOk mX9_order 4 := by unfold dOk; decide +kernel
set_option maxRecDepth 100000 in
theorem g1116 : Cond.instanceMethod yX9_order ∈ gT := gW 1116 rfl rfl
set_option maxRecDepth 100000 in
theorem g1117 : Cond.selects RX9 yX9_order yX9_order ∈ gT := gW 1117 rfl rfl
theorem vL_138 : vOk RL mX9_order 138 4 9 := ⟨⟨g1118, rfl⟩, g73, g1115, g1116, g1117, dkX9_order, _, rfl, rfl⟩
set_option maxRecDepth 100000 in
theorem g1122 : Cond.code yX9_run cX9_run 4 (some .int) ∈ gT := gW 1122 rfl rfl
set_option maxRecDepth 100000 in
theorem g1119 : Cond.methodLink RL 145 yX9_run ∈ gT := gW 1119 rfl rfl
theorem dkX9_run : dOk mX9_run 3 := by unfold dOk; decide +kernel
set_option maxRecDepth 100000 in
theorem g1120 : Cond.instanceMethod yX9_run ∈ gT := gW 1120 rfl rfl
set_option maxRecDepth 100000 in
theorem g1121 : Cond.selects RX9 yX9_run yX9_run ∈ gT := gW 1121 rfl rfl
theorem vL_145 : vOk RL mX9_run 145 3 9 := ⟨⟨g1122, rfl⟩, g73, g1119, g1120, g1121, dkX9_run, _, rfl, rfl⟩
set_option maxRecDepth 100000 in
theorem g1126 : Cond.code yX9_lacks cX9_lacks 4 (some .boolean) ∈ gT := gW 1126 rfl rfl
set_option maxRecDepth 100000 in
theorem g1123 : Cond.methodLink RX9 278 yX9_lacks ∈ gT := gW 1123 rfl rfl
theorem dkX9_lacks : dOk mX9_lacks 1 := by unfold dOk; decide +kernel
set_option maxRecDepth 100000 in
theorem g1125 : Cond.instanceMethod yX9_lacks ∈ gT := gW 1125 rfl rfl
set_option maxRecDepth 100000 in
theorem g38 : Cond.selects RX9 yX9_lacks yX9_lacks ∈ gT := gW 38 rfl rfl
theorem vX9_278 : vOk RX9 mX9_lacks 278 1 9 := ⟨⟨g1126, rfl⟩, g73, g1123, g1125, g38, dkX9_lacks, _, rfl, rfl⟩
set_option maxRecDepth 100000 in
theorem g1130 : Cond.code yX9_has cX9_has 2 (some .boolean) ∈ gT := gW 1130 rfl rfl
set_option maxRecDepth 100000 in
theorem g1127 : Cond.methodLink RX9 175 yX9_has ∈ gT := gW 1127 rfl rfl
theorem dkX9_has : dOk mX9_has 1 := by unfold dOk; decide +kernel
set_option maxRecDepth 100000 in
theorem g1129 : Cond.instanceMethod yX9_has ∈ gT := gW 1129 rfl rfl
set_option maxRecDepth 100000 in
theorem g39 : Cond.selects RX9 yX9_has yX9_has ∈ gT := gW 39 rfl rfl
theorem vX9_175 : vOk RX9 mX9_has 175 1 9 := ⟨⟨g1130, rfl⟩, g73, g1127, g1129, g39, dkX9_has, _, rfl, rfl⟩
set_option maxRecDepth 100000 in
theorem g1134 : Cond.code yX9_doIt cX9_doIt 4 none ∈ gT := gW 1134 rfl rfl
set_option maxRecDepth 100000 in
theorem g1131 : Cond.methodLink RX9 281 yX9_doIt ∈ gT := gW 1131 rfl rfl
theorem dkX9_doIt : dOk mX9_doIt 3 := by unfold dOk; decide +kernel
set_option maxRecDepth 100000 in
theorem g1133 : Cond.instanceMethod yX9_doIt ∈ gT := gW 1133 rfl rfl
set_option maxRecDepth 100000 in
theorem g40 : Cond.selects RX9 yX9_doIt yX9_doIt ∈ gT := gW 40 rfl rfl
theorem vX9_281 : vOk RX9 mX9_doIt 281 3 9 := ⟨⟨g1134, rfl⟩, g73, g1131, g1133, g40, dkX9_doIt, _, rfl, rfl⟩
set_option maxRecDepth 100000 in
theorem g1138 : Cond.code yX9_push cX9_push 8 none ∈ gT := gW 1138 rfl rfl
set_option maxRecDepth 100000 in
theorem g1135 : Cond.methodLink RX9 237 yX9_push ∈ gT := gW 1135 rfl rfl
theorem dkX9_push : dOk mX9_push 6 := by unfold dOk; decide +kernel
set_option maxRecDepth 100000 in
theorem g1137 : Cond.instanceMethod yX9_push ∈ gT := gW 1137 rfl rfl
set_option maxRecDepth 100000 in
theorem g41 : Cond.selects RX9 yX9_push yX9_push ∈ gT := gW 41 rfl rfl
theorem vX9_237 : vOk RX9 mX9_push 237 6 9 := ⟨⟨g1138, rfl⟩, g73, g1135, g1137, g41, dkX9_push, _, rfl, rfl⟩
set_option maxRecDepth 100000 in
theorem g1142 : Cond.code yX9_go cX9_go 3 none ∈ gT := gW 1142 rfl rfl
set_option maxRecDepth 100000 in
theorem g1139 : Cond.methodLink RX9 271 yX9_go ∈ gT := gW 1139 rfl rfl
theorem dkX9_go : dOk mX9_go 0 := by unfold dOk; decide +kernel
set_option maxRecDepth 100000 in
theorem g1141 : Cond.instanceMethod yX9_go ∈ gT := gW 1141 rfl rfl
set_option maxRecDepth 100000 in
theorem g42 : Cond.selects RX9 yX9_go yX9_go ∈ gT := gW 42 rfl rfl
theorem vX9_271 : vOk RX9 mX9_go 271 0 9 := ⟨⟨g1142, rfl⟩, g73, g1139, g1141, g42, dkX9_go, _, rfl, rfl⟩
set_option maxRecDepth 100000 in
theorem g1146 : Cond.code yX9_leaf cX9_leaf 7 none ∈ gT := gW 1146 rfl rfl
set_option maxRecDepth 100000 in
theorem g1143 : Cond.methodLink RX9 241 yX9_leaf ∈ gT := gW 1143 rfl rfl
theorem dkX9_leaf : dOk mX9_leaf 1 := by unfold dOk; decide +kernel
set_option maxRecDepth 100000 in
theorem g1145 : Cond.instanceMethod yX9_leaf ∈ gT := gW 1145 rfl rfl
set_option maxRecDepth 100000 in
theorem g43 : Cond.selects RX9 yX9_leaf yX9_leaf ∈ gT := gW 43 rfl rfl
theorem vX9_241 : vOk RX9 mX9_leaf 241 1 9 := ⟨⟨g1146, rfl⟩, g73, g1143, g1145, g43, dkX9_leaf, _, rfl, rfl⟩
set_option maxRecDepth 100000 in
theorem g1150 : Cond.code yX9_value cX9_value 4 (some .int) ∈ gT := gW 1150 rfl rfl
set_option maxRecDepth 100000 in
theorem g1147 : Cond.methodLink RX9 210 yX9_value ∈ gT := gW 1147 rfl rfl
theorem dkX9_value : dOk mX9_value 3 := by unfold dOk; decide +kernel
set_option maxRecDepth 100000 in
theorem g1149 : Cond.instanceMethod yX9_value ∈ gT := gW 1149 rfl rfl
set_option maxRecDepth 100000 in
theorem g44 : Cond.selects RX9 yX9_value yX9_value ∈ gT := gW 44 rfl rfl
theorem vX9_210 : vOk RX9 mX9_value 210 3 9 := ⟨⟨g1150, rfl⟩, g73, g1147, g1149, g44, dkX9_value, _, rfl, rfl⟩
set_option maxRecDepth 100000 in
theorem g1153 : Cond.code yX9_op cX9_op 3 (some .int) ∈ gT := gW 1153 rfl rfl
set_option maxRecDepth 100000 in
theorem g1151 : Cond.methodLink RX9 214 yX9_op ∈ gT := gW 1151 rfl rfl
theorem dkX9_op : dOk mX9_op 3 := by unfold dOk; decide +kernel
set_option maxRecDepth 100000 in
theorem g1152 : Cond.static yX9_op ∈ gT := gW 1152 rfl rfl
theorem sX9_214 : sOk RX9 mX9_op 214 3 := ⟨⟨g1153, rfl⟩, g73, g1151, g1152, dkX9_op⟩
set_option maxRecDepth 100000 in
theorem g1157 : Cond.code yX9_isOwn cX9_isOwn 2 (some .boolean) ∈ gT := gW 1157 rfl rfl
set_option maxRecDepth 100000 in
theorem g1154 : Cond.methodLink RX9 178 yX9_isOwn ∈ gT := gW 1154 rfl rfl
theorem dkX9_isOwn : dOk mX9_isOwn 1 := by unfold dOk; decide +kernel
set_option maxRecDepth 100000 in
theorem g1156 : Cond.instanceMethod yX9_isOwn ∈ gT := gW 1156 rfl rfl
set_option maxRecDepth 100000 in
theorem g45 : Cond.selects RX9 yX9_isOwn yX9_isOwn ∈ gT := gW 45 rfl rfl
theorem vX9_178 : vOk RX9 mX9_isOwn 178 1 9 := ⟨⟨g1157, rfl⟩, g73, g1154, g1156, g45, dkX9_isOwn, _, rfl, rfl⟩
set_option maxRecDepth 100000 in
theorem g1161 : Cond.code yX9_longer cX9_longer 3 (some .int) ∈ gT := gW 1161 rfl rfl
set_option maxRecDepth 100000 in
theorem g1158 : Cond.methodLink RX9 218 yX9_longer ∈ gT := gW 1158 rfl rfl
theorem dkX9_longer : dOk mX9_longer 2 := by unfold dOk; decide +kernel
set_option maxRecDepth 100000 in
theorem g1160 : Cond.instanceMethod yX9_longer ∈ gT := gW 1160 rfl rfl
set_option maxRecDepth 100000 in
theorem g46 : Cond.selects RX9 yX9_longer yX9_longer ∈ gT := gW 46 rfl rfl
theorem vX9_218 : vOk RX9 mX9_longer 218 2 9 := ⟨⟨g1161, rfl⟩, g73, g1158, g1160, g46, dkX9_longer, _, rfl, rfl⟩
set_option maxRecDepth 100000 in
theorem g1165 : Cond.code yX9_isShared cX9_isShared 2 (some .boolean) ∈ gT := gW 1165 rfl rfl
set_option maxRecDepth 100000 in
theorem g1162 : Cond.methodLink RX9 221 yX9_isShared ∈ gT := gW 1162 rfl rfl
theorem dkX9_isShared : dOk mX9_isShared 1 := by unfold dOk; decide +kernel
set_option maxRecDepth 100000 in
theorem g1164 : Cond.instanceMethod yX9_isShared ∈ gT := gW 1164 rfl rfl
set_option maxRecDepth 100000 in
theorem g47 : Cond.selects RX9 yX9_isShared yX9_isShared ∈ gT := gW 47 rfl rfl
theorem vX9_221 : vOk RX9 mX9_isShared 221 1 9 := ⟨⟨g1165, rfl⟩, g73, g1162, g1164, g47, dkX9_isShared, _, rfl, rfl⟩
set_option maxRecDepth 100000 in
theorem g1169 : Cond.code yX9_unwind cX9_unwind 3 none ∈ gT := gW 1169 rfl rfl
set_option maxRecDepth 100000 in
theorem g1166 : Cond.methodLink RX9 224 yX9_unwind ∈ gT := gW 1166 rfl rfl
theorem dkX9_unwind : dOk mX9_unwind 1 := by unfold dOk; decide +kernel
set_option maxRecDepth 100000 in
theorem g1168 : Cond.instanceMethod yX9_unwind ∈ gT := gW 1168 rfl rfl
set_option maxRecDepth 100000 in
theorem g48 : Cond.selects RX9 yX9_unwind yX9_unwind ∈ gT := gW 48 rfl rfl
theorem vX9_224 : vOk RX9 mX9_unwind 224 1 9 := ⟨⟨g1169, rfl⟩, g73, g1166, g1168, g48, dkX9_unwind, _, rfl, rfl⟩
set_option maxRecDepth 100000 in
theorem g1173 : Cond.code yX9_isOutside cX9_isOutside 2 (some .boolean) ∈ gT := gW 1173 rfl rfl
set_option maxRecDepth 100000 in
theorem g1170 : Cond.methodLink RX9 234 yX9_isOutside ∈ gT := gW 1170 rfl rfl
theorem dkX9_isOutside : dOk mX9_isOutside 1 := by unfold dOk; decide +kernel
set_option maxRecDepth 100000 in
theorem g1172 : Cond.instanceMethod yX9_isOutside ∈ gT := gW 1172 rfl rfl
set_option maxRecDepth 100000 in
theorem g49 : Cond.selects RX9 yX9_isOutside yX9_isOutside ∈ gT := gW 49 rfl rfl
theorem vX9_234 : vOk RX9 mX9_isOutside 234 1 9 := ⟨⟨g1173, rfl⟩, g73, g1170, g1172, g49, dkX9_isOutside, _, rfl, rfl⟩
set_option maxRecDepth 100000 in
theorem g1177 : Cond.code yX9_tell cX9_tell 7 none ∈ gT := gW 1177 rfl rfl
set_option maxRecDepth 100000 in
theorem g1174 : Cond.methodLink RX9 203 yX9_tell ∈ gT := gW 1174 rfl rfl
theorem dkX9_tell : dOk mX9_tell 5 := by unfold dOk; decide +kernel
set_option maxRecDepth 100000 in
theorem g1176 : Cond.instanceMethod yX9_tell ∈ gT := gW 1176 rfl rfl
set_option maxRecDepth 100000 in
theorem g50 : Cond.selects RX9 yX9_tell yX9_tell ∈ gT := gW 50 rfl rfl
theorem vX9_203 : vOk RX9 mX9_tell 203 5 9 := ⟨⟨g1177, rfl⟩, g73, g1174, g1176, g50, dkX9_tell, _, rfl, rfl⟩
set_option maxRecDepth 100000 in
theorem g1181 : Cond.code yX9_row cX9_row 3 (some .int) ∈ gT := gW 1181 rfl rfl
set_option maxRecDepth 100000 in
theorem g1178 : Cond.methodLink RX9 200 yX9_row ∈ gT := gW 1178 rfl rfl
theorem dkX9_row : dOk mX9_row 2 := by unfold dOk; decide +kernel
set_option maxRecDepth 100000 in
theorem g1180 : Cond.instanceMethod yX9_row ∈ gT := gW 1180 rfl rfl
set_option maxRecDepth 100000 in
theorem g51 : Cond.selects RX9 yX9_row yX9_row ∈ gT := gW 51 rfl rfl
theorem vX9_200 : vOk RX9 mX9_row 200 2 9 := ⟨⟨g1181, rfl⟩, g73, g1178, g1180, g51, dkX9_row, _, rfl, rfl⟩
set_option maxRecDepth 100000 in
theorem g1185 : Cond.code yX9_either_ cX9_either_ 2 none ∈ gT := gW 1185 rfl rfl
set_option maxRecDepth 100000 in
theorem g1182 : Cond.methodLink RX9 244 yX9_either_ ∈ gT := gW 1182 rfl rfl
theorem dkX9_either_ : dOk mX9_either_ 1 := by unfold dOk; decide +kernel
set_option maxRecDepth 100000 in
theorem g1184 : Cond.instanceMethod yX9_either_ ∈ gT := gW 1184 rfl rfl
set_option maxRecDepth 100000 in
theorem g52 : Cond.selects RX9 yX9_either_ yX9_either_ ∈ gT := gW 52 rfl rfl
theorem vX9_244 : vOk RX9 mX9_either_ 244 1 9 := ⟨⟨g1185, rfl⟩, g73, g1182, g1184, g52, dkX9_either_, _, rfl, rfl⟩
set_option maxRecDepth 100000 in
theorem g1189 : Cond.code yX9_gather cX9_gather 4 none ∈ gT := gW 1189 rfl rfl
set_option maxRecDepth 100000 in
theorem g1186 : Cond.methodLink RX9 259 yX9_gather ∈ gT := gW 1186 rfl rfl
theorem dkX9_gather : dOk mX9_gather 1 := by unfold dOk; decide +kernel
set_option maxRecDepth 100000 in
theorem g1188 : Cond.instanceMethod yX9_gather ∈ gT := gW 1188 rfl rfl
set_option maxRecDepth 100000 in
theorem g53 : Cond.selects RX9 yX9_gather yX9_gather ∈ gT := gW 53 rfl rfl
theorem vX9_259 : vOk RX9 mX9_gather 259 1 9 := ⟨⟨g1189, rfl⟩, g73, g1186, g1188, g53, dkX9_gather, _, rfl, rfl⟩
set_option maxRecDepth 100000 in
theorem g1193 : Cond.code yX9_finish cX9_finish 1 none ∈ gT := gW 1193 rfl rfl
set_option maxRecDepth 100000 in
theorem g1190 : Cond.methodLink RX9 262 yX9_finish ∈ gT := gW 1190 rfl rfl
theorem dkX9_finish : dOk mX9_finish 0 := by unfold dOk; decide +kernel
set_option maxRecDepth 100000 in
theorem g1192 : Cond.instanceMethod yX9_finish ∈ gT := gW 1192 rfl rfl
set_option maxRecDepth 100000 in
theorem g54 : Cond.selects RX9 yX9_finish yX9_finish ∈ gT := gW 54 rfl rfl
theorem vX9_262 : vOk RX9 mX9_finish 262 0 9 := ⟨⟨g1193, rfl⟩, g73, g1190, g1192, g54, dkX9_finish, _, rfl, rfl⟩
set_option maxRecDepth 100000 in
theorem g1197 : Cond.code yX9_along cX9_along 8 none ∈ gT := gW 1197 rfl rfl
set_option maxRecDepth 100000 in
theorem g1194 : Cond.methodLink RX9 247 yX9_along ∈ gT := gW 1194 rfl rfl
theorem dkX9_along : dOk mX9_along 1 := by unfold dOk; decide +kernel
set_option maxRecDepth 100000 in
theorem g1196 : Cond.instanceMethod yX9_along ∈ gT := gW 1196 rfl rfl
set_option maxRecDepth 100000 in
theorem g55 : Cond.selects RX9 yX9_along yX9_along ∈ gT := gW 55 rfl rfl
theorem vX9_247 : vOk RX9 mX9_along 247 1 9 := ⟨⟨g1197, rfl⟩, g73, g1194, g1196, g55, dkX9_along, _, rfl, rfl⟩
set_option maxRecDepth 100000 in
theorem g1201 : Cond.code yX9_gatherNext cX9_gatherNext 2 none ∈ gT := gW 1201 rfl rfl
set_option maxRecDepth 100000 in
theorem g1198 : Cond.methodLink RX9 265 yX9_gatherNext ∈ gT := gW 1198 rfl rfl
theorem dkX9_gatherNext : dOk mX9_gatherNext 1 := by unfold dOk; decide +kernel
set_option maxRecDepth 100000 in
theorem g1200 : Cond.instanceMethod yX9_gatherNext ∈ gT := gW 1200 rfl rfl
set_option maxRecDepth 100000 in
theorem g56 : Cond.selects RX9 yX9_gatherNext yX9_gatherNext ∈ gT := gW 56 rfl rfl
theorem vX9_265 : vOk RX9 mX9_gatherNext 265 1 9 := ⟨⟨g1201, rfl⟩, g73, g1198, g1200, g56, dkX9_gatherNext, _, rfl, rfl⟩
set_option maxRecDepth 100000 in
theorem g1205 : Cond.code yX9_turn cX9_turn 5 none ∈ gT := gW 1205 rfl rfl
set_option maxRecDepth 100000 in
theorem g1202 : Cond.methodLink RX9 268 yX9_turn ∈ gT := gW 1202 rfl rfl
theorem dkX9_turn : dOk mX9_turn 1 := by unfold dOk; decide +kernel
set_option maxRecDepth 100000 in
theorem g1204 : Cond.instanceMethod yX9_turn ∈ gT := gW 1204 rfl rfl
set_option maxRecDepth 100000 in
theorem g57 : Cond.selects RX9 yX9_turn yX9_turn ∈ gT := gW 57 rfl rfl
theorem vX9_268 : vOk RX9 mX9_turn 268 1 9 := ⟨⟨g1205, rfl⟩, g73, g1202, g1204, g57, dkX9_turn, _, rfl, rfl⟩
set_option maxRecDepth 100000 in
theorem g1209 : Cond.code yX9_choose cX9_choose 3 none ∈ gT := gW 1209 rfl rfl
set_option maxRecDepth 100000 in
theorem g1206 : Cond.methodLink RX9 250 yX9_choose ∈ gT := gW 1206 rfl rfl
theorem dkX9_choose : dOk mX9_choose 1 := by unfold dOk; decide +kernel
set_option maxRecDepth 100000 in
theorem g1208 : Cond.instanceMethod yX9_choose ∈ gT := gW 1208 rfl rfl
set_option maxRecDepth 100000 in
theorem g58 : Cond.selects RX9 yX9_choose yX9_choose ∈ gT := gW 58 rfl rfl
theorem vX9_250 : vOk RX9 mX9_choose 250 1 9 := ⟨⟨g1209, rfl⟩, g73, g1206, g1208, g58, dkX9_choose, _, rfl, rfl⟩
set_option maxRecDepth 100000 in
theorem g1213 : Cond.code yX9_again cX9_again 4 none ∈ gT := gW 1213 rfl rfl
set_option maxRecDepth 100000 in
theorem g1210 : Cond.methodLink RX9 253 yX9_again ∈ gT := gW 1210 rfl rfl
theorem dkX9_again : dOk mX9_again 1 := by unfold dOk; decide +kernel
set_option maxRecDepth 100000 in
theorem g1212 : Cond.instanceMethod yX9_again ∈ gT := gW 1212 rfl rfl
set_option maxRecDepth 100000 in
theorem g59 : Cond.selects RX9 yX9_again yX9_again ∈ gT := gW 59 rfl rfl
theorem vX9_253 : vOk RX9 mX9_again 253 1 9 := ⟨⟨g1213, rfl⟩, g73, g1210, g1212, g59, dkX9_again, _, rfl, rfl⟩
set_option maxRecDepth 100000 in
theorem g1217 : Cond.code yX9_within cX9_within 6 none ∈ gT := gW 1217 rfl rfl
set_option maxRecDepth 100000 in
theorem g1214 : Cond.methodLink RX9 256 yX9_within ∈ gT := gW 1214 rfl rfl
theorem dkX9_within : dOk mX9_within 1 := by unfold dOk; decide +kernel
set_option maxRecDepth 100000 in
theorem g1216 : Cond.instanceMethod yX9_within ∈ gT := gW 1216 rfl rfl
set_option maxRecDepth 100000 in
theorem g60 : Cond.selects RX9 yX9_within yX9_within ∈ gT := gW 60 rfl rfl
theorem vX9_256 : vOk RX9 mX9_within 256 1 9 := ⟨⟨g1217, rfl⟩, g73, g1214, g1216, g60, dkX9_within, _, rfl, rfl⟩
set_option maxRecDepth 100000 in
theorem g1221 : Cond.code yX9_keep cX9_keep 7 none ∈ gT := gW 1221 rfl rfl
set_option maxRecDepth 100000 in
theorem g1218 : Cond.methodLink RX9 285 yX9_keep ∈ gT := gW 1218 rfl rfl
theorem dkX9_keep : dOk mX9_keep 1 := by unfold dOk; decide +kernel
set_option maxRecDepth 100000 in
theorem g1220 : Cond.instanceMethod yX9_keep ∈ gT := gW 1220 rfl rfl
set_option maxRecDepth 100000 in
theorem g61 : Cond.selects RX9 yX9_keep yX9_keep ∈ gT := gW 61 rfl rfl
theorem vX9_285 : vOk RX9 mX9_keep 285 1 9 := ⟨⟨g1221, rfl⟩, g73, g1218, g1220, g61, dkX9_keep, _, rfl, rfl⟩
set_option maxRecDepth 100000 in
theorem g1225 : Cond.code yX9_writeLog cX9_writeLog 6 none ∈ gT := gW 1225 rfl rfl
set_option maxRecDepth 100000 in
theorem g1222 : Cond.methodLink RX9 274 yX9_writeLog ∈ gT := gW 1222 rfl rfl
theorem dkX9_writeLog : dOk mX9_writeLog 3 := by unfold dOk; decide +kernel
set_option maxRecDepth 100000 in
theorem g1224 : Cond.instanceMethod yX9_writeLog ∈ gT := gW 1224 rfl rfl
set_option maxRecDepth 100000 in
theorem g62 : Cond.selects RX9 yX9_writeLog yX9_writeLog ∈ gT := gW 62 rfl rfl
theorem vX9_274 : vOk RX9 mX9_writeLog 274 3 9 := ⟨⟨g1225, rfl⟩, g73, g1222, g1224, g62, dkX9_writeLog, _, rfl, rfl⟩
set_option maxRecDepth 100000 in
theorem g1229 : Cond.code yX9_result cX9_result 3 (some .int) ∈ gT := gW 1229 rfl rfl
set_option maxRecDepth 100000 in
theorem g1226 : Cond.methodLink RL 148 yX9_result ∈ gT := gW 1226 rfl rfl
theorem dkX9_result : dOk mX9_result 2 := by unfold dOk; decide +kernel
set_option maxRecDepth 100000 in
theorem g1227 : Cond.instanceMethod yX9_result ∈ gT := gW 1227 rfl rfl
set_option maxRecDepth 100000 in
theorem g1228 : Cond.selects RX9 yX9_result yX9_result ∈ gT := gW 1228 rfl rfl
theorem vL_148 : vOk RL mX9_result 148 2 9 := ⟨⟨g1229, rfl⟩, g73, g1226, g1227, g1228, dkX9_result, _, rfl, rfl⟩
set_option maxRecDepth 100000 in
theorem g1233 : Cond.code yX9_shared cX9_shared 2 (some .int) ∈ gT := gW 1233 rfl rfl
set_option maxRecDepth 100000 in
theorem g1230 : Cond.methodLink RL 151 yX9_shared ∈ gT := gW 1230 rfl rfl
theorem dkX9_shared : dOk mX9_shared 1 := by unfold dOk; decide +kernel
set_option maxRecDepth 100000 in
theorem g1231 : Cond.instanceMethod yX9_shared ∈ gT := gW 1231 rfl rfl
set_option maxRecDepth 100000 in
theorem g1232 : Cond.selects RX9 yX9_shared yX9_shared ∈ gT := gW 1232 rfl rfl
theorem vL_151 : vOk RL mX9_shared 151 1 9 := ⟨⟨g1233, rfl⟩, g73, g1230, g1231, g1232, dkX9_shared, _, rfl, rfl⟩
set_option maxRecDepth 100000 in
theorem g1237 : Cond.code yX9_alike cX9_alike 5 (some .boolean) ∈ gT := gW 1237 rfl rfl
set_option maxRecDepth 100000 in
theorem g1234 : Cond.methodLink RL 154 yX9_alike ∈ gT := gW 1234 rfl rfl
theorem dkX9_alike : dOk mX9_alike 4 := by unfold dOk; decide +kernel
set_option maxRecDepth 100000 in
theorem g1235 : Cond.instanceMethod yX9_alike ∈ gT := gW 1235 rfl rfl
set_option maxRecDepth 100000 in
theorem g1236 : Cond.selects RX9 yX9_alike yX9_alike ∈ gT := gW 1236 rfl rfl
theorem vL_154 : vOk RL mX9_alike 154 4 9 := ⟨⟨g1237, rfl⟩, g73, g1234, g1235, g1236, dkX9_alike, _, rfl, rfl⟩
set_option maxRecDepth 100000 in
theorem g1241 : Cond.code yX9_lay cX9_lay 4 none ∈ gT := gW 1241 rfl rfl
set_option maxRecDepth 100000 in
theorem g1238 : Cond.methodLink RX9 291 yX9_lay ∈ gT := gW 1238 rfl rfl
theorem dkX9_lay : dOk mX9_lay 0 := by unfold dOk; decide +kernel
set_option maxRecDepth 100000 in
theorem g1240 : Cond.instanceMethod yX9_lay ∈ gT := gW 1240 rfl rfl
set_option maxRecDepth 100000 in
theorem g63 : Cond.selects RX9 yX9_lay yX9_lay ∈ gT := gW 63 rfl rfl
theorem vX9_291 : vOk RX9 mX9_lay 291 0 9 := ⟨⟨g1241, rfl⟩, g73, g1238, g1240, g63, dkX9_lay, _, rfl, rfl⟩
set_option maxRecDepth 100000 in
theorem g1245 : Cond.code yX9_isAsLaid cX9_isAsLaid 5 (some .boolean) ∈ gT := gW 1245 rfl rfl
set_option maxRecDepth 100000 in
theorem g1242 : Cond.methodLink RX9 294 yX9_isAsLaid ∈ gT := gW 1242 rfl rfl
theorem dkX9_isAsLaid : dOk mX9_isAsLaid 0 := by unfold dOk; decide +kernel
set_option maxRecDepth 100000 in
theorem g1244 : Cond.instanceMethod yX9_isAsLaid ∈ gT := gW 1244 rfl rfl
set_option maxRecDepth 100000 in
theorem g64 : Cond.selects RX9 yX9_isAsLaid yX9_isAsLaid ∈ gT := gW 64 rfl rfl
theorem vX9_294 : vOk RX9 mX9_isAsLaid 294 0 9 := ⟨⟨g1245, rfl⟩, g73, g1242, g1244, g64, dkX9_isAsLaid, _, rfl, rfl⟩
