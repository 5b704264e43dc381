/-! what each call needs of the tables, decided -/
def vB (own : String) (N : aM) (idx n ci : Nat) : Bool := gIn [Cond.code N.y N.cc N.nL N.ret, Cond.initialized N.y.cls, Cond.methodLink own idx N.y, Cond.instanceMethod N.y, Cond.selects N.y.cls N.y N.y] && (decide (N.hh = []) && (Nat.ble N.nL 21 && (decide (N.y.cls ≠ "java/lang/invoke/MethodHandle" ∧ N.y.cls ≠ "java/lang/invoke/VarHandle" ∧ (parseMethodDescriptor N.y.desc).map (fun d => d.parameters.length) = some n) && (match qC[ci]? with
  | some q => decide (q.1 = N.y.cls)
  | none => false))))
def sB (own : String) (N : aM) (idx n : Nat) : Bool := gIn [Cond.code N.y N.cc N.nL N.ret, Cond.initialized N.y.cls, Cond.methodLink own idx N.y, Cond.static N.y] && (decide (N.hh = []) && (Nat.ble N.nL 21 && (decide (N.y.cls ≠ "java/lang/invoke/MethodHandle" ∧ N.y.cls ≠ "java/lang/invoke/VarHandle" ∧ (parseMethodDescriptor N.y.desc).map (fun d => d.parameters.length) = some n))))
def hB (own : String) (N : aM) (idx n : Nat) : Bool := gIn [Cond.codeWith N.y N.cc N.nL N.ret N.hh, Cond.initialized N.y.cls, Cond.methodLink own idx N.y, Cond.static N.y] && (decide (N.hh ≠ []) && (Nat.ble N.nL 21 && (decide (N.y.cls ≠ "java/lang/invoke/MethodHandle" ∧ N.y.cls ≠ "java/lang/invoke/VarHandle" ∧ (parseMethodDescriptor N.y.desc).map (fun d => d.parameters.length) = some n))))
def iB (own : String) (N : aM) (idx n : Nat) : Bool := gIn [Cond.code N.y N.cc N.nL N.ret, Cond.initialized N.y.cls, Cond.methodLink own idx N.y, Cond.instanceMethod N.y] && (decide (N.hh = []) && (Nat.ble N.nL 21 && (decide (N.y.cls ≠ "java/lang/invoke/MethodHandle" ∧ N.y.cls ≠ "java/lang/invoke/VarHandle" ∧ (parseMethodDescriptor N.y.desc).map (fun d => d.parameters.length) = some n) && decide (N.ret = none ∧ N.y.name = "<init>"))))
theorem iL_82 : iB RL mX8_init 82 0 = true := by decide +kernel
theorem iX3_31 : iB RX3 mX1_init 31 4 = true := by decide +kernel
theorem sX1_9 : sB RX1 mX1_placeOf 9 5 = true := by decide +kernel
theorem sX1_15 : sB RX1 mX1_bitAt 15 2 = true := by decide +kernel
theorem iX8_24 : iB RX8 mX4_init 24 0 = true := by decide +kernel
theorem iX8_37 : iB RX8 mX1_init 37 4 = true := by decide +kernel
theorem vL_155 : vB RL mX8_terms 155 0 8 = true := by decide +kernel
theorem hL_86 : hB RL mL_give 86 4 = true := by decide +kernel
theorem vL_7 : vB RL mX8_give 7 2 8 = true := by decide +kernel
theorem vX8_46 : vB RX8 mX8_keepAct 46 3 8 = true := by decide +kernel
theorem vX8_76 : vB RX8 mX8_requireOperand 76 2 8 = true := by decide +kernel
theorem sX8_50 : sB RX8 mX8_requireName 50 1 = true := by decide +kernel
theorem iX8_61 : iB RX8 mX7_init 61 6 = true := by decide +kernel
theorem sX7_30 : sB RX7 mX7_heightOf 30 1 = true := by decide +kernel
theorem sX7_34 : sB RX7 mJ9_max_7cf53 34 2 = true := by decide +kernel
theorem sX7_43 : sB RX7 mX0_layersOf 43 1 = true := by decide +kernel
theorem sX7_49 : sB RX7 mX7_layersOf 49 1 = true := by decide +kernel
theorem vX8_64 : vB RX8 mX8_keep 64 1 8 = true := by decide +kernel
theorem hL_95 : hB RL mL_of 95 5 = true := by decide +kernel
theorem vL_17 : vB RL mX8_of 17 3 8 = true := by decide +kernel
theorem hL_99 : hB RL mL_read 99 2 = true := by decide +kernel
theorem vL_23 : vB RL mX8_read 23 0 8 = true := by decide +kernel
theorem hL_103 : hB RL mL_write 103 4 = true := by decide +kernel
theorem vL_27 : vB RL mX8_write 27 2 8 = true := by decide +kernel
theorem hL_106 : hB RL mL_say 106 4 = true := by decide +kernel
theorem vL_30 : vB RL mX8_say 30 2 8 = true := by decide +kernel
theorem hL_109 : hB RL mL_fail 109 4 = true := by decide +kernel
theorem vL_33 : vB RL mX8_fail 33 2 8 = true := by decide +kernel
theorem hL_112 : hB RL mL_none 112 2 = true := by decide +kernel
theorem vL_36 : vB RL mX8_none 36 0 8 = true := by decide +kernel
theorem hL_115 : hB RL mL_either 115 4 = true := by decide +kernel
theorem vL_39 : vB RL mX8_either 39 2 8 = true := by decide +kernel
theorem vX8_68 : vB RX8 mX8_termAt 68 1 8 = true := by decide +kernel
theorem hL_119 : hB RL mL_then 119 5 = true := by decide +kernel
theorem vL_43 : vB RL mX8_then 43 3 8 = true := by decide +kernel
theorem vX8_72 : vB RX8 mX8_keepNaming 72 4 8 = true := by decide +kernel
theorem hL_122 : hB RL mL_saved 122 5 = true := by decide +kernel
theorem vL_46 : vB RL mX8_saved 46 3 8 = true := by decide +kernel
theorem hL_125 : hB RL mL_when 125 5 = true := by decide +kernel
theorem vL_49 : vB RL mX8_when 49 3 8 = true := by decide +kernel
theorem hL_128 : hB RL mL_times 128 5 = true := by decide +kernel
theorem vL_52 : vB RL mX8_times 52 3 8 = true := by decide +kernel
theorem hL_132 : hB RL mL_as 132 4 = true := by decide +kernel
theorem vL_56 : vB RL mX8_as 56 2 8 = true := by decide +kernel
theorem hL_135 : hB RL mL_order 135 6 = true := by decide +kernel
theorem vL_59 : vB RL mX8_order 59 4 8 = true := by decide +kernel
theorem sX8_82 : sB RX8 mX8_withLayer 82 2 = true := by decide +kernel
theorem sX8_86 : sB RX8 mJ6_bitCount_0f7a4 86 1 = true := by decide +kernel
theorem hL_139 : hB RL mL_needs 139 3 = true := by decide +kernel
theorem vL_63 : vB RL mX8_needs 63 1 8 = true := by decide +kernel
theorem hL_143 : hB RL mL_run 143 5 = true := by decide +kernel
theorem vL_67 : vB RL mX8_run 67 3 8 = true := by decide +kernel
theorem sX8_96 : sB RX8 mX8_requireSteps 96 1 = true := by decide +kernel
theorem vX8_99 : vB RX8 mX8_requireLayers 99 1 8 = true := by decide +kernel
theorem vX8_102 : vB RX8 mX3_carryOut 102 5 3 = true := by decide +kernel
theorem vX3_45 : vB RX3 mX3_clear 45 0 3 = true := by decide +kernel
theorem vX3_74 : vB RX3 mX2_clear 74 0 2 = true := by decide +kernel
theorem vX3_75 : vB RX3 mX5_cutTo 75 1 5 = true := by decide +kernel
theorem vX3_48 : vB RX3 mX3_perform 48 1 3 = true := by decide +kernel
theorem vX3_147 : vB RX3 mX3_operandOf 147 1 3 = true := by decide +kernel
theorem vX3_173 : vB RX3 mX3_numberOf 173 1 3 = true := by decide +kernel
theorem vX3_150 : vB RX3 mX3_answer 150 1 3 = true := by decide +kernel
theorem vX3_203 : vB RX3 mX5_push 203 4 5 = true := by decide +kernel
theorem vX3_152 : vB RX3 mX3_performWrite 152 1 3 = true := by decide +kernel
theorem vX3_155 : vB RX3 mX3_performSay 155 1 3 = true := by decide +kernel
theorem vX3_207 : vB RX3 mX2_with 207 2 2 = true := by decide +kernel
theorem vX2_29 : vB RX2 mX2_lengthOf 29 1 2 = true := by decide +kernel
theorem vX2_25 : vB RX2 mX2_has 25 1 2 = true := by decide +kernel
theorem vX3_158 : vB RX3 mX3_performFail 158 1 3 = true := by decide +kernel
theorem vX3_161 : vB RX3 mX3_performEither 161 1 3 = true := by decide +kernel
theorem vX3_52 : vB RX3 mX5_size 52 0 5 = true := by decide +kernel
theorem vX3_214 : vB RX3 mX3_takeOwn 214 2 3 = true := by decide +kernel
theorem vX3_217 : vB RX3 mX3_isTooMany 217 1 3 = true := by decide +kernel
theorem vX3_164 : vB RX3 mX3_performThen 164 1 3 = true := by decide +kernel
theorem vX3_220 : vB RX3 mX3_performEach 220 4 3 = true := by decide +kernel
theorem vX3_122 : vB RX3 mX5_isError 122 1 5 = true := by decide +kernel
theorem vX5_29 : vB RX5 mX5_has 29 1 5 = true := by decide +kernel
theorem vX3_133 : vB RX3 mX5_stateOf 133 1 5 = true := by decide +kernel
theorem vX3_139 : vB RX3 mX5_logOf 139 1 5 = true := by decide +kernel
theorem vX3_126 : vB RX3 mX5_numberOf 126 1 5 = true := by decide +kernel
theorem vX3_224 : vB RX3 mX3_performNaming 224 3 3 = true := by decide +kernel
theorem vX3_246 : vB RX3 mX5_pushAgain 246 1 5 = true := by decide +kernel
theorem vX5_35 : vB RX5 mX5_numberOf 35 1 5 = true := by decide +kernel
theorem vX5_39 : vB RX5 mX5_isError 39 1 5 = true := by decide +kernel
theorem vX5_42 : vB RX5 mX5_stateOf 42 1 5 = true := by decide +kernel
theorem vX5_45 : vB RX5 mX5_logOf 45 1 5 = true := by decide +kernel
theorem vX5_48 : vB RX5 mX5_push 48 4 5 = true := by decide +kernel
theorem vX3_249 : vB RX3 mX5_closeGap 249 2 5 = true := by decide +kernel
theorem sX5_52 : sB RX5 mJ9_min_7cf53 52 2 = true := by decide +kernel
theorem vX5_58 : vB RX5 mX5_cutTo 58 1 5 = true := by decide +kernel
theorem sX5_62 : sB RX5 mJ9_max_7cf53 62 2 = true := by decide +kernel
theorem vX3_167 : vB RX3 mX3_performSaved 167 1 3 = true := by decide +kernel
theorem vX3_228 : vB RX3 mX5_setState 228 2 5 = true := by decide +kernel
theorem vX3_230 : vB RX3 mX5_setLog 230 2 5 = true := by decide +kernel
theorem vX3_181 : vB RX3 mX3_performTimes 181 1 3 = true := by decide +kernel
theorem sX3_232 : sB RX3 mJ9_min_7cf53 232 2 = true := by decide +kernel
theorem sX3_237 : sB RX3 mJ9_max_7cf53 237 2 = true := by decide +kernel
theorem vX3_184 : vB RX3 mX3_performOnce 184 1 3 = true := by decide +kernel
theorem vX3_187 : vB RX3 mX3_performHeard 187 1 3 = true := by decide +kernel
theorem vX3_240 : vB RX3 mX2_lengthOf 240 1 2 = true := by decide +kernel
theorem vX3_243 : vB RX3 mX5_setNumber 243 2 5 = true := by decide +kernel
theorem vX3_190 : vB RX3 mX3_performHidden 190 1 3 = true := by decide +kernel
theorem sX3_193 : sB RX3 mX3_reckon 193 3 = true := by decide +kernel
theorem vX3_61 : vB RX3 mX3_tell 61 1 3 = true := by decide +kernel
theorem vX3_83 : vB RX3 mX3_tellCommon 83 2 3 = true := by decide +kernel
theorem vX3_95 : vB RX3 mX6_setHead 95 2 6 = true := by decide +kernel
theorem vX3_108 : vB RX3 mX6_setState 108 2 6 = true := by decide +kernel
theorem vX3_118 : vB RX3 mX6_setLog 118 3 6 = true := by decide +kernel
theorem vX6_25 : vB RX6 mX2_lengthOf 25 1 2 = true := by decide +kernel
theorem sX6_31 : sB RX6 mJ9_min_7cf53 31 2 = true := by decide +kernel
theorem vX6_34 : vB RX6 mX2_lastOf 34 1 2 = true := by decide +kernel
theorem vX6_37 : vB RX6 mX2_withoutLast 37 1 2 = true := by decide +kernel
theorem vX3_91 : vB RX3 mX3_tellResult 91 2 3 = true := by decide +kernel
theorem hL_146 : hB RL mL_result 146 4 = true := by decide +kernel
theorem vL_72 : vB RL mX8_result 72 2 8 = true := by decide +kernel
theorem vX8_109 : vB RX8 mX4_rowOf 109 1 4 = true := by decide +kernel
theorem sX8_118 : sB RX8 mX8_tellOf 118 2 = true := by decide +kernel
theorem vX8_157 : vB RX8 mX6_tells 157 1 6 = true := by decide +kernel
theorem sX6_15 : sB RX6 mJ9_max_7cf53 15 2 = true := by decide +kernel
theorem vX8_165 : vB RX8 mX6_at 165 1 6 = true := by decide +kernel
theorem vX6_21 : vB RX6 mX6_tells 21 1 6 = true := by decide +kernel
theorem hL_149 : hB RL mL_shared 149 3 = true := by decide +kernel
theorem vL_75 : vB RL mX8_shared 75 1 8 = true := by decide +kernel
theorem hL_152 : hB RL mL_alike 152 6 = true := by decide +kernel
theorem vL_78 : vB RL mX8_alike 78 4 8 = true := by decide +kernel
theorem vX8_131 : vB RX8 mX4_isLike 131 1 4 = true := by decide +kernel
theorem vX4_26 : vB RX4 mX6_isLike 26 2 6 = true := by decide +kernel
theorem vX6_40 : vB RX6 mX6_at 40 1 6 = true := by decide +kernel
theorem vL_92 : vB RL mX9_thrown 92 0 9 = true := by decide +kernel
theorem iL_85 : iB RL mX9_init 85 0 = true := by decide +kernel
theorem vL_91 : vB RL mX9_give 91 2 9 = true := by decide +kernel
theorem vX9_160 : vB RX9 mX9_operand 160 4 9 = true := by decide +kernel
theorem sX9_148 : sB RX9 mX9_isName 148 1 = true := by decide +kernel
theorem vX9_152 : vB RX9 mX9_refuse 152 1 9 = true := by decide +kernel
theorem vX9_156 : vB RX9 mX9_made 156 6 9 = true := by decide +kernel
theorem vX9_144 : vB RX9 mX9_above 144 2 9 = true := by decide +kernel
theorem vL_98 : vB RL mX9_of 98 3 9 = true := by decide +kernel
theorem vL_102 : vB RL mX9_read 102 0 9 = true := by decide +kernel
theorem vL_105 : vB RL mX9_write 105 2 9 = true := by decide +kernel
theorem vL_108 : vB RL mX9_say 108 2 9 = true := by decide +kernel
theorem vL_111 : vB RL mX9_fail 111 2 9 = true := by decide +kernel
theorem vL_114 : vB RL mX9_none 114 0 9 = true := by decide +kernel
theorem vL_118 : vB RL mX9_either 118 2 9 = true := by decide +kernel
theorem vX9_164 : vB RX9 mX9_isTerm 164 1 9 = true := by decide +kernel
theorem vX9_167 : vB RX9 mX9_isFull 167 2 9 = true := by decide +kernel
theorem vL_121 : vB RL mX9_then 121 3 9 = true := by decide +kernel
theorem vX9_171 : vB RX9 mX9_three 171 5 9 = true := by decide +kernel
theorem vL_124 : vB RL mX9_saved 124 3 9 = true := by decide +kernel
theorem vL_127 : vB RL mX9_when 127 3 9 = true := by decide +kernel
theorem vL_131 : vB RL mX9_times 131 3 9 = true := by decide +kernel
theorem vL_134 : vB RL mX9_as 134 2 9 = true := by decide +kernel
theorem vL_158 : vB RL mX9_terms 158 0 9 = true := by decide +kernel
theorem vL_142 : vB RL mX9_needs 142 1 9 = true := by decide +kernel
theorem vL_138 : vB RL mX9_order 138 4 9 = true := by decide +kernel
theorem vL_145 : vB RL mX9_run 145 3 9 = true := by decide +kernel
theorem vX9_278 : vB RX9 mX9_lacks 278 1 9 = true := by decide +kernel
theorem vX9_175 : vB RX9 mX9_has 175 1 9 = true := by decide +kernel
theorem vX9_281 : vB RX9 mX9_doIt 281 3 9 = true := by decide +kernel
theorem vX9_237 : vB RX9 mX9_push 237 6 9 = true := by decide +kernel
theorem vX9_271 : vB RX9 mX9_go 271 0 9 = true := by decide +kernel
theorem vX9_241 : vB RX9 mX9_leaf 241 1 9 = true := by decide +kernel
theorem vX9_210 : vB RX9 mX9_value 210 3 9 = true := by decide +kernel
theorem sX9_214 : sB RX9 mX9_op 214 3 = true := by decide +kernel
theorem vX9_178 : vB RX9 mX9_isOwn 178 1 9 = true := by decide +kernel
theorem vX9_218 : vB RX9 mX9_longer 218 2 9 = true := by decide +kernel
theorem vX9_221 : vB RX9 mX9_isShared 221 1 9 = true := by decide +kernel
theorem vX9_224 : vB RX9 mX9_unwind 224 1 9 = true := by decide +kernel
theorem vX9_234 : vB RX9 mX9_isOutside 234 1 9 = true := by decide +kernel
theorem vX9_203 : vB RX9 mX9_tell 203 5 9 = true := by decide +kernel
theorem vX9_200 : vB RX9 mX9_row 200 2 9 = true := by decide +kernel
theorem vX9_244 : vB RX9 mX9_either_ 244 1 9 = true := by decide +kernel
theorem vX9_259 : vB RX9 mX9_gather 259 1 9 = true := by decide +kernel
theorem vX9_262 : vB RX9 mX9_finish 262 0 9 = true := by decide +kernel
theorem vX9_247 : vB RX9 mX9_along 247 1 9 = true := by decide +kernel
theorem vX9_265 : vB RX9 mX9_gatherNext 265 1 9 = true := by decide +kernel
theorem vX9_268 : vB RX9 mX9_turn 268 1 9 = true := by decide +kernel
theorem vX9_250 : vB RX9 mX9_choose 250 1 9 = true := by decide +kernel
theorem vX9_253 : vB RX9 mX9_again 253 1 9 = true := by decide +kernel
theorem vX9_256 : vB RX9 mX9_within 256 1 9 = true := by decide +kernel
theorem vX9_285 : vB RX9 mX9_keep 285 1 9 = true := by decide +kernel
theorem vX9_274 : vB RX9 mX9_writeLog 274 3 9 = true := by decide +kernel
theorem vL_148 : vB RL mX9_result 148 2 9 = true := by decide +kernel
theorem vL_151 : vB RL mX9_shared 151 1 9 = true := by decide +kernel
theorem vL_154 : vB RL mX9_alike 154 4 9 = true := by decide +kernel
theorem vX9_291 : vB RX9 mX9_lay 291 0 9 = true := by decide +kernel
theorem vX9_294 : vB RX9 mX9_isAsLaid 294 0 9 = true := by decide +kernel
