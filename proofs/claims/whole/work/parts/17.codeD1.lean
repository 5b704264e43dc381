set_option maxRecDepth 100000 in
theorem oL0 : cB mL_law (eL0 :: kL0 ++ [eL1]) = true := by decide +kernel
set_option maxRecDepth 100000 in
theorem oL1 : cB mL_law (eL1 :: kL1 ++ [eL2]) = true := by decide +kernel
set_option maxRecDepth 100000 in
theorem oL2 : cB mL_law (eL2 :: kL2 ++ [eL3]) = true := by decide +kernel
set_option maxRecDepth 100000 in
theorem oL3 : cB mL_law (eL3 :: kL3 ++ [eL4]) = true := by decide +kernel
set_option maxRecDepth 100000 in
theorem oL4 : cB mL_law (eL4 :: kL4 ++ [eL5]) = true := by decide +kernel
set_option maxRecDepth 100000 in
theorem oL5 : cB mL_law (eL5 :: kL5 ++ [eL6]) = true := by decide +kernel
set_option maxRecDepth 100000 in
theorem oL6 : cB mL_law (eL6 :: kL6 ++ [eL7]) = true := by decide +kernel
set_option maxRecDepth 100000 in
theorem oL7 : cB mL_law (eL7 :: kL7 ++ [eL8]) = true := by decide +kernel
set_option maxRecDepth 100000 in
theorem oL8 : cB mL_law (eL8 :: kL8 ++ [eL9]) = true := by decide +kernel
set_option maxRecDepth 100000 in
theorem oL9 : cB mL_law (eL9 :: kL9 ++ [eL10]) = true := by decide +kernel
set_option maxRecDepth 100000 in
theorem oL10 : cB mL_law (eL10 :: kL10 ++ [eL11]) = true := by decide +kernel
set_option maxRecDepth 100000 in
theorem oL11 : cB mL_law (eL11 :: kL11 ++ [eL12]) = true := by decide +kernel
set_option maxRecDepth 100000 in
theorem oL12 : cB mL_law (eL12 :: kL12 ++ [eL13]) = true := by decide +kernel
set_option maxRecDepth 100000 in
theorem oL13 : cB mL_law (eL13 :: kL13 ++ [eL14]) = true := by decide +kernel
set_option maxRecDepth 100000 in
theorem oL14 : cB mL_law (eL14 :: kL14 ++ [eL15]) = true := by decide +kernel
set_option maxRecDepth 100000 in
theorem oL15 : cB mL_law (eL15 :: kL15 ++ [eL16]) = true := by decide +kernel
set_option maxRecDepth 100000 in
theorem oL16 : cB mL_law (eL16 :: kL16 ++ [eL17]) = true := by decide +kernel
