/-! the second method's run, in each manner -/
set_option maxRecDepth 1000000 in
theorem sx_e10 : sx_go (sx_ad1 (sx_T false) 0) sx_Bd 175 sx_a1 (sx_k1 0 false) = true := by decide +kernel
set_option maxRecDepth 1000000 in
theorem sx_e11 : sx_go (sx_ad1 (sx_T false) 1) sx_Bd 175 sx_a1 (sx_k1 1 true) = true := by decide +kernel
set_option maxRecDepth 1000000 in
theorem sx_e12 : sx_go (sx_ad1 (sx_T true) 1) sx_Bd 175 sx_a1 (sx_k1 1 true) = true := by decide +kernel
set_option maxRecDepth 1000000 in
theorem sx_e13 : sx_go (sx_ad1 (sx_T false) 2) sx_Bd 175 sx_a1 (sx_k1 2 true) = true := by decide +kernel
set_option maxRecDepth 1000000 in
theorem sx_e14 : sx_go (sx_ad1 (sx_T true) 2) sx_Bd 175 sx_a1 (sx_k1 2 true) = true := by decide +kernel
