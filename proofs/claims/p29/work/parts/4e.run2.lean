/-! the third method's run, for no call and one -/
set_option maxRecDepth 1000000 in
theorem sx_e20 : sx_go (sx_adW sx_TW) sx_Bd 175 (sx_a2 0) (sx_k2x 0) = true := by decide +kernel
set_option maxRecDepth 1000000 in
theorem sx_e21 : sx_go (sx_adW sx_TW) sx_Bd 175 (sx_a2 1) (sx_k2x 1) = true := by decide +kernel
