/-! the third method's run, for two calls -/
set_option maxRecDepth 1000000 in
theorem sx_e22 : sx_go (sx_adW sx_TW) sx_Bd 175 (sx_a2 2) (sx_k2x 2) = true := by decide +kernel
