/-! the third method's run, for three calls -/
set_option maxRecDepth 1000000 in
theorem sx_e23 : sx_go (sx_adW sx_TW) sx_Bd 175 (sx_a2 3) (sx_k2x 3) = true := by decide +kernel
