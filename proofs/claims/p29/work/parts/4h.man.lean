/-! the manner, forgetting, what the latest run told -/
set_option maxRecDepth 1000000 in
theorem sx_eM : sx_go (some sx_TS) sx_Bm 177 sx_aM sx_kM = true := by decide +kernel
set_option maxRecDepth 1000000 in
theorem sx_eF : sx_go (sx_adF sx_TS) sx_Bm 163 sx_aF sx_kF = true := by decide +kernel
set_option maxRecDepth 1000000 in
theorem sx_eL0 : sx_go (sx_adL sx_TL) sx_Bl 176 (sx_aL 0) (sx_kL sx_v1) = true := by decide +kernel
set_option maxRecDepth 1000000 in
theorem sx_eL1 : sx_go (sx_adL sx_TL) sx_Bl 176 (sx_aL 1) (sx_kL sx_v2) = true := by decide +kernel
