/-! the manner, forgetting, what the latest run told -/
set_option maxRecDepth 1000000 in
theorem sx_eM : sx_go (some sx_TS) sx_Bm 177 sx_aM sx_kM = true := by decide +kernel
