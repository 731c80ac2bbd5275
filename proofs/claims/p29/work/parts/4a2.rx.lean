noncomputable section
def sx_cA2 : sx_Pc := (13, [2], sx_PB0, none, sx_PB1)
set_option maxRecDepth 1000000 in
theorem sx_eA2 : sx_ans (sx_exec2 am_P sx_TTs sx_Bz am2_b (sx_kd sx_KK) 20000 50 13 (sx_ras [2]) sx_PB0) (sx_pcq sx_cA2) = true := by decide +kernel
end
