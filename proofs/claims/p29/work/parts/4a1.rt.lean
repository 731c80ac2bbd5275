noncomputable section
def sx_cA1 : sx_Pc := (117, [3], sx_PA0, none, sx_PA1)
set_option maxRecDepth 1000000 in
theorem sx_eA1 : sx_ans (sx_exec2 am_P sx_TTs sx_Bz am2_b (sx_kd sx_KK) 20000 50 117 (sx_ras [3]) sx_PA0) (sx_pcq sx_cA1) = true := by decide +kernel
end
