noncomputable section
def sx_cA4 : sx_Pc := (66, [32, 9], sx_PD0, none, sx_PD1)
set_option maxRecDepth 1000000 in
theorem sx_eA4 : sx_ans (sx_exec2 am_P sx_TTs sx_Bz am2_b (sx_kd sx_KK) 20000 51 66 (sx_ras [32, 9]) sx_PD0) (sx_pcq sx_cA4) = true := by decide +kernel
end
