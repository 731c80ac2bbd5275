noncomputable section
def sx_cA3 : sx_Pc := (9, [2], sx_PC0, some 1, sx_PC1)
set_option maxRecDepth 1000000 in
theorem sx_eA3 : sx_ans (sx_execO [sx_cA1, sx_cA2] 50 9 (sx_ras [2]) sx_PC0) (sx_pcq sx_cA3) = true := by decide +kernel
end
