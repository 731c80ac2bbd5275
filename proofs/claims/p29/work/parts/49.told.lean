noncomputable section
/-! the text is fed -/
def sx_c1 (r : sx_R) : Bool := sx_isA r.1 (.inl 1) && (sx_no r.2.1 (am_SP + 2) && sx_imp sx_Bz false r.2 sx_S1)
set_option maxRecDepth 1000000 in
theorem sx_t1 : sx_ans (sx_exec2 am_P sx_TTs sx_Bz am2_b (sx_kd sx_KK) 20000 60 174 [.inr (.inr 1), .inr (.inr 110)] sx_S0) sx_c1 = true := by decide +kernel
/-! once more -/
/-! once more, still -/
/-! once more, and still -/
end
