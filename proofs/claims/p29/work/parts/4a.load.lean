/-! the text is loaded -/
def sx_c2 (r : sx_R) : Bool := sx_isA r.1 (.inl 3) && (sx_no r.2.1 (am_SP + 2) && sx_imp sx_Bz false r.2 sx_S2)
set_option maxRecDepth 1000000 in
theorem sx_t2 : sx_ans (sx_exec am_P sx_Bz am2_b (sx_kd sx_KK) 20000 60 161 [.inr (.inr 1)] sx_S1) sx_c2 = true := by decide +kernel
