noncomputable section
/-! the first run -/
def sx_c3x (r : sx_R) : Bool := sx_isA r.1 (.inl 0) && (sx_no r.2.1 (am_SP + 2) && (sx_imp sx_Bz false r.2 sx_TE && (sx_isI sx_Bz r.2 49 14 (.inl 0) && (sx_isI sx_Bz r.2 49 11 (.inl 560) && (sx_isJ sx_Bz r.2 36 0 (.inl 0) && sx_isI sx_Bz r.2 44 6 (.inl 0))))))
set_option maxRecDepth 1000000 in
theorem sx_t3 : sx_ans (sx_exec2 am_P sx_TTs sx_Bz am2_b (sx_kd sx_KK) 20000 60 175 [.inr (.inr 1), .inl (.inl 0), .inr (.inl (.inl 0)), .inr (.inl (.inl 0))] sx_S2) sx_c3x = true := by decide +kernel
end
