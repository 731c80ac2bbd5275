noncomputable section
def sx_cA5 : sx_Pc := (161, [1], sx_S1, some 3, sx_S2)
set_option maxRecDepth 1000000 in
theorem sx_eA5 : sx_ans (sx_execO [sx_cA3, sx_cA4] 51 161 (sx_ras [1]) sx_S1) (sx_pcq sx_cA5) = true := by decide +kernel
theorem sx_load {L : Nat} : sx_piece L 20000 52 sx_cA5 := by
  refine sx_pc2 (cs := [sx_cA3, sx_cA4]) (List.forall_mem_cons.mpr ⟨?_, List.forall_mem_cons.mpr ⟨?_, fun _ h => by cases h⟩⟩) sx_eA5
  · exact sx_pc2 (d := 50) (cs := [sx_cA1, sx_cA2]) (c := sx_cA3) (List.forall_mem_cons.mpr ⟨sx_pc1 (c := sx_cA1) sx_eA1, List.forall_mem_cons.mpr ⟨sx_pc1 (c := sx_cA2) sx_eA2, fun _ h => by cases h⟩⟩) sx_eA3
  · exact sx_pc1 (c := sx_cA4) sx_eA4
end
