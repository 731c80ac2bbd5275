theorem am_l12_0_0 : am_ltP am_P "DelegationShopModel" (0, 7, 12, 1, 0) := am_gfN rfl rfl (am_tw9 (i := 62) rfl rfl)
theorem am_l12_0_1 : am_ltP am_P "DelegationShopModel" (0, 13, 12, 5, 0) := am_gfN rfl rfl (am_tw9 (i := 66) rfl rfl)
theorem am_l12_0_2 : am_ltP am_P "DelegationShopModel" (0, 16, 12, 6, 0) := am_gfN rfl rfl (am_tw9 (i := 67) rfl rfl)
theorem am_l12_0_3 : am_ltP am_P "DelegationShopModel" (0, 19, 12, 7, 0) := am_gfN rfl rfl (am_tw9 (i := 68) rfl rfl)
theorem am_l12_0_4 : am_ltP am_P "DelegationShopModel" (0, 22, 12, 8, 0) := am_gfN rfl rfl (am_tw9 (i := 69) rfl rfl)
theorem am_l12_0_5 : am_ltP am_P "DelegationShopModel" (0, 25, 12, 9, 0) := am_gfN rfl rfl (am_tw9 (i := 70) rfl rfl)
theorem am_l12_0_6 : am_ltP am_P "DelegationShopModel" (0, 28, 12, 10, 0) := am_gfN rfl rfl (am_tw9 (i := 71) rfl rfl)
theorem am_l12_0_7 : am_ltP am_P "DelegationShopModel" (0, 31, 12, 11, 0) := am_gfN rfl rfl (am_tw9 (i := 72) rfl rfl)
theorem am_l12_0_8 : am_ltP am_P "DelegationShopModel" (0, 34, 12, 12, 0) := am_gfN rfl rfl (am_tw9 (i := 73) rfl rfl)
theorem am_l12_0_9 : am_ltP am_P "DelegationShopModel" (0, 37, 12, 13, 0) := am_gfN rfl rfl (am_tw9 (i := 74) rfl rfl)
theorem am_l12_0_10 : am_ltP am_P "DelegationShopModel" (0, 40, 12, 14, 0) := am_gfN rfl rfl (am_tw9 (i := 75) rfl rfl)
theorem am_l12_0_11 : am_ltP am_P "DelegationShopModel" (0, 43, 12, 15, 0) := am_gfN rfl rfl (am_tw9 (i := 76) rfl rfl)
theorem am_l12_0_12 : am_ltP am_P "DelegationShopModel" (0, 46, 12, 16, 0) := am_gfN rfl rfl (am_tw9 (i := 77) rfl rfl)
theorem am_l12_0_13 : am_ltP am_P "DelegationShopModel" (0, 49, 12, 17, 0) := am_gfN rfl rfl (am_tw9 (i := 78) rfl rfl)
theorem am_l12_0_14 : am_ltP am_P "DelegationShopModel" (0, 52, 12, 18, 0) := am_gfN rfl rfl (am_tw9 (i := 79) rfl rfl)
theorem am_l12_0_15 : am_ltP am_P "DelegationShopModel" (0, 55, 12, 19, 0) := am_gfN rfl rfl (am_tw9 (i := 80) rfl rfl)
theorem am_l12_0_16 : am_ltP am_P "DelegationShopModel" (0, 58, 12, 20, 0) := am_gfN rfl rfl (am_tw9 (i := 81) rfl rfl)
theorem am_l12_0_17 : am_ltP am_P "DelegationShopModel" (0, 61, 12, 21, 0) := am_gfN rfl rfl (am_tw9 (i := 82) rfl rfl)
theorem am_l12_0_18 : am_ltP am_P "DelegationShopModel" (0, 64, 12, 22, 0) := am_gfN rfl rfl (am_tw9 (i := 83) rfl rfl)
theorem am_l12_0_19 : am_ltP am_P "DelegationShopModel" (0, 67, 12, 23, 0) := am_gfN rfl rfl (am_tw9 (i := 84) rfl rfl)
def am_LT12_0 : List am_LE := [(0, 7, 12, 1, 0), (0, 13, 12, 5, 0), (0, 16, 12, 6, 0), (0, 19, 12, 7, 0), (0, 22, 12, 8, 0), (0, 25, 12, 9, 0), (0, 28, 12, 10, 0), (0, 31, 12, 11, 0), (0, 34, 12, 12, 0), (0, 37, 12, 13, 0), (0, 40, 12, 14, 0), (0, 43, 12, 15, 0), (0, 46, 12, 16, 0), (0, 49, 12, 17, 0), (0, 52, 12, 18, 0), (0, 55, 12, 19, 0), (0, 58, 12, 20, 0), (0, 61, 12, 21, 0), (0, 64, 12, 22, 0), (0, 67, 12, 23, 0)]
theorem am_LTo12_0 : ∀ x ∈ am_LT12_0, am_ltP am_P "DelegationShopModel" x := List.forall_mem_cons.mpr ⟨am_l12_0_0, List.forall_mem_cons.mpr ⟨am_l12_0_1, List.forall_mem_cons.mpr ⟨am_l12_0_2, List.forall_mem_cons.mpr ⟨am_l12_0_3, List.forall_mem_cons.mpr ⟨am_l12_0_4, List.forall_mem_cons.mpr ⟨am_l12_0_5, List.forall_mem_cons.mpr ⟨am_l12_0_6, List.forall_mem_cons.mpr ⟨am_l12_0_7, List.forall_mem_cons.mpr ⟨am_l12_0_8, List.forall_mem_cons.mpr ⟨am_l12_0_9, List.forall_mem_cons.mpr ⟨am_l12_0_10, List.forall_mem_cons.mpr ⟨am_l12_0_11, List.forall_mem_cons.mpr ⟨am_l12_0_12, List.forall_mem_cons.mpr ⟨am_l12_0_13, List.forall_mem_cons.mpr ⟨am_l12_0_14, List.forall_mem_cons.mpr ⟨am_l12_0_15, List.forall_mem_cons.mpr ⟨am_l12_0_16, List.forall_mem_cons.mpr ⟨am_l12_0_17, List.forall_mem_cons.mpr ⟨am_l12_0_18, List.forall_mem_cons.mpr ⟨am_l12_0_19, fun _ h => by cases h⟩⟩⟩⟩⟩⟩⟩⟩⟩⟩⟩⟩⟩⟩⟩⟩⟩⟩⟩⟩
theorem am_l12_1_0 : am_ltP am_P "DelegationShopModel" (0, 70, 12, 24, 0) := am_gfN rfl rfl (am_tw9 (i := 85) rfl rfl)
theorem am_l12_1_1 : am_ltP am_P "DelegationShopModel" (0, 73, 12, 25, 0) := am_gfN rfl rfl (am_tw9 (i := 86) rfl rfl)
theorem am_l12_1_2 : am_ltP am_P "DelegationShopModel" (0, 76, 12, 26, 0) := am_gfN rfl rfl (am_tw9 (i := 87) rfl rfl)
theorem am_l12_1_3 : am_ltP am_P "DelegationShopModel" (0, 79, 12, 27, 0) := am_gfN rfl rfl (am_tw9 (i := 88) rfl rfl)
theorem am_l12_1_4 : am_ltP am_P "DelegationShopModel" (0, 82, 12, 28, 0) := am_gfN rfl rfl (am_tw9 (i := 89) rfl rfl)
theorem am_l12_1_5 : am_ltP am_P "DelegationShopModel" (0, 85, 12, 29, 0) := am_gfN rfl rfl (am_tw9 (i := 90) rfl rfl)
theorem am_l12_1_6 : am_ltP am_P "DelegationShopModel" (0, 88, 12, 30, 0) := am_gfN rfl rfl (am_tw9 (i := 91) rfl rfl)
theorem am_l12_1_7 : am_ltP am_P "DelegationShopModel" (0, 91, 12, 39, 0) := am_gfN rfl rfl (am_tw9 (i := 100) rfl rfl)
theorem am_l12_1_8 : am_ltP am_P "DelegationShopModel" (0, 94, 12, 40, 0) := am_gfN rfl rfl (am_tw9 (i := 101) rfl rfl)
theorem am_l12_1_9 : am_ltP am_P "DelegationShopModel" (0, 97, 12, 41, 0) := am_gfN rfl rfl (am_tw9 (i := 102) rfl rfl)
theorem am_l12_1_10 : am_ltP am_P "DelegationShopModel" (0, 100, 12, 47, 0) := am_gfN rfl rfl (am_tw9 (i := 108) rfl rfl)
theorem am_l12_1_11 : am_ltP am_P "DelegationShopModel" (0, 103, 12, 48, 0) := am_gfN rfl rfl (am_tw9 (i := 109) rfl rfl)
theorem am_l12_1_12 : am_ltP am_P "DelegationShopModel" (0, 106, 12, 49, 0) := am_gfN rfl rfl (am_tw9 (i := 110) rfl rfl)
theorem am_l12_1_13 : am_ltP am_P "DelegationShopModel" (0, 109, 12, 50, 0) := am_gfN rfl rfl (am_tw9 (i := 111) rfl rfl)
theorem am_l12_1_14 : am_ltP am_P "DelegationShopModel" (0, 112, 12, 51, 0) := am_gfN rfl rfl (am_tw9 (i := 112) rfl rfl)
theorem am_l12_1_15 : am_ltP am_P "DelegationShopModel" (0, 115, 12, 52, 0) := am_gfN rfl rfl (am_tw9 (i := 113) rfl rfl)
theorem am_l12_1_16 : am_ltP am_P "DelegationShopModel" (0, 119, 12, 54, 0) := am_gfN rfl rfl (am_tw9 (i := 115) rfl rfl)
theorem am_l12_1_17 : am_ltP am_P "DelegationShopModel" (0, 122, 12, 55, 0) := am_gfN rfl rfl (am_tw9 (i := 116) rfl rfl)
theorem am_l12_1_18 : am_ltP am_P "DelegationShopModel" (0, 125, 12, 56, 0) := am_gfN rfl rfl (am_tw9 (i := 117) rfl rfl)
theorem am_l12_1_19 : am_ltP am_P "DelegationShopModel" (0, 128, 12, 58, 0) := am_gfN rfl rfl (am_tw9 (i := 119) rfl rfl)
def am_LT12_1 : List am_LE := [(0, 70, 12, 24, 0), (0, 73, 12, 25, 0), (0, 76, 12, 26, 0), (0, 79, 12, 27, 0), (0, 82, 12, 28, 0), (0, 85, 12, 29, 0), (0, 88, 12, 30, 0), (0, 91, 12, 39, 0), (0, 94, 12, 40, 0), (0, 97, 12, 41, 0), (0, 100, 12, 47, 0), (0, 103, 12, 48, 0), (0, 106, 12, 49, 0), (0, 109, 12, 50, 0), (0, 112, 12, 51, 0), (0, 115, 12, 52, 0), (0, 119, 12, 54, 0), (0, 122, 12, 55, 0), (0, 125, 12, 56, 0), (0, 128, 12, 58, 0)]
theorem am_LTo12_1 : ∀ x ∈ am_LT12_1, am_ltP am_P "DelegationShopModel" x := List.forall_mem_cons.mpr ⟨am_l12_1_0, List.forall_mem_cons.mpr ⟨am_l12_1_1, List.forall_mem_cons.mpr ⟨am_l12_1_2, List.forall_mem_cons.mpr ⟨am_l12_1_3, List.forall_mem_cons.mpr ⟨am_l12_1_4, List.forall_mem_cons.mpr ⟨am_l12_1_5, List.forall_mem_cons.mpr ⟨am_l12_1_6, List.forall_mem_cons.mpr ⟨am_l12_1_7, List.forall_mem_cons.mpr ⟨am_l12_1_8, List.forall_mem_cons.mpr ⟨am_l12_1_9, List.forall_mem_cons.mpr ⟨am_l12_1_10, List.forall_mem_cons.mpr ⟨am_l12_1_11, List.forall_mem_cons.mpr ⟨am_l12_1_12, List.forall_mem_cons.mpr ⟨am_l12_1_13, List.forall_mem_cons.mpr ⟨am_l12_1_14, List.forall_mem_cons.mpr ⟨am_l12_1_15, List.forall_mem_cons.mpr ⟨am_l12_1_16, List.forall_mem_cons.mpr ⟨am_l12_1_17, List.forall_mem_cons.mpr ⟨am_l12_1_18, List.forall_mem_cons.mpr ⟨am_l12_1_19, fun _ h => by cases h⟩⟩⟩⟩⟩⟩⟩⟩⟩⟩⟩⟩⟩⟩⟩⟩⟩⟩⟩⟩
theorem am_l12_2_0 : am_ltP am_P "DelegationShopModel" (0, 131, 12, 59, 0) := am_gfN rfl rfl (am_tw9 (i := 120) rfl rfl)
theorem am_l12_2_1 : am_ltP am_P "DelegationShopModel" (0, 134, 12, 60, 0) := am_gfN rfl rfl (am_tw9 (i := 121) rfl rfl)
theorem am_l12_2_2 : am_ltP am_P "DelegationShopModel" (0, 137, 12, 61, 0) := am_gfN rfl rfl (am_tw9 (i := 122) rfl rfl)
theorem am_l12_2_3 : am_ltP am_P "DelegationShopModel" (0, 140, 12, 63, 0) := am_gfN rfl rfl (am_tw9 (i := 124) rfl rfl)
theorem am_l12_2_4 : am_ltP am_P "DelegationShopModel" (0, 143, 12, 65, 0) := am_gfN rfl rfl (am_tw9 (i := 126) rfl rfl)
theorem am_l12_2_5 : am_ltP am_P "DelegationShopModel" (0, 146, 12, 66, 0) := am_gfN rfl rfl (am_tw9 (i := 127) rfl rfl)
theorem am_l12_2_6 : am_ltP am_P "DelegationShopModel" (0, 149, 12, 67, 0) := am_gfN rfl rfl (am_tw9 (i := 128) rfl rfl)
theorem am_l12_2_7 : am_ltP am_P "DelegationShopModel" (0, 153, 12, 68, 0) := am_gfN rfl rfl (am_tw9 (i := 129) rfl rfl)
theorem am_l12_2_8 : am_ltP am_P "DelegationShopModel" (0, 157, 12, 72, 0) := am_gfN rfl rfl (am_tw9 (i := 133) rfl rfl)
theorem am_l12_2_9 : am_ltP am_P "DelegationShopModel" (0, 160, 12, 73, 0) := am_gfN rfl rfl (am_tw9 (i := 134) rfl rfl)
theorem am_l12_2_10 : am_ltP am_P "DelegationShopModel" (0, 163, 12, 74, 0) := am_gfN rfl rfl (am_tw9 (i := 135) rfl rfl)
theorem am_l12_2_11 : am_ltP am_P "DelegationShopModel" (0, 166, 12, 75, 0) := am_gfN rfl rfl (am_tw9 (i := 136) rfl rfl)
theorem am_l12_2_12 : am_ltP am_P "DelegationShopModel" (0, 169, 12, 76, 0) := am_gfN rfl rfl (am_tw9 (i := 137) rfl rfl)
theorem am_l12_2_13 : am_ltP am_P "DelegationShopModel" (0, 172, 12, 77, 0) := am_gfN rfl rfl (am_tw9 (i := 138) rfl rfl)
theorem am_l12_2_14 : am_ltP am_P "DelegationShopModel" (0, 175, 12, 79, 0) := am_gfN rfl rfl (am_tw9 (i := 140) rfl rfl)
theorem am_l12_2_15 : am_ltP am_P "DelegationShopModel" (0, 178, 12, 80, 0) := am_gfN rfl rfl (am_tw9 (i := 141) rfl rfl)
theorem am_l12_2_16 : am_ltP am_P "DelegationShopModel" (0, 181, 12, 81, 0) := am_gfN rfl rfl (am_tw9 (i := 142) rfl rfl)
theorem am_l12_2_17 : am_ltP am_P "DelegationShopModel" (0, 184, 12, 82, 0) := am_gfN rfl rfl (am_tw9 (i := 143) rfl rfl)
theorem am_l12_2_18 : am_ltP am_P "DelegationShopModel" (0, 187, 12, 83, 0) := am_gfN rfl rfl (am_tw9 (i := 144) rfl rfl)
theorem am_l12_2_19 : am_ltP am_P "DelegationShopModel" (0, 190, 12, 85, 0) := am_gfN rfl rfl (am_tw9 (i := 146) rfl rfl)
def am_LT12_2 : List am_LE := [(0, 131, 12, 59, 0), (0, 134, 12, 60, 0), (0, 137, 12, 61, 0), (0, 140, 12, 63, 0), (0, 143, 12, 65, 0), (0, 146, 12, 66, 0), (0, 149, 12, 67, 0), (0, 153, 12, 68, 0), (0, 157, 12, 72, 0), (0, 160, 12, 73, 0), (0, 163, 12, 74, 0), (0, 166, 12, 75, 0), (0, 169, 12, 76, 0), (0, 172, 12, 77, 0), (0, 175, 12, 79, 0), (0, 178, 12, 80, 0), (0, 181, 12, 81, 0), (0, 184, 12, 82, 0), (0, 187, 12, 83, 0), (0, 190, 12, 85, 0)]
theorem am_LTo12_2 : ∀ x ∈ am_LT12_2, am_ltP am_P "DelegationShopModel" x := List.forall_mem_cons.mpr ⟨am_l12_2_0, List.forall_mem_cons.mpr ⟨am_l12_2_1, List.forall_mem_cons.mpr ⟨am_l12_2_2, List.forall_mem_cons.mpr ⟨am_l12_2_3, List.forall_mem_cons.mpr ⟨am_l12_2_4, List.forall_mem_cons.mpr ⟨am_l12_2_5, List.forall_mem_cons.mpr ⟨am_l12_2_6, List.forall_mem_cons.mpr ⟨am_l12_2_7, List.forall_mem_cons.mpr ⟨am_l12_2_8, List.forall_mem_cons.mpr ⟨am_l12_2_9, List.forall_mem_cons.mpr ⟨am_l12_2_10, List.forall_mem_cons.mpr ⟨am_l12_2_11, List.forall_mem_cons.mpr ⟨am_l12_2_12, List.forall_mem_cons.mpr ⟨am_l12_2_13, List.forall_mem_cons.mpr ⟨am_l12_2_14, List.forall_mem_cons.mpr ⟨am_l12_2_15, List.forall_mem_cons.mpr ⟨am_l12_2_16, List.forall_mem_cons.mpr ⟨am_l12_2_17, List.forall_mem_cons.mpr ⟨am_l12_2_18, List.forall_mem_cons.mpr ⟨am_l12_2_19, fun _ h => by cases h⟩⟩⟩⟩⟩⟩⟩⟩⟩⟩⟩⟩⟩⟩⟩⟩⟩⟩⟩⟩
theorem am_l12_3_0 : am_ltP am_P "DelegationShopModel" (0, 193, 12, 86, 0) := am_gfN rfl rfl (am_tw9 (i := 147) rfl rfl)
theorem am_l12_3_1 : am_ltP am_P "DelegationShopModel" (0, 196, 12, 87, 0) := am_gfN rfl rfl (am_tw9 (i := 148) rfl rfl)
theorem am_l12_3_2 : am_ltP am_P "DelegationShopModel" (0, 199, 12, 88, 0) := am_gfN rfl rfl (am_tw9 (i := 149) rfl rfl)
theorem am_l12_3_3 : am_ltP am_P "DelegationShopModel" (0, 202, 12, 89, 0) := am_gfN rfl rfl (am_tw9 (i := 150) rfl rfl)
theorem am_l12_3_4 : am_ltP am_P "DelegationShopModel" (0, 205, 12, 90, 0) := am_gfN rfl rfl (am_tw9 (i := 151) rfl rfl)
theorem am_l12_3_5 : am_ltP am_P "DelegationShopModel" (0, 208, 12, 91, 0) := am_gfN rfl rfl (am_tw9 (i := 152) rfl rfl)
theorem am_l12_3_6 : am_ltP am_P "DelegationShopModel" (0, 211, 12, 92, 0) := am_gfN rfl rfl (am_tw9 (i := 153) rfl rfl)
theorem am_l12_3_7 : am_ltP am_P "DelegationShopModel" (0, 214, 12, 93, 0) := am_gfN rfl rfl (am_tw9 (i := 154) rfl rfl)
theorem am_l12_3_8 : am_ltP am_P "DelegationShopModel" (0, 217, 12, 94, 0) := am_gfN rfl rfl (am_tw9 (i := 155) rfl rfl)
theorem am_l12_3_9 : am_ltP am_P "DelegationShopModel" (0, 220, 12, 95, 0) := am_gfN rfl rfl (am_tw9 (i := 156) rfl rfl)
theorem am_l12_3_10 : am_ltP am_P "DelegationShopModel" (0, 223, 12, 96, 0) := am_gfN rfl rfl (am_tw9 (i := 157) rfl rfl)
theorem am_l12_3_11 : am_ltP am_P "DelegationShopModel" (0, 226, 12, 97, 0) := am_gfN rfl rfl (am_tw9 (i := 158) rfl rfl)
theorem am_l12_3_12 : am_ltP am_P "DelegationShopModel" (0, 229, 12, 98, 0) := am_gfN rfl rfl (am_tw9 (i := 159) rfl rfl)
theorem am_l12_3_13 : am_ltP am_P "DelegationShopModel" (0, 232, 12, 99, 0) := am_gfN rfl rfl (am_tw9 (i := 160) rfl rfl)
theorem am_l12_3_14 : am_ltP am_P "DelegationShopModel" (0, 235, 12, 100, 0) := am_gfN rfl rfl (am_tw9 (i := 161) rfl rfl)
theorem am_l12_3_15 : am_ltP am_P "DelegationShopModel" (0, 238, 12, 101, 0) := am_gfN rfl rfl (am_tw9 (i := 162) rfl rfl)
theorem am_l12_3_16 : am_ltP am_P "DelegationShopModel" (0, 241, 12, 112, 0) := am_gfN rfl rfl (am_tw9 (i := 173) rfl rfl)
theorem am_l12_3_17 : am_ltP am_P "DelegationShopModel" (0, 244, 12, 113, 0) := am_gfN rfl rfl (am_tw9 (i := 174) rfl rfl)
theorem am_l12_3_18 : am_ltP am_P "DelegationShopModel" (0, 247, 12, 114, 0) := am_gfN rfl rfl (am_tw9 (i := 175) rfl rfl)
theorem am_l12_3_19 : am_ltP am_P "DelegationShopModel" (0, 250, 12, 115, 0) := am_gfN rfl rfl (am_tw9 (i := 176) rfl rfl)
def am_LT12_3 : List am_LE := [(0, 193, 12, 86, 0), (0, 196, 12, 87, 0), (0, 199, 12, 88, 0), (0, 202, 12, 89, 0), (0, 205, 12, 90, 0), (0, 208, 12, 91, 0), (0, 211, 12, 92, 0), (0, 214, 12, 93, 0), (0, 217, 12, 94, 0), (0, 220, 12, 95, 0), (0, 223, 12, 96, 0), (0, 226, 12, 97, 0), (0, 229, 12, 98, 0), (0, 232, 12, 99, 0), (0, 235, 12, 100, 0), (0, 238, 12, 101, 0), (0, 241, 12, 112, 0), (0, 244, 12, 113, 0), (0, 247, 12, 114, 0), (0, 250, 12, 115, 0)]
theorem am_LTo12_3 : ∀ x ∈ am_LT12_3, am_ltP am_P "DelegationShopModel" x := List.forall_mem_cons.mpr ⟨am_l12_3_0, List.forall_mem_cons.mpr ⟨am_l12_3_1, List.forall_mem_cons.mpr ⟨am_l12_3_2, List.forall_mem_cons.mpr ⟨am_l12_3_3, List.forall_mem_cons.mpr ⟨am_l12_3_4, List.forall_mem_cons.mpr ⟨am_l12_3_5, List.forall_mem_cons.mpr ⟨am_l12_3_6, List.forall_mem_cons.mpr ⟨am_l12_3_7, List.forall_mem_cons.mpr ⟨am_l12_3_8, List.forall_mem_cons.mpr ⟨am_l12_3_9, List.forall_mem_cons.mpr ⟨am_l12_3_10, List.forall_mem_cons.mpr ⟨am_l12_3_11, List.forall_mem_cons.mpr ⟨am_l12_3_12, List.forall_mem_cons.mpr ⟨am_l12_3_13, List.forall_mem_cons.mpr ⟨am_l12_3_14, List.forall_mem_cons.mpr ⟨am_l12_3_15, List.forall_mem_cons.mpr ⟨am_l12_3_16, List.forall_mem_cons.mpr ⟨am_l12_3_17, List.forall_mem_cons.mpr ⟨am_l12_3_18, List.forall_mem_cons.mpr ⟨am_l12_3_19, fun _ h => by cases h⟩⟩⟩⟩⟩⟩⟩⟩⟩⟩⟩⟩⟩⟩⟩⟩⟩⟩⟩⟩
theorem am_l12_4_0 : am_ltP am_P "DelegationShopModel" (0, 253, 12, 116, 0) := am_gfN rfl rfl (am_tw9 (i := 177) rfl rfl)
theorem am_l12_4_1 : am_ltP am_P "DelegationShopModel" (0, 256, 12, 117, 0) := am_gfN rfl rfl (am_tw9 (i := 178) rfl rfl)
theorem am_l12_4_2 : am_ltP am_P "DelegationShopModel" (0, 259, 12, 118, 0) := am_gfN rfl rfl (am_tw9 (i := 179) rfl rfl)
theorem am_l12_4_3 : am_ltP am_P "DelegationShopModel" (0, 262, 12, 119, 0) := am_gfN rfl rfl (am_tw9 (i := 180) rfl rfl)
theorem am_l12_4_4 : am_ltP am_P "DelegationShopModel" (0, 265, 12, 120, 0) := am_gfN rfl rfl (am_tw9 (i := 181) rfl rfl)
theorem am_l12_4_5 : am_ltP am_P "DelegationShopModel" (0, 268, 12, 121, 0) := am_gfN rfl rfl (am_tw9 (i := 182) rfl rfl)
theorem am_l12_4_6 : am_ltP am_P "DelegationShopModel" (0, 271, 12, 122, 0) := am_gfN rfl rfl (am_tw9 (i := 183) rfl rfl)
theorem am_l12_4_7 : am_ltP am_P "DelegationShopModel" (0, 274, 12, 123, 0) := am_gfN rfl rfl (am_tw9 (i := 184) rfl rfl)
theorem am_l12_4_8 : am_ltP am_P "DelegationShopModel" (0, 277, 12, 124, 0) := am_gfN rfl rfl (am_tw9 (i := 185) rfl rfl)
theorem am_l12_4_9 : am_ltP am_P "DelegationShopModel" (0, 280, 12, 125, 0) := am_gfN rfl rfl (am_tw9 (i := 186) rfl rfl)
theorem am_l12_4_10 : am_ltP am_P "DelegationShopModel" (0, 283, 12, 126, 0) := am_gfN rfl rfl (am_tw9 (i := 187) rfl rfl)
theorem am_l12_4_11 : am_ltP am_P "DelegationShopModel" (0, 287, 12, 128, 0) := am_gfN rfl rfl (am_tw9 (i := 189) rfl rfl)
theorem am_l12_4_12 : am_ltP am_P "DelegationShopModel" (0, 290, 12, 129, 0) := am_gfN rfl rfl (am_tw9 (i := 190) rfl rfl)
theorem am_l12_4_13 : am_ltP am_P "DelegationShopModel" (0, 293, 12, 130, 0) := am_gfN rfl rfl (am_tw9 (i := 191) rfl rfl)
theorem am_l12_4_14 : am_ltP am_P "DelegationShopModel" (0, 296, 12, 131, 0) := am_gfN rfl rfl (am_tw9 (i := 192) rfl rfl)
theorem am_l12_4_15 : am_ltP am_P "DelegationShopModel" (0, 299, 12, 140, 0) := am_gfN rfl rfl (am_tw9 (i := 201) rfl rfl)
theorem am_l12_4_16 : am_ltP am_P "DelegationShopModel" (0, 302, 12, 141, 0) := am_gfN rfl rfl (am_tw9 (i := 202) rfl rfl)
theorem am_l12_4_17 : am_ltP am_P "DelegationShopModel" (0, 305, 12, 142, 0) := am_gfN rfl rfl (am_tw9 (i := 203) rfl rfl)
theorem am_l12_4_18 : am_ltP am_P "DelegationShopModel" (0, 308, 12, 143, 0) := am_gfN rfl rfl (am_tw9 (i := 204) rfl rfl)
theorem am_l12_4_19 : am_ltP am_P "DelegationShopModel" (0, 311, 12, 144, 0) := am_gfN rfl rfl (am_tw9 (i := 205) rfl rfl)
def am_LT12_4 : List am_LE := [(0, 253, 12, 116, 0), (0, 256, 12, 117, 0), (0, 259, 12, 118, 0), (0, 262, 12, 119, 0), (0, 265, 12, 120, 0), (0, 268, 12, 121, 0), (0, 271, 12, 122, 0), (0, 274, 12, 123, 0), (0, 277, 12, 124, 0), (0, 280, 12, 125, 0), (0, 283, 12, 126, 0), (0, 287, 12, 128, 0), (0, 290, 12, 129, 0), (0, 293, 12, 130, 0), (0, 296, 12, 131, 0), (0, 299, 12, 140, 0), (0, 302, 12, 141, 0), (0, 305, 12, 142, 0), (0, 308, 12, 143, 0), (0, 311, 12, 144, 0)]
theorem am_LTo12_4 : ∀ x ∈ am_LT12_4, am_ltP am_P "DelegationShopModel" x := List.forall_mem_cons.mpr ⟨am_l12_4_0, List.forall_mem_cons.mpr ⟨am_l12_4_1, List.forall_mem_cons.mpr ⟨am_l12_4_2, List.forall_mem_cons.mpr ⟨am_l12_4_3, List.forall_mem_cons.mpr ⟨am_l12_4_4, List.forall_mem_cons.mpr ⟨am_l12_4_5, List.forall_mem_cons.mpr ⟨am_l12_4_6, List.forall_mem_cons.mpr ⟨am_l12_4_7, List.forall_mem_cons.mpr ⟨am_l12_4_8, List.forall_mem_cons.mpr ⟨am_l12_4_9, List.forall_mem_cons.mpr ⟨am_l12_4_10, List.forall_mem_cons.mpr ⟨am_l12_4_11, List.forall_mem_cons.mpr ⟨am_l12_4_12, List.forall_mem_cons.mpr ⟨am_l12_4_13, List.forall_mem_cons.mpr ⟨am_l12_4_14, List.forall_mem_cons.mpr ⟨am_l12_4_15, List.forall_mem_cons.mpr ⟨am_l12_4_16, List.forall_mem_cons.mpr ⟨am_l12_4_17, List.forall_mem_cons.mpr ⟨am_l12_4_18, List.forall_mem_cons.mpr ⟨am_l12_4_19, fun _ h => by cases h⟩⟩⟩⟩⟩⟩⟩⟩⟩⟩⟩⟩⟩⟩⟩⟩⟩⟩⟩⟩
theorem am_l12_5_0 : am_ltP am_P "DelegationShopModel" (0, 314, 12, 145, 0) := am_gfN rfl rfl (am_tw9 (i := 206) rfl rfl)
theorem am_l12_5_1 : am_ltP am_P "DelegationShopModel" (0, 317, 12, 0, 0) := am_gfN rfl rfl (am_tw9 (i := 61) rfl rfl)
theorem am_l12_5_2 : am_ltP am_P "DelegationShopModel" (0, 320, 12, 2, 0) := am_gfN rfl rfl (am_tw9 (i := 63) rfl rfl)
theorem am_l12_5_3 : am_ltP am_P "DelegationShopModel" (0, 327, 12, 31, 0) := am_gfN rfl rfl (am_tw9 (i := 92) rfl rfl)
theorem am_l12_5_4 : am_ltP am_P "DelegationShopModel" (0, 330, 12, 35, 0) := am_gfN rfl rfl (am_tw9 (i := 96) rfl rfl)
theorem am_l12_5_5 : am_ltP am_P "DelegationShopModel" (0, 333, 12, 34, 0) := am_gfN rfl rfl (am_tw9 (i := 95) rfl rfl)
theorem am_l12_5_6 : am_ltP am_P "DelegationShopModel" (0, 339, 12, 32, 0) := am_gfN rfl rfl (am_tw9 (i := 93) rfl rfl)
theorem am_l12_5_7 : am_ltP am_P "DelegationShopModel" (0, 342, 12, 33, 0) := am_gfN rfl rfl (am_tw9 (i := 94) rfl rfl)
theorem am_l12_5_8 : am_ltP am_P "DelegationShopModel" (0, 356, 12, 36, 0) := am_gfN rfl rfl (am_tw9 (i := 97) rfl rfl)
theorem am_l12_5_9 : am_ltP am_P "DelegationShopModel" (0, 359, 12, 37, 0) := am_gfN rfl rfl (am_tw9 (i := 98) rfl rfl)
theorem am_l12_5_10 : am_ltP am_P "DelegationShopModel" (0, 373, 12, 38, 0) := am_gfN rfl rfl (am_tw9 (i := 99) rfl rfl)
theorem am_l12_5_11 : am_ltP am_P "DelegationShopModel" (0, 383, 12, 42, 0) := am_gfN rfl rfl (am_tw9 (i := 103) rfl rfl)
theorem am_l12_5_12 : am_ltP am_P "DelegationShopModel" (0, 390, 12, 43, 0) := am_gfN rfl rfl (am_tw9 (i := 104) rfl rfl)
theorem am_l12_5_13 : am_ltP am_P "DelegationShopModel" (0, 393, 12, 44, 0) := am_gfN rfl rfl (am_tw9 (i := 105) rfl rfl)
theorem am_l12_5_14 : am_ltP am_P "DelegationShopModel" (0, 418, 12, 45, 0) := am_gfN rfl rfl (am_tw9 (i := 106) rfl rfl)
theorem am_l12_5_15 : am_ltP am_P "DelegationShopModel" (0, 478, 12, 3, 0) := am_gfN rfl rfl (am_tw9 (i := 64) rfl rfl)
theorem am_l12_5_16 : am_ltP am_P "DelegationShopModel" (0, 484, 12, 4, 0) := am_gfN rfl rfl (am_tw9 (i := 65) rfl rfl)
theorem am_l12_5_17 : am_ltP am_P "DelegationShopModel" (0, 491, 12, 53, 0) := am_gfN rfl rfl (am_tw9 (i := 114) rfl rfl)
theorem am_l12_5_18 : am_ltP am_P "DelegationShopModel" (0, 494, 12, 62, 0) := am_gfN rfl rfl (am_tw9 (i := 123) rfl rfl)
theorem am_l12_5_19 : am_ltP am_P "DelegationShopModel" (0, 513, 12, 46, 0) := am_gfN rfl rfl (am_tw9 (i := 107) rfl rfl)
def am_LT12_5 : List am_LE := [(0, 314, 12, 145, 0), (0, 317, 12, 0, 0), (0, 320, 12, 2, 0), (0, 327, 12, 31, 0), (0, 330, 12, 35, 0), (0, 333, 12, 34, 0), (0, 339, 12, 32, 0), (0, 342, 12, 33, 0), (0, 356, 12, 36, 0), (0, 359, 12, 37, 0), (0, 373, 12, 38, 0), (0, 383, 12, 42, 0), (0, 390, 12, 43, 0), (0, 393, 12, 44, 0), (0, 418, 12, 45, 0), (0, 478, 12, 3, 0), (0, 484, 12, 4, 0), (0, 491, 12, 53, 0), (0, 494, 12, 62, 0), (0, 513, 12, 46, 0)]
theorem am_LTo12_5 : ∀ x ∈ am_LT12_5, am_ltP am_P "DelegationShopModel" x := List.forall_mem_cons.mpr ⟨am_l12_5_0, List.forall_mem_cons.mpr ⟨am_l12_5_1, List.forall_mem_cons.mpr ⟨am_l12_5_2, List.forall_mem_cons.mpr ⟨am_l12_5_3, List.forall_mem_cons.mpr ⟨am_l12_5_4, List.forall_mem_cons.mpr ⟨am_l12_5_5, List.forall_mem_cons.mpr ⟨am_l12_5_6, List.forall_mem_cons.mpr ⟨am_l12_5_7, List.forall_mem_cons.mpr ⟨am_l12_5_8, List.forall_mem_cons.mpr ⟨am_l12_5_9, List.forall_mem_cons.mpr ⟨am_l12_5_10, List.forall_mem_cons.mpr ⟨am_l12_5_11, List.forall_mem_cons.mpr ⟨am_l12_5_12, List.forall_mem_cons.mpr ⟨am_l12_5_13, List.forall_mem_cons.mpr ⟨am_l12_5_14, List.forall_mem_cons.mpr ⟨am_l12_5_15, List.forall_mem_cons.mpr ⟨am_l12_5_16, List.forall_mem_cons.mpr ⟨am_l12_5_17, List.forall_mem_cons.mpr ⟨am_l12_5_18, List.forall_mem_cons.mpr ⟨am_l12_5_19, fun _ h => by cases h⟩⟩⟩⟩⟩⟩⟩⟩⟩⟩⟩⟩⟩⟩⟩⟩⟩⟩⟩⟩
theorem am_l12_6_0 : am_ltP am_P "DelegationShopModel" (0, 516, 12, 64, 0) := am_gfN rfl rfl (am_tw9 (i := 125) rfl rfl)
theorem am_l12_6_1 : am_ltP am_P "DelegationShopModel" (0, 528, 12, 69, 0) := am_gfN rfl rfl (am_tw9 (i := 130) rfl rfl)
theorem am_l12_6_2 : am_ltP am_P "DelegationShopModel" (0, 531, 12, 70, 0) := am_gfN rfl rfl (am_tw9 (i := 131) rfl rfl)
theorem am_l12_6_3 : am_ltP am_P "DelegationShopModel" (0, 545, 12, 78, 0) := am_gfN rfl rfl (am_tw9 (i := 139) rfl rfl)
theorem am_l12_6_4 : am_ltP am_P "DelegationShopModel" (0, 548, 12, 84, 0) := am_gfN rfl rfl (am_tw9 (i := 145) rfl rfl)
theorem am_l12_6_5 : am_ltP am_P "DelegationShopModel" (0, 567, 12, 71, 0) := am_gfN rfl rfl (am_tw9 (i := 132) rfl rfl)
theorem am_l12_6_6 : am_ltP am_P "DelegationShopModel" (0, 583, 12, 57, 0) := am_gfN rfl rfl (am_tw9 (i := 118) rfl rfl)
theorem am_l12_6_7 : am_ltP am_P "DelegationShopModel" (0, 595, 12, 106, 0) := am_gfN rfl rfl (am_tw9 (i := 167) rfl rfl)
theorem am_l12_6_8 : am_ltP am_P "DelegationShopModel" (0, 598, 12, 107, 0) := am_gfN rfl rfl (am_tw9 (i := 168) rfl rfl)
theorem am_l12_6_9 : am_ltP am_P "DelegationShopModel" (0, 602, 12, 108, 0) := am_gfN rfl rfl (am_tw9 (i := 169) rfl rfl)
theorem am_l12_6_10 : am_ltP am_P "DelegationShopModel" (0, 605, 12, 109, 0) := am_gfN rfl rfl (am_tw9 (i := 170) rfl rfl)
theorem am_l12_6_11 : am_ltP am_P "DelegationShopModel" (0, 608, 12, 110, 0) := am_gfN rfl rfl (am_tw9 (i := 171) rfl rfl)
theorem am_l12_6_12 : am_ltP am_P "DelegationShopModel" (0, 611, 12, 111, 0) := am_gfN rfl rfl (am_tw9 (i := 172) rfl rfl)
theorem am_l12_6_13 : am_ltP am_P "DelegationShopModel" (0, 614, 12, 104, 0) := am_gfN rfl rfl (am_tw9 (i := 165) rfl rfl)
theorem am_l12_6_14 : am_ltP am_P "DelegationShopModel" (0, 617, 12, 127, 0) := am_gfN rfl rfl (am_tw9 (i := 188) rfl rfl)
theorem am_l12_6_15 : am_ltP am_P "DelegationShopModel" (0, 620, 12, 132, 0) := am_gfN rfl rfl (am_tw9 (i := 193) rfl rfl)
theorem am_l12_6_16 : am_ltP am_P "DelegationShopModel" (0, 623, 12, 105, 0) := am_gfN rfl rfl (am_tw9 (i := 166) rfl rfl)
theorem am_l12_6_17 : am_ltP am_P "DelegationShopModel" (0, 626, 12, 102, 0) := am_gfN rfl rfl (am_tw9 (i := 163) rfl rfl)
theorem am_l12_6_18 : am_ltP am_P "DelegationShopModel" (0, 632, 12, 133, 0) := am_gfN rfl rfl (am_tw9 (i := 194) rfl rfl)
theorem am_l12_6_19 : am_ltP am_P "DelegationShopModel" (0, 635, 12, 137, 0) := am_gfN rfl rfl (am_tw9 (i := 198) rfl rfl)
def am_LT12_6 : List am_LE := [(0, 516, 12, 64, 0), (0, 528, 12, 69, 0), (0, 531, 12, 70, 0), (0, 545, 12, 78, 0), (0, 548, 12, 84, 0), (0, 567, 12, 71, 0), (0, 583, 12, 57, 0), (0, 595, 12, 106, 0), (0, 598, 12, 107, 0), (0, 602, 12, 108, 0), (0, 605, 12, 109, 0), (0, 608, 12, 110, 0), (0, 611, 12, 111, 0), (0, 614, 12, 104, 0), (0, 617, 12, 127, 0), (0, 620, 12, 132, 0), (0, 623, 12, 105, 0), (0, 626, 12, 102, 0), (0, 632, 12, 133, 0), (0, 635, 12, 137, 0)]
theorem am_LTo12_6 : ∀ x ∈ am_LT12_6, am_ltP am_P "DelegationShopModel" x := List.forall_mem_cons.mpr ⟨am_l12_6_0, List.forall_mem_cons.mpr ⟨am_l12_6_1, List.forall_mem_cons.mpr ⟨am_l12_6_2, List.forall_mem_cons.mpr ⟨am_l12_6_3, List.forall_mem_cons.mpr ⟨am_l12_6_4, List.forall_mem_cons.mpr ⟨am_l12_6_5, List.forall_mem_cons.mpr ⟨am_l12_6_6, List.forall_mem_cons.mpr ⟨am_l12_6_7, List.forall_mem_cons.mpr ⟨am_l12_6_8, List.forall_mem_cons.mpr ⟨am_l12_6_9, List.forall_mem_cons.mpr ⟨am_l12_6_10, List.forall_mem_cons.mpr ⟨am_l12_6_11, List.forall_mem_cons.mpr ⟨am_l12_6_12, List.forall_mem_cons.mpr ⟨am_l12_6_13, List.forall_mem_cons.mpr ⟨am_l12_6_14, List.forall_mem_cons.mpr ⟨am_l12_6_15, List.forall_mem_cons.mpr ⟨am_l12_6_16, List.forall_mem_cons.mpr ⟨am_l12_6_17, List.forall_mem_cons.mpr ⟨am_l12_6_18, List.forall_mem_cons.mpr ⟨am_l12_6_19, fun _ h => by cases h⟩⟩⟩⟩⟩⟩⟩⟩⟩⟩⟩⟩⟩⟩⟩⟩⟩⟩⟩⟩
theorem am_l12_7_0 : am_ltP am_P "DelegationShopModel" (0, 638, 12, 138, 0) := am_gfN rfl rfl (am_tw9 (i := 199) rfl rfl)
theorem am_l12_7_1 : am_ltP am_P "DelegationShopModel" (0, 641, 12, 135, 0) := am_gfN rfl rfl (am_tw9 (i := 196) rfl rfl)
theorem am_l12_7_2 : am_ltP am_P "DelegationShopModel" (0, 644, 12, 136, 0) := am_gfN rfl rfl (am_tw9 (i := 197) rfl rfl)
theorem am_l12_7_3 : am_ltP am_P "DelegationShopModel" (0, 654, 12, 103, 0) := am_gfN rfl rfl (am_tw9 (i := 164) rfl rfl)
theorem am_l12_7_4 : am_ltP am_P "DelegationShopModel" (0, 669, 12, 134, 0) := am_gfN rfl rfl (am_tw9 (i := 195) rfl rfl)
theorem am_l12_7_5 : am_ltP am_P "DelegationShopModel" (0, 682, 12, 139, 0) := am_gfN rfl rfl (am_tw9 (i := 200) rfl rfl)
theorem am_l12_7_6 : am_ltP am_P "DelegationShopModel" (1, 323, 198, 0, 0) := am_lm198 (Or.inl (am_tw11 (i := 28) rfl rfl))
theorem am_l12_7_7 : am_ltP am_P "DelegationShopModel" (1, 336, 201, 0, 0) := am_lm201 (Or.inl (am_tw11 (i := 44) rfl rfl))
theorem am_l12_7_8 : am_ltP am_P "DelegationShopModel" (1, 349, 204, 0, 0) := am_lm204 (Or.inl (am_tw11 (i := 51) rfl rfl))
theorem am_l12_7_9 : am_ltP am_P "DelegationShopModel" (1, 362, 206, 0, 0) := am_lm206 (Or.inl (am_tw11 (i := 62) rfl rfl))
theorem am_l12_7_10 : am_ltP am_P "DelegationShopModel" (1, 366, 207, 0, 0) := am_lm207 (Or.inl (am_tw11 (i := 66) rfl rfl))
theorem am_l12_7_11 : am_ltP am_P "DelegationShopModel" (1, 370, 205, 0, 0) := am_lm205 (Or.inl (am_tw11 (i := 40) rfl rfl))
theorem am_l12_7_12 : am_ltP am_P "DelegationShopModel" (1, 376, 209, 0, 0) := am_lm209 (Or.inl (am_tw11 (i := 102) rfl rfl))
theorem am_l12_7_13 : am_ltP am_P "DelegationShopModel" (1, 379, 213, 0, 0) := am_lm213 (Or.inl (am_tw11 (i := 70) rfl rfl))
theorem am_l12_7_14 : am_ltP am_P "DelegationShopModel" (1, 386, 214, 0, 0) := am_lm214 (Or.inl (am_tw11 (i := 90) rfl rfl))
theorem am_l12_7_15 : am_ltP am_P "DelegationShopModel" (1, 399, 218, 0, 0) := am_lm218 (Or.inl (am_tw11 (i := 154) rfl rfl))
theorem am_l12_7_16 : am_ltP am_P "DelegationShopModel" (1, 402, 210, 0, 0) := am_lm210 (Or.inl (am_tw11 (i := 74) rfl rfl))
theorem am_l12_7_17 : am_ltP am_P "DelegationShopModel" (1, 405, 222, 0, 0) := am_lm222 (Or.inl (am_tw11 (i := 122) rfl rfl))
theorem am_l12_7_18 : am_ltP am_P "DelegationShopModel" (1, 408, 212, 0, 0) := am_lm212 (Or.inl (am_tw11 (i := 118) rfl rfl))
theorem am_l12_7_19 : am_ltP am_P "DelegationShopModel" (1, 412, 208, 0, 0) := am_lm208 (Or.inl (am_tw11 (i := 78) rfl rfl))
def am_LT12_7 : List am_LE := [(0, 638, 12, 138, 0), (0, 641, 12, 135, 0), (0, 644, 12, 136, 0), (0, 654, 12, 103, 0), (0, 669, 12, 134, 0), (0, 682, 12, 139, 0), (1, 323, 198, 0, 0), (1, 336, 201, 0, 0), (1, 349, 204, 0, 0), (1, 362, 206, 0, 0), (1, 366, 207, 0, 0), (1, 370, 205, 0, 0), (1, 376, 209, 0, 0), (1, 379, 213, 0, 0), (1, 386, 214, 0, 0), (1, 399, 218, 0, 0), (1, 402, 210, 0, 0), (1, 405, 222, 0, 0), (1, 408, 212, 0, 0), (1, 412, 208, 0, 0)]
theorem am_LTo12_7 : ∀ x ∈ am_LT12_7, am_ltP am_P "DelegationShopModel" x := List.forall_mem_cons.mpr ⟨am_l12_7_0, List.forall_mem_cons.mpr ⟨am_l12_7_1, List.forall_mem_cons.mpr ⟨am_l12_7_2, List.forall_mem_cons.mpr ⟨am_l12_7_3, List.forall_mem_cons.mpr ⟨am_l12_7_4, List.forall_mem_cons.mpr ⟨am_l12_7_5, List.forall_mem_cons.mpr ⟨am_l12_7_6, List.forall_mem_cons.mpr ⟨am_l12_7_7, List.forall_mem_cons.mpr ⟨am_l12_7_8, List.forall_mem_cons.mpr ⟨am_l12_7_9, List.forall_mem_cons.mpr ⟨am_l12_7_10, List.forall_mem_cons.mpr ⟨am_l12_7_11, List.forall_mem_cons.mpr ⟨am_l12_7_12, List.forall_mem_cons.mpr ⟨am_l12_7_13, List.forall_mem_cons.mpr ⟨am_l12_7_14, List.forall_mem_cons.mpr ⟨am_l12_7_15, List.forall_mem_cons.mpr ⟨am_l12_7_16, List.forall_mem_cons.mpr ⟨am_l12_7_17, List.forall_mem_cons.mpr ⟨am_l12_7_18, List.forall_mem_cons.mpr ⟨am_l12_7_19, fun _ h => by cases h⟩⟩⟩⟩⟩⟩⟩⟩⟩⟩⟩⟩⟩⟩⟩⟩⟩⟩⟩⟩
theorem am_l12_8_0 : am_ltP am_P "DelegationShopModel" (1, 415, 211, 0, 0) := am_lm211 (Or.inl (am_tw11 (i := 98) rfl rfl))
theorem am_l12_8_1 : am_ltP am_P "DelegationShopModel" (1, 421, 224, 0, 0) := am_lm224 (Or.inl (am_tw11 (i := 126) rfl rfl))
theorem am_l12_8_2 : am_ltP am_P "DelegationShopModel" (1, 424, 223, 0, 0) := am_lm223 (Or.inl (am_tw11 (i := 168) rfl rfl))
theorem am_l12_8_3 : am_ltP am_P "DelegationShopModel" (1, 427, 225, 0, 0) := am_lm225 (Or.inl (am_tw11 (i := 130) rfl rfl))
theorem am_l12_8_4 : am_ltP am_P "DelegationShopModel" (1, 430, 226, 0, 0) := am_lm226 (Or.inl (am_tw11 (i := 134) rfl rfl))
theorem am_l12_8_5 : am_ltP am_P "DelegationShopModel" (1, 433, 227, 0, 0) := am_lm227 (Or.inl (am_tw11 (i := 138) rfl rfl))
theorem am_l12_8_6 : am_ltP am_P "DelegationShopModel" (1, 436, 228, 0, 0) := am_lm228 (Or.inl (am_tw11 (i := 142) rfl rfl))
theorem am_l12_8_7 : am_ltP am_P "DelegationShopModel" (1, 439, 219, 0, 0) := am_lm219 (Or.inl (am_tw11 (i := 150) rfl rfl))
theorem am_l12_8_8 : am_ltP am_P "DelegationShopModel" (1, 442, 221, 0, 0) := am_lm221 (Or.inl (am_tw11 (i := 160) rfl rfl))
theorem am_l12_8_9 : am_ltP am_P "DelegationShopModel" (1, 445, 217, 0, 0) := am_lm217 (Or.inl (am_tw11 (i := 146) rfl rfl))
theorem am_l12_8_10 : am_ltP am_P "DelegationShopModel" (1, 448, 229, 0, 0) := am_lm229 (Or.inl (am_tw11 (i := 164) rfl rfl))
theorem am_l12_8_11 : am_ltP am_P "DelegationShopModel" (1, 451, 230, 0, 0) := am_lm230 (Or.inl (am_tw11 (i := 82) rfl rfl))
theorem am_l12_8_12 : am_ltP am_P "DelegationShopModel" (1, 454, 231, 0, 0) := am_lm231 (Or.inl (am_tw11 (i := 110) rfl rfl))
theorem am_l12_8_13 : am_ltP am_P "DelegationShopModel" (1, 457, 215, 0, 0) := am_lm215 (Or.inl (am_tw11 (i := 86) rfl rfl))
theorem am_l12_8_14 : am_ltP am_P "DelegationShopModel" (1, 460, 216, 0, 0) := am_lm216 (Or.inl (am_tw11 (i := 94) rfl rfl))
theorem am_l12_8_15 : am_ltP am_P "DelegationShopModel" (1, 463, 233, 0, 0) := am_lm233 (Or.inl (am_tw11 (i := 114) rfl rfl))
theorem am_l12_8_16 : am_ltP am_P "DelegationShopModel" (1, 466, 220, 0, 0) := am_lm220 (Or.inl (am_tw11 (i := 172) rfl rfl))
theorem am_l12_8_17 : am_ltP am_P "DelegationShopModel" (1, 469, 235, 0, 0) := am_lm235 (Or.inl (am_tw11 (i := 176) rfl rfl))
theorem am_l12_8_18 : am_ltP am_P "DelegationShopModel" (1, 472, 232, 0, 0) := am_lm232 (Or.inl (am_tw11 (i := 106) rfl rfl))
theorem am_l12_8_19 : am_ltP am_P "DelegationShopModel" (1, 475, 234, 0, 0) := am_lm234 (Or.inl (am_tw11 (i := 180) rfl rfl))
def am_LT12_8 : List am_LE := [(1, 415, 211, 0, 0), (1, 421, 224, 0, 0), (1, 424, 223, 0, 0), (1, 427, 225, 0, 0), (1, 430, 226, 0, 0), (1, 433, 227, 0, 0), (1, 436, 228, 0, 0), (1, 439, 219, 0, 0), (1, 442, 221, 0, 0), (1, 445, 217, 0, 0), (1, 448, 229, 0, 0), (1, 451, 230, 0, 0), (1, 454, 231, 0, 0), (1, 457, 215, 0, 0), (1, 460, 216, 0, 0), (1, 463, 233, 0, 0), (1, 466, 220, 0, 0), (1, 469, 235, 0, 0), (1, 472, 232, 0, 0), (1, 475, 234, 0, 0)]
theorem am_LTo12_8 : ∀ x ∈ am_LT12_8, am_ltP am_P "DelegationShopModel" x := List.forall_mem_cons.mpr ⟨am_l12_8_0, List.forall_mem_cons.mpr ⟨am_l12_8_1, List.forall_mem_cons.mpr ⟨am_l12_8_2, List.forall_mem_cons.mpr ⟨am_l12_8_3, List.forall_mem_cons.mpr ⟨am_l12_8_4, List.forall_mem_cons.mpr ⟨am_l12_8_5, List.forall_mem_cons.mpr ⟨am_l12_8_6, List.forall_mem_cons.mpr ⟨am_l12_8_7, List.forall_mem_cons.mpr ⟨am_l12_8_8, List.forall_mem_cons.mpr ⟨am_l12_8_9, List.forall_mem_cons.mpr ⟨am_l12_8_10, List.forall_mem_cons.mpr ⟨am_l12_8_11, List.forall_mem_cons.mpr ⟨am_l12_8_12, List.forall_mem_cons.mpr ⟨am_l12_8_13, List.forall_mem_cons.mpr ⟨am_l12_8_14, List.forall_mem_cons.mpr ⟨am_l12_8_15, List.forall_mem_cons.mpr ⟨am_l12_8_16, List.forall_mem_cons.mpr ⟨am_l12_8_17, List.forall_mem_cons.mpr ⟨am_l12_8_18, List.forall_mem_cons.mpr ⟨am_l12_8_19, fun _ h => by cases h⟩⟩⟩⟩⟩⟩⟩⟩⟩⟩⟩⟩⟩⟩⟩⟩⟩⟩⟩⟩
theorem am_l12_9_0 : am_ltP am_P "DelegationShopModel" (1, 481, 236, 0, 0) := am_lm236 (Or.inl (am_tw11 (i := 58) rfl rfl))
theorem am_l12_9_1 : am_ltP am_P "DelegationShopModel" (1, 488, 263, 0, 0) := am_lm263 (Or.inl (am_tw11 (i := 184) rfl rfl))
theorem am_l12_9_2 : am_ltP am_P "DelegationShopModel" (1, 497, 239, 0, 0) := am_lm239 (Or.inl (am_tw12 (i := 173) rfl rfl))
theorem am_l12_9_3 : am_ltP am_P "DelegationShopModel" (1, 500, 242, 0, 0) := am_lm242 (Or.inl (am_tw12 (i := 169) rfl rfl))
theorem am_l12_9_4 : am_ltP am_P "DelegationShopModel" (1, 504, 241, 0, 0) := am_lm241 (Or.inl (am_tw12 (i := 165) rfl rfl))
theorem am_l12_9_5 : am_ltP am_P "DelegationShopModel" (1, 507, 240, 0, 0) := am_lm240 (Or.inl (am_tw12 (i := 177) rfl rfl))
theorem am_l12_9_6 : am_ltP am_P "DelegationShopModel" (1, 510, 256, 0, 0) := am_lm256 (Or.inl (am_tw12 (i := 181) rfl rfl))
theorem am_l12_9_7 : am_ltP am_P "DelegationShopModel" (1, 519, 249, 0, 0) := am_lm249 (Or.inl (am_tw12 (i := 86) rfl rfl))
theorem am_l12_9_8 : am_ltP am_P "DelegationShopModel" (1, 522, 246, 0, 0) := am_lm246 (Or.inl (am_tw12 (i := 90) rfl rfl))
theorem am_l12_9_9 : am_ltP am_P "DelegationShopModel" (1, 525, 247, 0, 0) := am_lm247 (Or.inl (am_tw12 (i := 94) rfl rfl))
theorem am_l12_9_10 : am_ltP am_P "DelegationShopModel" (1, 534, 250, 0, 0) := am_lm250 (Or.inl (am_tw12 (i := 78) rfl rfl))
theorem am_l12_9_11 : am_ltP am_P "DelegationShopModel" (1, 538, 248, 0, 0) := am_lm248 (Or.inl (am_tw12 (i := 82) rfl rfl))
theorem am_l12_9_12 : am_ltP am_P "DelegationShopModel" (1, 541, 238, 0, 0) := am_lm238 (Or.inl (am_tw12 (i := 98) rfl rfl))
theorem am_l12_9_13 : am_ltP am_P "DelegationShopModel" (1, 551, 253, 0, 0) := am_lm253 (Or.inl (am_tw12 (i := 185) rfl rfl))
theorem am_l12_9_14 : am_ltP am_P "DelegationShopModel" (1, 554, 254, 0, 0) := am_lm254 (Or.inl (am_tw12 (i := 189) rfl rfl))
theorem am_l12_9_15 : am_ltP am_P "DelegationShopModel" (1, 557, 255, 0, 0) := am_lm255 (Or.inl (am_tw12 (i := 193) rfl rfl))
theorem am_l12_9_16 : am_ltP am_P "DelegationShopModel" (1, 560, 258, 0, 0) := am_lm258 (Or.inl (am_tw12 (i := 106) rfl rfl))
theorem am_l12_9_17 : am_ltP am_P "DelegationShopModel" (1, 563, 257, 0, 0) := am_lm257 (Or.inl (am_tw12 (i := 114) rfl rfl))
theorem am_l12_9_18 : am_ltP am_P "DelegationShopModel" (1, 570, 251, 0, 0) := am_lm251 (Or.inl (am_tw12 (i := 74) rfl rfl))
theorem am_l12_9_19 : am_ltP am_P "DelegationShopModel" (1, 574, 261, 0, 0) := am_lm261 (Or.inl (am_tw12 (i := 102) rfl rfl))
def am_LT12_9 : List am_LE := [(1, 481, 236, 0, 0), (1, 488, 263, 0, 0), (1, 497, 239, 0, 0), (1, 500, 242, 0, 0), (1, 504, 241, 0, 0), (1, 507, 240, 0, 0), (1, 510, 256, 0, 0), (1, 519, 249, 0, 0), (1, 522, 246, 0, 0), (1, 525, 247, 0, 0), (1, 534, 250, 0, 0), (1, 538, 248, 0, 0), (1, 541, 238, 0, 0), (1, 551, 253, 0, 0), (1, 554, 254, 0, 0), (1, 557, 255, 0, 0), (1, 560, 258, 0, 0), (1, 563, 257, 0, 0), (1, 570, 251, 0, 0), (1, 574, 261, 0, 0)]
theorem am_LTo12_9 : ∀ x ∈ am_LT12_9, am_ltP am_P "DelegationShopModel" x := List.forall_mem_cons.mpr ⟨am_l12_9_0, List.forall_mem_cons.mpr ⟨am_l12_9_1, List.forall_mem_cons.mpr ⟨am_l12_9_2, List.forall_mem_cons.mpr ⟨am_l12_9_3, List.forall_mem_cons.mpr ⟨am_l12_9_4, List.forall_mem_cons.mpr ⟨am_l12_9_5, List.forall_mem_cons.mpr ⟨am_l12_9_6, List.forall_mem_cons.mpr ⟨am_l12_9_7, List.forall_mem_cons.mpr ⟨am_l12_9_8, List.forall_mem_cons.mpr ⟨am_l12_9_9, List.forall_mem_cons.mpr ⟨am_l12_9_10, List.forall_mem_cons.mpr ⟨am_l12_9_11, List.forall_mem_cons.mpr ⟨am_l12_9_12, List.forall_mem_cons.mpr ⟨am_l12_9_13, List.forall_mem_cons.mpr ⟨am_l12_9_14, List.forall_mem_cons.mpr ⟨am_l12_9_15, List.forall_mem_cons.mpr ⟨am_l12_9_16, List.forall_mem_cons.mpr ⟨am_l12_9_17, List.forall_mem_cons.mpr ⟨am_l12_9_18, List.forall_mem_cons.mpr ⟨am_l12_9_19, fun _ h => by cases h⟩⟩⟩⟩⟩⟩⟩⟩⟩⟩⟩⟩⟩⟩⟩⟩⟩⟩⟩⟩
theorem am_l12_10_0 : am_ltP am_P "DelegationShopModel" (1, 577, 262, 0, 0) := am_lm262 (Or.inl (am_tw12 (i := 110) rfl rfl))
theorem am_l12_10_1 : am_ltP am_P "DelegationShopModel" (1, 580, 259, 0, 0) := am_lm259 (Or.inl (am_tw12 (i := 118) rfl rfl))
theorem am_l12_10_2 : am_ltP am_P "DelegationShopModel" (1, 586, 245, 0, 0) := am_lm245 (Or.inl (am_tw11 (i := 188) rfl rfl))
theorem am_l12_10_3 : am_ltP am_P "DelegationShopModel" (1, 589, 252, 0, 0) := am_lm252 (Or.inl (am_tw11 (i := 192) rfl rfl))
theorem am_l12_10_4 : am_ltP am_P "DelegationShopModel" (1, 592, 264, 0, 0) := am_lm264 (Or.inl (am_tw11 (i := 196) rfl rfl))
theorem am_l12_10_5 : am_ltP am_P "DelegationShopModel" (1, 629, 268, 0, 0) := am_lm268 (Or.inl (am_tw12 (i := 12) rfl rfl))
theorem am_l12_10_6 : am_ltP am_P "DelegationShopModel" (1, 647, 276, 0, 0) := am_lm276 (Or.inl (am_tw12 (i := 16) rfl rfl))
theorem am_l12_10_7 : am_ltP am_P "DelegationShopModel" (1, 650, 269, 0, 0) := am_lm269 (Or.inl (am_tw12 (i := 8) rfl rfl))
theorem am_l12_10_8 : am_ltP am_P "DelegationShopModel" (1, 657, 271, 0, 0) := am_lm271 (Or.inl (am_tw11 (i := 220) rfl rfl))
theorem am_l12_10_9 : am_ltP am_P "DelegationShopModel" (1, 660, 266, 0, 0) := am_lm266 (Or.inl (am_tw11 (i := 224) rfl rfl))
theorem am_l12_10_10 : am_ltP am_P "DelegationShopModel" (1, 663, 272, 0, 0) := am_lm272 (Or.inl (am_tw11 (i := 216) rfl rfl))
theorem am_l12_10_11 : am_ltP am_P "DelegationShopModel" (1, 666, 273, 0, 0) := am_lm273 (Or.inl (am_tw12 (i := 20) rfl rfl))
theorem am_l12_10_12 : am_ltP am_P "DelegationShopModel" (1, 672, 265, 0, 0) := am_lm265 (Or.inl (am_tw12 (i := 0) rfl rfl))
theorem am_l12_10_13 : am_ltP am_P "DelegationShopModel" (1, 676, 277, 0, 0) := am_lm277 (Or.inl (am_tw12 (i := 24) rfl rfl))
theorem am_l12_10_14 : am_ltP am_P "DelegationShopModel" (1, 679, 278, 0, 0) := am_lm278 (Or.inl (am_tw12 (i := 28) rfl rfl))
theorem am_l12_10_15 : am_ltP am_P "DelegationShopModel" (1, 685, 274, 0, 0) := am_lm274 (Or.inl (am_tw11 (i := 228) rfl rfl))
theorem am_l12_10_16 : am_ltP am_P "DelegationShopModel" (1, 689, 270, 0, 0) := am_lm270 (Or.inl (am_tw12 (i := 4) rfl rfl))
theorem am_l12_10_17 : am_ltP am_P "DelegationShopModel" (1, 692, 281, 0, 0) := am_lm281 (Or.inl (am_tw12 (i := 32) rfl rfl))
theorem am_l12_10_18 : am_ltP am_P "DelegationShopModel" (1, 695, 284, 0, 0) := am_lm284 (Or.inl (am_tw12 (i := 40) rfl rfl))
theorem am_l12_10_19 : am_ltP am_P "DelegationShopModel" (1, 702, 285, 0, 0) := am_lm285 (Or.inl (am_tw12 (i := 45) rfl rfl))
def am_LT12_10 : List am_LE := [(1, 577, 262, 0, 0), (1, 580, 259, 0, 0), (1, 586, 245, 0, 0), (1, 589, 252, 0, 0), (1, 592, 264, 0, 0), (1, 629, 268, 0, 0), (1, 647, 276, 0, 0), (1, 650, 269, 0, 0), (1, 657, 271, 0, 0), (1, 660, 266, 0, 0), (1, 663, 272, 0, 0), (1, 666, 273, 0, 0), (1, 672, 265, 0, 0), (1, 676, 277, 0, 0), (1, 679, 278, 0, 0), (1, 685, 274, 0, 0), (1, 689, 270, 0, 0), (1, 692, 281, 0, 0), (1, 695, 284, 0, 0), (1, 702, 285, 0, 0)]
theorem am_LTo12_10 : ∀ x ∈ am_LT12_10, am_ltP am_P "DelegationShopModel" x := List.forall_mem_cons.mpr ⟨am_l12_10_0, List.forall_mem_cons.mpr ⟨am_l12_10_1, List.forall_mem_cons.mpr ⟨am_l12_10_2, List.forall_mem_cons.mpr ⟨am_l12_10_3, List.forall_mem_cons.mpr ⟨am_l12_10_4, List.forall_mem_cons.mpr ⟨am_l12_10_5, List.forall_mem_cons.mpr ⟨am_l12_10_6, List.forall_mem_cons.mpr ⟨am_l12_10_7, List.forall_mem_cons.mpr ⟨am_l12_10_8, List.forall_mem_cons.mpr ⟨am_l12_10_9, List.forall_mem_cons.mpr ⟨am_l12_10_10, List.forall_mem_cons.mpr ⟨am_l12_10_11, List.forall_mem_cons.mpr ⟨am_l12_10_12, List.forall_mem_cons.mpr ⟨am_l12_10_13, List.forall_mem_cons.mpr ⟨am_l12_10_14, List.forall_mem_cons.mpr ⟨am_l12_10_15, List.forall_mem_cons.mpr ⟨am_l12_10_16, List.forall_mem_cons.mpr ⟨am_l12_10_17, List.forall_mem_cons.mpr ⟨am_l12_10_18, List.forall_mem_cons.mpr ⟨am_l12_10_19, fun _ h => by cases h⟩⟩⟩⟩⟩⟩⟩⟩⟩⟩⟩⟩⟩⟩⟩⟩⟩⟩⟩⟩
theorem am_l12_11_0 : am_ltP am_P "DelegationShopModel" (1, 705, 287, 0, 0) := am_lm287 (Or.inl (am_tw12 (i := 54) rfl rfl))
theorem am_l12_11_1 : am_ltP am_P "DelegationShopModel" (1, 708, 288, 0, 0) := am_lm288 (Or.inl (am_tw12 (i := 62) rfl rfl))
theorem am_l12_11_2 : am_ltP am_P "DelegationShopModel" (1, 711, 286, 0, 0) := am_lm286 (Or.inl (am_tw12 (i := 49) rfl rfl))
theorem am_l12_11_3 : am_ltP am_P "DelegationShopModel" (1, 717, 267, 0, 0) := am_lm267 (Or.inl (am_tw12 (i := 58) rfl rfl))
theorem am_l12_11_4 : am_ltP am_P "DelegationShopModel" (1, 720, 280, 0, 0) := am_lm280 (Or.inl (am_tw12 (i := 66) rfl rfl))
theorem am_l12_11_5 : am_ltP am_P "DelegationShopModel" (1, 724, 260, 0, 0) := am_lm260 (Or.inl (am_tw12 (i := 70) rfl rfl))
theorem am_l12_11_6 : am_ltP am_P "DelegationShopModel" (1, 726, 290, 0, 0) := am_lm290 (Or.inl (am_tw12 (i := 122) rfl rfl))
theorem am_l12_11_7 : am_ltP am_P "DelegationShopModel" (1, 730, 275, 0, 0) := am_lm275 (Or.inl (am_tw11 (i := 212) rfl rfl))
theorem am_l12_11_8 : am_ltP am_P "DelegationShopModel" (1, 734, 289, 0, 0) := am_lm289 (Or.inl (am_tw12 (i := 126) rfl rfl))
theorem am_l12_11_9 : am_ltP am_P "DelegationShopModel" (1, 741, 294, 0, 0) := am_lm294 (Or.inl (am_tw12 (i := 141) rfl rfl))
theorem am_l12_11_10 : am_ltP am_P "DelegationShopModel" (1, 744, 279, 0, 0) := am_lm279 (Or.inl (am_tw12 (i := 145) rfl rfl))
theorem am_l12_11_11 : am_ltP am_P "DelegationShopModel" (1, 747, 295, 0, 0) := am_lm295 (Or.inl (am_tw12 (i := 149) rfl rfl))
theorem am_l12_11_12 : am_ltP am_P "DelegationShopModel" (1, 750, 296, 0, 0) := am_lm296 (Or.inl (am_tw12 (i := 153) rfl rfl))
theorem am_l12_11_13 : am_ltP am_P "DelegationShopModel" (1, 753, 297, 0, 0) := am_lm297 (Or.inl (am_tw12 (i := 157) rfl rfl))
theorem am_l12_11_14 : am_ltP am_P "DelegationShopModel" (1, 757, 243, 0, 0) := am_lm243 (Or.inl (am_tw12 (i := 161) rfl rfl))
theorem am_l12_11_15 : am_ltP am_P "DelegationShopModel" (1, 761, 244, 0, 0) := am_lm244 (Or.inl (am_tw12 (i := 197) rfl rfl))
theorem am_l12_11_16 : am_ltP am_P "DelegationShopModel" (1, 764, 282, 0, 0) := am_lm282 (Or.inl (am_tw11 (i := 236) rfl rfl))
theorem am_l12_11_17 : am_ltP am_P "DelegationShopModel" (1, 767, 283, 0, 0) := am_lm283 (Or.inl (am_tw12 (i := 36) rfl rfl))
theorem am_l12_11_18 : am_ltP am_P "DelegationShopModel" (1, 770, 291, 0, 0) := am_lm291 (Or.inl (am_tw12 (i := 130) rfl rfl))
theorem am_l12_11_19 : am_ltP am_P "DelegationShopModel" (1, 773, 293, 0, 0) := am_lm293 (Or.inl (am_tw12 (i := 134) rfl rfl))
def am_LT12_11 : List am_LE := [(1, 705, 287, 0, 0), (1, 708, 288, 0, 0), (1, 711, 286, 0, 0), (1, 717, 267, 0, 0), (1, 720, 280, 0, 0), (1, 724, 260, 0, 0), (1, 726, 290, 0, 0), (1, 730, 275, 0, 0), (1, 734, 289, 0, 0), (1, 741, 294, 0, 0), (1, 744, 279, 0, 0), (1, 747, 295, 0, 0), (1, 750, 296, 0, 0), (1, 753, 297, 0, 0), (1, 757, 243, 0, 0), (1, 761, 244, 0, 0), (1, 764, 282, 0, 0), (1, 767, 283, 0, 0), (1, 770, 291, 0, 0), (1, 773, 293, 0, 0)]
theorem am_LTo12_11 : ∀ x ∈ am_LT12_11, am_ltP am_P "DelegationShopModel" x := List.forall_mem_cons.mpr ⟨am_l12_11_0, List.forall_mem_cons.mpr ⟨am_l12_11_1, List.forall_mem_cons.mpr ⟨am_l12_11_2, List.forall_mem_cons.mpr ⟨am_l12_11_3, List.forall_mem_cons.mpr ⟨am_l12_11_4, List.forall_mem_cons.mpr ⟨am_l12_11_5, List.forall_mem_cons.mpr ⟨am_l12_11_6, List.forall_mem_cons.mpr ⟨am_l12_11_7, List.forall_mem_cons.mpr ⟨am_l12_11_8, List.forall_mem_cons.mpr ⟨am_l12_11_9, List.forall_mem_cons.mpr ⟨am_l12_11_10, List.forall_mem_cons.mpr ⟨am_l12_11_11, List.forall_mem_cons.mpr ⟨am_l12_11_12, List.forall_mem_cons.mpr ⟨am_l12_11_13, List.forall_mem_cons.mpr ⟨am_l12_11_14, List.forall_mem_cons.mpr ⟨am_l12_11_15, List.forall_mem_cons.mpr ⟨am_l12_11_16, List.forall_mem_cons.mpr ⟨am_l12_11_17, List.forall_mem_cons.mpr ⟨am_l12_11_18, List.forall_mem_cons.mpr ⟨am_l12_11_19, fun _ h => by cases h⟩⟩⟩⟩⟩⟩⟩⟩⟩⟩⟩⟩⟩⟩⟩⟩⟩⟩⟩⟩
theorem am_l12_12_0 : am_ltP am_P "DelegationShopModel" (1, 776, 299, 0, 0) := am_lm299 (Or.inl (am_tw12 (i := 201) rfl rfl))
theorem am_l12_12_1 : am_ltP am_P "DelegationShopModel" (1, 779, 298, 0, 0) := am_lm298 (Or.inl (am_tw11 (i := 232) rfl rfl))
theorem am_l12_12_2 : am_ltP am_P "DelegationShopModel" (1, 782, 308, 0, 0) := am_lm308 (Or.inl (am_tw12 (i := 229) rfl rfl))
theorem am_l12_12_3 : am_ltP am_P "DelegationShopModel" (1, 785, 309, 0, 0) := am_lm309 (Or.inl (am_tw12 (i := 233) rfl rfl))
theorem am_l12_12_4 : am_ltP am_P "DelegationShopModel" (1, 790, 320, 0, 0) := am_lm320 (Or.inl (am_tw13 (i := 38) rfl rfl))
theorem am_l12_12_5 : am_ltP am_P "DelegationShopModel" (1, 793, 325, 0, 0) := am_lm325 (Or.inl (am_tw13 (i := 58) rfl rfl))
theorem am_l12_12_6 : am_ltP am_P "DelegationShopModel" (2, 345, 202, 0, 0) := am_lm202 (Or.inl (am_tw11 (i := 48) rfl rfl))
theorem am_l12_12_7 : am_ltP am_P "DelegationShopModel" (2, 353, 203, 0, 0) := am_lm203 (Or.inl (am_tw11 (i := 55) rfl rfl))
theorem am_l12_12_8 : am_ltP am_P "DelegationShopModel" (2, 737, 292, 0, 0) := am_lm292 (Or.inl (am_tw12 (i := 138) rfl rfl))
theorem am_l12_12_9 : am_ltP am_P "DelegationShopModel" (6, 286, 0, 0, 370000) := am_lcW (am_tw9 (i := 60) (by decide +kernel) rfl)
theorem am_l12_12_10 : am_ltP am_P "DelegationShopModel" (7, 700, 0, 0, (-9223372036854775808)) := am_lcL (am_tw12 (i := 44) (by decide +kernel) rfl)
theorem am_l12_12_11 : am_ltP am_P "DelegationShopModel" (7, 715, 0, 0, (-1)) := am_lcL (am_tw12 (i := 53) (by decide +kernel) rfl)
theorem am_l12_12_12 : am_ltP am_P "DelegationShopModel" (7, 788, 0, 0, 4) := am_lcL (am_tw13 (i := 21) (by decide +kernel) rfl)
theorem am_l12_12_13 : am_ltP am_P "DelegationShopModel" (8, 396, 1, 1, 0) := Or.inr (Or.inl ⟨Nat.one_ne_zero, rfl, (am_tw11 (i := 158) rfl rfl)⟩)
theorem am_l12_12_14 : am_ltP am_P "DelegationShopModel" (10, 1, 903, 0, 0) := am_pr903 (am_tw9 (i := 59) rfl rfl)
theorem am_l12_12_15 : am_ltP am_P "DelegationShopModel" (11, 88, 12, 30, 0) := am_pfN rfl rfl (am_tw9 (i := 91) rfl rfl) rfl
theorem am_l12_12_16 : am_ltP am_P "DelegationShopModel" (11, 149, 12, 67, 0) := am_pfN rfl rfl (am_tw9 (i := 128) rfl rfl) rfl
theorem am_l12_12_17 : am_ltP am_P "DelegationShopModel" (11, 317, 12, 0, 0) := am_pfN rfl rfl (am_tw9 (i := 61) rfl rfl) rfl
theorem am_l12_12_18 : am_ltP am_P "DelegationShopModel" (11, 320, 12, 2, 0) := am_pfN rfl rfl (am_tw9 (i := 63) rfl rfl) rfl
theorem am_l12_12_19 : am_ltP am_P "DelegationShopModel" (11, 327, 12, 31, 0) := am_pfN rfl rfl (am_tw9 (i := 92) rfl rfl) rfl
def am_LT12_12 : List am_LE := [(1, 776, 299, 0, 0), (1, 779, 298, 0, 0), (1, 782, 308, 0, 0), (1, 785, 309, 0, 0), (1, 790, 320, 0, 0), (1, 793, 325, 0, 0), (2, 345, 202, 0, 0), (2, 353, 203, 0, 0), (2, 737, 292, 0, 0), (6, 286, 0, 0, 370000), (7, 700, 0, 0, (-9223372036854775808)), (7, 715, 0, 0, (-1)), (7, 788, 0, 0, 4), (8, 396, 1, 1, 0), (10, 1, 903, 0, 0), (11, 88, 12, 30, 0), (11, 149, 12, 67, 0), (11, 317, 12, 0, 0), (11, 320, 12, 2, 0), (11, 327, 12, 31, 0)]
theorem am_LTo12_12 : ∀ x ∈ am_LT12_12, am_ltP am_P "DelegationShopModel" x := List.forall_mem_cons.mpr ⟨am_l12_12_0, List.forall_mem_cons.mpr ⟨am_l12_12_1, List.forall_mem_cons.mpr ⟨am_l12_12_2, List.forall_mem_cons.mpr ⟨am_l12_12_3, List.forall_mem_cons.mpr ⟨am_l12_12_4, List.forall_mem_cons.mpr ⟨am_l12_12_5, List.forall_mem_cons.mpr ⟨am_l12_12_6, List.forall_mem_cons.mpr ⟨am_l12_12_7, List.forall_mem_cons.mpr ⟨am_l12_12_8, List.forall_mem_cons.mpr ⟨am_l12_12_9, List.forall_mem_cons.mpr ⟨am_l12_12_10, List.forall_mem_cons.mpr ⟨am_l12_12_11, List.forall_mem_cons.mpr ⟨am_l12_12_12, List.forall_mem_cons.mpr ⟨am_l12_12_13, List.forall_mem_cons.mpr ⟨am_l12_12_14, List.forall_mem_cons.mpr ⟨am_l12_12_15, List.forall_mem_cons.mpr ⟨am_l12_12_16, List.forall_mem_cons.mpr ⟨am_l12_12_17, List.forall_mem_cons.mpr ⟨am_l12_12_18, List.forall_mem_cons.mpr ⟨am_l12_12_19, fun _ h => by cases h⟩⟩⟩⟩⟩⟩⟩⟩⟩⟩⟩⟩⟩⟩⟩⟩⟩⟩⟩⟩
theorem am_l12_13_0 : am_ltP am_P "DelegationShopModel" (11, 330, 12, 35, 0) := am_pfN rfl rfl (am_tw9 (i := 96) rfl rfl) rfl
theorem am_l12_13_1 : am_ltP am_P "DelegationShopModel" (11, 333, 12, 34, 0) := am_pfN rfl rfl (am_tw9 (i := 95) rfl rfl) rfl
theorem am_l12_13_2 : am_ltP am_P "DelegationShopModel" (11, 339, 12, 32, 0) := am_pfN rfl rfl (am_tw9 (i := 93) rfl rfl) rfl
theorem am_l12_13_3 : am_ltP am_P "DelegationShopModel" (11, 342, 12, 33, 0) := am_pfN rfl rfl (am_tw9 (i := 94) rfl rfl) rfl
theorem am_l12_13_4 : am_ltP am_P "DelegationShopModel" (11, 356, 12, 36, 0) := am_pfN rfl rfl (am_tw9 (i := 97) rfl rfl) rfl
theorem am_l12_13_5 : am_ltP am_P "DelegationShopModel" (11, 359, 12, 37, 0) := am_pfN rfl rfl (am_tw9 (i := 98) rfl rfl) rfl
theorem am_l12_13_6 : am_ltP am_P "DelegationShopModel" (11, 373, 12, 38, 0) := am_pfN rfl rfl (am_tw9 (i := 99) rfl rfl) rfl
theorem am_l12_13_7 : am_ltP am_P "DelegationShopModel" (11, 383, 12, 42, 0) := am_pfN rfl rfl (am_tw9 (i := 103) rfl rfl) rfl
theorem am_l12_13_8 : am_ltP am_P "DelegationShopModel" (11, 390, 12, 43, 0) := am_pfN rfl rfl (am_tw9 (i := 104) rfl rfl) rfl
theorem am_l12_13_9 : am_ltP am_P "DelegationShopModel" (11, 393, 12, 44, 0) := am_pfN rfl rfl (am_tw9 (i := 105) rfl rfl) rfl
theorem am_l12_13_10 : am_ltP am_P "DelegationShopModel" (11, 418, 12, 45, 0) := am_pfN rfl rfl (am_tw9 (i := 106) rfl rfl) rfl
theorem am_l12_13_11 : am_ltP am_P "DelegationShopModel" (11, 478, 12, 3, 0) := am_pfN rfl rfl (am_tw9 (i := 64) rfl rfl) rfl
theorem am_l12_13_12 : am_ltP am_P "DelegationShopModel" (11, 484, 12, 4, 0) := am_pfN rfl rfl (am_tw9 (i := 65) rfl rfl) rfl
theorem am_l12_13_13 : am_ltP am_P "DelegationShopModel" (11, 491, 12, 53, 0) := am_pfN rfl rfl (am_tw9 (i := 114) rfl rfl) rfl
theorem am_l12_13_14 : am_ltP am_P "DelegationShopModel" (11, 494, 12, 62, 0) := am_pfN rfl rfl (am_tw9 (i := 123) rfl rfl) rfl
theorem am_l12_13_15 : am_ltP am_P "DelegationShopModel" (11, 513, 12, 46, 0) := am_pfN rfl rfl (am_tw9 (i := 107) rfl rfl) rfl
theorem am_l12_13_16 : am_ltP am_P "DelegationShopModel" (11, 516, 12, 64, 0) := am_pfN rfl rfl (am_tw9 (i := 125) rfl rfl) rfl
theorem am_l12_13_17 : am_ltP am_P "DelegationShopModel" (11, 528, 12, 69, 0) := am_pfN rfl rfl (am_tw9 (i := 130) rfl rfl) rfl
theorem am_l12_13_18 : am_ltP am_P "DelegationShopModel" (11, 531, 12, 70, 0) := am_pfN rfl rfl (am_tw9 (i := 131) rfl rfl) rfl
theorem am_l12_13_19 : am_ltP am_P "DelegationShopModel" (11, 545, 12, 78, 0) := am_pfN rfl rfl (am_tw9 (i := 139) rfl rfl) rfl
def am_LT12_13 : List am_LE := [(11, 330, 12, 35, 0), (11, 333, 12, 34, 0), (11, 339, 12, 32, 0), (11, 342, 12, 33, 0), (11, 356, 12, 36, 0), (11, 359, 12, 37, 0), (11, 373, 12, 38, 0), (11, 383, 12, 42, 0), (11, 390, 12, 43, 0), (11, 393, 12, 44, 0), (11, 418, 12, 45, 0), (11, 478, 12, 3, 0), (11, 484, 12, 4, 0), (11, 491, 12, 53, 0), (11, 494, 12, 62, 0), (11, 513, 12, 46, 0), (11, 516, 12, 64, 0), (11, 528, 12, 69, 0), (11, 531, 12, 70, 0), (11, 545, 12, 78, 0)]
theorem am_LTo12_13 : ∀ x ∈ am_LT12_13, am_ltP am_P "DelegationShopModel" x := List.forall_mem_cons.mpr ⟨am_l12_13_0, List.forall_mem_cons.mpr ⟨am_l12_13_1, List.forall_mem_cons.mpr ⟨am_l12_13_2, List.forall_mem_cons.mpr ⟨am_l12_13_3, List.forall_mem_cons.mpr ⟨am_l12_13_4, List.forall_mem_cons.mpr ⟨am_l12_13_5, List.forall_mem_cons.mpr ⟨am_l12_13_6, List.forall_mem_cons.mpr ⟨am_l12_13_7, List.forall_mem_cons.mpr ⟨am_l12_13_8, List.forall_mem_cons.mpr ⟨am_l12_13_9, List.forall_mem_cons.mpr ⟨am_l12_13_10, List.forall_mem_cons.mpr ⟨am_l12_13_11, List.forall_mem_cons.mpr ⟨am_l12_13_12, List.forall_mem_cons.mpr ⟨am_l12_13_13, List.forall_mem_cons.mpr ⟨am_l12_13_14, List.forall_mem_cons.mpr ⟨am_l12_13_15, List.forall_mem_cons.mpr ⟨am_l12_13_16, List.forall_mem_cons.mpr ⟨am_l12_13_17, List.forall_mem_cons.mpr ⟨am_l12_13_18, List.forall_mem_cons.mpr ⟨am_l12_13_19, fun _ h => by cases h⟩⟩⟩⟩⟩⟩⟩⟩⟩⟩⟩⟩⟩⟩⟩⟩⟩⟩⟩⟩
theorem am_l12_14_0 : am_ltP am_P "DelegationShopModel" (11, 548, 12, 84, 0) := am_pfN rfl rfl (am_tw9 (i := 145) rfl rfl) rfl
theorem am_l12_14_1 : am_ltP am_P "DelegationShopModel" (11, 567, 12, 71, 0) := am_pfN rfl rfl (am_tw9 (i := 132) rfl rfl) rfl
theorem am_l12_14_2 : am_ltP am_P "DelegationShopModel" (11, 583, 12, 57, 0) := am_pfN rfl rfl (am_tw9 (i := 118) rfl rfl) rfl
theorem am_l12_14_3 : am_ltP am_P "DelegationShopModel" (11, 595, 12, 106, 0) := am_pfN rfl rfl (am_tw9 (i := 167) rfl rfl) rfl
theorem am_l12_14_4 : am_ltP am_P "DelegationShopModel" (11, 598, 12, 107, 0) := am_pfN rfl rfl (am_tw9 (i := 168) rfl rfl) rfl
theorem am_l12_14_5 : am_ltP am_P "DelegationShopModel" (11, 602, 12, 108, 0) := am_pfN rfl rfl (am_tw9 (i := 169) rfl rfl) rfl
theorem am_l12_14_6 : am_ltP am_P "DelegationShopModel" (11, 605, 12, 109, 0) := am_pfN rfl rfl (am_tw9 (i := 170) rfl rfl) rfl
theorem am_l12_14_7 : am_ltP am_P "DelegationShopModel" (11, 608, 12, 110, 0) := am_pfN rfl rfl (am_tw9 (i := 171) rfl rfl) rfl
theorem am_l12_14_8 : am_ltP am_P "DelegationShopModel" (11, 611, 12, 111, 0) := am_pfN rfl rfl (am_tw9 (i := 172) rfl rfl) rfl
theorem am_l12_14_9 : am_ltP am_P "DelegationShopModel" (11, 614, 12, 104, 0) := am_pfN rfl rfl (am_tw9 (i := 165) rfl rfl) rfl
theorem am_l12_14_10 : am_ltP am_P "DelegationShopModel" (11, 617, 12, 127, 0) := am_pfN rfl rfl (am_tw9 (i := 188) rfl rfl) rfl
theorem am_l12_14_11 : am_ltP am_P "DelegationShopModel" (11, 620, 12, 132, 0) := am_pfN rfl rfl (am_tw9 (i := 193) rfl rfl) rfl
theorem am_l12_14_12 : am_ltP am_P "DelegationShopModel" (11, 623, 12, 105, 0) := am_pfN rfl rfl (am_tw9 (i := 166) rfl rfl) rfl
theorem am_l12_14_13 : am_ltP am_P "DelegationShopModel" (11, 626, 12, 102, 0) := am_pfN rfl rfl (am_tw9 (i := 163) rfl rfl) rfl
theorem am_l12_14_14 : am_ltP am_P "DelegationShopModel" (11, 632, 12, 133, 0) := am_pfN rfl rfl (am_tw9 (i := 194) rfl rfl) rfl
theorem am_l12_14_15 : am_ltP am_P "DelegationShopModel" (11, 635, 12, 137, 0) := am_pfN rfl rfl (am_tw9 (i := 198) rfl rfl) rfl
theorem am_l12_14_16 : am_ltP am_P "DelegationShopModel" (11, 638, 12, 138, 0) := am_pfN rfl rfl (am_tw9 (i := 199) rfl rfl) rfl
theorem am_l12_14_17 : am_ltP am_P "DelegationShopModel" (11, 641, 12, 135, 0) := am_pfN rfl rfl (am_tw9 (i := 196) rfl rfl) rfl
theorem am_l12_14_18 : am_ltP am_P "DelegationShopModel" (11, 644, 12, 136, 0) := am_pfN rfl rfl (am_tw9 (i := 197) rfl rfl) rfl
theorem am_l12_14_19 : am_ltP am_P "DelegationShopModel" (11, 654, 12, 103, 0) := am_pfN rfl rfl (am_tw9 (i := 164) rfl rfl) rfl
def am_LT12_14 : List am_LE := [(11, 548, 12, 84, 0), (11, 567, 12, 71, 0), (11, 583, 12, 57, 0), (11, 595, 12, 106, 0), (11, 598, 12, 107, 0), (11, 602, 12, 108, 0), (11, 605, 12, 109, 0), (11, 608, 12, 110, 0), (11, 611, 12, 111, 0), (11, 614, 12, 104, 0), (11, 617, 12, 127, 0), (11, 620, 12, 132, 0), (11, 623, 12, 105, 0), (11, 626, 12, 102, 0), (11, 632, 12, 133, 0), (11, 635, 12, 137, 0), (11, 638, 12, 138, 0), (11, 641, 12, 135, 0), (11, 644, 12, 136, 0), (11, 654, 12, 103, 0)]
theorem am_LTo12_14 : ∀ x ∈ am_LT12_14, am_ltP am_P "DelegationShopModel" x := List.forall_mem_cons.mpr ⟨am_l12_14_0, List.forall_mem_cons.mpr ⟨am_l12_14_1, List.forall_mem_cons.mpr ⟨am_l12_14_2, List.forall_mem_cons.mpr ⟨am_l12_14_3, List.forall_mem_cons.mpr ⟨am_l12_14_4, List.forall_mem_cons.mpr ⟨am_l12_14_5, List.forall_mem_cons.mpr ⟨am_l12_14_6, List.forall_mem_cons.mpr ⟨am_l12_14_7, List.forall_mem_cons.mpr ⟨am_l12_14_8, List.forall_mem_cons.mpr ⟨am_l12_14_9, List.forall_mem_cons.mpr ⟨am_l12_14_10, List.forall_mem_cons.mpr ⟨am_l12_14_11, List.forall_mem_cons.mpr ⟨am_l12_14_12, List.forall_mem_cons.mpr ⟨am_l12_14_13, List.forall_mem_cons.mpr ⟨am_l12_14_14, List.forall_mem_cons.mpr ⟨am_l12_14_15, List.forall_mem_cons.mpr ⟨am_l12_14_16, List.forall_mem_cons.mpr ⟨am_l12_14_17, List.forall_mem_cons.mpr ⟨am_l12_14_18, List.forall_mem_cons.mpr ⟨am_l12_14_19, fun _ h => by cases h⟩⟩⟩⟩⟩⟩⟩⟩⟩⟩⟩⟩⟩⟩⟩⟩⟩⟩⟩⟩
theorem am_l12_15_0 : am_ltP am_P "DelegationShopModel" (11, 669, 12, 134, 0) := am_pfN rfl rfl (am_tw9 (i := 195) rfl rfl) rfl
theorem am_l12_15_1 : am_ltP am_P "DelegationShopModel" (11, 682, 12, 139, 0) := am_pfN rfl rfl (am_tw9 (i := 200) rfl rfl) rfl
theorem am_l12_15_2 : am_ltP am_P "DelegationShopModel" (12, 7, 12, 1, 0) := am_pfF rfl rfl (am_tw9 (i := 62) rfl rfl) rfl
theorem am_l12_15_3 : am_ltP am_P "DelegationShopModel" (12, 13, 12, 5, 0) := am_pfF rfl rfl (am_tw9 (i := 66) rfl rfl) rfl
theorem am_l12_15_4 : am_ltP am_P "DelegationShopModel" (12, 16, 12, 6, 0) := am_pfF rfl rfl (am_tw9 (i := 67) rfl rfl) rfl
theorem am_l12_15_5 : am_ltP am_P "DelegationShopModel" (12, 19, 12, 7, 0) := am_pfF rfl rfl (am_tw9 (i := 68) rfl rfl) rfl
theorem am_l12_15_6 : am_ltP am_P "DelegationShopModel" (12, 22, 12, 8, 0) := am_pfF rfl rfl (am_tw9 (i := 69) rfl rfl) rfl
theorem am_l12_15_7 : am_ltP am_P "DelegationShopModel" (12, 25, 12, 9, 0) := am_pfF rfl rfl (am_tw9 (i := 70) rfl rfl) rfl
theorem am_l12_15_8 : am_ltP am_P "DelegationShopModel" (12, 28, 12, 10, 0) := am_pfF rfl rfl (am_tw9 (i := 71) rfl rfl) rfl
theorem am_l12_15_9 : am_ltP am_P "DelegationShopModel" (12, 31, 12, 11, 0) := am_pfF rfl rfl (am_tw9 (i := 72) rfl rfl) rfl
theorem am_l12_15_10 : am_ltP am_P "DelegationShopModel" (12, 34, 12, 12, 0) := am_pfF rfl rfl (am_tw9 (i := 73) rfl rfl) rfl
theorem am_l12_15_11 : am_ltP am_P "DelegationShopModel" (12, 37, 12, 13, 0) := am_pfF rfl rfl (am_tw9 (i := 74) rfl rfl) rfl
theorem am_l12_15_12 : am_ltP am_P "DelegationShopModel" (12, 40, 12, 14, 0) := am_pfF rfl rfl (am_tw9 (i := 75) rfl rfl) rfl
theorem am_l12_15_13 : am_ltP am_P "DelegationShopModel" (12, 43, 12, 15, 0) := am_pfF rfl rfl (am_tw9 (i := 76) rfl rfl) rfl
theorem am_l12_15_14 : am_ltP am_P "DelegationShopModel" (12, 46, 12, 16, 0) := am_pfF rfl rfl (am_tw9 (i := 77) rfl rfl) rfl
theorem am_l12_15_15 : am_ltP am_P "DelegationShopModel" (12, 49, 12, 17, 0) := am_pfF rfl rfl (am_tw9 (i := 78) rfl rfl) rfl
theorem am_l12_15_16 : am_ltP am_P "DelegationShopModel" (12, 52, 12, 18, 0) := am_pfF rfl rfl (am_tw9 (i := 79) rfl rfl) rfl
theorem am_l12_15_17 : am_ltP am_P "DelegationShopModel" (12, 55, 12, 19, 0) := am_pfF rfl rfl (am_tw9 (i := 80) rfl rfl) rfl
theorem am_l12_15_18 : am_ltP am_P "DelegationShopModel" (12, 58, 12, 20, 0) := am_pfF rfl rfl (am_tw9 (i := 81) rfl rfl) rfl
theorem am_l12_15_19 : am_ltP am_P "DelegationShopModel" (12, 61, 12, 21, 0) := am_pfF rfl rfl (am_tw9 (i := 82) rfl rfl) rfl
def am_LT12_15 : List am_LE := [(11, 669, 12, 134, 0), (11, 682, 12, 139, 0), (12, 7, 12, 1, 0), (12, 13, 12, 5, 0), (12, 16, 12, 6, 0), (12, 19, 12, 7, 0), (12, 22, 12, 8, 0), (12, 25, 12, 9, 0), (12, 28, 12, 10, 0), (12, 31, 12, 11, 0), (12, 34, 12, 12, 0), (12, 37, 12, 13, 0), (12, 40, 12, 14, 0), (12, 43, 12, 15, 0), (12, 46, 12, 16, 0), (12, 49, 12, 17, 0), (12, 52, 12, 18, 0), (12, 55, 12, 19, 0), (12, 58, 12, 20, 0), (12, 61, 12, 21, 0)]
theorem am_LTo12_15 : ∀ x ∈ am_LT12_15, am_ltP am_P "DelegationShopModel" x := List.forall_mem_cons.mpr ⟨am_l12_15_0, List.forall_mem_cons.mpr ⟨am_l12_15_1, List.forall_mem_cons.mpr ⟨am_l12_15_2, List.forall_mem_cons.mpr ⟨am_l12_15_3, List.forall_mem_cons.mpr ⟨am_l12_15_4, List.forall_mem_cons.mpr ⟨am_l12_15_5, List.forall_mem_cons.mpr ⟨am_l12_15_6, List.forall_mem_cons.mpr ⟨am_l12_15_7, List.forall_mem_cons.mpr ⟨am_l12_15_8, List.forall_mem_cons.mpr ⟨am_l12_15_9, List.forall_mem_cons.mpr ⟨am_l12_15_10, List.forall_mem_cons.mpr ⟨am_l12_15_11, List.forall_mem_cons.mpr ⟨am_l12_15_12, List.forall_mem_cons.mpr ⟨am_l12_15_13, List.forall_mem_cons.mpr ⟨am_l12_15_14, List.forall_mem_cons.mpr ⟨am_l12_15_15, List.forall_mem_cons.mpr ⟨am_l12_15_16, List.forall_mem_cons.mpr ⟨am_l12_15_17, List.forall_mem_cons.mpr ⟨am_l12_15_18, List.forall_mem_cons.mpr ⟨am_l12_15_19, fun _ h => by cases h⟩⟩⟩⟩⟩⟩⟩⟩⟩⟩⟩⟩⟩⟩⟩⟩⟩⟩⟩⟩
theorem am_l12_16_0 : am_ltP am_P "DelegationShopModel" (12, 64, 12, 22, 0) := am_pfF rfl rfl (am_tw9 (i := 83) rfl rfl) rfl
theorem am_l12_16_1 : am_ltP am_P "DelegationShopModel" (12, 67, 12, 23, 0) := am_pfF rfl rfl (am_tw9 (i := 84) rfl rfl) rfl
theorem am_l12_16_2 : am_ltP am_P "DelegationShopModel" (12, 70, 12, 24, 0) := am_pfF rfl rfl (am_tw9 (i := 85) rfl rfl) rfl
theorem am_l12_16_3 : am_ltP am_P "DelegationShopModel" (12, 73, 12, 25, 0) := am_pfF rfl rfl (am_tw9 (i := 86) rfl rfl) rfl
theorem am_l12_16_4 : am_ltP am_P "DelegationShopModel" (12, 76, 12, 26, 0) := am_pfF rfl rfl (am_tw9 (i := 87) rfl rfl) rfl
theorem am_l12_16_5 : am_ltP am_P "DelegationShopModel" (12, 79, 12, 27, 0) := am_pfF rfl rfl (am_tw9 (i := 88) rfl rfl) rfl
theorem am_l12_16_6 : am_ltP am_P "DelegationShopModel" (12, 82, 12, 28, 0) := am_pfF rfl rfl (am_tw9 (i := 89) rfl rfl) rfl
theorem am_l12_16_7 : am_ltP am_P "DelegationShopModel" (12, 85, 12, 29, 0) := am_pfF rfl rfl (am_tw9 (i := 90) rfl rfl) rfl
theorem am_l12_16_8 : am_ltP am_P "DelegationShopModel" (12, 91, 12, 39, 0) := am_pfF rfl rfl (am_tw9 (i := 100) rfl rfl) rfl
theorem am_l12_16_9 : am_ltP am_P "DelegationShopModel" (12, 94, 12, 40, 0) := am_pfF rfl rfl (am_tw9 (i := 101) rfl rfl) rfl
theorem am_l12_16_10 : am_ltP am_P "DelegationShopModel" (12, 97, 12, 41, 0) := am_pfF rfl rfl (am_tw9 (i := 102) rfl rfl) rfl
theorem am_l12_16_11 : am_ltP am_P "DelegationShopModel" (12, 100, 12, 47, 0) := am_pfF rfl rfl (am_tw9 (i := 108) rfl rfl) rfl
theorem am_l12_16_12 : am_ltP am_P "DelegationShopModel" (12, 103, 12, 48, 0) := am_pfF rfl rfl (am_tw9 (i := 109) rfl rfl) rfl
theorem am_l12_16_13 : am_ltP am_P "DelegationShopModel" (12, 106, 12, 49, 0) := am_pfF rfl rfl (am_tw9 (i := 110) rfl rfl) rfl
theorem am_l12_16_14 : am_ltP am_P "DelegationShopModel" (12, 109, 12, 50, 0) := am_pfF rfl rfl (am_tw9 (i := 111) rfl rfl) rfl
theorem am_l12_16_15 : am_ltP am_P "DelegationShopModel" (12, 112, 12, 51, 0) := am_pfF rfl rfl (am_tw9 (i := 112) rfl rfl) rfl
theorem am_l12_16_16 : am_ltP am_P "DelegationShopModel" (12, 115, 12, 52, 0) := am_pfF rfl rfl (am_tw9 (i := 113) rfl rfl) rfl
theorem am_l12_16_17 : am_ltP am_P "DelegationShopModel" (12, 119, 12, 54, 0) := am_pfF rfl rfl (am_tw9 (i := 115) rfl rfl) rfl
theorem am_l12_16_18 : am_ltP am_P "DelegationShopModel" (12, 122, 12, 55, 0) := am_pfF rfl rfl (am_tw9 (i := 116) rfl rfl) rfl
theorem am_l12_16_19 : am_ltP am_P "DelegationShopModel" (12, 125, 12, 56, 0) := am_pfF rfl rfl (am_tw9 (i := 117) rfl rfl) rfl
def am_LT12_16 : List am_LE := [(12, 64, 12, 22, 0), (12, 67, 12, 23, 0), (12, 70, 12, 24, 0), (12, 73, 12, 25, 0), (12, 76, 12, 26, 0), (12, 79, 12, 27, 0), (12, 82, 12, 28, 0), (12, 85, 12, 29, 0), (12, 91, 12, 39, 0), (12, 94, 12, 40, 0), (12, 97, 12, 41, 0), (12, 100, 12, 47, 0), (12, 103, 12, 48, 0), (12, 106, 12, 49, 0), (12, 109, 12, 50, 0), (12, 112, 12, 51, 0), (12, 115, 12, 52, 0), (12, 119, 12, 54, 0), (12, 122, 12, 55, 0), (12, 125, 12, 56, 0)]
theorem am_LTo12_16 : ∀ x ∈ am_LT12_16, am_ltP am_P "DelegationShopModel" x := List.forall_mem_cons.mpr ⟨am_l12_16_0, List.forall_mem_cons.mpr ⟨am_l12_16_1, List.forall_mem_cons.mpr ⟨am_l12_16_2, List.forall_mem_cons.mpr ⟨am_l12_16_3, List.forall_mem_cons.mpr ⟨am_l12_16_4, List.forall_mem_cons.mpr ⟨am_l12_16_5, List.forall_mem_cons.mpr ⟨am_l12_16_6, List.forall_mem_cons.mpr ⟨am_l12_16_7, List.forall_mem_cons.mpr ⟨am_l12_16_8, List.forall_mem_cons.mpr ⟨am_l12_16_9, List.forall_mem_cons.mpr ⟨am_l12_16_10, List.forall_mem_cons.mpr ⟨am_l12_16_11, List.forall_mem_cons.mpr ⟨am_l12_16_12, List.forall_mem_cons.mpr ⟨am_l12_16_13, List.forall_mem_cons.mpr ⟨am_l12_16_14, List.forall_mem_cons.mpr ⟨am_l12_16_15, List.forall_mem_cons.mpr ⟨am_l12_16_16, List.forall_mem_cons.mpr ⟨am_l12_16_17, List.forall_mem_cons.mpr ⟨am_l12_16_18, List.forall_mem_cons.mpr ⟨am_l12_16_19, fun _ h => by cases h⟩⟩⟩⟩⟩⟩⟩⟩⟩⟩⟩⟩⟩⟩⟩⟩⟩⟩⟩⟩
theorem am_l12_17_0 : am_ltP am_P "DelegationShopModel" (12, 128, 12, 58, 0) := am_pfF rfl rfl (am_tw9 (i := 119) rfl rfl) rfl
theorem am_l12_17_1 : am_ltP am_P "DelegationShopModel" (12, 131, 12, 59, 0) := am_pfF rfl rfl (am_tw9 (i := 120) rfl rfl) rfl
theorem am_l12_17_2 : am_ltP am_P "DelegationShopModel" (12, 134, 12, 60, 0) := am_pfF rfl rfl (am_tw9 (i := 121) rfl rfl) rfl
theorem am_l12_17_3 : am_ltP am_P "DelegationShopModel" (12, 137, 12, 61, 0) := am_pfF rfl rfl (am_tw9 (i := 122) rfl rfl) rfl
theorem am_l12_17_4 : am_ltP am_P "DelegationShopModel" (12, 140, 12, 63, 0) := am_pfF rfl rfl (am_tw9 (i := 124) rfl rfl) rfl
theorem am_l12_17_5 : am_ltP am_P "DelegationShopModel" (12, 143, 12, 65, 0) := am_pfF rfl rfl (am_tw9 (i := 126) rfl rfl) rfl
theorem am_l12_17_6 : am_ltP am_P "DelegationShopModel" (12, 146, 12, 66, 0) := am_pfF rfl rfl (am_tw9 (i := 127) rfl rfl) rfl
theorem am_l12_17_7 : am_ltP am_P "DelegationShopModel" (12, 153, 12, 68, 0) := am_pfF rfl rfl (am_tw9 (i := 129) rfl rfl) rfl
theorem am_l12_17_8 : am_ltP am_P "DelegationShopModel" (12, 157, 12, 72, 0) := am_pfF rfl rfl (am_tw9 (i := 133) rfl rfl) rfl
theorem am_l12_17_9 : am_ltP am_P "DelegationShopModel" (12, 160, 12, 73, 0) := am_pfF rfl rfl (am_tw9 (i := 134) rfl rfl) rfl
theorem am_l12_17_10 : am_ltP am_P "DelegationShopModel" (12, 163, 12, 74, 0) := am_pfF rfl rfl (am_tw9 (i := 135) rfl rfl) rfl
theorem am_l12_17_11 : am_ltP am_P "DelegationShopModel" (12, 166, 12, 75, 0) := am_pfF rfl rfl (am_tw9 (i := 136) rfl rfl) rfl
theorem am_l12_17_12 : am_ltP am_P "DelegationShopModel" (12, 169, 12, 76, 0) := am_pfF rfl rfl (am_tw9 (i := 137) rfl rfl) rfl
theorem am_l12_17_13 : am_ltP am_P "DelegationShopModel" (12, 172, 12, 77, 0) := am_pfF rfl rfl (am_tw9 (i := 138) rfl rfl) rfl
theorem am_l12_17_14 : am_ltP am_P "DelegationShopModel" (12, 175, 12, 79, 0) := am_pfF rfl rfl (am_tw9 (i := 140) rfl rfl) rfl
theorem am_l12_17_15 : am_ltP am_P "DelegationShopModel" (12, 178, 12, 80, 0) := am_pfF rfl rfl (am_tw9 (i := 141) rfl rfl) rfl
theorem am_l12_17_16 : am_ltP am_P "DelegationShopModel" (12, 181, 12, 81, 0) := am_pfF rfl rfl (am_tw9 (i := 142) rfl rfl) rfl
theorem am_l12_17_17 : am_ltP am_P "DelegationShopModel" (12, 184, 12, 82, 0) := am_pfF rfl rfl (am_tw9 (i := 143) rfl rfl) rfl
theorem am_l12_17_18 : am_ltP am_P "DelegationShopModel" (12, 187, 12, 83, 0) := am_pfF rfl rfl (am_tw9 (i := 144) rfl rfl) rfl
theorem am_l12_17_19 : am_ltP am_P "DelegationShopModel" (12, 190, 12, 85, 0) := am_pfF rfl rfl (am_tw9 (i := 146) rfl rfl) rfl
def am_LT12_17 : List am_LE := [(12, 128, 12, 58, 0), (12, 131, 12, 59, 0), (12, 134, 12, 60, 0), (12, 137, 12, 61, 0), (12, 140, 12, 63, 0), (12, 143, 12, 65, 0), (12, 146, 12, 66, 0), (12, 153, 12, 68, 0), (12, 157, 12, 72, 0), (12, 160, 12, 73, 0), (12, 163, 12, 74, 0), (12, 166, 12, 75, 0), (12, 169, 12, 76, 0), (12, 172, 12, 77, 0), (12, 175, 12, 79, 0), (12, 178, 12, 80, 0), (12, 181, 12, 81, 0), (12, 184, 12, 82, 0), (12, 187, 12, 83, 0), (12, 190, 12, 85, 0)]
theorem am_LTo12_17 : ∀ x ∈ am_LT12_17, am_ltP am_P "DelegationShopModel" x := List.forall_mem_cons.mpr ⟨am_l12_17_0, List.forall_mem_cons.mpr ⟨am_l12_17_1, List.forall_mem_cons.mpr ⟨am_l12_17_2, List.forall_mem_cons.mpr ⟨am_l12_17_3, List.forall_mem_cons.mpr ⟨am_l12_17_4, List.forall_mem_cons.mpr ⟨am_l12_17_5, List.forall_mem_cons.mpr ⟨am_l12_17_6, List.forall_mem_cons.mpr ⟨am_l12_17_7, List.forall_mem_cons.mpr ⟨am_l12_17_8, List.forall_mem_cons.mpr ⟨am_l12_17_9, List.forall_mem_cons.mpr ⟨am_l12_17_10, List.forall_mem_cons.mpr ⟨am_l12_17_11, List.forall_mem_cons.mpr ⟨am_l12_17_12, List.forall_mem_cons.mpr ⟨am_l12_17_13, List.forall_mem_cons.mpr ⟨am_l12_17_14, List.forall_mem_cons.mpr ⟨am_l12_17_15, List.forall_mem_cons.mpr ⟨am_l12_17_16, List.forall_mem_cons.mpr ⟨am_l12_17_17, List.forall_mem_cons.mpr ⟨am_l12_17_18, List.forall_mem_cons.mpr ⟨am_l12_17_19, fun _ h => by cases h⟩⟩⟩⟩⟩⟩⟩⟩⟩⟩⟩⟩⟩⟩⟩⟩⟩⟩⟩⟩
theorem am_l12_18_0 : am_ltP am_P "DelegationShopModel" (12, 193, 12, 86, 0) := am_pfF rfl rfl (am_tw9 (i := 147) rfl rfl) rfl
theorem am_l12_18_1 : am_ltP am_P "DelegationShopModel" (12, 196, 12, 87, 0) := am_pfF rfl rfl (am_tw9 (i := 148) rfl rfl) rfl
theorem am_l12_18_2 : am_ltP am_P "DelegationShopModel" (12, 199, 12, 88, 0) := am_pfF rfl rfl (am_tw9 (i := 149) rfl rfl) rfl
theorem am_l12_18_3 : am_ltP am_P "DelegationShopModel" (12, 202, 12, 89, 0) := am_pfF rfl rfl (am_tw9 (i := 150) rfl rfl) rfl
theorem am_l12_18_4 : am_ltP am_P "DelegationShopModel" (12, 205, 12, 90, 0) := am_pfF rfl rfl (am_tw9 (i := 151) rfl rfl) rfl
theorem am_l12_18_5 : am_ltP am_P "DelegationShopModel" (12, 208, 12, 91, 0) := am_pfF rfl rfl (am_tw9 (i := 152) rfl rfl) rfl
theorem am_l12_18_6 : am_ltP am_P "DelegationShopModel" (12, 211, 12, 92, 0) := am_pfF rfl rfl (am_tw9 (i := 153) rfl rfl) rfl
theorem am_l12_18_7 : am_ltP am_P "DelegationShopModel" (12, 214, 12, 93, 0) := am_pfF rfl rfl (am_tw9 (i := 154) rfl rfl) rfl
theorem am_l12_18_8 : am_ltP am_P "DelegationShopModel" (12, 217, 12, 94, 0) := am_pfF rfl rfl (am_tw9 (i := 155) rfl rfl) rfl
theorem am_l12_18_9 : am_ltP am_P "DelegationShopModel" (12, 220, 12, 95, 0) := am_pfF rfl rfl (am_tw9 (i := 156) rfl rfl) rfl
theorem am_l12_18_10 : am_ltP am_P "DelegationShopModel" (12, 223, 12, 96, 0) := am_pfF rfl rfl (am_tw9 (i := 157) rfl rfl) rfl
theorem am_l12_18_11 : am_ltP am_P "DelegationShopModel" (12, 226, 12, 97, 0) := am_pfF rfl rfl (am_tw9 (i := 158) rfl rfl) rfl
theorem am_l12_18_12 : am_ltP am_P "DelegationShopModel" (12, 229, 12, 98, 0) := am_pfF rfl rfl (am_tw9 (i := 159) rfl rfl) rfl
theorem am_l12_18_13 : am_ltP am_P "DelegationShopModel" (12, 232, 12, 99, 0) := am_pfF rfl rfl (am_tw9 (i := 160) rfl rfl) rfl
theorem am_l12_18_14 : am_ltP am_P "DelegationShopModel" (12, 235, 12, 100, 0) := am_pfF rfl rfl (am_tw9 (i := 161) rfl rfl) rfl
theorem am_l12_18_15 : am_ltP am_P "DelegationShopModel" (12, 238, 12, 101, 0) := am_pfF rfl rfl (am_tw9 (i := 162) rfl rfl) rfl
theorem am_l12_18_16 : am_ltP am_P "DelegationShopModel" (12, 241, 12, 112, 0) := am_pfF rfl rfl (am_tw9 (i := 173) rfl rfl) rfl
theorem am_l12_18_17 : am_ltP am_P "DelegationShopModel" (12, 244, 12, 113, 0) := am_pfF rfl rfl (am_tw9 (i := 174) rfl rfl) rfl
theorem am_l12_18_18 : am_ltP am_P "DelegationShopModel" (12, 247, 12, 114, 0) := am_pfF rfl rfl (am_tw9 (i := 175) rfl rfl) rfl
theorem am_l12_18_19 : am_ltP am_P "DelegationShopModel" (12, 250, 12, 115, 0) := am_pfF rfl rfl (am_tw9 (i := 176) rfl rfl) rfl
def am_LT12_18 : List am_LE := [(12, 193, 12, 86, 0), (12, 196, 12, 87, 0), (12, 199, 12, 88, 0), (12, 202, 12, 89, 0), (12, 205, 12, 90, 0), (12, 208, 12, 91, 0), (12, 211, 12, 92, 0), (12, 214, 12, 93, 0), (12, 217, 12, 94, 0), (12, 220, 12, 95, 0), (12, 223, 12, 96, 0), (12, 226, 12, 97, 0), (12, 229, 12, 98, 0), (12, 232, 12, 99, 0), (12, 235, 12, 100, 0), (12, 238, 12, 101, 0), (12, 241, 12, 112, 0), (12, 244, 12, 113, 0), (12, 247, 12, 114, 0), (12, 250, 12, 115, 0)]
theorem am_LTo12_18 : ∀ x ∈ am_LT12_18, am_ltP am_P "DelegationShopModel" x := List.forall_mem_cons.mpr ⟨am_l12_18_0, List.forall_mem_cons.mpr ⟨am_l12_18_1, List.forall_mem_cons.mpr ⟨am_l12_18_2, List.forall_mem_cons.mpr ⟨am_l12_18_3, List.forall_mem_cons.mpr ⟨am_l12_18_4, List.forall_mem_cons.mpr ⟨am_l12_18_5, List.forall_mem_cons.mpr ⟨am_l12_18_6, List.forall_mem_cons.mpr ⟨am_l12_18_7, List.forall_mem_cons.mpr ⟨am_l12_18_8, List.forall_mem_cons.mpr ⟨am_l12_18_9, List.forall_mem_cons.mpr ⟨am_l12_18_10, List.forall_mem_cons.mpr ⟨am_l12_18_11, List.forall_mem_cons.mpr ⟨am_l12_18_12, List.forall_mem_cons.mpr ⟨am_l12_18_13, List.forall_mem_cons.mpr ⟨am_l12_18_14, List.forall_mem_cons.mpr ⟨am_l12_18_15, List.forall_mem_cons.mpr ⟨am_l12_18_16, List.forall_mem_cons.mpr ⟨am_l12_18_17, List.forall_mem_cons.mpr ⟨am_l12_18_18, List.forall_mem_cons.mpr ⟨am_l12_18_19, fun _ h => by cases h⟩⟩⟩⟩⟩⟩⟩⟩⟩⟩⟩⟩⟩⟩⟩⟩⟩⟩⟩⟩
theorem am_l12_19_0 : am_ltP am_P "DelegationShopModel" (12, 253, 12, 116, 0) := am_pfF rfl rfl (am_tw9 (i := 177) rfl rfl) rfl
theorem am_l12_19_1 : am_ltP am_P "DelegationShopModel" (12, 256, 12, 117, 0) := am_pfF rfl rfl (am_tw9 (i := 178) rfl rfl) rfl
theorem am_l12_19_2 : am_ltP am_P "DelegationShopModel" (12, 259, 12, 118, 0) := am_pfF rfl rfl (am_tw9 (i := 179) rfl rfl) rfl
theorem am_l12_19_3 : am_ltP am_P "DelegationShopModel" (12, 262, 12, 119, 0) := am_pfF rfl rfl (am_tw9 (i := 180) rfl rfl) rfl
theorem am_l12_19_4 : am_ltP am_P "DelegationShopModel" (12, 265, 12, 120, 0) := am_pfF rfl rfl (am_tw9 (i := 181) rfl rfl) rfl
theorem am_l12_19_5 : am_ltP am_P "DelegationShopModel" (12, 268, 12, 121, 0) := am_pfF rfl rfl (am_tw9 (i := 182) rfl rfl) rfl
theorem am_l12_19_6 : am_ltP am_P "DelegationShopModel" (12, 271, 12, 122, 0) := am_pfF rfl rfl (am_tw9 (i := 183) rfl rfl) rfl
theorem am_l12_19_7 : am_ltP am_P "DelegationShopModel" (12, 274, 12, 123, 0) := am_pfF rfl rfl (am_tw9 (i := 184) rfl rfl) rfl
theorem am_l12_19_8 : am_ltP am_P "DelegationShopModel" (12, 277, 12, 124, 0) := am_pfF rfl rfl (am_tw9 (i := 185) rfl rfl) rfl
theorem am_l12_19_9 : am_ltP am_P "DelegationShopModel" (12, 280, 12, 125, 0) := am_pfF rfl rfl (am_tw9 (i := 186) rfl rfl) rfl
theorem am_l12_19_10 : am_ltP am_P "DelegationShopModel" (12, 283, 12, 126, 0) := am_pfF rfl rfl (am_tw9 (i := 187) rfl rfl) rfl
theorem am_l12_19_11 : am_ltP am_P "DelegationShopModel" (12, 287, 12, 128, 0) := am_pfF rfl rfl (am_tw9 (i := 189) rfl rfl) rfl
theorem am_l12_19_12 : am_ltP am_P "DelegationShopModel" (12, 290, 12, 129, 0) := am_pfF rfl rfl (am_tw9 (i := 190) rfl rfl) rfl
theorem am_l12_19_13 : am_ltP am_P "DelegationShopModel" (12, 293, 12, 130, 0) := am_pfF rfl rfl (am_tw9 (i := 191) rfl rfl) rfl
theorem am_l12_19_14 : am_ltP am_P "DelegationShopModel" (12, 296, 12, 131, 0) := am_pfF rfl rfl (am_tw9 (i := 192) rfl rfl) rfl
theorem am_l12_19_15 : am_ltP am_P "DelegationShopModel" (12, 299, 12, 140, 0) := am_pfF rfl rfl (am_tw9 (i := 201) rfl rfl) rfl
theorem am_l12_19_16 : am_ltP am_P "DelegationShopModel" (12, 302, 12, 141, 0) := am_pfF rfl rfl (am_tw9 (i := 202) rfl rfl) rfl
theorem am_l12_19_17 : am_ltP am_P "DelegationShopModel" (12, 305, 12, 142, 0) := am_pfF rfl rfl (am_tw9 (i := 203) rfl rfl) rfl
theorem am_l12_19_18 : am_ltP am_P "DelegationShopModel" (12, 308, 12, 143, 0) := am_pfF rfl rfl (am_tw9 (i := 204) rfl rfl) rfl
theorem am_l12_19_19 : am_ltP am_P "DelegationShopModel" (12, 311, 12, 144, 0) := am_pfF rfl rfl (am_tw9 (i := 205) rfl rfl) rfl
def am_LT12_19 : List am_LE := [(12, 253, 12, 116, 0), (12, 256, 12, 117, 0), (12, 259, 12, 118, 0), (12, 262, 12, 119, 0), (12, 265, 12, 120, 0), (12, 268, 12, 121, 0), (12, 271, 12, 122, 0), (12, 274, 12, 123, 0), (12, 277, 12, 124, 0), (12, 280, 12, 125, 0), (12, 283, 12, 126, 0), (12, 287, 12, 128, 0), (12, 290, 12, 129, 0), (12, 293, 12, 130, 0), (12, 296, 12, 131, 0), (12, 299, 12, 140, 0), (12, 302, 12, 141, 0), (12, 305, 12, 142, 0), (12, 308, 12, 143, 0), (12, 311, 12, 144, 0)]
theorem am_LTo12_19 : ∀ x ∈ am_LT12_19, am_ltP am_P "DelegationShopModel" x := List.forall_mem_cons.mpr ⟨am_l12_19_0, List.forall_mem_cons.mpr ⟨am_l12_19_1, List.forall_mem_cons.mpr ⟨am_l12_19_2, List.forall_mem_cons.mpr ⟨am_l12_19_3, List.forall_mem_cons.mpr ⟨am_l12_19_4, List.forall_mem_cons.mpr ⟨am_l12_19_5, List.forall_mem_cons.mpr ⟨am_l12_19_6, List.forall_mem_cons.mpr ⟨am_l12_19_7, List.forall_mem_cons.mpr ⟨am_l12_19_8, List.forall_mem_cons.mpr ⟨am_l12_19_9, List.forall_mem_cons.mpr ⟨am_l12_19_10, List.forall_mem_cons.mpr ⟨am_l12_19_11, List.forall_mem_cons.mpr ⟨am_l12_19_12, List.forall_mem_cons.mpr ⟨am_l12_19_13, List.forall_mem_cons.mpr ⟨am_l12_19_14, List.forall_mem_cons.mpr ⟨am_l12_19_15, List.forall_mem_cons.mpr ⟨am_l12_19_16, List.forall_mem_cons.mpr ⟨am_l12_19_17, List.forall_mem_cons.mpr ⟨am_l12_19_18, List.forall_mem_cons.mpr ⟨am_l12_19_19, fun _ h => by cases h⟩⟩⟩⟩⟩⟩⟩⟩⟩⟩⟩⟩⟩⟩⟩⟩⟩⟩⟩⟩
theorem am_l12_20_0 : am_ltP am_P "DelegationShopModel" (12, 314, 12, 145, 0) := am_pfF rfl rfl (am_tw9 (i := 206) rfl rfl) rfl
def am_LT12_20 : List am_LE := [(12, 314, 12, 145, 0)]
theorem am_LTo12_20 : ∀ x ∈ am_LT12_20, am_ltP am_P "DelegationShopModel" x := List.forall_mem_cons.mpr ⟨am_l12_20_0, fun _ h => by cases h⟩
def am_LT12 : List am_LE := am_LT12_0 ++ (am_LT12_1 ++ (am_LT12_2 ++ (am_LT12_3 ++ (am_LT12_4 ++ (am_LT12_5 ++ (am_LT12_6 ++ (am_LT12_7 ++ (am_LT12_8 ++ (am_LT12_9 ++ (am_LT12_10 ++ (am_LT12_11 ++ (am_LT12_12 ++ (am_LT12_13 ++ (am_LT12_14 ++ (am_LT12_15 ++ (am_LT12_16 ++ (am_LT12_17 ++ (am_LT12_18 ++ (am_LT12_19 ++ (am_LT12_20))))))))))))))))))))
theorem am_LTok12 : ∀ x ∈ am_LT12, am_ltP am_P "DelegationShopModel" x := fun x h => (List.mem_append.mp h).elim (fun h => am_LTo12_0 x h) (fun h => (List.mem_append.mp h).elim (fun h => am_LTo12_1 x h) (fun h => (List.mem_append.mp h).elim (fun h => am_LTo12_2 x h) (fun h => (List.mem_append.mp h).elim (fun h => am_LTo12_3 x h) (fun h => (List.mem_append.mp h).elim (fun h => am_LTo12_4 x h) (fun h => (List.mem_append.mp h).elim (fun h => am_LTo12_5 x h) (fun h => (List.mem_append.mp h).elim (fun h => am_LTo12_6 x h) (fun h => (List.mem_append.mp h).elim (fun h => am_LTo12_7 x h) (fun h => (List.mem_append.mp h).elim (fun h => am_LTo12_8 x h) (fun h => (List.mem_append.mp h).elim (fun h => am_LTo12_9 x h) (fun h => (List.mem_append.mp h).elim (fun h => am_LTo12_10 x h) (fun h => (List.mem_append.mp h).elim (fun h => am_LTo12_11 x h) (fun h => (List.mem_append.mp h).elim (fun h => am_LTo12_12 x h) (fun h => (List.mem_append.mp h).elim (fun h => am_LTo12_13 x h) (fun h => (List.mem_append.mp h).elim (fun h => am_LTo12_14 x h) (fun h => (List.mem_append.mp h).elim (fun h => am_LTo12_15 x h) (fun h => (List.mem_append.mp h).elim (fun h => am_LTo12_16 x h) (fun h => (List.mem_append.mp h).elim (fun h => am_LTo12_17 x h) (fun h => (List.mem_append.mp h).elim (fun h => am_LTo12_18 x h) (fun h => (List.mem_append.mp h).elim (fun h => am_LTo12_19 x h) (fun h => am_LTo12_20 x h))))))))))))))))))))
theorem am_l13_0_0 : am_ltP am_P "DelegationShopLaw" (1, 7, 166, 0, 0) := am_lm166 (Or.inl (am_tw5 (i := 159) rfl rfl))
theorem am_l13_0_1 : am_ltP am_P "DelegationShopLaw" (1, 15, 167, 0, 0) := am_lm167 (Or.inl (am_tw5 (i := 187) rfl rfl))
theorem am_l13_0_2 : am_ltP am_P "DelegationShopLaw" (1, 21, 169, 0, 0) := am_lm169 (Or.inl (am_tw5 (i := 210) rfl rfl))
theorem am_l13_0_3 : am_ltP am_P "DelegationShopLaw" (1, 24, 171, 0, 0) := am_lm171 (Or.inl (am_tw5 (i := 219) rfl rfl))
theorem am_l13_0_4 : am_ltP am_P "DelegationShopLaw" (1, 30, 172, 0, 0) := am_lm172 (Or.inl (am_tw8 (i := 89) rfl rfl))
theorem am_l13_0_5 : am_ltP am_P "DelegationShopLaw" (1, 34, 173, 0, 0) := am_lm173 (Or.inl (am_tw8 (i := 101) rfl rfl))
theorem am_l13_0_6 : am_ltP am_P "DelegationShopLaw" (1, 40, 174, 0, 0) := am_lm174 (Or.inl (am_tw8 (i := 131) rfl rfl))
theorem am_l13_0_7 : am_ltP am_P "DelegationShopLaw" (1, 43, 175, 0, 0) := am_lm175 (Or.inl (am_tw8 (i := 142) rfl rfl))
theorem am_l13_0_8 : am_ltP am_P "DelegationShopLaw" (1, 46, 176, 0, 0) := am_lm176 (Or.inl (am_tw8 (i := 153) rfl rfl))
theorem am_l13_0_9 : am_ltP am_P "DelegationShopLaw" (1, 50, 177, 0, 0) := am_lm177 (Or.inl (am_tw8 (i := 160) rfl rfl))
theorem am_l13_0_10 : am_ltP am_P "DelegationShopLaw" (1, 54, 178, 0, 0) := am_lm178 (Or.inl (am_tw8 (i := 169) rfl rfl))
theorem am_l13_0_11 : am_ltP am_P "DelegationShopLaw" (1, 57, 179, 0, 0) := am_lm179 (Or.inl (am_tw8 (i := 177) rfl rfl))
theorem am_l13_0_12 : am_ltP am_P "DelegationShopLaw" (1, 61, 180, 0, 0) := am_lm180 (Or.inl (am_tw8 (i := 189) rfl rfl))
theorem am_l13_0_13 : am_ltP am_P "DelegationShopLaw" (1, 64, 181, 0, 0) := am_lm181 (Or.inl (am_tw8 (i := 196) rfl rfl))
theorem am_l13_0_14 : am_ltP am_P "DelegationShopLaw" (1, 67, 182, 0, 0) := am_lm182 (Or.inl (am_tw8 (i := 203) rfl rfl))
theorem am_l13_0_15 : am_ltP am_P "DelegationShopLaw" (1, 71, 183, 0, 0) := am_lm183 (Or.inl (am_tw8 (i := 211) rfl rfl))
theorem am_l13_0_16 : am_ltP am_P "DelegationShopLaw" (1, 75, 184, 0, 0) := am_lm184 (Or.inl (am_tw8 (i := 220) rfl rfl))
theorem am_l13_0_17 : am_ltP am_P "DelegationShopLaw" (1, 78, 185, 0, 0) := am_lm185 (Or.inl (am_tw8 (i := 231) rfl rfl))
theorem am_l13_0_18 : am_ltP am_P "DelegationShopLaw" (1, 81, 186, 0, 0) := am_lm186 (Or.inl (am_tw9 (i := 0) rfl rfl))
theorem am_l13_0_19 : am_ltP am_P "DelegationShopLaw" (1, 84, 187, 0, 0) := am_lm187 (Or.inl (am_tw9 (i := 7) rfl rfl))
def am_LT13_0 : List am_LE := [(1, 7, 166, 0, 0), (1, 15, 167, 0, 0), (1, 21, 169, 0, 0), (1, 24, 171, 0, 0), (1, 30, 172, 0, 0), (1, 34, 173, 0, 0), (1, 40, 174, 0, 0), (1, 43, 175, 0, 0), (1, 46, 176, 0, 0), (1, 50, 177, 0, 0), (1, 54, 178, 0, 0), (1, 57, 179, 0, 0), (1, 61, 180, 0, 0), (1, 64, 181, 0, 0), (1, 67, 182, 0, 0), (1, 71, 183, 0, 0), (1, 75, 184, 0, 0), (1, 78, 185, 0, 0), (1, 81, 186, 0, 0), (1, 84, 187, 0, 0)]
theorem am_LTo13_0 : ∀ x ∈ am_LT13_0, am_ltP am_P "DelegationShopLaw" x := List.forall_mem_cons.mpr ⟨am_l13_0_0, List.forall_mem_cons.mpr ⟨am_l13_0_1, List.forall_mem_cons.mpr ⟨am_l13_0_2, List.forall_mem_cons.mpr ⟨am_l13_0_3, List.forall_mem_cons.mpr ⟨am_l13_0_4, List.forall_mem_cons.mpr ⟨am_l13_0_5, List.forall_mem_cons.mpr ⟨am_l13_0_6, List.forall_mem_cons.mpr ⟨am_l13_0_7, List.forall_mem_cons.mpr ⟨am_l13_0_8, List.forall_mem_cons.mpr ⟨am_l13_0_9, List.forall_mem_cons.mpr ⟨am_l13_0_10, List.forall_mem_cons.mpr ⟨am_l13_0_11, List.forall_mem_cons.mpr ⟨am_l13_0_12, List.forall_mem_cons.mpr ⟨am_l13_0_13, List.forall_mem_cons.mpr ⟨am_l13_0_14, List.forall_mem_cons.mpr ⟨am_l13_0_15, List.forall_mem_cons.mpr ⟨am_l13_0_16, List.forall_mem_cons.mpr ⟨am_l13_0_17, List.forall_mem_cons.mpr ⟨am_l13_0_18, List.forall_mem_cons.mpr ⟨am_l13_0_19, fun _ h => by cases h⟩⟩⟩⟩⟩⟩⟩⟩⟩⟩⟩⟩⟩⟩⟩⟩⟩⟩⟩⟩
theorem am_l13_1_0 : am_ltP am_P "DelegationShopLaw" (1, 87, 188, 0, 0) := am_lm188 (Or.inl (am_tw9 (i := 23) rfl rfl))
theorem am_l13_1_1 : am_ltP am_P "DelegationShopLaw" (1, 91, 189, 0, 0) := am_lm189 (Or.inl (am_tw9 (i := 31) rfl rfl))
theorem am_l13_1_2 : am_ltP am_P "DelegationShopLaw" (1, 95, 190, 0, 0) := am_lm190 (Or.inl (am_tw9 (i := 38) rfl rfl))
theorem am_l13_1_3 : am_ltP am_P "DelegationShopLaw" (1, 98, 191, 0, 0) := am_lm191 (Or.inl (am_tw9 (i := 45) rfl rfl))
theorem am_l13_1_4 : am_ltP am_P "DelegationShopLaw" (1, 110, 199, 0, 0) := am_lm199 (Or.inl (am_tw11 (i := 24) rfl rfl))
theorem am_l13_1_5 : am_ltP am_P "DelegationShopLaw" (1, 111, 197, 0, 0) := am_lm197 (Or.inl (am_tw11 (i := 20) rfl rfl))
theorem am_l13_1_6 : am_ltP am_P "DelegationShopLaw" (1, 117, 200, 0, 0) := am_lm200 (Or.inl (am_tw11 (i := 32) rfl rfl))
theorem am_l13_1_7 : am_ltP am_P "DelegationShopLaw" (1, 118, 168, 0, 0) := am_lm168 (Or.inl (am_tw3 (i := 228) rfl rfl))
theorem am_l13_1_8 : am_ltP am_P "DelegationShopLaw" (1, 121, 237, 0, 0) := am_lm237 (Or.inl (am_tw11 (i := 36) rfl rfl))
theorem am_l13_1_9 : am_ltP am_P "DelegationShopLaw" (1, 124, 300, 0, 0) := am_lm300 (Or.inl (am_tw11 (i := 200) rfl rfl))
theorem am_l13_1_10 : am_ltP am_P "DelegationShopLaw" (1, 125, 170, 0, 0) := am_lm170 (Or.inl (am_tw5 (i := 150) rfl rfl))
theorem am_l13_1_11 : am_ltP am_P "DelegationShopLaw" (1, 128, 301, 0, 0) := am_lm301 (Or.inl (am_tw11 (i := 204) rfl rfl))
theorem am_l13_1_12 : am_ltP am_P "DelegationShopLaw" (1, 134, 302, 0, 0) := am_lm302 (Or.inl (am_tw11 (i := 208) rfl rfl))
theorem am_l13_1_13 : am_ltP am_P "DelegationShopLaw" (1, 138, 303, 0, 0) := am_lm303 (Or.inl (am_tw12 (i := 205) rfl rfl))
theorem am_l13_1_14 : am_ltP am_P "DelegationShopLaw" (1, 142, 304, 0, 0) := am_lm304 (Or.inl (am_tw12 (i := 209) rfl rfl))
theorem am_l13_1_15 : am_ltP am_P "DelegationShopLaw" (1, 145, 305, 0, 0) := am_lm305 (Or.inl (am_tw12 (i := 213) rfl rfl))
theorem am_l13_1_16 : am_ltP am_P "DelegationShopLaw" (1, 148, 306, 0, 0) := am_lm306 (Or.inl (am_tw12 (i := 217) rfl rfl))
theorem am_l13_1_17 : am_ltP am_P "DelegationShopLaw" (1, 151, 307, 0, 0) := am_lm307 (Or.inl (am_tw12 (i := 221) rfl rfl))
theorem am_l13_1_18 : am_ltP am_P "DelegationShopLaw" (1, 155, 310, 0, 0) := am_lm310 (Or.inl (am_tw12 (i := 225) rfl rfl))
theorem am_l13_1_19 : am_ltP am_P "DelegationShopLaw" (1, 158, 311, 0, 0) := am_lm311 (Or.inl (am_tw12 (i := 237) rfl rfl))
def am_LT13_1 : List am_LE := [(1, 87, 188, 0, 0), (1, 91, 189, 0, 0), (1, 95, 190, 0, 0), (1, 98, 191, 0, 0), (1, 110, 199, 0, 0), (1, 111, 197, 0, 0), (1, 117, 200, 0, 0), (1, 118, 168, 0, 0), (1, 121, 237, 0, 0), (1, 124, 300, 0, 0), (1, 125, 170, 0, 0), (1, 128, 301, 0, 0), (1, 134, 302, 0, 0), (1, 138, 303, 0, 0), (1, 142, 304, 0, 0), (1, 145, 305, 0, 0), (1, 148, 306, 0, 0), (1, 151, 307, 0, 0), (1, 155, 310, 0, 0), (1, 158, 311, 0, 0)]
theorem am_LTo13_1 : ∀ x ∈ am_LT13_1, am_ltP am_P "DelegationShopLaw" x := List.forall_mem_cons.mpr ⟨am_l13_1_0, List.forall_mem_cons.mpr ⟨am_l13_1_1, List.forall_mem_cons.mpr ⟨am_l13_1_2, List.forall_mem_cons.mpr ⟨am_l13_1_3, List.forall_mem_cons.mpr ⟨am_l13_1_4, List.forall_mem_cons.mpr ⟨am_l13_1_5, List.forall_mem_cons.mpr ⟨am_l13_1_6, List.forall_mem_cons.mpr ⟨am_l13_1_7, List.forall_mem_cons.mpr ⟨am_l13_1_8, List.forall_mem_cons.mpr ⟨am_l13_1_9, List.forall_mem_cons.mpr ⟨am_l13_1_10, List.forall_mem_cons.mpr ⟨am_l13_1_11, List.forall_mem_cons.mpr ⟨am_l13_1_12, List.forall_mem_cons.mpr ⟨am_l13_1_13, List.forall_mem_cons.mpr ⟨am_l13_1_14, List.forall_mem_cons.mpr ⟨am_l13_1_15, List.forall_mem_cons.mpr ⟨am_l13_1_16, List.forall_mem_cons.mpr ⟨am_l13_1_17, List.forall_mem_cons.mpr ⟨am_l13_1_18, List.forall_mem_cons.mpr ⟨am_l13_1_19, fun _ h => by cases h⟩⟩⟩⟩⟩⟩⟩⟩⟩⟩⟩⟩⟩⟩⟩⟩⟩⟩⟩⟩
theorem am_l13_2_0 : am_ltP am_P "DelegationShopLaw" (1, 161, 312, 0, 0) := am_lm312 (Or.inl (am_tw13 (i := 1) rfl rfl))
theorem am_l13_2_1 : am_ltP am_P "DelegationShopLaw" (1, 164, 313, 0, 0) := am_lm313 (Or.inl (am_tw13 (i := 5) rfl rfl))
theorem am_l13_2_2 : am_ltP am_P "DelegationShopLaw" (1, 167, 314, 0, 0) := am_lm314 (Or.inl (am_tw13 (i := 9) rfl rfl))
theorem am_l13_2_3 : am_ltP am_P "DelegationShopLaw" (1, 171, 315, 0, 0) := am_lm315 (Or.inl (am_tw13 (i := 13) rfl rfl))
theorem am_l13_2_4 : am_ltP am_P "DelegationShopLaw" (1, 174, 316, 0, 0) := am_lm316 (Or.inl (am_tw13 (i := 17) rfl rfl))
theorem am_l13_2_5 : am_ltP am_P "DelegationShopLaw" (1, 177, 317, 0, 0) := am_lm317 (Or.inl (am_tw13 (i := 22) rfl rfl))
theorem am_l13_2_6 : am_ltP am_P "DelegationShopLaw" (1, 180, 318, 0, 0) := am_lm318 (Or.inl (am_tw13 (i := 26) rfl rfl))
theorem am_l13_2_7 : am_ltP am_P "DelegationShopLaw" (1, 183, 319, 0, 0) := am_lm319 (Or.inl (am_tw13 (i := 30) rfl rfl))
theorem am_l13_2_8 : am_ltP am_P "DelegationShopLaw" (1, 186, 321, 0, 0) := am_lm321 (Or.inl (am_tw13 (i := 34) rfl rfl))
theorem am_l13_2_9 : am_ltP am_P "DelegationShopLaw" (1, 189, 322, 0, 0) := am_lm322 (Or.inl (am_tw13 (i := 42) rfl rfl))
theorem am_l13_2_10 : am_ltP am_P "DelegationShopLaw" (1, 193, 323, 0, 0) := am_lm323 (Or.inl (am_tw13 (i := 46) rfl rfl))
theorem am_l13_2_11 : am_ltP am_P "DelegationShopLaw" (1, 196, 324, 0, 0) := am_lm324 (Or.inl (am_tw13 (i := 50) rfl rfl))
theorem am_l13_2_12 : am_ltP am_P "DelegationShopLaw" (1, 199, 326, 0, 0) := am_lm326 (Or.inl (am_tw13 (i := 54) rfl rfl))
theorem am_l13_2_13 : am_ltP am_P "DelegationShopLaw" (2, 105, 327, 0, 0) := am_lm327 (Or.inl (am_tw5 (i := 155) rfl rfl))
theorem am_l13_2_14 : am_ltP am_P "DelegationShopLaw" (2, 114, 328, 0, 0) := am_lm328 (Or.inl (am_tw5 (i := 183) rfl rfl))
theorem am_l13_2_15 : am_ltP am_P "DelegationShopLaw" (2, 122, 329, 0, 0) := am_lm329 (Or.inl (am_tw5 (i := 207) rfl rfl))
theorem am_l13_2_16 : am_ltP am_P "DelegationShopLaw" (2, 131, 330, 0, 0) := am_lm330 (Or.inl (am_tw5 (i := 215) rfl rfl))
theorem am_l13_2_17 : am_ltP am_P "DelegationShopLaw" (2, 135, 331, 0, 0) := am_lm331 (Or.inl (am_tw8 (i := 86) rfl rfl))
theorem am_l13_2_18 : am_ltP am_P "DelegationShopLaw" (2, 139, 332, 0, 0) := am_lm332 (Or.inl (am_tw8 (i := 97) rfl rfl))
theorem am_l13_2_19 : am_ltP am_P "DelegationShopLaw" (2, 143, 333, 0, 0) := am_lm333 (Or.inl (am_tw8 (i := 128) rfl rfl))
def am_LT13_2 : List am_LE := [(1, 161, 312, 0, 0), (1, 164, 313, 0, 0), (1, 167, 314, 0, 0), (1, 171, 315, 0, 0), (1, 174, 316, 0, 0), (1, 177, 317, 0, 0), (1, 180, 318, 0, 0), (1, 183, 319, 0, 0), (1, 186, 321, 0, 0), (1, 189, 322, 0, 0), (1, 193, 323, 0, 0), (1, 196, 324, 0, 0), (1, 199, 326, 0, 0), (2, 105, 327, 0, 0), (2, 114, 328, 0, 0), (2, 122, 329, 0, 0), (2, 131, 330, 0, 0), (2, 135, 331, 0, 0), (2, 139, 332, 0, 0), (2, 143, 333, 0, 0)]
theorem am_LTo13_2 : ∀ x ∈ am_LT13_2, am_ltP am_P "DelegationShopLaw" x := List.forall_mem_cons.mpr ⟨am_l13_2_0, List.forall_mem_cons.mpr ⟨am_l13_2_1, List.forall_mem_cons.mpr ⟨am_l13_2_2, List.forall_mem_cons.mpr ⟨am_l13_2_3, List.forall_mem_cons.mpr ⟨am_l13_2_4, List.forall_mem_cons.mpr ⟨am_l13_2_5, List.forall_mem_cons.mpr ⟨am_l13_2_6, List.forall_mem_cons.mpr ⟨am_l13_2_7, List.forall_mem_cons.mpr ⟨am_l13_2_8, List.forall_mem_cons.mpr ⟨am_l13_2_9, List.forall_mem_cons.mpr ⟨am_l13_2_10, List.forall_mem_cons.mpr ⟨am_l13_2_11, List.forall_mem_cons.mpr ⟨am_l13_2_12, List.forall_mem_cons.mpr ⟨am_l13_2_13, List.forall_mem_cons.mpr ⟨am_l13_2_14, List.forall_mem_cons.mpr ⟨am_l13_2_15, List.forall_mem_cons.mpr ⟨am_l13_2_16, List.forall_mem_cons.mpr ⟨am_l13_2_17, List.forall_mem_cons.mpr ⟨am_l13_2_18, List.forall_mem_cons.mpr ⟨am_l13_2_19, fun _ h => by cases h⟩⟩⟩⟩⟩⟩⟩⟩⟩⟩⟩⟩⟩⟩⟩⟩⟩⟩⟩⟩
theorem am_l13_3_0 : am_ltP am_P "DelegationShopLaw" (2, 146, 334, 0, 0) := am_lm334 (Or.inl (am_tw8 (i := 139) rfl rfl))
theorem am_l13_3_1 : am_ltP am_P "DelegationShopLaw" (2, 149, 335, 0, 0) := am_lm335 (Or.inl (am_tw8 (i := 150) rfl rfl))
theorem am_l13_3_2 : am_ltP am_P "DelegationShopLaw" (2, 152, 336, 0, 0) := am_lm336 (Or.inl (am_tw8 (i := 157) rfl rfl))
theorem am_l13_3_3 : am_ltP am_P "DelegationShopLaw" (2, 156, 337, 0, 0) := am_lm337 (Or.inl (am_tw8 (i := 166) rfl rfl))
theorem am_l13_3_4 : am_ltP am_P "DelegationShopLaw" (2, 159, 338, 0, 0) := am_lm338 (Or.inl (am_tw8 (i := 174) rfl rfl))
theorem am_l13_3_5 : am_ltP am_P "DelegationShopLaw" (2, 162, 339, 0, 0) := am_lm339 (Or.inl (am_tw8 (i := 186) rfl rfl))
theorem am_l13_3_6 : am_ltP am_P "DelegationShopLaw" (2, 165, 340, 0, 0) := am_lm340 (Or.inl (am_tw8 (i := 193) rfl rfl))
theorem am_l13_3_7 : am_ltP am_P "DelegationShopLaw" (2, 168, 341, 0, 0) := am_lm341 (Or.inl (am_tw8 (i := 200) rfl rfl))
theorem am_l13_3_8 : am_ltP am_P "DelegationShopLaw" (2, 172, 342, 0, 0) := am_lm342 (Or.inl (am_tw8 (i := 208) rfl rfl))
theorem am_l13_3_9 : am_ltP am_P "DelegationShopLaw" (2, 175, 343, 0, 0) := am_lm343 (Or.inl (am_tw8 (i := 217) rfl rfl))
theorem am_l13_3_10 : am_ltP am_P "DelegationShopLaw" (2, 178, 344, 0, 0) := am_lm344 (Or.inl (am_tw8 (i := 228) rfl rfl))
theorem am_l13_3_11 : am_ltP am_P "DelegationShopLaw" (2, 181, 345, 0, 0) := am_lm345 (Or.inl (am_tw8 (i := 237) rfl rfl))
theorem am_l13_3_12 : am_ltP am_P "DelegationShopLaw" (2, 184, 346, 0, 0) := am_lm346 (Or.inl (am_tw9 (i := 4) rfl rfl))
theorem am_l13_3_13 : am_ltP am_P "DelegationShopLaw" (2, 187, 347, 0, 0) := am_lm347 (Or.inl (am_tw9 (i := 20) rfl rfl))
theorem am_l13_3_14 : am_ltP am_P "DelegationShopLaw" (2, 190, 348, 0, 0) := am_lm348 (Or.inl (am_tw9 (i := 28) rfl rfl))
theorem am_l13_3_15 : am_ltP am_P "DelegationShopLaw" (2, 194, 349, 0, 0) := am_lm349 (Or.inl (am_tw9 (i := 35) rfl rfl))
theorem am_l13_3_16 : am_ltP am_P "DelegationShopLaw" (2, 197, 350, 0, 0) := am_lm350 (Or.inl (am_tw9 (i := 42) rfl rfl))
theorem am_l13_3_17 : am_ltP am_P "DelegationShopLaw" (3, 101, 165, 0, 0) := am_lm165 (Or.inl (am_tw1 (i := 37) rfl rfl))
theorem am_l13_3_18 : am_ltP am_P "DelegationShopLaw" (3, 104, 196, 0, 0) := am_lm196 (Or.inl (am_tw9 (i := 56) rfl rfl))
theorem am_l13_3_19 : am_ltP am_P "DelegationShopLaw" (4, 8, 11, 0, 0) := am_nwN rfl (am_tw1 (i := 35) rfl rfl) (am_tw1 (i := 36) rfl rfl) (am_tw1 (i := 1) rfl rfl)
def am_LT13_3 : List am_LE := [(2, 146, 334, 0, 0), (2, 149, 335, 0, 0), (2, 152, 336, 0, 0), (2, 156, 337, 0, 0), (2, 159, 338, 0, 0), (2, 162, 339, 0, 0), (2, 165, 340, 0, 0), (2, 168, 341, 0, 0), (2, 172, 342, 0, 0), (2, 175, 343, 0, 0), (2, 178, 344, 0, 0), (2, 181, 345, 0, 0), (2, 184, 346, 0, 0), (2, 187, 347, 0, 0), (2, 190, 348, 0, 0), (2, 194, 349, 0, 0), (2, 197, 350, 0, 0), (3, 101, 165, 0, 0), (3, 104, 196, 0, 0), (4, 8, 11, 0, 0)]
theorem am_LTo13_3 : ∀ x ∈ am_LT13_3, am_ltP am_P "DelegationShopLaw" x := List.forall_mem_cons.mpr ⟨am_l13_3_0, List.forall_mem_cons.mpr ⟨am_l13_3_1, List.forall_mem_cons.mpr ⟨am_l13_3_2, List.forall_mem_cons.mpr ⟨am_l13_3_3, List.forall_mem_cons.mpr ⟨am_l13_3_4, List.forall_mem_cons.mpr ⟨am_l13_3_5, List.forall_mem_cons.mpr ⟨am_l13_3_6, List.forall_mem_cons.mpr ⟨am_l13_3_7, List.forall_mem_cons.mpr ⟨am_l13_3_8, List.forall_mem_cons.mpr ⟨am_l13_3_9, List.forall_mem_cons.mpr ⟨am_l13_3_10, List.forall_mem_cons.mpr ⟨am_l13_3_11, List.forall_mem_cons.mpr ⟨am_l13_3_12, List.forall_mem_cons.mpr ⟨am_l13_3_13, List.forall_mem_cons.mpr ⟨am_l13_3_14, List.forall_mem_cons.mpr ⟨am_l13_3_15, List.forall_mem_cons.mpr ⟨am_l13_3_16, List.forall_mem_cons.mpr ⟨am_l13_3_17, List.forall_mem_cons.mpr ⟨am_l13_3_18, List.forall_mem_cons.mpr ⟨am_l13_3_19, fun _ h => by cases h⟩⟩⟩⟩⟩⟩⟩⟩⟩⟩⟩⟩⟩⟩⟩⟩⟩⟩⟩⟩
theorem am_l13_4_0 : am_ltP am_P "DelegationShopLaw" (4, 102, 12, 0, 0) := am_nwN rfl (am_tw9 (i := 54) rfl rfl) (am_tw9 (i := 55) rfl rfl) (am_tw1 (i := 17) rfl rfl)
theorem am_l13_4_1 : am_ltP am_P "DelegationShopLaw" (7, 129, 0, 0, 4294967295) := am_lcL (am_tw13 (i := 62) (by decide +kernel) rfl)
def am_LT13_4 : List am_LE := [(4, 102, 12, 0, 0), (7, 129, 0, 0, 4294967295)]
theorem am_LTo13_4 : ∀ x ∈ am_LT13_4, am_ltP am_P "DelegationShopLaw" x := List.forall_mem_cons.mpr ⟨am_l13_4_0, List.forall_mem_cons.mpr ⟨am_l13_4_1, fun _ h => by cases h⟩⟩
def am_LT13 : List am_LE := am_LT13_0 ++ (am_LT13_1 ++ (am_LT13_2 ++ (am_LT13_3 ++ (am_LT13_4))))
theorem am_LTok13 : ∀ x ∈ am_LT13, am_ltP am_P "DelegationShopLaw" x := fun x h => (List.mem_append.mp h).elim (fun h => am_LTo13_0 x h) (fun h => (List.mem_append.mp h).elim (fun h => am_LTo13_1 x h) (fun h => (List.mem_append.mp h).elim (fun h => am_LTo13_2 x h) (fun h => (List.mem_append.mp h).elim (fun h => am_LTo13_3 x h) (fun h => am_LTo13_4 x h))))
theorem am_l20_0_0 : am_ltP am_P "java/lang/String" (0, 9, 50, 0, 0) := am_gfS rfl (am_tw6 (i := 218) rfl rfl)
theorem am_l20_0_1 : am_ltP am_P "java/lang/String" (0, 15, 50, 1, 0) := am_gfS rfl (am_tw6 (i := 219) rfl rfl)
theorem am_l20_0_2 : am_ltP am_P "java/lang/String" (1, 335, 353, 0, 0) := am_lm353 (Or.inl (am_tw1 (i := 60) rfl rfl))
theorem am_l20_0_3 : am_ltP am_P "java/lang/String" (1, 492, 356, 0, 0) := am_lm356 (Or.inl (am_tw1 (i := 70) rfl rfl))
theorem am_l20_0_4 : am_ltP am_P "java/lang/String" (1, 505, 357, 0, 0) := am_lm357 (Or.inl (am_tw4 (i := 46) rfl rfl))
theorem am_l20_0_5 : am_ltP am_P "java/lang/String" (1, 633, 355, 0, 0) := am_lm355 (Or.inl (am_tw4 (i := 42) rfl rfl))
theorem am_l20_0_6 : am_ltP am_P "java/lang/String" (2, 495, 359, 0, 0) := am_lm359 (Or.inl (am_tw1 (i := 74) rfl rfl))
theorem am_l20_0_7 : am_ltP am_P "java/lang/String" (2, 637, 360, 0, 0) := am_lm360 (Or.inl (am_tw4 (i := 47) rfl rfl))
theorem am_l20_0_8 : am_ltP am_P "java/lang/String" (2, 1059, 362, 0, 0) := am_lm362 (Or.inl (am_tw1 (i := 82) rfl rfl))
theorem am_l20_0_9 : am_ltP am_P "java/lang/String" (8, 38, 0, 0, 0) := Or.inl ⟨rfl, (am_tw1 (i := 64) rfl rfl)⟩
theorem am_l20_0_10 : am_ltP am_P "java/lang/String" (8, 1053, 30, 1, 0) := Or.inr (Or.inr ⟨Nat.one_ne_zero, rfl, (am_tw1 (i := 80) rfl rfl)⟩)
def am_LT20_0 : List am_LE := [(0, 9, 50, 0, 0), (0, 15, 50, 1, 0), (1, 335, 353, 0, 0), (1, 492, 356, 0, 0), (1, 505, 357, 0, 0), (1, 633, 355, 0, 0), (2, 495, 359, 0, 0), (2, 637, 360, 0, 0), (2, 1059, 362, 0, 0), (8, 38, 0, 0, 0), (8, 1053, 30, 1, 0)]
theorem am_LTo20_0 : ∀ x ∈ am_LT20_0, am_ltP am_P "java/lang/String" x := List.forall_mem_cons.mpr ⟨am_l20_0_0, List.forall_mem_cons.mpr ⟨am_l20_0_1, List.forall_mem_cons.mpr ⟨am_l20_0_2, List.forall_mem_cons.mpr ⟨am_l20_0_3, List.forall_mem_cons.mpr ⟨am_l20_0_4, List.forall_mem_cons.mpr ⟨am_l20_0_5, List.forall_mem_cons.mpr ⟨am_l20_0_6, List.forall_mem_cons.mpr ⟨am_l20_0_7, List.forall_mem_cons.mpr ⟨am_l20_0_8, List.forall_mem_cons.mpr ⟨am_l20_0_9, List.forall_mem_cons.mpr ⟨am_l20_0_10, fun _ h => by cases h⟩⟩⟩⟩⟩⟩⟩⟩⟩⟩⟩
def am_LT20 : List am_LE := am_LT20_0
theorem am_LTok20 : ∀ x ∈ am_LT20, am_ltP am_P "java/lang/String" x := fun x h => am_LTo20_0 x h
theorem am_l21_0_0 : am_ltP am_P "java/lang/StringLatin1" (2, 9, 352, 0, 0) := am_lm352 (Or.inl (am_tw1 (i := 77) rfl rfl))
theorem am_l21_0_1 : am_ltP am_P "java/lang/StringLatin1" (2, 88, 358, 0, 0) := am_lm358 (Or.inl (am_tw4 (i := 50) rfl rfl))
theorem am_l21_0_2 : am_ltP am_P "java/lang/StringLatin1" (2, 95, 361, 0, 0) := am_lm361 (Or.inl (am_tw4 (i := 59) rfl rfl))
theorem am_l21_0_3 : am_ltP am_P "java/lang/StringLatin1" (9, 38, 901, 0, 0) := am_pr901 (am_tw4 (i := 56) rfl rfl)
theorem am_l21_0_4 : am_ltP am_P "java/lang/StringLatin1" (9, 92, 900, 0, 0) := am_pr900 (am_tw4 (i := 53) rfl rfl)
def am_LT21_0 : List am_LE := [(2, 9, 352, 0, 0), (2, 88, 358, 0, 0), (2, 95, 361, 0, 0), (9, 38, 901, 0, 0), (9, 92, 900, 0, 0)]
theorem am_LTo21_0 : ∀ x ∈ am_LT21_0, am_ltP am_P "java/lang/StringLatin1" x := List.forall_mem_cons.mpr ⟨am_l21_0_0, List.forall_mem_cons.mpr ⟨am_l21_0_1, List.forall_mem_cons.mpr ⟨am_l21_0_2, List.forall_mem_cons.mpr ⟨am_l21_0_3, List.forall_mem_cons.mpr ⟨am_l21_0_4, fun _ h => by cases h⟩⟩⟩⟩⟩
def am_LT21 : List am_LE := am_LT21_0
theorem am_LTok21 : ∀ x ∈ am_LT21, am_ltP am_P "java/lang/StringLatin1" x := fun x h => am_LTo21_0 x h
def am_LT22_0 : List am_LE := []
theorem am_LTo22_0 : ∀ x ∈ am_LT22_0, am_ltP am_P "jdk/internal/util/Preconditions" x := fun _ h => by cases h
def am_LT22 : List am_LE := am_LT22_0
theorem am_LTok22 : ∀ x ∈ am_LT22, am_ltP am_P "jdk/internal/util/Preconditions" x := fun x h => am_LTo22_0 x h
theorem am_l23_0_0 : am_ltP am_P "java/util/Arrays" (2, 13, 367, 0, 0) := am_lm367 (Or.inl (am_tw6 (i := 20) rfl rfl))
def am_LT23_0 : List am_LE := [(2, 13, 367, 0, 0)]
theorem am_LTo23_0 : ∀ x ∈ am_LT23_0, am_ltP am_P "java/util/Arrays" x := List.forall_mem_cons.mpr ⟨am_l23_0_0, fun _ h => by cases h⟩
def am_LT23 : List am_LE := am_LT23_0
theorem am_LTok23 : ∀ x ∈ am_LT23, am_ltP am_P "java/util/Arrays" x := fun x h => am_LTo23_0 x h
