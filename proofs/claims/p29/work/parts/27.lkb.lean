theorem am_l13_0_0 : am_ltP am_P "DelegationShopLaw" (1, 7, 159, 0, 0) := am_lm159 (Or.inl (am_tw5 (i := 142) rfl rfl))
theorem am_l13_0_1 : am_ltP am_P "DelegationShopLaw" (1, 16, 160, 0, 0) := am_lm160 (Or.inl (am_tw5 (i := 207) rfl rfl))
theorem am_l13_0_2 : am_ltP am_P "DelegationShopLaw" (1, 114, 164, 0, 0) := am_lm164 (Or.inl (am_tw5 (i := 231) rfl rfl))
theorem am_l13_0_3 : am_ltP am_P "DelegationShopLaw" (1, 121, 165, 0, 0) := am_lm165 (Or.inl (am_tw8 (i := 76) rfl rfl))
theorem am_l13_0_4 : am_ltP am_P "DelegationShopLaw" (1, 129, 162, 0, 0) := am_lm162 (Or.inl (am_tw8 (i := 89) rfl rfl))
theorem am_l13_0_5 : am_ltP am_P "DelegationShopLaw" (1, 137, 161, 0, 0) := am_lm161 (Or.inl (am_tw3 (i := 200) rfl rfl))
theorem am_l13_0_6 : am_ltP am_P "DelegationShopLaw" (1, 146, 163, 0, 0) := am_lm163 (Or.inl (am_tw5 (i := 120) rfl rfl))
theorem am_l13_0_7 : am_ltP am_P "DelegationShopLaw" (2, 22, 171, 0, 0) := am_lm171 (Or.inl (am_tw5 (i := 135) rfl rfl))
theorem am_l13_0_8 : am_ltP am_P "DelegationShopLaw" (2, 28, 168, 0, 0) := am_lm168 (Or.inl (am_tw5 (i := 138) rfl rfl))
theorem am_l13_0_9 : am_ltP am_P "DelegationShopLaw" (2, 31, 170, 0, 0) := am_lm170 (Or.inl (am_tw5 (i := 132) rfl rfl))
theorem am_l13_0_10 : am_ltP am_P "DelegationShopLaw" (2, 35, 169, 0, 0) := am_lm169 (Or.inl (am_tw5 (i := 203) rfl rfl))
theorem am_l13_0_11 : am_ltP am_P "DelegationShopLaw" (2, 40, 173, 0, 0) := am_lm173 (Or.inl (am_tw5 (i := 129) rfl rfl))
theorem am_l13_0_12 : am_ltP am_P "DelegationShopLaw" (2, 110, 172, 0, 0) := am_lm172 (Or.inl (am_tw5 (i := 200) rfl rfl))
theorem am_l13_0_13 : am_ltP am_P "DelegationShopLaw" (2, 133, 174, 0, 0) := am_lm174 (Or.inl (am_tw5 (i := 125) rfl rfl))
theorem am_l13_0_14 : am_ltP am_P "DelegationShopLaw" (2, 141, 175, 0, 0) := am_lm175 (Or.inl (am_tw5 (i := 227) rfl rfl))
theorem am_l13_0_15 : am_ltP am_P "DelegationShopLaw" (2, 144, 177, 0, 0) := am_lm177 (Or.inl (am_tw8 (i := 86) rfl rfl))
theorem am_l13_0_16 : am_ltP am_P "DelegationShopLaw" (2, 149, 176, 0, 0) := am_lm176 (Or.inl (am_tw8 (i := 73) rfl rfl))
theorem am_l13_0_17 : am_ltP am_P "DelegationShopLaw" (3, 132, 158, 0, 0) := am_lm158 (Or.inl (am_tw1 (i := 34) rfl rfl))
theorem am_l13_0_18 : am_ltP am_P "DelegationShopLaw" (4, 8, 11, 0, 0) := am_nwN rfl (am_tw1 (i := 32) rfl rfl) (am_tw1 (i := 33) rfl rfl) (am_tw1 (i := 1) rfl rfl)
theorem am_l13_0_19 : am_ltP am_P "DelegationShopLaw" (5, 15, 0, 0, (-1000000101)) := am_lcN (am_tw5 (i := 166) (by decide +kernel) rfl)
def am_LT13_0 : List am_LE := [(1, 7, 159, 0, 0), (1, 16, 160, 0, 0), (1, 114, 164, 0, 0), (1, 121, 165, 0, 0), (1, 129, 162, 0, 0), (1, 137, 161, 0, 0), (1, 146, 163, 0, 0), (2, 22, 171, 0, 0), (2, 28, 168, 0, 0), (2, 31, 170, 0, 0), (2, 35, 169, 0, 0), (2, 40, 173, 0, 0), (2, 110, 172, 0, 0), (2, 133, 174, 0, 0), (2, 141, 175, 0, 0), (2, 144, 177, 0, 0), (2, 149, 176, 0, 0), (3, 132, 158, 0, 0), (4, 8, 11, 0, 0), (5, 15, 0, 0, (-1000000101))]
theorem am_LTo13_0 : ∀ x ∈ am_LT13_0, am_ltP am_P "DelegationShopLaw" x := List.forall_mem_cons.mpr ⟨am_l13_0_0, List.forall_mem_cons.mpr ⟨am_l13_0_1, List.forall_mem_cons.mpr ⟨am_l13_0_2, List.forall_mem_cons.mpr ⟨am_l13_0_3, List.forall_mem_cons.mpr ⟨am_l13_0_4, List.forall_mem_cons.mpr ⟨am_l13_0_5, List.forall_mem_cons.mpr ⟨am_l13_0_6, List.forall_mem_cons.mpr ⟨am_l13_0_7, List.forall_mem_cons.mpr ⟨am_l13_0_8, List.forall_mem_cons.mpr ⟨am_l13_0_9, List.forall_mem_cons.mpr ⟨am_l13_0_10, List.forall_mem_cons.mpr ⟨am_l13_0_11, List.forall_mem_cons.mpr ⟨am_l13_0_12, List.forall_mem_cons.mpr ⟨am_l13_0_13, List.forall_mem_cons.mpr ⟨am_l13_0_14, List.forall_mem_cons.mpr ⟨am_l13_0_15, List.forall_mem_cons.mpr ⟨am_l13_0_16, List.forall_mem_cons.mpr ⟨am_l13_0_17, List.forall_mem_cons.mpr ⟨am_l13_0_18, List.forall_mem_cons.mpr ⟨am_l13_0_19, fun _ h => by cases h⟩⟩⟩⟩⟩⟩⟩⟩⟩⟩⟩⟩⟩⟩⟩⟩⟩⟩⟩⟩
theorem am_l13_1_0 : am_ltP am_P "DelegationShopLaw" (5, 120, 0, 0, (-1000000102)) := am_lcN (am_tw8 (i := 72) (by decide +kernel) rfl)
theorem am_l13_1_1 : am_ltP am_P "DelegationShopLaw" (7, 38, 0, 0, 7882834714676174953) := am_lcL (am_tw5 (i := 128) (by decide +kernel) rfl)
theorem am_l13_1_2 : am_ltP am_P "DelegationShopLaw" (7, 44, 0, 0, 7956017898187677984) := am_lcL (am_tw5 (i := 167) (by decide +kernel) rfl)
theorem am_l13_1_3 : am_ltP am_P "DelegationShopLaw" (7, 46, 0, 0, 3179649227192040224) := am_lcL (am_tw5 (i := 168) (by decide +kernel) rfl)
theorem am_l13_1_4 : am_ltP am_P "DelegationShopLaw" (7, 48, 0, 0, 7017844209771045474) := am_lcL (am_tw5 (i := 169) (by decide +kernel) rfl)
theorem am_l13_1_5 : am_ltP am_P "DelegationShopLaw" (7, 50, 0, 0, 8728024595748058209) := am_lcL (am_tw5 (i := 170) (by decide +kernel) rfl)
theorem am_l13_1_6 : am_ltP am_P "DelegationShopLaw" (7, 52, 0, 0, 7791294563806624544) := am_lcL (am_tw5 (i := 171) (by decide +kernel) rfl)
theorem am_l13_1_7 : am_ltP am_P "DelegationShopLaw" (7, 54, 0, 0, 9016326736507858788) := am_lcL (am_tw5 (i := 172) (by decide +kernel) rfl)
theorem am_l13_1_8 : am_ltP am_P "DelegationShopLaw" (7, 56, 0, 0, 2333255432361484385) := am_lcL (am_tw5 (i := 173) (by decide +kernel) rfl)
theorem am_l13_1_9 : am_ltP am_P "DelegationShopLaw" (7, 58, 0, 0, 2318263514007412859) := am_lcL (am_tw5 (i := 174) (by decide +kernel) rfl)
theorem am_l13_1_10 : am_ltP am_P "DelegationShopLaw" (7, 60, 0, 0, 2338324180970008418) := am_lcL (am_tw5 (i := 175) (by decide +kernel) rfl)
theorem am_l13_1_11 : am_ltP am_P "DelegationShopLaw" (7, 62, 0, 0, 7095738061794078580) := am_lcL (am_tw5 (i := 176) (by decide +kernel) rfl)
theorem am_l13_1_12 : am_ltP am_P "DelegationShopLaw" (7, 64, 0, 0, 7020021366072831842) := am_lcL (am_tw5 (i := 177) (by decide +kernel) rfl)
theorem am_l13_1_13 : am_ltP am_P "DelegationShopLaw" (7, 66, 0, 0, 7095738070384013172) := am_lcL (am_tw5 (i := 178) (by decide +kernel) rfl)
theorem am_l13_1_14 : am_ltP am_P "DelegationShopLaw" (7, 68, 0, 0, 7020021288762679355) := am_lcL (am_tw5 (i := 179) (by decide +kernel) rfl)
theorem am_l13_1_15 : am_ltP am_P "DelegationShopLaw" (7, 70, 0, 0, 2338042707419754016) := am_lcL (am_tw5 (i := 180) (by decide +kernel) rfl)
theorem am_l13_1_16 : am_ltP am_P "DelegationShopLaw" (7, 72, 0, 0, 7813572053589569056) := am_lcL (am_tw5 (i := 181) (by decide +kernel) rfl)
theorem am_l13_1_17 : am_ltP am_P "DelegationShopLaw" (7, 74, 0, 0, 8390052592589224736) := am_lcL (am_tw5 (i := 182) (by decide +kernel) rfl)
theorem am_l13_1_18 : am_ltP am_P "DelegationShopLaw" (7, 76, 0, 0, 2333546764288139361) := am_lcL (am_tw5 (i := 183) (by decide +kernel) rfl)
theorem am_l13_1_19 : am_ltP am_P "DelegationShopLaw" (7, 78, 0, 0, 2339164199264198717) := am_lcL (am_tw5 (i := 184) (by decide +kernel) rfl)
def am_LT13_1 : List am_LE := [(5, 120, 0, 0, (-1000000102)), (7, 38, 0, 0, 7882834714676174953), (7, 44, 0, 0, 7956017898187677984), (7, 46, 0, 0, 3179649227192040224), (7, 48, 0, 0, 7017844209771045474), (7, 50, 0, 0, 8728024595748058209), (7, 52, 0, 0, 7791294563806624544), (7, 54, 0, 0, 9016326736507858788), (7, 56, 0, 0, 2333255432361484385), (7, 58, 0, 0, 2318263514007412859), (7, 60, 0, 0, 2338324180970008418), (7, 62, 0, 0, 7095738061794078580), (7, 64, 0, 0, 7020021366072831842), (7, 66, 0, 0, 7095738070384013172), (7, 68, 0, 0, 7020021288762679355), (7, 70, 0, 0, 2338042707419754016), (7, 72, 0, 0, 7813572053589569056), (7, 74, 0, 0, 8390052592589224736), (7, 76, 0, 0, 2333546764288139361), (7, 78, 0, 0, 2339164199264198717)]
theorem am_LTo13_1 : ∀ x ∈ am_LT13_1, am_ltP am_P "DelegationShopLaw" x := List.forall_mem_cons.mpr ⟨am_l13_1_0, List.forall_mem_cons.mpr ⟨am_l13_1_1, List.forall_mem_cons.mpr ⟨am_l13_1_2, List.forall_mem_cons.mpr ⟨am_l13_1_3, List.forall_mem_cons.mpr ⟨am_l13_1_4, List.forall_mem_cons.mpr ⟨am_l13_1_5, List.forall_mem_cons.mpr ⟨am_l13_1_6, List.forall_mem_cons.mpr ⟨am_l13_1_7, List.forall_mem_cons.mpr ⟨am_l13_1_8, List.forall_mem_cons.mpr ⟨am_l13_1_9, List.forall_mem_cons.mpr ⟨am_l13_1_10, List.forall_mem_cons.mpr ⟨am_l13_1_11, List.forall_mem_cons.mpr ⟨am_l13_1_12, List.forall_mem_cons.mpr ⟨am_l13_1_13, List.forall_mem_cons.mpr ⟨am_l13_1_14, List.forall_mem_cons.mpr ⟨am_l13_1_15, List.forall_mem_cons.mpr ⟨am_l13_1_16, List.forall_mem_cons.mpr ⟨am_l13_1_17, List.forall_mem_cons.mpr ⟨am_l13_1_18, List.forall_mem_cons.mpr ⟨am_l13_1_19, fun _ h => by cases h⟩⟩⟩⟩⟩⟩⟩⟩⟩⟩⟩⟩⟩⟩⟩⟩⟩⟩⟩⟩
theorem am_l13_2_0 : am_ltP am_P "DelegationShopLaw" (7, 80, 0, 0, 2319389246415593842) := am_lcL (am_tw5 (i := 185) (by decide +kernel) rfl)
theorem am_l13_2_1 : am_ltP am_P "DelegationShopLaw" (7, 82, 0, 0, 2333744478815985788) := am_lcL (am_tw5 (i := 186) (by decide +kernel) rfl)
theorem am_l13_2_2 : am_ltP am_P "DelegationShopLaw" (7, 84, 0, 0, 2339655723911487549) := am_lcL (am_tw5 (i := 187) (by decide +kernel) rfl)
theorem am_l13_2_3 : am_ltP am_P "DelegationShopLaw" (7, 86, 0, 0, 2338529476112556091) := am_lcL (am_tw5 (i := 188) (by decide +kernel) rfl)
theorem am_l13_2_4 : am_ltP am_P "DelegationShopLaw" (7, 88, 0, 0, 2333267524158059040) := am_lcL (am_tw5 (i := 189) (by decide +kernel) rfl)
theorem am_l13_2_5 : am_ltP am_P "DelegationShopLaw" (7, 90, 0, 0, 8367753117841767200) := am_lcL (am_tw5 (i := 190) (by decide +kernel) rfl)
theorem am_l13_2_6 : am_ltP am_P "DelegationShopLaw" (7, 92, 0, 0, 8530224652744670496) := am_lcL (am_tw5 (i := 191) (by decide +kernel) rfl)
theorem am_l13_2_7 : am_ltP am_P "DelegationShopLaw" (7, 94, 0, 0, 3467836723703605612) := am_lcL (am_tw5 (i := 192) (by decide +kernel) rfl)
theorem am_l13_2_8 : am_ltP am_P "DelegationShopLaw" (7, 96, 0, 0, 7286939784254087712) := am_lcL (am_tw5 (i := 193) (by decide +kernel) rfl)
theorem am_l13_2_9 : am_ltP am_P "DelegationShopLaw" (7, 98, 0, 0, 8872206853105281312) := am_lcL (am_tw5 (i := 194) (by decide +kernel) rfl)
theorem am_l13_2_10 : am_ltP am_P "DelegationShopLaw" (7, 100, 0, 0, 3107537757386335008) := am_lcL (am_tw5 (i := 195) (by decide +kernel) rfl)
theorem am_l13_2_11 : am_ltP am_P "DelegationShopLaw" (7, 102, 0, 0, 2386951922039925024) := am_lcL (am_tw5 (i := 196) (by decide +kernel) rfl)
theorem am_l13_2_12 : am_ltP am_P "DelegationShopLaw" (7, 104, 0, 0, 4260542825804166261) := am_lcL (am_tw5 (i := 197) (by decide +kernel) rfl)
theorem am_l13_2_13 : am_ltP am_P "DelegationShopLaw" (7, 106, 0, 0, 8245563577874849832) := am_lcL (am_tw5 (i := 198) (by decide +kernel) rfl)
theorem am_l13_2_14 : am_ltP am_P "DelegationShopLaw" (7, 108, 0, 0, 2319389169102299261) := am_lcL (am_tw5 (i := 199) (by decide +kernel) rfl)
theorem am_l13_2_15 : am_ltP am_P "DelegationShopLaw" (7, 125, 0, 0, (-9000000000101)) := am_lcL (am_tw8 (i := 84) (by decide +kernel) rfl)
theorem am_l13_2_16 : am_ltP am_P "DelegationShopLaw" (7, 127, 0, 0, (-9000000000102)) := am_lcL (am_tw8 (i := 85) (by decide +kernel) rfl)
def am_LT13_2 : List am_LE := [(7, 80, 0, 0, 2319389246415593842), (7, 82, 0, 0, 2333744478815985788), (7, 84, 0, 0, 2339655723911487549), (7, 86, 0, 0, 2338529476112556091), (7, 88, 0, 0, 2333267524158059040), (7, 90, 0, 0, 8367753117841767200), (7, 92, 0, 0, 8530224652744670496), (7, 94, 0, 0, 3467836723703605612), (7, 96, 0, 0, 7286939784254087712), (7, 98, 0, 0, 8872206853105281312), (7, 100, 0, 0, 3107537757386335008), (7, 102, 0, 0, 2386951922039925024), (7, 104, 0, 0, 4260542825804166261), (7, 106, 0, 0, 8245563577874849832), (7, 108, 0, 0, 2319389169102299261), (7, 125, 0, 0, (-9000000000101)), (7, 127, 0, 0, (-9000000000102))]
theorem am_LTo13_2 : ∀ x ∈ am_LT13_2, am_ltP am_P "DelegationShopLaw" x := List.forall_mem_cons.mpr ⟨am_l13_2_0, List.forall_mem_cons.mpr ⟨am_l13_2_1, List.forall_mem_cons.mpr ⟨am_l13_2_2, List.forall_mem_cons.mpr ⟨am_l13_2_3, List.forall_mem_cons.mpr ⟨am_l13_2_4, List.forall_mem_cons.mpr ⟨am_l13_2_5, List.forall_mem_cons.mpr ⟨am_l13_2_6, List.forall_mem_cons.mpr ⟨am_l13_2_7, List.forall_mem_cons.mpr ⟨am_l13_2_8, List.forall_mem_cons.mpr ⟨am_l13_2_9, List.forall_mem_cons.mpr ⟨am_l13_2_10, List.forall_mem_cons.mpr ⟨am_l13_2_11, List.forall_mem_cons.mpr ⟨am_l13_2_12, List.forall_mem_cons.mpr ⟨am_l13_2_13, List.forall_mem_cons.mpr ⟨am_l13_2_14, List.forall_mem_cons.mpr ⟨am_l13_2_15, List.forall_mem_cons.mpr ⟨am_l13_2_16, fun _ h => by cases h⟩⟩⟩⟩⟩⟩⟩⟩⟩⟩⟩⟩⟩⟩⟩⟩⟩
def am_LT13 : List am_LE := am_LT13_0 ++ (am_LT13_1 ++ (am_LT13_2))
theorem am_LTok13 : ∀ x ∈ am_LT13, am_ltP am_P "DelegationShopLaw" x := fun x h => (List.mem_append.mp h).elim (fun h => am_LTo13_0 x h) (fun h => (List.mem_append.mp h).elim (fun h => am_LTo13_1 x h) (fun h => am_LTo13_2 x h))
theorem am_l20_0_0 : am_ltP am_P "java/lang/String" (0, 9, 50, 0, 0) := am_gfS rfl (am_tw6 (i := 230) rfl rfl)
theorem am_l20_0_1 : am_ltP am_P "java/lang/String" (0, 15, 50, 1, 0) := am_gfS rfl (am_tw6 (i := 231) rfl rfl)
theorem am_l20_0_2 : am_ltP am_P "java/lang/String" (1, 335, 180, 0, 0) := am_lm180 (Or.inl (am_tw1 (i := 57) rfl rfl))
theorem am_l20_0_3 : am_ltP am_P "java/lang/String" (1, 492, 183, 0, 0) := am_lm183 (Or.inl (am_tw1 (i := 67) rfl rfl))
theorem am_l20_0_4 : am_ltP am_P "java/lang/String" (1, 505, 184, 0, 0) := am_lm184 (Or.inl (am_tw4 (i := 18) rfl rfl))
theorem am_l20_0_5 : am_ltP am_P "java/lang/String" (1, 633, 182, 0, 0) := am_lm182 (Or.inl (am_tw4 (i := 14) rfl rfl))
theorem am_l20_0_6 : am_ltP am_P "java/lang/String" (2, 495, 186, 0, 0) := am_lm186 (Or.inl (am_tw1 (i := 71) rfl rfl))
theorem am_l20_0_7 : am_ltP am_P "java/lang/String" (2, 637, 187, 0, 0) := am_lm187 (Or.inl (am_tw4 (i := 19) rfl rfl))
theorem am_l20_0_8 : am_ltP am_P "java/lang/String" (2, 1059, 189, 0, 0) := am_lm189 (Or.inl (am_tw1 (i := 79) rfl rfl))
theorem am_l20_0_9 : am_ltP am_P "java/lang/String" (8, 38, 0, 0, 0) := Or.inl ⟨rfl, (am_tw1 (i := 61) rfl rfl)⟩
theorem am_l20_0_10 : am_ltP am_P "java/lang/String" (8, 1053, 30, 1, 0) := Or.inr ⟨Nat.one_ne_zero, rfl, (am_tw1 (i := 77) rfl rfl)⟩
def am_LT20_0 : List am_LE := [(0, 9, 50, 0, 0), (0, 15, 50, 1, 0), (1, 335, 180, 0, 0), (1, 492, 183, 0, 0), (1, 505, 184, 0, 0), (1, 633, 182, 0, 0), (2, 495, 186, 0, 0), (2, 637, 187, 0, 0), (2, 1059, 189, 0, 0), (8, 38, 0, 0, 0), (8, 1053, 30, 1, 0)]
theorem am_LTo20_0 : ∀ x ∈ am_LT20_0, am_ltP am_P "java/lang/String" x := List.forall_mem_cons.mpr ⟨am_l20_0_0, List.forall_mem_cons.mpr ⟨am_l20_0_1, List.forall_mem_cons.mpr ⟨am_l20_0_2, List.forall_mem_cons.mpr ⟨am_l20_0_3, List.forall_mem_cons.mpr ⟨am_l20_0_4, List.forall_mem_cons.mpr ⟨am_l20_0_5, List.forall_mem_cons.mpr ⟨am_l20_0_6, List.forall_mem_cons.mpr ⟨am_l20_0_7, List.forall_mem_cons.mpr ⟨am_l20_0_8, List.forall_mem_cons.mpr ⟨am_l20_0_9, List.forall_mem_cons.mpr ⟨am_l20_0_10, fun _ h => by cases h⟩⟩⟩⟩⟩⟩⟩⟩⟩⟩⟩
def am_LT20 : List am_LE := am_LT20_0
theorem am_LTok20 : ∀ x ∈ am_LT20, am_ltP am_P "java/lang/String" x := fun x h => am_LTo20_0 x h
theorem am_l21_0_0 : am_ltP am_P "java/lang/StringLatin1" (2, 9, 179, 0, 0) := am_lm179 (Or.inl (am_tw1 (i := 74) rfl rfl))
theorem am_l21_0_1 : am_ltP am_P "java/lang/StringLatin1" (2, 88, 185, 0, 0) := am_lm185 (Or.inl (am_tw4 (i := 22) rfl rfl))
theorem am_l21_0_2 : am_ltP am_P "java/lang/StringLatin1" (2, 95, 188, 0, 0) := am_lm188 (Or.inl (am_tw4 (i := 31) rfl rfl))
theorem am_l21_0_3 : am_ltP am_P "java/lang/StringLatin1" (9, 38, 901, 0, 0) := am_pr901 (am_tw4 (i := 28) rfl rfl)
theorem am_l21_0_4 : am_ltP am_P "java/lang/StringLatin1" (9, 92, 900, 0, 0) := am_pr900 (am_tw4 (i := 25) rfl rfl)
def am_LT21_0 : List am_LE := [(2, 9, 179, 0, 0), (2, 88, 185, 0, 0), (2, 95, 188, 0, 0), (9, 38, 901, 0, 0), (9, 92, 900, 0, 0)]
theorem am_LTo21_0 : ∀ x ∈ am_LT21_0, am_ltP am_P "java/lang/StringLatin1" x := List.forall_mem_cons.mpr ⟨am_l21_0_0, List.forall_mem_cons.mpr ⟨am_l21_0_1, List.forall_mem_cons.mpr ⟨am_l21_0_2, List.forall_mem_cons.mpr ⟨am_l21_0_3, List.forall_mem_cons.mpr ⟨am_l21_0_4, fun _ h => by cases h⟩⟩⟩⟩⟩
def am_LT21 : List am_LE := am_LT21_0
theorem am_LTok21 : ∀ x ∈ am_LT21, am_ltP am_P "java/lang/StringLatin1" x := fun x h => am_LTo21_0 x h
def am_LT22_0 : List am_LE := []
theorem am_LTo22_0 : ∀ x ∈ am_LT22_0, am_ltP am_P "jdk/internal/util/Preconditions" x := fun _ h => by cases h
def am_LT22 : List am_LE := am_LT22_0
theorem am_LTok22 : ∀ x ∈ am_LT22, am_ltP am_P "jdk/internal/util/Preconditions" x := fun x h => am_LTo22_0 x h
theorem am_l23_0_0 : am_ltP am_P "java/util/Arrays" (2, 13, 194, 0, 0) := am_lm194 (Or.inl (am_tw6 (i := 32) rfl rfl))
def am_LT23_0 : List am_LE := [(2, 13, 194, 0, 0)]
theorem am_LTo23_0 : ∀ x ∈ am_LT23_0, am_ltP am_P "java/util/Arrays" x := List.forall_mem_cons.mpr ⟨am_l23_0_0, fun _ h => by cases h⟩
def am_LT23 : List am_LE := am_LT23_0
theorem am_LTok23 : ∀ x ∈ am_LT23, am_ltP am_P "java/util/Arrays" x := fun x h => am_LTo23_0 x h
