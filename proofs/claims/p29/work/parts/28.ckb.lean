theorem am_ck92 : am_chkC am_LT5 ([]) true false prog_7_method_28_code.data.toList 0 am_rw92 = true := by decide +kernel
theorem am_ph92 : am_Phi am_P am_rc93 := am_PhiN (TH := []) am_LTok5 (fun _ h => by cases h) (by decide +kernel) am_ck92
theorem am_ck93 : am_chkC am_LT5 ([]) true false prog_7_method_29_code.data.toList 0 am_rw93 = true := by decide +kernel
theorem am_ph93 : am_Phi am_P am_rc94 := am_PhiN (TH := []) am_LTok5 (fun _ h => by cases h) (by decide +kernel) am_ck93
theorem am_ck94 : am_chkC am_LT5 ([]) true false prog_7_method_30_code.data.toList 0 am_rw94 = true := by decide +kernel
theorem am_ph94 : am_Phi am_P am_rc95 := am_PhiN (TH := []) am_LTok5 (fun _ h => by cases h) (by decide +kernel) am_ck94
theorem am_ck95 : am_chkC am_LT5 ([]) true false prog_7_method_31_code.data.toList 0 am_rw95 = true := by decide +kernel
theorem am_ph95 : am_Phi am_P am_rc96 := am_PhiN (TH := []) am_LTok5 (fun _ h => by cases h) (by decide +kernel) am_ck95
theorem am_ck96 : am_chkC am_LT5 ([]) true false prog_7_method_32_code.data.toList 0 am_rw96 = true := by decide +kernel
theorem am_ph96 : am_Phi am_P am_rc97 := am_PhiN (TH := []) am_LTok5 (fun _ h => by cases h) (by decide +kernel) am_ck96
theorem am_ck97 : am_chkC am_LT5 ([]) true false prog_7_method_33_code.data.toList 0 am_rw97 = true := by decide +kernel
theorem am_ph97 : am_Phi am_P am_rc98 := am_PhiN (TH := []) am_LTok5 (fun _ h => by cases h) (by decide +kernel) am_ck97
theorem am_ck98 : am_chkC am_LT5 ([]) true false prog_7_method_34_code.data.toList 0 am_rw98 = true := by decide +kernel
theorem am_ph98 : am_Phi am_P am_rc99 := am_PhiN (TH := []) am_LTok5 (fun _ h => by cases h) (by decide +kernel) am_ck98
theorem am_ck99 : am_chkC am_LT5 ([]) true false prog_7_method_35_code.data.toList 0 am_rw99 = true := by decide +kernel
theorem am_ph99 : am_Phi am_P am_rc100 := am_PhiN (TH := []) am_LTok5 (fun _ h => by cases h) (by decide +kernel) am_ck99
theorem am_ck100 : am_chkC am_LT5 ([]) true false prog_7_method_36_code.data.toList 0 am_rw100 = true := by decide +kernel
theorem am_ph100 : am_Phi am_P am_rc101 := am_PhiN (TH := []) am_LTok5 (fun _ h => by cases h) (by decide +kernel) am_ck100
theorem am_ck101 : am_chkC am_LT5 ([]) true false prog_7_method_37_code.data.toList 0 am_rw101 = true := by decide +kernel
theorem am_ph101 : am_Phi am_P am_rc102 := am_PhiN (TH := []) am_LTok5 (fun _ h => by cases h) (by decide +kernel) am_ck101
theorem am_ck102 : am_chkC am_LT6 ([]) true true prog_8_method_1_code.data.toList 0 am_rw102 = true := by decide +kernel
theorem am_ph102 : am_Phi am_P am_rc103 := am_PhiN (TH := []) am_LTok6 (fun _ h => by cases h) (by decide +kernel) am_ck102
theorem am_ck103 : am_chkC am_LT6 ([]) true false prog_8_method_2_code.data.toList 0 am_rw103 = true := by decide +kernel
theorem am_ph103 : am_Phi am_P am_rc104 := am_PhiN (TH := []) am_LTok6 (fun _ h => by cases h) (by decide +kernel) am_ck103
theorem am_ck104 : am_chkC am_LT6 ([]) true false prog_8_method_3_code.data.toList 0 am_rw104 = true := by decide +kernel
theorem am_ph104 : am_Phi am_P am_rc105 := am_PhiN (TH := []) am_LTok6 (fun _ h => by cases h) (by decide +kernel) am_ck104
theorem am_ck105 : am_chkC am_LT6 ([]) true false prog_8_method_4_code.data.toList 0 am_rw105 = true := by decide +kernel
theorem am_ph105 : am_Phi am_P am_rc106 := am_PhiN (TH := []) am_LTok6 (fun _ h => by cases h) (by decide +kernel) am_ck105
theorem am_ck106 : am_chkC am_LT6 ([]) true false prog_8_method_6_code.data.toList 0 am_rw106 = true := by decide +kernel
theorem am_ph106 : am_Phi am_P am_rc107 := am_PhiN (TH := []) am_LTok6 (fun _ h => by cases h) (by decide +kernel) am_ck106
theorem am_ck107 : am_chkC am_LT6 ([]) true false prog_8_method_7_code.data.toList 0 am_rw107 = true := by decide +kernel
theorem am_ph107 : am_Phi am_P am_rc108 := am_PhiN (TH := []) am_LTok6 (fun _ h => by cases h) (by decide +kernel) am_ck107
theorem am_ck108 : am_chkC am_LT6 ([]) true false prog_8_method_8_code.data.toList 0 am_rw108 = true := by decide +kernel
theorem am_ph108 : am_Phi am_P am_rc109 := am_PhiN (TH := []) am_LTok6 (fun _ h => by cases h) (by decide +kernel) am_ck108
theorem am_ck109 : am_chkC am_LT6 ([]) true false prog_8_method_9_code.data.toList 0 am_rw109 = true := by decide +kernel
theorem am_ph109 : am_Phi am_P am_rc110 := am_PhiN (TH := []) am_LTok6 (fun _ h => by cases h) (by decide +kernel) am_ck109
theorem am_ck110 : am_chkC am_LT6 ([]) true false prog_8_method_10_code.data.toList 0 am_rw110 = true := by decide +kernel
theorem am_ph110 : am_Phi am_P am_rc111 := am_PhiN (TH := []) am_LTok6 (fun _ h => by cases h) (by decide +kernel) am_ck110
theorem am_ck111 : am_chkC am_LT6 ([]) true false prog_8_method_11_code.data.toList 0 am_rw111 = true := by decide +kernel
theorem am_ph111 : am_Phi am_P am_rc112 := am_PhiN (TH := []) am_LTok6 (fun _ h => by cases h) (by decide +kernel) am_ck111
theorem am_ck112 : am_chkC am_LT6 ([]) true false prog_8_method_12_code.data.toList 0 am_rw112 = true := by decide +kernel
theorem am_ph112 : am_Phi am_P am_rc113 := am_PhiN (TH := []) am_LTok6 (fun _ h => by cases h) (by decide +kernel) am_ck112
theorem am_ck113 : am_chkC am_LT6 ([]) true false prog_8_method_13_code.data.toList 0 am_rw113 = true := by decide +kernel
theorem am_ph113 : am_Phi am_P am_rc114 := am_PhiN (TH := []) am_LTok6 (fun _ h => by cases h) (by decide +kernel) am_ck113
theorem am_ck114 : am_chkC am_LT6 ([]) true false prog_8_method_14_code.data.toList 0 am_rw114 = true := by decide +kernel
theorem am_ph114 : am_Phi am_P am_rc115 := am_PhiN (TH := []) am_LTok6 (fun _ h => by cases h) (by decide +kernel) am_ck114
theorem am_ck115 : am_chkC am_LT7 ([]) true true prog_9_method_1_code.data.toList 0 am_rw115 = true := by decide +kernel
theorem am_ph115 : am_Phi am_P am_rc116 := am_PhiN (TH := []) am_LTok7 (fun _ h => by cases h) (by decide +kernel) am_ck115
theorem am_ck116 : am_chkC am_LT7 ([]) true false prog_9_method_2_code.data.toList 0 am_rw116 = true := by decide +kernel
theorem am_ph116 : am_Phi am_P am_rc117 := am_PhiN (TH := []) am_LTok7 (fun _ h => by cases h) (by decide +kernel) am_ck116
theorem am_ck117 : am_chkC am_LT7 ([]) true false prog_9_method_3_code.data.toList 0 am_rw117 = true := by decide +kernel
theorem am_ph117 : am_Phi am_P am_rc118 := am_PhiN (TH := []) am_LTok7 (fun _ h => by cases h) (by decide +kernel) am_ck117
theorem am_ck118 : am_chkC am_LT7 ([]) true false prog_9_method_4_code.data.toList 0 am_rw118 = true := by decide +kernel
theorem am_ph118 : am_Phi am_P am_rc119 := am_PhiN (TH := []) am_LTok7 (fun _ h => by cases h) (by decide +kernel) am_ck118
theorem am_ck119 : am_chkC am_LT7 ([]) true false prog_9_method_5_code.data.toList 0 am_rw119 = true := by decide +kernel
theorem am_ph119 : am_Phi am_P am_rc120 := am_PhiN (TH := []) am_LTok7 (fun _ h => by cases h) (by decide +kernel) am_ck119
theorem am_ck120 : am_chkC am_LT7 ([]) true false prog_9_method_6_code.data.toList 0 am_rw120 = true := by decide +kernel
theorem am_ph120 : am_Phi am_P am_rc121 := am_PhiN (TH := []) am_LTok7 (fun _ h => by cases h) (by decide +kernel) am_ck120
theorem am_ck121 : am_chkC am_LT7 ([]) true false prog_9_method_7_code.data.toList 0 am_rw121 = true := by decide +kernel
theorem am_ph121 : am_Phi am_P am_rc122 := am_PhiN (TH := []) am_LTok7 (fun _ h => by cases h) (by decide +kernel) am_ck121
theorem am_ck122 : am_chkC am_LT7 ([]) true false prog_9_method_8_code.data.toList 0 am_rw122 = true := by decide +kernel
theorem am_ph122 : am_Phi am_P am_rc123 := am_PhiN (TH := []) am_LTok7 (fun _ h => by cases h) (by decide +kernel) am_ck122
theorem am_ck123 : am_chkC am_LT7 ([]) true false prog_9_method_9_code.data.toList 0 am_rw123 = true := by decide +kernel
theorem am_ph123 : am_Phi am_P am_rc124 := am_PhiN (TH := []) am_LTok7 (fun _ h => by cases h) (by decide +kernel) am_ck123
theorem am_ck124 : am_chkC am_LT7 ([]) true false prog_9_method_10_code.data.toList 0 am_rw124 = true := by decide +kernel
theorem am_ph124 : am_Phi am_P am_rc125 := am_PhiN (TH := []) am_LTok7 (fun _ h => by cases h) (by decide +kernel) am_ck124
theorem am_ck125 : am_chkC am_LT7 ([]) true false prog_9_method_11_code.data.toList 0 am_rw125 = true := by decide +kernel
theorem am_ph125 : am_Phi am_P am_rc126 := am_PhiN (TH := []) am_LTok7 (fun _ h => by cases h) (by decide +kernel) am_ck125
theorem am_ck126 : am_chkC am_LT7 ([]) true false prog_9_method_12_code.data.toList 0 am_rw126 = true := by decide +kernel
theorem am_ph126 : am_Phi am_P am_rc127 := am_PhiN (TH := []) am_LTok7 (fun _ h => by cases h) (by decide +kernel) am_ck126
theorem am_ck127 : am_chkC am_LT7 ([]) true false prog_9_method_13_code.data.toList 0 am_rw127 = true := by decide +kernel
theorem am_ph127 : am_Phi am_P am_rc128 := am_PhiN (TH := []) am_LTok7 (fun _ h => by cases h) (by decide +kernel) am_ck127
theorem am_ck128 : am_chkC am_LT8 ([]) true true prog_10_method_1_code.data.toList 0 am_rw128 = true := by decide +kernel
theorem am_ph128 : am_Phi am_P am_rc129 := am_PhiN (TH := []) am_LTok8 (fun _ h => by cases h) (by decide +kernel) am_ck128
theorem am_ck129 : am_chkC am_LT8 ([]) true false prog_10_method_2_code.data.toList 0 am_rw129 = true := by decide +kernel
theorem am_ph129 : am_Phi am_P am_rc130 := am_PhiN (TH := []) am_LTok8 (fun _ h => by cases h) (by decide +kernel) am_ck129
theorem am_ck130 : am_chkC am_LT8 ([]) true false prog_10_method_3_code.data.toList 0 am_rw130 = true := by decide +kernel
theorem am_ph130 : am_Phi am_P am_rc131 := am_PhiN (TH := []) am_LTok8 (fun _ h => by cases h) (by decide +kernel) am_ck130
theorem am_ck131 : am_chkC am_LT8 ([]) true false prog_10_method_4_code.data.toList 0 am_rw131 = true := by decide +kernel
theorem am_ph131 : am_Phi am_P am_rc132 := am_PhiN (TH := []) am_LTok8 (fun _ h => by cases h) (by decide +kernel) am_ck131
theorem am_ck132 : am_chkC am_LT9 ([]) true true prog_11_method_1_code.data.toList 0 am_rw132 = true := by decide +kernel
theorem am_ph132 : am_Phi am_P am_rc133 := am_PhiN (TH := []) am_LTok9 (fun _ h => by cases h) (by decide +kernel) am_ck132
theorem am_ck133 : am_chkC am_LT9 ([]) true false prog_11_method_2_code.data.toList 0 am_rw133 = true := by decide +kernel
theorem am_ph133 : am_Phi am_P am_rc134 := am_PhiN (TH := []) am_LTok9 (fun _ h => by cases h) (by decide +kernel) am_ck133
theorem am_ck134 : am_chkC am_LT9 ([]) true false prog_11_method_3_code.data.toList 0 am_rw134 = true := by decide +kernel
theorem am_ph134 : am_Phi am_P am_rc135 := am_PhiN (TH := []) am_LTok9 (fun _ h => by cases h) (by decide +kernel) am_ck134
theorem am_ck135 : am_chkC am_LT9 ([]) true false prog_11_method_4_code.data.toList 0 am_rw135 = true := by decide +kernel
theorem am_ph135 : am_Phi am_P am_rc136 := am_PhiN (TH := []) am_LTok9 (fun _ h => by cases h) (by decide +kernel) am_ck135
theorem am_ck136 : am_chkC am_LT9 ([]) true false prog_11_method_5_code.data.toList 0 am_rw136 = true := by decide +kernel
theorem am_ph136 : am_Phi am_P am_rc137 := am_PhiN (TH := []) am_LTok9 (fun _ h => by cases h) (by decide +kernel) am_ck136
theorem am_ck137 : am_chkC am_LT9 ([]) true false prog_11_method_6_code.data.toList 0 am_rw137 = true := by decide +kernel
theorem am_ph137 : am_Phi am_P am_rc138 := am_PhiN (TH := []) am_LTok9 (fun _ h => by cases h) (by decide +kernel) am_ck137
theorem am_ck138 : am_chkC am_LT9 ([]) true false prog_11_method_7_code.data.toList 0 am_rw138 = true := by decide +kernel
theorem am_ph138 : am_Phi am_P am_rc139 := am_PhiN (TH := []) am_LTok9 (fun _ h => by cases h) (by decide +kernel) am_ck138
theorem am_ck139 : am_chkC am_LT9 ([]) true false prog_11_method_8_code.data.toList 0 am_rw139 = true := by decide +kernel
theorem am_ph139 : am_Phi am_P am_rc140 := am_PhiN (TH := []) am_LTok9 (fun _ h => by cases h) (by decide +kernel) am_ck139
theorem am_ck140 : am_chkC am_LT9 ([]) true false prog_11_method_9_code.data.toList 0 am_rw140 = true := by decide +kernel
theorem am_ph140 : am_Phi am_P am_rc141 := am_PhiN (TH := []) am_LTok9 (fun _ h => by cases h) (by decide +kernel) am_ck140
theorem am_ck141 : am_chkC am_LT10 ([]) true true prog_12_method_1_code.data.toList 0 am_rw141 = true := by decide +kernel
theorem am_ph141 : am_Phi am_P am_rc142 := am_PhiN (TH := []) am_LTok10 (fun _ h => by cases h) (by decide +kernel) am_ck141
theorem am_ck142 : am_chkC am_LT10 ([]) true false prog_12_method_2_code.data.toList 0 am_rw142 = true := by decide +kernel
theorem am_ph142 : am_Phi am_P am_rc143 := am_PhiN (TH := []) am_LTok10 (fun _ h => by cases h) (by decide +kernel) am_ck142
theorem am_ck143 : am_chkC am_LT10 ([]) true false prog_12_method_3_code.data.toList 0 am_rw143 = true := by decide +kernel
theorem am_ph143 : am_Phi am_P am_rc144 := am_PhiN (TH := []) am_LTok10 (fun _ h => by cases h) (by decide +kernel) am_ck143
theorem am_ck144 : am_chkC am_LT10 ([]) true false prog_12_method_4_code.data.toList 0 am_rw144 = true := by decide +kernel
theorem am_ph144 : am_Phi am_P am_rc145 := am_PhiN (TH := []) am_LTok10 (fun _ h => by cases h) (by decide +kernel) am_ck144
theorem am_ck145 : am_chkC am_LT10 ([]) true false prog_12_method_5_code.data.toList 0 am_rw145 = true := by decide +kernel
theorem am_ph145 : am_Phi am_P am_rc146 := am_PhiN (TH := []) am_LTok10 (fun _ h => by cases h) (by decide +kernel) am_ck145
theorem am_ck146 : am_chkC am_LT10 ([]) true false prog_12_method_6_code.data.toList 0 am_rw146 = true := by decide +kernel
theorem am_ph146 : am_Phi am_P am_rc147 := am_PhiN (TH := []) am_LTok10 (fun _ h => by cases h) (by decide +kernel) am_ck146
theorem am_ck147 : am_chkC am_LT10 ([]) true false prog_12_method_7_code.data.toList 0 am_rw147 = true := by decide +kernel
theorem am_ph147 : am_Phi am_P am_rc148 := am_PhiN (TH := []) am_LTok10 (fun _ h => by cases h) (by decide +kernel) am_ck147
theorem am_ck148 : am_chkC am_LT10 ([]) true false prog_12_method_8_code.data.toList 0 am_rw148 = true := by decide +kernel
theorem am_ph148 : am_Phi am_P am_rc149 := am_PhiN (TH := []) am_LTok10 (fun _ h => by cases h) (by decide +kernel) am_ck148
theorem am_ck149 : am_chkC am_LT10 ([]) true false prog_12_method_9_code.data.toList 0 am_rw149 = true := by decide +kernel
theorem am_ph149 : am_Phi am_P am_rc150 := am_PhiN (TH := []) am_LTok10 (fun _ h => by cases h) (by decide +kernel) am_ck149
theorem am_ck150 : am_chkC am_LT10 ([]) true false prog_12_method_10_code.data.toList 0 am_rw150 = true := by decide +kernel
theorem am_ph150 : am_Phi am_P am_rc151 := am_PhiN (TH := []) am_LTok10 (fun _ h => by cases h) (by decide +kernel) am_ck150
theorem am_ck151 : am_chkC am_LT10 ([]) true false prog_12_method_11_code.data.toList 0 am_rw151 = true := by decide +kernel
theorem am_ph151 : am_Phi am_P am_rc152 := am_PhiN (TH := []) am_LTok10 (fun _ h => by cases h) (by decide +kernel) am_ck151
theorem am_ck152 : am_chkC am_LT10 ([]) true false prog_12_method_12_code.data.toList 0 am_rw152 = true := by decide +kernel
theorem am_ph152 : am_Phi am_P am_rc153 := am_PhiN (TH := []) am_LTok10 (fun _ h => by cases h) (by decide +kernel) am_ck152
theorem am_ck153 : am_chkC am_LT10 ([]) true false prog_12_method_13_code.data.toList 0 am_rw153 = true := by decide +kernel
theorem am_ph153 : am_Phi am_P am_rc154 := am_PhiN (TH := []) am_LTok10 (fun _ h => by cases h) (by decide +kernel) am_ck153
theorem am_ck154 : am_chkC am_LT10 ([]) true false prog_12_method_14_code.data.toList 0 am_rw154 = true := by decide +kernel
theorem am_ph154 : am_Phi am_P am_rc155 := am_PhiN (TH := []) am_LTok10 (fun _ h => by cases h) (by decide +kernel) am_ck154
theorem am_ck155 : am_chkC am_LT10 ([]) true false prog_12_method_15_code.data.toList 0 am_rw155 = true := by decide +kernel
theorem am_ph155 : am_Phi am_P am_rc156 := am_PhiN (TH := []) am_LTok10 (fun _ h => by cases h) (by decide +kernel) am_ck155
theorem am_ck156 : am_chkC am_LT10 ([]) true false prog_12_method_16_code.data.toList 0 am_rw156 = true := by decide +kernel
theorem am_ph156 : am_Phi am_P am_rc157 := am_PhiN (TH := []) am_LTok10 (fun _ h => by cases h) (by decide +kernel) am_ck156
theorem am_ck157 : am_chkC am_LT10 ([]) true false prog_12_method_18_code.data.toList 0 am_rw157 = true := by decide +kernel
theorem am_ph157 : am_Phi am_P am_rc158 := am_PhiN (TH := []) am_LTok10 (fun _ h => by cases h) (by decide +kernel) am_ck157
theorem am_ck158 : am_chkC am_LT11 ([]) true true prog_1_method_1_code.data.toList 0 am_rw158 = true := by decide +kernel
theorem am_ph158 : am_Phi am_P am_rc159 := am_PhiN (TH := []) am_LTok11 (fun _ h => by cases h) (by decide +kernel) am_ck158
theorem am_ck159 : am_chkC am_LT11 ([(16, 2)]) true false prog_1_method_2_code.data.toList 0 am_rw159 = true := by decide +kernel
theorem am_th159_0 : am_thok "DelegationShop" prog_1_method_2_code 16 2 := ⟨59, 61, 63, _, (am_tw5 (i := 146) rfl rfl), (am_tw1 (i := 20) rfl rfl), List.mem_of_getElem? (i := 0) rfl, am_atS_ok (by decide +kernel), Nat.le_of_ble_eq_true rfl, am_chk0_ok (by decide +kernel), am_chk0_ok (by decide +kernel), Or.inl ⟨am_chk0_ok (by decide +kernel), am_chk0_ok (by decide +kernel), am_chk0_ok (by decide +kernel)⟩⟩
theorem am_ph159 : am_Phi am_P am_rc160 := am_PhiN (TH := [(16, 2)]) am_LTok11 (List.forall_mem_cons.mpr ⟨am_th159_0, fun _ h => by cases h⟩) (by decide +kernel) am_ck159
theorem am_ck160 : am_chkC am_LT11 ([(15, 1)]) true false prog_1_method_3_code.data.toList 0 am_rw160 = true := by decide +kernel
theorem am_th160_0 : am_thok "DelegationShop" prog_1_method_3_code 15 1 := ⟨70, 72, 74, _, (am_tw5 (i := 211) rfl rfl), (am_tw1 (i := 21) rfl rfl), List.mem_of_getElem? (i := 1) rfl, am_atS_ok (by decide +kernel), Nat.le_of_ble_eq_true rfl, am_chk0_ok (by decide +kernel), am_chk0_ok (by decide +kernel), Or.inl ⟨am_chk0_ok (by decide +kernel), am_chk0_ok (by decide +kernel), am_chk0_ok (by decide +kernel)⟩⟩
theorem am_ph160 : am_Phi am_P am_rc161 := am_PhiN (TH := [(15, 1)]) am_LTok11 (List.forall_mem_cons.mpr ⟨am_th160_0, fun _ h => by cases h⟩) (by decide +kernel) am_ck160
theorem am_ck161 : am_chkC am_LT11 ([]) true false prog_1_method_4_code.data.toList 0 am_rw161 = true := by decide +kernel
theorem am_ph161 : am_Phi am_P am_rc162 := am_PhiN (TH := []) am_LTok11 (fun _ h => by cases h) (by decide +kernel) am_ck161
theorem am_ck162 : am_chkC am_LT11 ([(9, 1)]) true false prog_1_method_5_code.data.toList 0 am_rw162 = true := by decide +kernel
theorem am_th162_0 : am_thok "DelegationShop" prog_1_method_5_code 9 1 := ⟨70, 96, 74, _, (am_tw5 (i := 211) rfl rfl), (am_tw1 (i := 21) rfl rfl), List.mem_of_getElem? (i := 2) rfl, am_atS_ok (by decide +kernel), Nat.le_of_ble_eq_true rfl, am_chk0_ok (by decide +kernel), am_chk0_ok (by decide +kernel), Or.inl ⟨am_chk0_ok (by decide +kernel), am_chk0_ok (by decide +kernel), am_chk0_ok (by decide +kernel)⟩⟩
theorem am_ph162 : am_Phi am_P am_rc163 := am_PhiN (TH := [(9, 1)]) am_LTok11 (List.forall_mem_cons.mpr ⟨am_th162_0, fun _ h => by cases h⟩) (by decide +kernel) am_ck162
theorem am_ck163 : am_chkC am_LT11 ([]) true false prog_1_method_6_code.data.toList 0 am_rw163 = true := by decide +kernel
theorem am_ph163 : am_Phi am_P am_rc164 := am_PhiN (TH := []) am_LTok11 (fun _ h => by cases h) (by decide +kernel) am_ck163
theorem am_ck164 : am_chkC am_LT11 ([(32, 1)]) true false prog_1_method_7_code.data.toList 0 am_rw164 = true := by decide +kernel
theorem am_th164_0 : am_thok "DelegationShop" prog_1_method_7_code 32 1 := ⟨70, 113, 74, _, (am_tw5 (i := 211) rfl rfl), (am_tw1 (i := 21) rfl rfl), List.mem_of_getElem? (i := 3) rfl, am_atS_ok (by decide +kernel), Nat.le_of_ble_eq_true rfl, am_chk0_ok (by decide +kernel), am_chk0_ok (by decide +kernel), Or.inl ⟨am_chk0_ok (by decide +kernel), am_chk0_ok (by decide +kernel), am_chk0_ok (by decide +kernel)⟩⟩
theorem am_ph164 : am_Phi am_P am_rc165 := am_PhiN (TH := [(32, 1)]) am_LTok11 (List.forall_mem_cons.mpr ⟨am_th164_0, fun _ h => by cases h⟩) (by decide +kernel) am_ck164
theorem am_ck165 : am_chkC am_LT11 ([]) true false prog_1_method_8_code.data.toList 0 am_rw165 = true := by decide +kernel
theorem am_ph165 : am_Phi am_P am_rc166 := am_PhiN (TH := []) am_LTok11 (fun _ h => by cases h) (by decide +kernel) am_ck165
theorem am_ck166 : am_chkC am_LT11 ([(7, 0)]) true false prog_1_method_28_code.data.toList 0 am_rw166 = true := by decide +kernel
theorem am_th166_0 : am_thok "DelegationShop" prog_1_method_28_code 7 0 := ⟨268, 270, 272, _, (am_tw5 (i := 239) rfl rfl), (am_tw1 (i := 24) rfl rfl), List.mem_of_getElem? (i := 5) rfl, am_atS_ok (by decide +kernel), Nat.le_of_ble_eq_true rfl, am_chk0_ok (by decide +kernel), am_chk0_ok (by decide +kernel), Or.inr ⟨am_chk0_ok (by decide +kernel), am_chk0_ok (by decide +kernel), am_chk0_ok (by decide +kernel)⟩⟩
theorem am_ph166 : am_Phi am_P am_rc167 := am_PhiN (TH := [(7, 0)]) am_LTok11 (List.forall_mem_cons.mpr ⟨am_th166_0, fun _ h => by cases h⟩) (by decide +kernel) am_ck166
theorem am_ck167 : am_chkC am_LT11 ([(9, 1)]) true false prog_1_method_30_code.data.toList 0 am_rw167 = true := by decide +kernel
theorem am_th167_0 : am_thok "DelegationShop" prog_1_method_30_code 9 1 := ⟨70, 196, 74, _, (am_tw5 (i := 211) rfl rfl), (am_tw1 (i := 21) rfl rfl), List.mem_of_getElem? (i := 4) rfl, am_atS_ok (by decide +kernel), Nat.le_of_ble_eq_true rfl, am_chk0_ok (by decide +kernel), am_chk0_ok (by decide +kernel), Or.inl ⟨am_chk0_ok (by decide +kernel), am_chk0_ok (by decide +kernel), am_chk0_ok (by decide +kernel)⟩⟩
theorem am_ph167 : am_Phi am_P am_rc168 := am_PhiN (TH := [(9, 1)]) am_LTok11 (List.forall_mem_cons.mpr ⟨am_th167_0, fun _ h => by cases h⟩) (by decide +kernel) am_ck167
theorem am_ck168 : am_chkC am_LT13 [] false false method_2_code.data.toList 0 am_rw168 = true := by decide +kernel
theorem am_hk168 : am_hlok "DelegationShopLaw" method_2_code [(0, 11, 12, 13, 2, 14, 6)] := List.forall_mem_cons.mpr ⟨⟨by decide, Nat.le_of_ble_eq_true rfl, (am_tw5 (i := 141) rfl rfl), (am_tw5 (i := 148) rfl rfl), Or.inr ⟨am_chk0_ok (by decide +kernel), rfl⟩⟩, fun _ h => by cases h⟩
theorem am_ph168 : am_Phi am_P am_rc169 := am_PhiX am_LTok13 (by decide +kernel) am_ck168 am_hk168
theorem am_ck169 : am_chkC am_LT13 [] false false method_3_code.data.toList 0 am_rw169 = true := by decide +kernel
theorem am_hk169 : am_hlok "DelegationShopLaw" method_3_code [(0, 6, 7, 20, 1, 8, 2)] := List.forall_mem_cons.mpr ⟨⟨by decide, Nat.le_of_ble_eq_true rfl, (am_tw5 (i := 206) rfl rfl), (am_tw5 (i := 213) rfl rfl), Or.inl ⟨2, am_chk0_ok (by decide +kernel), rfl, rfl⟩⟩, fun _ h => by cases h⟩
theorem am_ph169 : am_Phi am_P am_rc170 := am_PhiX am_LTok13 (by decide +kernel) am_ck169 am_hk169
theorem am_ck170 : am_chkC am_LT13 ([]) true false method_4_code.data.toList 0 am_rw170 = true := by decide +kernel
theorem am_ph170 : am_Phi am_P am_rc171 := am_PhiN (TH := []) am_LTok13 (fun _ h => by cases h) (by decide +kernel) am_ck170
theorem am_ck171 : am_chkC am_LT13 ([]) true false method_5_code.data.toList 0 am_rw171 = true := by decide +kernel
theorem am_ph171 : am_Phi am_P am_rc172 := am_PhiN (TH := []) am_LTok13 (fun _ h => by cases h) (by decide +kernel) am_ck171
theorem am_ck172 : am_chkC am_LT13 ([]) true false method_6_code.data.toList 0 am_rw172 = true := by decide +kernel
theorem am_ph172 : am_Phi am_P am_rc173 := am_PhiN (TH := []) am_LTok13 (fun _ h => by cases h) (by decide +kernel) am_ck172
theorem am_ck173 : am_chkC am_LT13 ([]) true false method_7_code.data.toList 0 am_rw173 = true := by decide +kernel
theorem am_ph173 : am_Phi am_P am_rc174 := am_PhiN (TH := []) am_LTok13 (fun _ h => by cases h) (by decide +kernel) am_ck173
theorem am_ck174 : am_chkC am_LT13 ([]) true false method_8_code.data.toList 0 am_rw174 = true := by decide +kernel
theorem am_ph174 : am_Phi am_P am_rc175 := am_PhiN (TH := []) am_LTok13 (fun _ h => by cases h) (by decide +kernel) am_ck174
theorem am_ck175 : am_chkC am_LT13 [] false false method_9_code.data.toList 0 am_rw175 = true := by decide +kernel
theorem am_hk175 : am_hlok "DelegationShopLaw" method_9_code [(0, 8, 9, 118, 0, 11, 6), (0, 8, 14, 20, 1, 16, 6)] := List.forall_mem_cons.mpr ⟨⟨by decide, Nat.le_of_ble_eq_true rfl, (am_tw5 (i := 230) rfl rfl), (am_tw4 (i := 85) rfl rfl), Or.inr ⟨am_chk0_ok (by decide +kernel), rfl⟩⟩, List.forall_mem_cons.mpr ⟨⟨by decide, Nat.le_of_ble_eq_true rfl, (am_tw5 (i := 206) rfl rfl), (am_tw5 (i := 213) rfl rfl), Or.inr ⟨am_chk0_ok (by decide +kernel), rfl⟩⟩, fun _ h => by cases h⟩⟩
theorem am_ph175 : am_Phi am_P am_rc176 := am_PhiX am_LTok13 (by decide +kernel) am_ck175 am_hk175
theorem am_ck176 : am_chkC am_LT13 [] false false method_10_code.data.toList 0 am_rw176 = true := by decide +kernel
theorem am_hk176 : am_hlok "DelegationShopLaw" method_10_code [(0, 5, 6, 118, 0, 7, 2), (0, 5, 11, 20, 1, 12, 2)] := List.forall_mem_cons.mpr ⟨⟨by decide, Nat.le_of_ble_eq_true rfl, (am_tw5 (i := 230) rfl rfl), (am_tw4 (i := 85) rfl rfl), Or.inl ⟨2, am_chk0_ok (by decide +kernel), rfl, rfl⟩⟩, List.forall_mem_cons.mpr ⟨⟨by decide, Nat.le_of_ble_eq_true rfl, (am_tw5 (i := 206) rfl rfl), (am_tw5 (i := 213) rfl rfl), Or.inl ⟨2, am_chk0_ok (by decide +kernel), rfl, rfl⟩⟩, fun _ h => by cases h⟩⟩
theorem am_ph176 : am_Phi am_P am_rc177 := am_PhiX am_LTok13 (by decide +kernel) am_ck176 am_hk176
theorem am_ck177 : am_chkC am_LT13 [] false false method_11_code.data.toList 0 am_rw177 = true := by decide +kernel
theorem am_hk177 : am_hlok "DelegationShopLaw" method_11_code [(0, 6, 7, 20, 1, 8, 2)] := List.forall_mem_cons.mpr ⟨⟨by decide, Nat.le_of_ble_eq_true rfl, (am_tw5 (i := 206) rfl rfl), (am_tw5 (i := 213) rfl rfl), Or.inl ⟨2, am_chk0_ok (by decide +kernel), rfl, rfl⟩⟩, fun _ h => by cases h⟩
theorem am_ph177 : am_Phi am_P am_rc178 := am_PhiX am_LTok13 (by decide +kernel) am_ck177 am_hk177
theorem am_ck178 : am_chkC am_LT20 ([]) true false prog_25_method_56_code.data.toList 0 am_rw178 = true := by decide +kernel
theorem am_ph178 : am_Phi am_P am_rc179 := am_PhiN (TH := []) am_LTok20 (fun _ h => by cases h) (by decide +kernel) am_ck178
theorem am_ck179 : am_chkC am_LT20 ([]) true false prog_25_method_155_code.data.toList 0 am_rw179 = true := by decide +kernel
theorem am_ph179 : am_Phi am_P am_rc180 := am_PhiN (TH := []) am_LTok20 (fun _ h => by cases h) (by decide +kernel) am_ck179
theorem am_ck180 : am_chkC am_LT20 ([]) true false prog_25_method_152_code.data.toList 0 am_rw180 = true := by decide +kernel
theorem am_ph180 : am_Phi am_P am_rc181 := am_PhiN (TH := []) am_LTok20 (fun _ h => by cases h) (by decide +kernel) am_ck180
theorem am_ck181 : am_chkC am_LT20 ([]) true false prog_25_method_79_code.data.toList 0 am_rw181 = true := by decide +kernel
theorem am_ph181 : am_Phi am_P am_rc182 := am_PhiN (TH := []) am_LTok20 (fun _ h => by cases h) (by decide +kernel) am_ck181
theorem am_ck182 : am_chkC am_LT20 ([]) true false prog_25_method_80_code.data.toList 0 am_rw182 = true := by decide +kernel
theorem am_ph182 : am_Phi am_P am_rc183 := am_PhiN (TH := []) am_LTok20 (fun _ h => by cases h) (by decide +kernel) am_ck182
theorem am_ck183 : am_chkC am_LT20 ([]) true false prog_25_method_154_code.data.toList 0 am_rw183 = true := by decide +kernel
theorem am_ph183 : am_Phi am_P am_rc184 := am_PhiN (TH := []) am_LTok20 (fun _ h => by cases h) (by decide +kernel) am_ck183
