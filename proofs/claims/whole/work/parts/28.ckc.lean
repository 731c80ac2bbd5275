theorem am_ck184 : am_chkC am_LT11 ([]) true false prog_1_method_20_code.data.toList 0 am_rw184 = true := by decide +kernel
theorem am_ph184 : am_Phi am_P am_rc185 := am_PhiN (TH := []) am_LTok11 (fun _ h => by cases h) (by decide +kernel) am_ck184
theorem am_ck185 : am_chkC am_LT11 ([(42, 1)]) true false prog_1_method_21_code.data.toList 0 am_rw185 = true := by decide +kernel
theorem am_th185_0 : am_thok "DelegationShop" prog_1_method_21_code 42 1 := ⟨70, 225, 74, _, (am_tw5 (i := 191) rfl rfl), (am_tw1 (i := 22) rfl rfl), List.mem_of_getElem? (i := 7) rfl, am_atS_ok (by decide +kernel), Nat.le_of_ble_eq_true rfl, am_chk0_ok (by decide +kernel), am_chk0_ok (by decide +kernel), Or.inl ⟨am_chk0_ok (by decide +kernel), am_chk0_ok (by decide +kernel), am_chk0_ok (by decide +kernel)⟩⟩
theorem am_ph185 : am_Phi am_P am_rc186 := am_PhiN (TH := [(42, 1)]) am_LTok11 (List.forall_mem_cons.mpr ⟨am_th185_0, fun _ h => by cases h⟩) (by decide +kernel) am_ck185
theorem am_ck186 : am_chkC am_LT11 ([]) true false prog_1_method_22_code.data.toList 0 am_rw186 = true := by decide +kernel
theorem am_ph186 : am_Phi am_P am_rc187 := am_PhiN (TH := []) am_LTok11 (fun _ h => by cases h) (by decide +kernel) am_ck186
theorem am_ck187 : am_chkC am_LT11 ([]) true false prog_1_method_23_code.data.toList 0 am_rw187 = true := by decide +kernel
theorem am_ph187 : am_Phi am_P am_rc188 := am_PhiN (TH := []) am_LTok11 (fun _ h => by cases h) (by decide +kernel) am_ck187
theorem am_ck188 : am_chkC am_LT11 ([]) true false prog_1_method_24_code.data.toList 0 am_rw188 = true := by decide +kernel
theorem am_ph188 : am_Phi am_P am_rc189 := am_PhiN (TH := []) am_LTok11 (fun _ h => by cases h) (by decide +kernel) am_ck188
theorem am_ck189 : am_chkC am_LT11 ([]) true false prog_1_method_25_code.data.toList 0 am_rw189 = true := by decide +kernel
theorem am_ph189 : am_Phi am_P am_rc190 := am_PhiN (TH := []) am_LTok11 (fun _ h => by cases h) (by decide +kernel) am_ck189
theorem am_ck190 : am_chkC am_LT11 ([]) true false prog_1_method_26_code.data.toList 0 am_rw190 = true := by decide +kernel
theorem am_ph190 : am_Phi am_P am_rc191 := am_PhiN (TH := []) am_LTok11 (fun _ h => by cases h) (by decide +kernel) am_ck190
theorem am_ck191 : am_chkC am_LT11 ([]) true false prog_1_method_27_code.data.toList 0 am_rw191 = true := by decide +kernel
theorem am_ph191 : am_Phi am_P am_rc192 := am_PhiN (TH := []) am_LTok11 (fun _ h => by cases h) (by decide +kernel) am_ck191
theorem am_ck192 : am_chkC am_LT11 ([(7, 0)]) true false prog_1_method_28_code.data.toList 0 am_rw192 = true := by decide +kernel
theorem am_th192_0 : am_thok "DelegationShop" prog_1_method_28_code 7 0 := ⟨268, 270, 272, _, (am_tw5 (i := 227) rfl rfl), (am_tw1 (i := 25) rfl rfl), List.mem_of_getElem? (i := 8) rfl, am_atS_ok (by decide +kernel), Nat.le_of_ble_eq_true rfl, am_chk0_ok (by decide +kernel), am_chk0_ok (by decide +kernel), Or.inr ⟨am_chk0_ok (by decide +kernel), am_chk0_ok (by decide +kernel), am_chk0_ok (by decide +kernel)⟩⟩
theorem am_ph192 : am_Phi am_P am_rc193 := am_PhiN (TH := [(7, 0)]) am_LTok11 (List.forall_mem_cons.mpr ⟨am_th192_0, fun _ h => by cases h⟩) (by decide +kernel) am_ck192
theorem am_ck193 : am_chkC am_LT11 ([(9, 2)]) true false prog_1_method_29_code.data.toList 0 am_rw193 = true := by decide +kernel
theorem am_th193_0 : am_thok "DelegationShop" prog_1_method_29_code 9 2 := ⟨162, 273, 166, _, (am_tw8 (i := 115) rfl rfl), (am_tw1 (i := 33) rfl rfl), List.mem_of_getElem? (i := 9) rfl, am_atS_ok (by decide +kernel), Nat.le_of_ble_eq_true rfl, am_chk0_ok (by decide +kernel), am_chk0_ok (by decide +kernel), Or.inr ⟨am_chk0_ok (by decide +kernel), am_chk0_ok (by decide +kernel), am_chk0_ok (by decide +kernel)⟩⟩
theorem am_ph193 : am_Phi am_P am_rc194 := am_PhiN (TH := [(9, 2)]) am_LTok11 (List.forall_mem_cons.mpr ⟨am_th193_0, fun _ h => by cases h⟩) (by decide +kernel) am_ck193
theorem am_ck194 : am_chkC am_LT11 ([(9, 1)]) true false prog_1_method_30_code.data.toList 0 am_rw194 = true := by decide +kernel
theorem am_th194_0 : am_thok "DelegationShop" prog_1_method_30_code 9 1 := ⟨70, 196, 74, _, (am_tw5 (i := 191) rfl rfl), (am_tw1 (i := 22) rfl rfl), List.mem_of_getElem? (i := 6) rfl, am_atS_ok (by decide +kernel), Nat.le_of_ble_eq_true rfl, am_chk0_ok (by decide +kernel), am_chk0_ok (by decide +kernel), Or.inl ⟨am_chk0_ok (by decide +kernel), am_chk0_ok (by decide +kernel), am_chk0_ok (by decide +kernel)⟩⟩
theorem am_ph194 : am_Phi am_P am_rc195 := am_PhiN (TH := [(9, 1)]) am_LTok11 (List.forall_mem_cons.mpr ⟨am_th194_0, fun _ h => by cases h⟩) (by decide +kernel) am_ck194
theorem am_ck195 : am_chkC am_LT11 ([]) true false prog_1_method_31_code.data.toList 0 am_rw195 = true := by decide +kernel
theorem am_ph195 : am_Phi am_P am_rc196 := am_PhiN (TH := []) am_LTok11 (fun _ h => by cases h) (by decide +kernel) am_ck195
theorem am_ck196 : am_chkC am_LT12 ([]) true true prog_14_method_1_code.data.toList 0 am_rw196 = true := by decide +kernel
theorem am_ph196 : am_Phi am_P am_rc197 := am_PhiN (TH := []) am_LTok12 (fun _ h => by cases h) (by decide +kernel) am_ck196
theorem am_ck197 : am_chkC am_LT12 ([]) true false prog_14_method_2_code.data.toList 0 am_rw197 = true := by decide +kernel
theorem am_ph197 : am_Phi am_P am_rc198 := am_PhiN (TH := []) am_LTok12 (fun _ h => by cases h) (by decide +kernel) am_ck197
theorem am_ck198 : am_chkC am_LT12 ([]) true false prog_14_method_3_code.data.toList 0 am_rw198 = true := by decide +kernel
theorem am_ph198 : am_Phi am_P am_rc199 := am_PhiN (TH := []) am_LTok12 (fun _ h => by cases h) (by decide +kernel) am_ck198
theorem am_ck199 : am_chkC am_LT12 ([]) true false prog_14_method_4_code.data.toList 0 am_rw199 = true := by decide +kernel
theorem am_ph199 : am_Phi am_P am_rc200 := am_PhiN (TH := []) am_LTok12 (fun _ h => by cases h) (by decide +kernel) am_ck199
theorem am_ck200 : am_chkC am_LT12 ([]) true false prog_14_method_5_code.data.toList 0 am_rw200 = true := by decide +kernel
theorem am_ph200 : am_Phi am_P am_rc201 := am_PhiN (TH := []) am_LTok12 (fun _ h => by cases h) (by decide +kernel) am_ck200
theorem am_ck201 : am_chkC am_LT12 ([]) true false prog_14_method_6_code.data.toList 0 am_rw201 = true := by decide +kernel
theorem am_ph201 : am_Phi am_P am_rc202 := am_PhiN (TH := []) am_LTok12 (fun _ h => by cases h) (by decide +kernel) am_ck201
theorem am_ck202 : am_chkC am_LT12 ([]) true false prog_14_method_7_code.data.toList 0 am_rw202 = true := by decide +kernel
theorem am_ph202 : am_Phi am_P am_rc203 := am_PhiN (TH := []) am_LTok12 (fun _ h => by cases h) (by decide +kernel) am_ck202
theorem am_ck203 : am_chkC am_LT12 ([]) true false prog_14_method_8_code.data.toList 0 am_rw203 = true := by decide +kernel
theorem am_ph203 : am_Phi am_P am_rc204 := am_PhiN (TH := []) am_LTok12 (fun _ h => by cases h) (by decide +kernel) am_ck203
theorem am_ck204 : am_chkC am_LT12 ([]) true false prog_14_method_9_code.data.toList 0 am_rw204 = true := by decide +kernel
theorem am_ph204 : am_Phi am_P am_rc205 := am_PhiN (TH := []) am_LTok12 (fun _ h => by cases h) (by decide +kernel) am_ck204
theorem am_ck205 : am_chkC am_LT12 ([]) true false prog_14_method_10_code.data.toList 0 am_rw205 = true := by decide +kernel
theorem am_ph205 : am_Phi am_P am_rc206 := am_PhiN (TH := []) am_LTok12 (fun _ h => by cases h) (by decide +kernel) am_ck205
theorem am_ck206 : am_chkC am_LT12 ([]) true false prog_14_method_11_code.data.toList 0 am_rw206 = true := by decide +kernel
theorem am_ph206 : am_Phi am_P am_rc207 := am_PhiN (TH := []) am_LTok12 (fun _ h => by cases h) (by decide +kernel) am_ck206
theorem am_ck207 : am_chkC am_LT12 ([]) true false prog_14_method_12_code.data.toList 0 am_rw207 = true := by decide +kernel
theorem am_ph207 : am_Phi am_P am_rc208 := am_PhiN (TH := []) am_LTok12 (fun _ h => by cases h) (by decide +kernel) am_ck207
theorem am_ck208 : am_chkC am_LT12 ([]) true false prog_14_method_13_code.data.toList 0 am_rw208 = true := by decide +kernel
theorem am_ph208 : am_Phi am_P am_rc209 := am_PhiN (TH := []) am_LTok12 (fun _ h => by cases h) (by decide +kernel) am_ck208
theorem am_ck209 : am_chkC am_LT12 ([]) true false prog_14_method_14_code.data.toList 0 am_rw209 = true := by decide +kernel
theorem am_ph209 : am_Phi am_P am_rc210 := am_PhiN (TH := []) am_LTok12 (fun _ h => by cases h) (by decide +kernel) am_ck209
theorem am_ck210 : am_chkC am_LT12 ([]) true false prog_14_method_15_code.data.toList 0 am_rw210 = true := by decide +kernel
theorem am_ph210 : am_Phi am_P am_rc211 := am_PhiN (TH := []) am_LTok12 (fun _ h => by cases h) (by decide +kernel) am_ck210
theorem am_ck211 : am_chkC am_LT12 ([]) true false prog_14_method_16_code.data.toList 0 am_rw211 = true := by decide +kernel
theorem am_ph211 : am_Phi am_P am_rc212 := am_PhiN (TH := []) am_LTok12 (fun _ h => by cases h) (by decide +kernel) am_ck211
theorem am_ck212 : am_chkC am_LT12 ([]) true false prog_14_method_17_code.data.toList 0 am_rw212 = true := by decide +kernel
theorem am_ph212 : am_Phi am_P am_rc213 := am_PhiN (TH := []) am_LTok12 (fun _ h => by cases h) (by decide +kernel) am_ck212
theorem am_ck213 : am_chkC am_LT12 ([]) true false prog_14_method_18_code.data.toList 0 am_rw213 = true := by decide +kernel
theorem am_ph213 : am_Phi am_P am_rc214 := am_PhiN (TH := []) am_LTok12 (fun _ h => by cases h) (by decide +kernel) am_ck213
theorem am_ck214 : am_chkC am_LT12 ([]) true false prog_14_method_19_code.data.toList 0 am_rw214 = true := by decide +kernel
theorem am_ph214 : am_Phi am_P am_rc215 := am_PhiN (TH := []) am_LTok12 (fun _ h => by cases h) (by decide +kernel) am_ck214
theorem am_ck215 : am_chkC am_LT12 ([]) true false prog_14_method_20_code.data.toList 0 am_rw215 = true := by decide +kernel
theorem am_ph215 : am_Phi am_P am_rc216 := am_PhiN (TH := []) am_LTok12 (fun _ h => by cases h) (by decide +kernel) am_ck215
theorem am_ck216 : am_chkC am_LT12 ([]) true false prog_14_method_21_code.data.toList 0 am_rw216 = true := by decide +kernel
theorem am_ph216 : am_Phi am_P am_rc217 := am_PhiN (TH := []) am_LTok12 (fun _ h => by cases h) (by decide +kernel) am_ck216
theorem am_ck217 : am_chkC am_LT12 ([]) true false prog_14_method_22_code.data.toList 0 am_rw217 = true := by decide +kernel
theorem am_ph217 : am_Phi am_P am_rc218 := am_PhiN (TH := []) am_LTok12 (fun _ h => by cases h) (by decide +kernel) am_ck217
theorem am_ck218 : am_chkC am_LT12 ([]) true false prog_14_method_23_code.data.toList 0 am_rw218 = true := by decide +kernel
theorem am_ph218 : am_Phi am_P am_rc219 := am_PhiN (TH := []) am_LTok12 (fun _ h => by cases h) (by decide +kernel) am_ck218
theorem am_ck219 : am_chkC am_LT12 ([]) true false prog_14_method_24_code.data.toList 0 am_rw219 = true := by decide +kernel
theorem am_ph219 : am_Phi am_P am_rc220 := am_PhiN (TH := []) am_LTok12 (fun _ h => by cases h) (by decide +kernel) am_ck219
theorem am_ck220 : am_chkC am_LT12 ([]) true false prog_14_method_25_code.data.toList 0 am_rw220 = true := by decide +kernel
theorem am_ph220 : am_Phi am_P am_rc221 := am_PhiN (TH := []) am_LTok12 (fun _ h => by cases h) (by decide +kernel) am_ck220
theorem am_ck221 : am_chkC am_LT12 ([]) true false prog_14_method_26_code.data.toList 0 am_rw221 = true := by decide +kernel
theorem am_ph221 : am_Phi am_P am_rc222 := am_PhiN (TH := []) am_LTok12 (fun _ h => by cases h) (by decide +kernel) am_ck221
theorem am_ck222 : am_chkC am_LT12 ([]) true false prog_14_method_27_code.data.toList 0 am_rw222 = true := by decide +kernel
theorem am_ph222 : am_Phi am_P am_rc223 := am_PhiN (TH := []) am_LTok12 (fun _ h => by cases h) (by decide +kernel) am_ck222
theorem am_ck223 : am_chkC am_LT12 ([]) true false prog_14_method_28_code.data.toList 0 am_rw223 = true := by decide +kernel
theorem am_ph223 : am_Phi am_P am_rc224 := am_PhiN (TH := []) am_LTok12 (fun _ h => by cases h) (by decide +kernel) am_ck223
theorem am_ck224 : am_chkC am_LT12 ([]) true false prog_14_method_29_code.data.toList 0 am_rw224 = true := by decide +kernel
theorem am_ph224 : am_Phi am_P am_rc225 := am_PhiN (TH := []) am_LTok12 (fun _ h => by cases h) (by decide +kernel) am_ck224
theorem am_ck225 : am_chkC am_LT12 ([]) true false prog_14_method_30_code.data.toList 0 am_rw225 = true := by decide +kernel
theorem am_ph225 : am_Phi am_P am_rc226 := am_PhiN (TH := []) am_LTok12 (fun _ h => by cases h) (by decide +kernel) am_ck225
theorem am_ck226 : am_chkC am_LT12 ([]) true false prog_14_method_31_code.data.toList 0 am_rw226 = true := by decide +kernel
theorem am_ph226 : am_Phi am_P am_rc227 := am_PhiN (TH := []) am_LTok12 (fun _ h => by cases h) (by decide +kernel) am_ck226
theorem am_ck227 : am_chkC am_LT12 ([]) true false prog_14_method_32_code.data.toList 0 am_rw227 = true := by decide +kernel
theorem am_ph227 : am_Phi am_P am_rc228 := am_PhiN (TH := []) am_LTok12 (fun _ h => by cases h) (by decide +kernel) am_ck227
theorem am_ck228 : am_chkC am_LT12 ([]) true false prog_14_method_33_code.data.toList 0 am_rw228 = true := by decide +kernel
theorem am_ph228 : am_Phi am_P am_rc229 := am_PhiN (TH := []) am_LTok12 (fun _ h => by cases h) (by decide +kernel) am_ck228
theorem am_ck229 : am_chkC am_LT12 ([]) true false prog_14_method_34_code.data.toList 0 am_rw229 = true := by decide +kernel
theorem am_ph229 : am_Phi am_P am_rc230 := am_PhiN (TH := []) am_LTok12 (fun _ h => by cases h) (by decide +kernel) am_ck229
theorem am_ck230 : am_chkC am_LT12 ([]) true false prog_14_method_35_code.data.toList 0 am_rw230 = true := by decide +kernel
theorem am_ph230 : am_Phi am_P am_rc231 := am_PhiN (TH := []) am_LTok12 (fun _ h => by cases h) (by decide +kernel) am_ck230
theorem am_ck231 : am_chkC am_LT12 ([]) true false prog_14_method_36_code.data.toList 0 am_rw231 = true := by decide +kernel
theorem am_ph231 : am_Phi am_P am_rc232 := am_PhiN (TH := []) am_LTok12 (fun _ h => by cases h) (by decide +kernel) am_ck231
theorem am_ck232 : am_chkC am_LT12 ([]) true false prog_14_method_37_code.data.toList 0 am_rw232 = true := by decide +kernel
theorem am_ph232 : am_Phi am_P am_rc233 := am_PhiN (TH := []) am_LTok12 (fun _ h => by cases h) (by decide +kernel) am_ck232
theorem am_ck233 : am_chkC am_LT12 ([]) true false prog_14_method_38_code.data.toList 0 am_rw233 = true := by decide +kernel
theorem am_ph233 : am_Phi am_P am_rc234 := am_PhiN (TH := []) am_LTok12 (fun _ h => by cases h) (by decide +kernel) am_ck233
theorem am_ck234 : am_chkC am_LT12 ([]) true false prog_14_method_39_code.data.toList 0 am_rw234 = true := by decide +kernel
theorem am_ph234 : am_Phi am_P am_rc235 := am_PhiN (TH := []) am_LTok12 (fun _ h => by cases h) (by decide +kernel) am_ck234
theorem am_ck235 : am_chkC am_LT12 ([]) true false prog_14_method_40_code.data.toList 0 am_rw235 = true := by decide +kernel
theorem am_ph235 : am_Phi am_P am_rc236 := am_PhiN (TH := []) am_LTok12 (fun _ h => by cases h) (by decide +kernel) am_ck235
theorem am_ck236 : am_chkC am_LT12 ([]) true false prog_14_method_41_code.data.toList 0 am_rw236 = true := by decide +kernel
theorem am_ph236 : am_Phi am_P am_rc237 := am_PhiN (TH := []) am_LTok12 (fun _ h => by cases h) (by decide +kernel) am_ck236
theorem am_ck237 : am_chkC am_LT12 ([]) true false prog_14_method_42_code.data.toList 0 am_rw237 = true := by decide +kernel
theorem am_ph237 : am_Phi am_P am_rc238 := am_PhiN (TH := []) am_LTok12 (fun _ h => by cases h) (by decide +kernel) am_ck237
theorem am_ck238 : am_chkC am_LT12 ([]) true false prog_14_method_43_code.data.toList 0 am_rw238 = true := by decide +kernel
theorem am_ph238 : am_Phi am_P am_rc239 := am_PhiN (TH := []) am_LTok12 (fun _ h => by cases h) (by decide +kernel) am_ck238
theorem am_ck239 : am_chkC am_LT12 ([]) true false prog_14_method_44_code.data.toList 0 am_rw239 = true := by decide +kernel
theorem am_ph239 : am_Phi am_P am_rc240 := am_PhiN (TH := []) am_LTok12 (fun _ h => by cases h) (by decide +kernel) am_ck239
theorem am_ck240 : am_chkC am_LT12 ([]) true false prog_14_method_45_code.data.toList 0 am_rw240 = true := by decide +kernel
theorem am_ph240 : am_Phi am_P am_rc241 := am_PhiN (TH := []) am_LTok12 (fun _ h => by cases h) (by decide +kernel) am_ck240
theorem am_ck241 : am_chkC am_LT12 ([]) true false prog_14_method_46_code.data.toList 0 am_rw241 = true := by decide +kernel
theorem am_ph241 : am_Phi am_P am_rc242 := am_PhiN (TH := []) am_LTok12 (fun _ h => by cases h) (by decide +kernel) am_ck241
theorem am_ck242 : am_chkC am_LT12 ([]) true false prog_14_method_47_code.data.toList 0 am_rw242 = true := by decide +kernel
theorem am_ph242 : am_Phi am_P am_rc243 := am_PhiN (TH := []) am_LTok12 (fun _ h => by cases h) (by decide +kernel) am_ck242
theorem am_ck243 : am_chkC am_LT12 ([]) true false prog_14_method_48_code.data.toList 0 am_rw243 = true := by decide +kernel
theorem am_ph243 : am_Phi am_P am_rc244 := am_PhiN (TH := []) am_LTok12 (fun _ h => by cases h) (by decide +kernel) am_ck243
theorem am_ck244 : am_chkC am_LT12 ([]) true false prog_14_method_49_code.data.toList 0 am_rw244 = true := by decide +kernel
theorem am_ph244 : am_Phi am_P am_rc245 := am_PhiN (TH := []) am_LTok12 (fun _ h => by cases h) (by decide +kernel) am_ck244
theorem am_ck245 : am_chkC am_LT12 ([]) true false prog_14_method_50_code.data.toList 0 am_rw245 = true := by decide +kernel
theorem am_ph245 : am_Phi am_P am_rc246 := am_PhiN (TH := []) am_LTok12 (fun _ h => by cases h) (by decide +kernel) am_ck245
theorem am_ck246 : am_chkC am_LT12 ([]) true false prog_14_method_51_code.data.toList 0 am_rw246 = true := by decide +kernel
theorem am_ph246 : am_Phi am_P am_rc247 := am_PhiN (TH := []) am_LTok12 (fun _ h => by cases h) (by decide +kernel) am_ck246
theorem am_ck247 : am_chkC am_LT12 ([]) true false prog_14_method_52_code.data.toList 0 am_rw247 = true := by decide +kernel
theorem am_ph247 : am_Phi am_P am_rc248 := am_PhiN (TH := []) am_LTok12 (fun _ h => by cases h) (by decide +kernel) am_ck247
theorem am_ck248 : am_chkC am_LT12 ([]) true false prog_14_method_53_code.data.toList 0 am_rw248 = true := by decide +kernel
theorem am_ph248 : am_Phi am_P am_rc249 := am_PhiN (TH := []) am_LTok12 (fun _ h => by cases h) (by decide +kernel) am_ck248
theorem am_ck249 : am_chkC am_LT12 ([]) true false prog_14_method_54_code.data.toList 0 am_rw249 = true := by decide +kernel
theorem am_ph249 : am_Phi am_P am_rc250 := am_PhiN (TH := []) am_LTok12 (fun _ h => by cases h) (by decide +kernel) am_ck249
theorem am_ck250 : am_chkC am_LT12 ([]) true false prog_14_method_55_code.data.toList 0 am_rw250 = true := by decide +kernel
theorem am_ph250 : am_Phi am_P am_rc251 := am_PhiN (TH := []) am_LTok12 (fun _ h => by cases h) (by decide +kernel) am_ck250
theorem am_ck251 : am_chkC am_LT12 ([]) true false prog_14_method_56_code.data.toList 0 am_rw251 = true := by decide +kernel
theorem am_ph251 : am_Phi am_P am_rc252 := am_PhiN (TH := []) am_LTok12 (fun _ h => by cases h) (by decide +kernel) am_ck251
theorem am_ck252 : am_chkC am_LT12 ([]) true false prog_14_method_57_code.data.toList 0 am_rw252 = true := by decide +kernel
theorem am_ph252 : am_Phi am_P am_rc253 := am_PhiN (TH := []) am_LTok12 (fun _ h => by cases h) (by decide +kernel) am_ck252
theorem am_ck253 : am_chkC am_LT12 ([]) true false prog_14_method_58_code.data.toList 0 am_rw253 = true := by decide +kernel
theorem am_ph253 : am_Phi am_P am_rc254 := am_PhiN (TH := []) am_LTok12 (fun _ h => by cases h) (by decide +kernel) am_ck253
theorem am_ck254 : am_chkC am_LT12 ([]) true false prog_14_method_59_code.data.toList 0 am_rw254 = true := by decide +kernel
theorem am_ph254 : am_Phi am_P am_rc255 := am_PhiN (TH := []) am_LTok12 (fun _ h => by cases h) (by decide +kernel) am_ck254
theorem am_ck255 : am_chkC am_LT12 ([]) true false prog_14_method_60_code.data.toList 0 am_rw255 = true := by decide +kernel
theorem am_ph255 : am_Phi am_P am_rc256 := am_PhiN (TH := []) am_LTok12 (fun _ h => by cases h) (by decide +kernel) am_ck255
theorem am_ck256 : am_chkC am_LT12 ([]) true false prog_14_method_61_code.data.toList 0 am_rw256 = true := by decide +kernel
theorem am_ph256 : am_Phi am_P am_rc257 := am_PhiN (TH := []) am_LTok12 (fun _ h => by cases h) (by decide +kernel) am_ck256
theorem am_ck257 : am_chkC am_LT12 ([]) true false prog_14_method_62_code.data.toList 0 am_rw257 = true := by decide +kernel
theorem am_ph257 : am_Phi am_P am_rc258 := am_PhiN (TH := []) am_LTok12 (fun _ h => by cases h) (by decide +kernel) am_ck257
theorem am_ck258 : am_chkC am_LT12 ([]) true false prog_14_method_63_code.data.toList 0 am_rw258 = true := by decide +kernel
theorem am_ph258 : am_Phi am_P am_rc259 := am_PhiN (TH := []) am_LTok12 (fun _ h => by cases h) (by decide +kernel) am_ck258
theorem am_ck259 : am_chkC am_LT12 ([]) true false prog_14_method_64_code.data.toList 0 am_rw259 = true := by decide +kernel
theorem am_ph259 : am_Phi am_P am_rc260 := am_PhiN (TH := []) am_LTok12 (fun _ h => by cases h) (by decide +kernel) am_ck259
theorem am_ck260 : am_chkC am_LT12 ([]) true false prog_14_method_65_code.data.toList 0 am_rw260 = true := by decide +kernel
theorem am_ph260 : am_Phi am_P am_rc261 := am_PhiN (TH := []) am_LTok12 (fun _ h => by cases h) (by decide +kernel) am_ck260
theorem am_ck261 : am_chkC am_LT12 ([]) true false prog_14_method_66_code.data.toList 0 am_rw261 = true := by decide +kernel
theorem am_ph261 : am_Phi am_P am_rc262 := am_PhiN (TH := []) am_LTok12 (fun _ h => by cases h) (by decide +kernel) am_ck261
theorem am_ck262 : am_chkC am_LT12 ([]) true false prog_14_method_67_code.data.toList 0 am_rw262 = true := by decide +kernel
theorem am_ph262 : am_Phi am_P am_rc263 := am_PhiN (TH := []) am_LTok12 (fun _ h => by cases h) (by decide +kernel) am_ck262
theorem am_ck263 : am_chkC am_LT12 ([]) true false prog_14_method_68_code.data.toList 0 am_rw263 = true := by decide +kernel
theorem am_ph263 : am_Phi am_P am_rc264 := am_PhiN (TH := []) am_LTok12 (fun _ h => by cases h) (by decide +kernel) am_ck263
theorem am_ck264 : am_chkC am_LT12 ([]) true false prog_14_method_69_code.data.toList 0 am_rw264 = true := by decide +kernel
theorem am_ph264 : am_Phi am_P am_rc265 := am_PhiN (TH := []) am_LTok12 (fun _ h => by cases h) (by decide +kernel) am_ck264
theorem am_ck265 : am_chkC am_LT12 ([]) true false prog_14_method_70_code.data.toList 0 am_rw265 = true := by decide +kernel
theorem am_ph265 : am_Phi am_P am_rc266 := am_PhiN (TH := []) am_LTok12 (fun _ h => by cases h) (by decide +kernel) am_ck265
theorem am_ck266 : am_chkC am_LT12 ([]) true false prog_14_method_71_code.data.toList 0 am_rw266 = true := by decide +kernel
theorem am_ph266 : am_Phi am_P am_rc267 := am_PhiN (TH := []) am_LTok12 (fun _ h => by cases h) (by decide +kernel) am_ck266
theorem am_ck267 : am_chkC am_LT12 ([]) true false prog_14_method_72_code.data.toList 0 am_rw267 = true := by decide +kernel
theorem am_ph267 : am_Phi am_P am_rc268 := am_PhiN (TH := []) am_LTok12 (fun _ h => by cases h) (by decide +kernel) am_ck267
theorem am_ck268 : am_chkC am_LT12 ([]) true false prog_14_method_73_code.data.toList 0 am_rw268 = true := by decide +kernel
theorem am_ph268 : am_Phi am_P am_rc269 := am_PhiN (TH := []) am_LTok12 (fun _ h => by cases h) (by decide +kernel) am_ck268
theorem am_ck269 : am_chkC am_LT12 ([]) true false prog_14_method_74_code.data.toList 0 am_rw269 = true := by decide +kernel
theorem am_ph269 : am_Phi am_P am_rc270 := am_PhiN (TH := []) am_LTok12 (fun _ h => by cases h) (by decide +kernel) am_ck269
theorem am_ck270 : am_chkC am_LT12 ([]) true false prog_14_method_75_code.data.toList 0 am_rw270 = true := by decide +kernel
theorem am_ph270 : am_Phi am_P am_rc271 := am_PhiN (TH := []) am_LTok12 (fun _ h => by cases h) (by decide +kernel) am_ck270
theorem am_ck271 : am_chkC am_LT12 ([]) true false prog_14_method_76_code.data.toList 0 am_rw271 = true := by decide +kernel
theorem am_ph271 : am_Phi am_P am_rc272 := am_PhiN (TH := []) am_LTok12 (fun _ h => by cases h) (by decide +kernel) am_ck271
theorem am_ck272 : am_chkC am_LT12 ([]) true false prog_14_method_77_code.data.toList 0 am_rw272 = true := by decide +kernel
theorem am_ph272 : am_Phi am_P am_rc273 := am_PhiN (TH := []) am_LTok12 (fun _ h => by cases h) (by decide +kernel) am_ck272
theorem am_ck273 : am_chkC am_LT12 ([]) true false prog_14_method_78_code.data.toList 0 am_rw273 = true := by decide +kernel
theorem am_ph273 : am_Phi am_P am_rc274 := am_PhiN (TH := []) am_LTok12 (fun _ h => by cases h) (by decide +kernel) am_ck273
theorem am_ck274 : am_chkC am_LT12 ([]) true false prog_14_method_79_code.data.toList 0 am_rw274 = true := by decide +kernel
theorem am_ph274 : am_Phi am_P am_rc275 := am_PhiN (TH := []) am_LTok12 (fun _ h => by cases h) (by decide +kernel) am_ck274
theorem am_ck275 : am_chkC am_LT12 ([]) true false prog_14_method_80_code.data.toList 0 am_rw275 = true := by decide +kernel
theorem am_ph275 : am_Phi am_P am_rc276 := am_PhiN (TH := []) am_LTok12 (fun _ h => by cases h) (by decide +kernel) am_ck275
