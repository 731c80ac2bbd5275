/-! every method's rows are looked at -/
theorem am_atS_ok {L : List Jvm.Cond} (h : L.all (fun w => decide (w ∈ lw_tbl) && (am_ww w && vx_ot w)) = true) : ∀ w ∈ L, w ∈ lw_tblG ∧ vx_ot w = true := by
  intro w hw
  have h2 := List.all_eq_true.mp h w hw
  simp only [Bool.and_eq_true, decide_eq_true_eq] at h2
  exact ⟨am_gmem h2.1 h2.2.1, h2.2.2⟩
theorem am_PhiN {P : am_PG} {y : MethodName} {cc : ByteArray} {n na rc : Nat} {ret : Option FieldType} {T : List (List (Option am_E))} {L : List am_LE} {TH : List (Nat × Nat)} {ini : Bool} (hL : ∀ x ∈ L, am_ltP P y.cls x) (hTH : ∀ z ∈ TH, am_thok y.cls cc z.1 z.2) (hi : am_ini y = ini) (hc : am_chkC L TH true ini cc.data.toList 0 T = true) : am_Phi P (y, cc, n, ret, na, rc, [], T) := by
  refine ⟨fun pc e h => ?_, fun y hy => by cases hy⟩
  subst hi
  exact am_chk_iok (am_tw2 (i := 224) rfl rfl) (am_tw1 (i := 144) rfl rfl) (am_tw1 (i := 146) rfl rfl) (am_tw1 (i := 145) rfl rfl) hL hTH (fun _ => rfl) (am_chkC_all hc h)
theorem am_PhiX {P : am_PG} {y : MethodName} {cc : ByteArray} {n na rc : Nat} {ret : Option FieldType} {T : List (List (Option am_E))} {L : List am_LE} {ini : Bool} {hl : List am_HE} (hL : ∀ x ∈ L, am_ltP P y.cls x) (hi : am_ini y = ini) (hc : am_chkC L [] false ini cc.data.toList 0 T = true) (hh : am_hlok y.cls cc hl) : am_Phi P (y, cc, n, ret, na, rc, hl, T) := by
  refine ⟨fun pc e h => ?_, hh⟩
  subst hi
  exact am_chk_iok (am_tw2 (i := 224) rfl rfl) (am_tw1 (i := 144) rfl rfl) (am_tw1 (i := 146) rfl rfl) (am_tw1 (i := 145) rfl rfl) hL (fun y hy => by cases hy) (fun h => by cases h) (am_chkC_all hc h)
theorem am_ck0 : am_chkC am_LT13 ([]) true false code.data.toList 0 am_rw0 = true := by decide +kernel
theorem am_ph0 : am_Phi am_P am_rc1 := am_PhiN (TH := []) am_LTok13 (fun _ h => by cases h) (by decide +kernel) am_ck0
theorem am_ck1 : am_chkC am_LT0 ([]) true true prog_2_method_1_code.data.toList 0 am_rw1 = true := by decide +kernel
theorem am_ph1 : am_Phi am_P am_rc2 := am_PhiN (TH := []) am_LTok0 (fun _ h => by cases h) (by decide +kernel) am_ck1
theorem am_ck2 : am_chkC am_LT0 ([]) true false prog_2_method_2_code.data.toList 0 am_rw2 = true := by decide +kernel
theorem am_ph2 : am_Phi am_P am_rc3 := am_PhiN (TH := []) am_LTok0 (fun _ h => by cases h) (by decide +kernel) am_ck2
theorem am_ck3 : am_chkC am_LT0 ([]) true false prog_2_method_3_code.data.toList 0 am_rw3 = true := by decide +kernel
theorem am_ph3 : am_Phi am_P am_rc4 := am_PhiN (TH := []) am_LTok0 (fun _ h => by cases h) (by decide +kernel) am_ck3
theorem am_ck4 : am_chkC am_LT0 ([]) true false prog_2_method_4_code.data.toList 0 am_rw4 = true := by decide +kernel
theorem am_ph4 : am_Phi am_P am_rc5 := am_PhiN (TH := []) am_LTok0 (fun _ h => by cases h) (by decide +kernel) am_ck4
theorem am_ck5 : am_chkC am_LT0 ([]) true false prog_2_method_5_code.data.toList 0 am_rw5 = true := by decide +kernel
theorem am_ph5 : am_Phi am_P am_rc6 := am_PhiN (TH := []) am_LTok0 (fun _ h => by cases h) (by decide +kernel) am_ck5
theorem am_ck6 : am_chkC am_LT0 ([]) true false prog_2_method_6_code.data.toList 0 am_rw6 = true := by decide +kernel
theorem am_ph6 : am_Phi am_P am_rc7 := am_PhiN (TH := []) am_LTok0 (fun _ h => by cases h) (by decide +kernel) am_ck6
theorem am_ck7 : am_chkC am_LT0 ([]) true false prog_2_method_7_code.data.toList 0 am_rw7 = true := by decide +kernel
theorem am_ph7 : am_Phi am_P am_rc8 := am_PhiN (TH := []) am_LTok0 (fun _ h => by cases h) (by decide +kernel) am_ck7
theorem am_ck8 : am_chkC am_LT1 ([]) true true prog_3_method_1_code.data.toList 0 am_rw8 = true := by decide +kernel
theorem am_ph8 : am_Phi am_P am_rc9 := am_PhiN (TH := []) am_LTok1 (fun _ h => by cases h) (by decide +kernel) am_ck8
theorem am_ck9 : am_chkC am_LT1 [] false false prog_3_method_2_code.data.toList 0 am_rw9 = true := by decide +kernel
theorem am_hk9 : am_hlok "DelegationShop$Compiler" prog_3_method_2_code [(25, 29, 32, 47, 0, 33, 1)] := List.forall_mem_cons.mpr ⟨⟨by decide, Nat.le_of_ble_eq_true rfl, (am_tw3 (i := 208) rfl rfl), (am_tw4 (i := 85) rfl rfl), Or.inl ⟨1, am_chk0_ok (by decide +kernel), rfl, rfl⟩⟩, fun _ h => by cases h⟩
theorem am_ph9 : am_Phi am_P am_rc10 := am_PhiX am_LTok1 (by decide +kernel) am_ck9 am_hk9
theorem am_ck10 : am_chkC am_LT1 ([(4, 0)]) true false prog_3_method_3_code.data.toList 0 am_rw10 = true := by decide +kernel
theorem am_th10_0 : am_thok "DelegationShop$Compiler" prog_3_method_3_code 4 0 := ⟨47, 49, 51, _, (am_tw3 (i := 208) rfl rfl), (am_tw1 (i := 24) rfl rfl), List.mem_of_getElem? (i := 6) rfl, am_atS_ok (by decide +kernel), Nat.le_of_ble_eq_true rfl, am_chk0_ok (by decide +kernel), am_chk0_ok (by decide +kernel), Or.inl ⟨am_chk0_ok (by decide +kernel), am_chk0_ok (by decide +kernel), am_chk0_ok (by decide +kernel)⟩⟩
theorem am_ph10 : am_Phi am_P am_rc11 := am_PhiN (TH := [(4, 0)]) am_LTok1 (List.forall_mem_cons.mpr ⟨am_th10_0, fun _ h => by cases h⟩) (by decide +kernel) am_ck10
theorem am_ck11 : am_chkC am_LT1 ([]) true false prog_3_method_4_code.data.toList 0 am_rw11 = true := by decide +kernel
theorem am_ph11 : am_Phi am_P am_rc12 := am_PhiN (TH := []) am_LTok1 (fun _ h => by cases h) (by decide +kernel) am_ck11
theorem am_ck12 : am_chkC am_LT1 ([]) true false prog_3_method_5_code.data.toList 0 am_rw12 = true := by decide +kernel
theorem am_ph12 : am_Phi am_P am_rc13 := am_PhiN (TH := []) am_LTok1 (fun _ h => by cases h) (by decide +kernel) am_ck12
theorem am_ck13 : am_chkC am_LT1 ([]) true false prog_3_method_6_code.data.toList 0 am_rw13 = true := by decide +kernel
theorem am_ph13 : am_Phi am_P am_rc14 := am_PhiN (TH := []) am_LTok1 (fun _ h => by cases h) (by decide +kernel) am_ck13
theorem am_ck14 : am_chkC am_LT1 ([]) true false prog_3_method_7_code.data.toList 0 am_rw14 = true := by decide +kernel
theorem am_ph14 : am_Phi am_P am_rc15 := am_PhiN (TH := []) am_LTok1 (fun _ h => by cases h) (by decide +kernel) am_ck14
theorem am_ck15 : am_chkC am_LT1 ([]) true false prog_3_method_8_code.data.toList 0 am_rw15 = true := by decide +kernel
theorem am_ph15 : am_Phi am_P am_rc16 := am_PhiN (TH := []) am_LTok1 (fun _ h => by cases h) (by decide +kernel) am_ck15
theorem am_ck16 : am_chkC am_LT1 ([]) true false prog_3_method_9_code.data.toList 0 am_rw16 = true := by decide +kernel
theorem am_ph16 : am_Phi am_P am_rc17 := am_PhiN (TH := []) am_LTok1 (fun _ h => by cases h) (by decide +kernel) am_ck16
theorem am_ck17 : am_chkC am_LT1 ([]) true false prog_3_method_10_code.data.toList 0 am_rw17 = true := by decide +kernel
theorem am_ph17 : am_Phi am_P am_rc18 := am_PhiN (TH := []) am_LTok1 (fun _ h => by cases h) (by decide +kernel) am_ck17
theorem am_ck18 : am_chkC am_LT1 ([]) true false prog_3_method_11_code.data.toList 0 am_rw18 = true := by decide +kernel
theorem am_ph18 : am_Phi am_P am_rc19 := am_PhiN (TH := []) am_LTok1 (fun _ h => by cases h) (by decide +kernel) am_ck18
theorem am_ck19 : am_chkC am_LT1 ([]) true false prog_3_method_12_code.data.toList 0 am_rw19 = true := by decide +kernel
theorem am_ph19 : am_Phi am_P am_rc20 := am_PhiN (TH := []) am_LTok1 (fun _ h => by cases h) (by decide +kernel) am_ck19
theorem am_ck20 : am_chkC am_LT1 ([]) true false prog_3_method_13_code.data.toList 0 am_rw20 = true := by decide +kernel
theorem am_ph20 : am_Phi am_P am_rc21 := am_PhiN (TH := []) am_LTok1 (fun _ h => by cases h) (by decide +kernel) am_ck20
theorem am_ck21 : am_chkC am_LT1 ([]) true false prog_3_method_14_code.data.toList 0 am_rw21 = true := by decide +kernel
theorem am_ph21 : am_Phi am_P am_rc22 := am_PhiN (TH := []) am_LTok1 (fun _ h => by cases h) (by decide +kernel) am_ck21
theorem am_ck22 : am_chkC am_LT1 ([]) true false prog_3_method_15_code.data.toList 0 am_rw22 = true := by decide +kernel
theorem am_ph22 : am_Phi am_P am_rc23 := am_PhiN (TH := []) am_LTok1 (fun _ h => by cases h) (by decide +kernel) am_ck22
theorem am_ck23 : am_chkC am_LT1 ([]) true false prog_3_method_16_code.data.toList 0 am_rw23 = true := by decide +kernel
theorem am_ph23 : am_Phi am_P am_rc24 := am_PhiN (TH := []) am_LTok1 (fun _ h => by cases h) (by decide +kernel) am_ck23
theorem am_ck24 : am_chkC am_LT1 ([]) true false prog_3_method_17_code.data.toList 0 am_rw24 = true := by decide +kernel
theorem am_ph24 : am_Phi am_P am_rc25 := am_PhiN (TH := []) am_LTok1 (fun _ h => by cases h) (by decide +kernel) am_ck24
theorem am_ck25 : am_chkC am_LT1 ([]) true false prog_3_method_18_code.data.toList 0 am_rw25 = true := by decide +kernel
theorem am_ph25 : am_Phi am_P am_rc26 := am_PhiN (TH := []) am_LTok1 (fun _ h => by cases h) (by decide +kernel) am_ck25
theorem am_ck26 : am_chkC am_LT1 ([]) true false prog_3_method_19_code.data.toList 0 am_rw26 = true := by decide +kernel
theorem am_ph26 : am_Phi am_P am_rc27 := am_PhiN (TH := []) am_LTok1 (fun _ h => by cases h) (by decide +kernel) am_ck26
theorem am_ck27 : am_chkC am_LT1 ([]) true false prog_3_method_20_code.data.toList 0 am_rw27 = true := by decide +kernel
theorem am_ph27 : am_Phi am_P am_rc28 := am_PhiN (TH := []) am_LTok1 (fun _ h => by cases h) (by decide +kernel) am_ck27
theorem am_ck28 : am_chkC am_LT1 ([]) true false prog_3_method_21_code.data.toList 0 am_rw28 = true := by decide +kernel
theorem am_ph28 : am_Phi am_P am_rc29 := am_PhiN (TH := []) am_LTok1 (fun _ h => by cases h) (by decide +kernel) am_ck28
theorem am_ck29 : am_chkC am_LT1 ([]) true false prog_3_method_22_code.data.toList 0 am_rw29 = true := by decide +kernel
theorem am_ph29 : am_Phi am_P am_rc30 := am_PhiN (TH := []) am_LTok1 (fun _ h => by cases h) (by decide +kernel) am_ck29
theorem am_ck30 : am_chkC am_LT1 ([]) true false prog_3_method_23_code.data.toList 0 am_rw30 = true := by decide +kernel
theorem am_ph30 : am_Phi am_P am_rc31 := am_PhiN (TH := []) am_LTok1 (fun _ h => by cases h) (by decide +kernel) am_ck30
theorem am_ck31 : am_chkC am_LT1 ([]) true false prog_3_method_24_code.data.toList 0 am_rw31 = true := by decide +kernel
theorem am_ph31 : am_Phi am_P am_rc32 := am_PhiN (TH := []) am_LTok1 (fun _ h => by cases h) (by decide +kernel) am_ck31
theorem am_ck32 : am_chkC am_LT1 ([]) true false prog_3_method_25_code.data.toList 0 am_rw32 = true := by decide +kernel
theorem am_ph32 : am_Phi am_P am_rc33 := am_PhiN (TH := []) am_LTok1 (fun _ h => by cases h) (by decide +kernel) am_ck32
theorem am_ck33 : am_chkC am_LT1 ([]) true false prog_3_method_26_code.data.toList 0 am_rw33 = true := by decide +kernel
theorem am_ph33 : am_Phi am_P am_rc34 := am_PhiN (TH := []) am_LTok1 (fun _ h => by cases h) (by decide +kernel) am_ck33
theorem am_ck34 : am_chkC am_LT1 ([]) true false prog_3_method_27_code.data.toList 0 am_rw34 = true := by decide +kernel
theorem am_ph34 : am_Phi am_P am_rc35 := am_PhiN (TH := []) am_LTok1 (fun _ h => by cases h) (by decide +kernel) am_ck34
theorem am_ck35 : am_chkC am_LT1 ([]) true false prog_3_method_28_code.data.toList 0 am_rw35 = true := by decide +kernel
theorem am_ph35 : am_Phi am_P am_rc36 := am_PhiN (TH := []) am_LTok1 (fun _ h => by cases h) (by decide +kernel) am_ck35
theorem am_ck36 : am_chkC am_LT1 ([]) true false prog_3_method_29_code.data.toList 0 am_rw36 = true := by decide +kernel
theorem am_ph36 : am_Phi am_P am_rc37 := am_PhiN (TH := []) am_LTok1 (fun _ h => by cases h) (by decide +kernel) am_ck36
theorem am_ck37 : am_chkC am_LT1 ([]) true false prog_3_method_30_code.data.toList 0 am_rw37 = true := by decide +kernel
theorem am_ph37 : am_Phi am_P am_rc38 := am_PhiN (TH := []) am_LTok1 (fun _ h => by cases h) (by decide +kernel) am_ck37
theorem am_ck38 : am_chkC am_LT1 ([]) true false prog_3_method_31_code.data.toList 0 am_rw38 = true := by decide +kernel
theorem am_ph38 : am_Phi am_P am_rc39 := am_PhiN (TH := []) am_LTok1 (fun _ h => by cases h) (by decide +kernel) am_ck38
theorem am_ck39 : am_chkC am_LT1 ([]) true false prog_3_method_32_code.data.toList 0 am_rw39 = true := by decide +kernel
theorem am_ph39 : am_Phi am_P am_rc40 := am_PhiN (TH := []) am_LTok1 (fun _ h => by cases h) (by decide +kernel) am_ck39
theorem am_ck40 : am_chkC am_LT1 ([]) true false prog_3_method_33_code.data.toList 0 am_rw40 = true := by decide +kernel
theorem am_ph40 : am_Phi am_P am_rc41 := am_PhiN (TH := []) am_LTok1 (fun _ h => by cases h) (by decide +kernel) am_ck40
theorem am_ck41 : am_chkC am_LT1 ([]) true false prog_3_method_34_code.data.toList 0 am_rw41 = true := by decide +kernel
theorem am_ph41 : am_Phi am_P am_rc42 := am_PhiN (TH := []) am_LTok1 (fun _ h => by cases h) (by decide +kernel) am_ck41
theorem am_ck42 : am_chkC am_LT1 ([]) true false prog_3_method_35_code.data.toList 0 am_rw42 = true := by decide +kernel
theorem am_ph42 : am_Phi am_P am_rc43 := am_PhiN (TH := []) am_LTok1 (fun _ h => by cases h) (by decide +kernel) am_ck42
theorem am_ck43 : am_chkC am_LT1 ([]) true false prog_3_method_36_code.data.toList 0 am_rw43 = true := by decide +kernel
theorem am_ph43 : am_Phi am_P am_rc44 := am_PhiN (TH := []) am_LTok1 (fun _ h => by cases h) (by decide +kernel) am_ck43
theorem am_ck44 : am_chkC am_LT1 ([]) true false prog_3_method_37_code.data.toList 0 am_rw44 = true := by decide +kernel
theorem am_ph44 : am_Phi am_P am_rc45 := am_PhiN (TH := []) am_LTok1 (fun _ h => by cases h) (by decide +kernel) am_ck44
theorem am_ck45 : am_chkC am_LT1 ([]) true false prog_3_method_38_code.data.toList 0 am_rw45 = true := by decide +kernel
theorem am_ph45 : am_Phi am_P am_rc46 := am_PhiN (TH := []) am_LTok1 (fun _ h => by cases h) (by decide +kernel) am_ck45
theorem am_ck46 : am_chkC am_LT1 ([]) true false prog_3_method_39_code.data.toList 0 am_rw46 = true := by decide +kernel
theorem am_ph46 : am_Phi am_P am_rc47 := am_PhiN (TH := []) am_LTok1 (fun _ h => by cases h) (by decide +kernel) am_ck46
theorem am_ck47 : am_chkC am_LT1 ([]) true false prog_3_method_40_code.data.toList 0 am_rw47 = true := by decide +kernel
theorem am_ph47 : am_Phi am_P am_rc48 := am_PhiN (TH := []) am_LTok1 (fun _ h => by cases h) (by decide +kernel) am_ck47
theorem am_ck48 : am_chkC am_LT2 ([]) true true prog_4_method_1_code.data.toList 0 am_rw48 = true := by decide +kernel
theorem am_ph48 : am_Phi am_P am_rc49 := am_PhiN (TH := []) am_LTok2 (fun _ h => by cases h) (by decide +kernel) am_ck48
theorem am_ck49 : am_chkC am_LT2 ([]) true false prog_4_method_2_code.data.toList 0 am_rw49 = true := by decide +kernel
theorem am_ph49 : am_Phi am_P am_rc50 := am_PhiN (TH := []) am_LTok2 (fun _ h => by cases h) (by decide +kernel) am_ck49
theorem am_ck50 : am_chkC am_LT2 ([]) true false prog_4_method_3_code.data.toList 0 am_rw50 = true := by decide +kernel
theorem am_ph50 : am_Phi am_P am_rc51 := am_PhiN (TH := []) am_LTok2 (fun _ h => by cases h) (by decide +kernel) am_ck50
theorem am_ck51 : am_chkC am_LT3 ([]) true true prog_5_method_1_code.data.toList 0 am_rw51 = true := by decide +kernel
theorem am_ph51 : am_Phi am_P am_rc52 := am_PhiN (TH := []) am_LTok3 (fun _ h => by cases h) (by decide +kernel) am_ck51
theorem am_ck52 : am_chkC am_LT3 ([]) true false prog_5_method_2_code.data.toList 0 am_rw52 = true := by decide +kernel
theorem am_ph52 : am_Phi am_P am_rc53 := am_PhiN (TH := []) am_LTok3 (fun _ h => by cases h) (by decide +kernel) am_ck52
theorem am_ck53 : am_chkC am_LT3 ([]) true false prog_5_method_3_code.data.toList 0 am_rw53 = true := by decide +kernel
theorem am_ph53 : am_Phi am_P am_rc54 := am_PhiN (TH := []) am_LTok3 (fun _ h => by cases h) (by decide +kernel) am_ck53
theorem am_ck54 : am_chkC am_LT3 ([]) true false prog_5_method_4_code.data.toList 0 am_rw54 = true := by decide +kernel
theorem am_ph54 : am_Phi am_P am_rc55 := am_PhiN (TH := []) am_LTok3 (fun _ h => by cases h) (by decide +kernel) am_ck54
theorem am_ck55 : am_chkC am_LT3 ([]) true false prog_5_method_5_code.data.toList 0 am_rw55 = true := by decide +kernel
theorem am_ph55 : am_Phi am_P am_rc56 := am_PhiN (TH := []) am_LTok3 (fun _ h => by cases h) (by decide +kernel) am_ck55
theorem am_ck56 : am_chkC am_LT3 ([]) true false prog_5_method_6_code.data.toList 0 am_rw56 = true := by decide +kernel
theorem am_ph56 : am_Phi am_P am_rc57 := am_PhiN (TH := []) am_LTok3 (fun _ h => by cases h) (by decide +kernel) am_ck56
theorem am_ck57 : am_chkC am_LT3 ([]) true false prog_5_method_7_code.data.toList 0 am_rw57 = true := by decide +kernel
theorem am_ph57 : am_Phi am_P am_rc58 := am_PhiN (TH := []) am_LTok3 (fun _ h => by cases h) (by decide +kernel) am_ck57
theorem am_ck58 : am_chkC am_LT4 ([]) true true prog_6_method_1_code.data.toList 0 am_rw58 = true := by decide +kernel
theorem am_ph58 : am_Phi am_P am_rc59 := am_PhiN (TH := []) am_LTok4 (fun _ h => by cases h) (by decide +kernel) am_ck58
theorem am_ck59 : am_chkC am_LT4 ([]) true false prog_6_method_2_code.data.toList 0 am_rw59 = true := by decide +kernel
theorem am_ph59 : am_Phi am_P am_rc60 := am_PhiN (TH := []) am_LTok4 (fun _ h => by cases h) (by decide +kernel) am_ck59
theorem am_ck60 : am_chkC am_LT4 ([]) true false prog_6_method_3_code.data.toList 0 am_rw60 = true := by decide +kernel
theorem am_ph60 : am_Phi am_P am_rc61 := am_PhiN (TH := []) am_LTok4 (fun _ h => by cases h) (by decide +kernel) am_ck60
theorem am_ck61 : am_chkC am_LT4 ([]) true false prog_6_method_7_code.data.toList 0 am_rw61 = true := by decide +kernel
theorem am_ph61 : am_Phi am_P am_rc62 := am_PhiN (TH := []) am_LTok4 (fun _ h => by cases h) (by decide +kernel) am_ck61
theorem am_ck62 : am_chkC am_LT4 ([]) true false prog_6_method_8_code.data.toList 0 am_rw62 = true := by decide +kernel
theorem am_ph62 : am_Phi am_P am_rc63 := am_PhiN (TH := []) am_LTok4 (fun _ h => by cases h) (by decide +kernel) am_ck62
theorem am_ck63 : am_chkC am_LT4 ([]) true false prog_6_method_9_code.data.toList 0 am_rw63 = true := by decide +kernel
theorem am_ph63 : am_Phi am_P am_rc64 := am_PhiN (TH := []) am_LTok4 (fun _ h => by cases h) (by decide +kernel) am_ck63
theorem am_ck64 : am_chkC am_LT4 ([]) true false prog_6_method_10_code.data.toList 0 am_rw64 = true := by decide +kernel
theorem am_ph64 : am_Phi am_P am_rc65 := am_PhiN (TH := []) am_LTok4 (fun _ h => by cases h) (by decide +kernel) am_ck64
theorem am_ck65 : am_chkC am_LT5 ([]) true true prog_7_method_1_code.data.toList 0 am_rw65 = true := by decide +kernel
theorem am_ph65 : am_Phi am_P am_rc66 := am_PhiN (TH := []) am_LTok5 (fun _ h => by cases h) (by decide +kernel) am_ck65
theorem am_ck66 : am_chkC am_LT5 ([]) true false prog_7_method_2_code.data.toList 0 am_rw66 = true := by decide +kernel
theorem am_ph66 : am_Phi am_P am_rc67 := am_PhiN (TH := []) am_LTok5 (fun _ h => by cases h) (by decide +kernel) am_ck66
theorem am_ck67 : am_chkC am_LT5 ([]) true false prog_7_method_3_code.data.toList 0 am_rw67 = true := by decide +kernel
theorem am_ph67 : am_Phi am_P am_rc68 := am_PhiN (TH := []) am_LTok5 (fun _ h => by cases h) (by decide +kernel) am_ck67
theorem am_ck68 : am_chkC am_LT5 ([]) true false prog_7_method_4_code.data.toList 0 am_rw68 = true := by decide +kernel
theorem am_ph68 : am_Phi am_P am_rc69 := am_PhiN (TH := []) am_LTok5 (fun _ h => by cases h) (by decide +kernel) am_ck68
theorem am_ck69 : am_chkC am_LT5 ([]) true false prog_7_method_5_code.data.toList 0 am_rw69 = true := by decide +kernel
theorem am_ph69 : am_Phi am_P am_rc70 := am_PhiN (TH := []) am_LTok5 (fun _ h => by cases h) (by decide +kernel) am_ck69
theorem am_ck70 : am_chkC am_LT5 ([]) true false prog_7_method_6_code.data.toList 0 am_rw70 = true := by decide +kernel
theorem am_ph70 : am_Phi am_P am_rc71 := am_PhiN (TH := []) am_LTok5 (fun _ h => by cases h) (by decide +kernel) am_ck70
theorem am_ck71 : am_chkC am_LT5 ([]) true false prog_7_method_7_code.data.toList 0 am_rw71 = true := by decide +kernel
theorem am_ph71 : am_Phi am_P am_rc72 := am_PhiN (TH := []) am_LTok5 (fun _ h => by cases h) (by decide +kernel) am_ck71
theorem am_ck72 : am_chkC am_LT5 ([]) true false prog_7_method_8_code.data.toList 0 am_rw72 = true := by decide +kernel
theorem am_ph72 : am_Phi am_P am_rc73 := am_PhiN (TH := []) am_LTok5 (fun _ h => by cases h) (by decide +kernel) am_ck72
theorem am_ck73 : am_chkC am_LT5 ([]) true false prog_7_method_9_code.data.toList 0 am_rw73 = true := by decide +kernel
theorem am_ph73 : am_Phi am_P am_rc74 := am_PhiN (TH := []) am_LTok5 (fun _ h => by cases h) (by decide +kernel) am_ck73
theorem am_ck74 : am_chkC am_LT5 ([]) true false prog_7_method_10_code.data.toList 0 am_rw74 = true := by decide +kernel
theorem am_ph74 : am_Phi am_P am_rc75 := am_PhiN (TH := []) am_LTok5 (fun _ h => by cases h) (by decide +kernel) am_ck74
theorem am_ck75 : am_chkC am_LT5 ([]) true false prog_7_method_11_code.data.toList 0 am_rw75 = true := by decide +kernel
theorem am_ph75 : am_Phi am_P am_rc76 := am_PhiN (TH := []) am_LTok5 (fun _ h => by cases h) (by decide +kernel) am_ck75
theorem am_ck76 : am_chkC am_LT5 ([]) true false prog_7_method_12_code.data.toList 0 am_rw76 = true := by decide +kernel
theorem am_ph76 : am_Phi am_P am_rc77 := am_PhiN (TH := []) am_LTok5 (fun _ h => by cases h) (by decide +kernel) am_ck76
theorem am_ck77 : am_chkC am_LT5 ([]) true false prog_7_method_13_code.data.toList 0 am_rw77 = true := by decide +kernel
theorem am_ph77 : am_Phi am_P am_rc78 := am_PhiN (TH := []) am_LTok5 (fun _ h => by cases h) (by decide +kernel) am_ck77
theorem am_ck78 : am_chkC am_LT5 ([]) true false prog_7_method_14_code.data.toList 0 am_rw78 = true := by decide +kernel
theorem am_ph78 : am_Phi am_P am_rc79 := am_PhiN (TH := []) am_LTok5 (fun _ h => by cases h) (by decide +kernel) am_ck78
theorem am_ck79 : am_chkC am_LT5 ([]) true false prog_7_method_15_code.data.toList 0 am_rw79 = true := by decide +kernel
theorem am_ph79 : am_Phi am_P am_rc80 := am_PhiN (TH := []) am_LTok5 (fun _ h => by cases h) (by decide +kernel) am_ck79
theorem am_ck80 : am_chkC am_LT5 ([]) true false prog_7_method_16_code.data.toList 0 am_rw80 = true := by decide +kernel
theorem am_ph80 : am_Phi am_P am_rc81 := am_PhiN (TH := []) am_LTok5 (fun _ h => by cases h) (by decide +kernel) am_ck80
theorem am_ck81 : am_chkC am_LT5 ([]) true false prog_7_method_17_code.data.toList 0 am_rw81 = true := by decide +kernel
theorem am_ph81 : am_Phi am_P am_rc82 := am_PhiN (TH := []) am_LTok5 (fun _ h => by cases h) (by decide +kernel) am_ck81
theorem am_ck82 : am_chkC am_LT5 ([]) true false prog_7_method_18_code.data.toList 0 am_rw82 = true := by decide +kernel
theorem am_ph82 : am_Phi am_P am_rc83 := am_PhiN (TH := []) am_LTok5 (fun _ h => by cases h) (by decide +kernel) am_ck82
theorem am_ck83 : am_chkC am_LT5 ([]) true false prog_7_method_19_code.data.toList 0 am_rw83 = true := by decide +kernel
theorem am_ph83 : am_Phi am_P am_rc84 := am_PhiN (TH := []) am_LTok5 (fun _ h => by cases h) (by decide +kernel) am_ck83
theorem am_ck84 : am_chkC am_LT5 ([]) true false prog_7_method_20_code.data.toList 0 am_rw84 = true := by decide +kernel
theorem am_ph84 : am_Phi am_P am_rc85 := am_PhiN (TH := []) am_LTok5 (fun _ h => by cases h) (by decide +kernel) am_ck84
theorem am_ck85 : am_chkC am_LT5 ([]) true false prog_7_method_21_code.data.toList 0 am_rw85 = true := by decide +kernel
theorem am_ph85 : am_Phi am_P am_rc86 := am_PhiN (TH := []) am_LTok5 (fun _ h => by cases h) (by decide +kernel) am_ck85
theorem am_ck86 : am_chkC am_LT5 ([]) true false prog_7_method_22_code.data.toList 0 am_rw86 = true := by decide +kernel
theorem am_ph86 : am_Phi am_P am_rc87 := am_PhiN (TH := []) am_LTok5 (fun _ h => by cases h) (by decide +kernel) am_ck86
theorem am_ck87 : am_chkC am_LT5 ([]) true false prog_7_method_23_code.data.toList 0 am_rw87 = true := by decide +kernel
theorem am_ph87 : am_Phi am_P am_rc88 := am_PhiN (TH := []) am_LTok5 (fun _ h => by cases h) (by decide +kernel) am_ck87
theorem am_ck88 : am_chkC am_LT5 ([]) true false prog_7_method_24_code.data.toList 0 am_rw88 = true := by decide +kernel
theorem am_ph88 : am_Phi am_P am_rc89 := am_PhiN (TH := []) am_LTok5 (fun _ h => by cases h) (by decide +kernel) am_ck88
theorem am_ck89 : am_chkC am_LT5 ([]) true false prog_7_method_25_code.data.toList 0 am_rw89 = true := by decide +kernel
theorem am_ph89 : am_Phi am_P am_rc90 := am_PhiN (TH := []) am_LTok5 (fun _ h => by cases h) (by decide +kernel) am_ck89
theorem am_ck90 : am_chkC am_LT5 ([]) true false prog_7_method_26_code.data.toList 0 am_rw90 = true := by decide +kernel
theorem am_ph90 : am_Phi am_P am_rc91 := am_PhiN (TH := []) am_LTok5 (fun _ h => by cases h) (by decide +kernel) am_ck90
theorem am_ck91 : am_chkC am_LT5 ([]) true false prog_7_method_27_code.data.toList 0 am_rw91 = true := by decide +kernel
theorem am_ph91 : am_Phi am_P am_rc92 := am_PhiN (TH := []) am_LTok5 (fun _ h => by cases h) (by decide +kernel) am_ck91
