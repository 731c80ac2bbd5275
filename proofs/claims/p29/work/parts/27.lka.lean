/-! what the classes' code points at -/
theorem am_lt_of_ble {n m : Nat} (h : Nat.ble n m = false) : m < n := by
  rcases Nat.lt_or_ge m n with q | q
  · exact q
  · rw [Nat.ble_eq_true_of_le q] at h; cases h
theorem am_gfN {P : am_PG} {own : String} {idx a b : Nat} (ha : Nat.ble 12 a = false) (hb : Nat.ble (am_nf a) b = false) (h : Jvm.Cond.fieldLink own idx (am_T a b).1 (am_T a b).2.1 (am_T a b).2.2.1 ∈ lw_tblG) : am_ltP P own (0, idx, a, b, 0) := Or.inl ⟨am_lt_of_ble ha, am_lt_of_ble hb, Or.inl ⟨rfl, h⟩⟩
theorem am_gfX {P : am_PG} {own host : String} {idx a b : Nat} (ha : Nat.ble 12 a = false) (hb : Nat.ble (am_nf a) b = false) (h : Jvm.Cond.fieldLinkNest own idx (am_T a b).1 (am_T a b).2.1 (am_T a b).2.2.1 host ∈ lw_tblG) : am_ltP P own (0, idx, a, b, 1) := Or.inl ⟨am_lt_of_ble ha, am_lt_of_ble hb, Or.inr ⟨rfl, host, h⟩⟩
theorem am_gfS {P : am_PG} {own : String} {idx b : Nat} (hb : Nat.ble 2 b = false) (h : Jvm.Cond.fieldLink own idx "java/lang/String" (am_strf b).1 (am_strf b).2 ∈ lw_tblG) : am_ltP P own (0, idx, 50, b, 0) := Or.inr ⟨rfl, am_lt_of_ble hb, h⟩
theorem am_pfN {P : am_PG} {own : String} {idx a b : Nat} (ha : Nat.ble 12 a = false) (hb : Nat.ble (am_nf a) b = false) (h : Jvm.Cond.fieldLink own idx (am_T a b).1 (am_T a b).2.1 (am_T a b).2.2.1 ∈ lw_tblG) (hf : (am_T a b).2.2.2 = false) : am_ltP P own (11, idx, a, b, 0) := fun ini => ⟨am_lt_of_ble ha, am_lt_of_ble hb, Or.inl ⟨rfl, h, fun q => by rw [hf] at q; cases q⟩⟩
theorem am_pfX {P : am_PG} {own host : String} {idx a b : Nat} (ha : Nat.ble 12 a = false) (hb : Nat.ble (am_nf a) b = false) (h : Jvm.Cond.fieldLinkNest own idx (am_T a b).1 (am_T a b).2.1 (am_T a b).2.2.1 host ∈ lw_tblG) (hf : (am_T a b).2.2.2 = false) : am_ltP P own (11, idx, a, b, 1) := fun ini => ⟨am_lt_of_ble ha, am_lt_of_ble hb, Or.inr ⟨rfl, hf, host, h⟩⟩
theorem am_pfF {P : am_PG} {own : String} {idx a b : Nat} (ha : Nat.ble 12 a = false) (hb : Nat.ble (am_nf a) b = false) (h : Jvm.Cond.fieldLink own idx (am_T a b).1 (am_T a b).2.1 (am_T a b).2.2.1 ∈ lw_tblG) (hf : (am_T a b).1 = own) : am_ltP P own (12, idx, a, b, 0) := ⟨am_lt_of_ble ha, am_lt_of_ble hb, Or.inl ⟨rfl, h, fun _ => ⟨rfl, hf⟩⟩⟩
theorem am_nwN {P : am_PG} {own : String} {idx a : Nat} (ha : Nat.ble 12 a = false) (h1 : Jvm.Cond.classLink own idx (am_C a) ∈ lw_tblG) (h2 : Jvm.Cond.instantiable (am_C a) (am_nf a) ∈ lw_tblG) (h3 : Jvm.Cond.initialized (am_C a) ∈ lw_tblG) : am_ltP P own (4, idx, a, 0, 0) := ⟨am_lt_of_ble ha, h1, h2, h3⟩
theorem am_lcN {P : am_PG} {own : String} {idx : Nat} {z : Int} (h : Jvm.Cond.constant own idx (Int32.ofInt z) ∈ lw_tblG) : am_ltP P own (5, idx, 0, 0, z) := Or.inl ⟨rfl, h⟩
theorem am_lcW {P : am_PG} {own : String} {idx : Nat} {z : Int} (h : Jvm.Cond.constant own idx (Int32.ofInt z) ∈ lw_tblG) : am_ltP P own (6, idx, 0, 0, z) := h
theorem am_lcL {P : am_PG} {own : String} {idx : Nat} {z : Int} (h : Jvm.Cond.constantLong own idx (Int64.ofInt z) ∈ lw_tblG) : am_ltP P own (7, idx, 0, 0, z) := h
theorem am_lcS {P : am_PG} {own : String} {idx a : Nat} {tx : String} (h : (own, idx, tx, a) ∈ am_strs) : am_ltP P own (5, idx, a, 1, 0) := Or.inr ⟨Nat.one_ne_zero, tx, h⟩
theorem am_pr900 {own : String} {idx : Nat} (h : Jvm.Cond.methodLink own idx Lib.Math.max.name ∈ lw_tblG) : am_ltP am_P own (9, idx, 900, 0, 0) := ⟨Nat.le_of_ble_eq_true rfl, rfl, h, (am_tw4 (i := 26) rfl rfl), (am_tw1 (i := 22) rfl rfl), (am_tw4 (i := 27) rfl rfl)⟩
theorem am_pr901 {own : String} {idx : Nat} (h : Jvm.Cond.methodLink own idx Lib.Math.min.name ∈ lw_tblG) : am_ltP am_P own (9, idx, 901, 0, 0) := ⟨Nat.le_of_ble_eq_true rfl, rfl, h, (am_tw4 (i := 29) rfl rfl), (am_tw1 (i := 22) rfl rfl), (am_tw4 (i := 30) rfl rfl)⟩
theorem am_pr903 {own : String} {idx : Nat} (h : Jvm.Cond.methodLink own idx Lib.objectInit ∈ lw_tblG) : am_ltP am_P own (10, idx, 903, 0, 0) := ⟨Nat.le_of_ble_eq_true rfl, rfl, h, (am_tw1 (i := 38) rfl rfl), (am_tw1 (i := 39) rfl rfl)⟩
theorem am_pr904 {own : String} {idx : Nat} (h : Jvm.Cond.methodLink own idx arraycopyName ∈ lw_tblG) : am_ltP am_P own (9, idx, 904, 0, 0) := ⟨Nat.le_of_ble_eq_true rfl, rfl, h, (am_tw6 (i := 108) rfl rfl), (am_tw6 (i := 107) rfl rfl), (am_tw1 (i := 29) rfl rfl)⟩
theorem am_l0_0_0 : am_ltP am_P "DelegationShop$Code" (0, 9, 0, 0, 0) := am_gfN rfl rfl (am_tw1 (i := 159) rfl rfl)
theorem am_l0_0_1 : am_ltP am_P "DelegationShop$Code" (0, 13, 0, 1, 0) := am_gfN rfl rfl (am_tw1 (i := 161) rfl rfl)
theorem am_l0_0_2 : am_ltP am_P "DelegationShop$Code" (0, 16, 0, 3, 0) := am_gfN rfl rfl (am_tw1 (i := 166) rfl rfl)
theorem am_l0_0_3 : am_ltP am_P "DelegationShop$Code" (0, 19, 0, 4, 0) := am_gfN rfl rfl (am_tw1 (i := 167) rfl rfl)
theorem am_l0_0_4 : am_ltP am_P "DelegationShop$Code" (0, 22, 0, 5, 0) := am_gfN rfl rfl (am_tw1 (i := 170) rfl rfl)
theorem am_l0_0_5 : am_ltP am_P "DelegationShop$Code" (0, 25, 0, 7, 0) := am_gfN rfl rfl (am_tw1 (i := 174) rfl rfl)
theorem am_l0_0_6 : am_ltP am_P "DelegationShop$Code" (0, 28, 0, 8, 0) := am_gfN rfl rfl (am_tw1 (i := 175) rfl rfl)
theorem am_l0_0_7 : am_ltP am_P "DelegationShop$Code" (0, 31, 0, 9, 0) := am_gfN rfl rfl (am_tw1 (i := 177) rfl rfl)
theorem am_l0_0_8 : am_ltP am_P "DelegationShop$Code" (0, 34, 0, 10, 0) := am_gfN rfl rfl (am_tw1 (i := 179) rfl rfl)
theorem am_l0_0_9 : am_ltP am_P "DelegationShop$Code" (0, 37, 0, 2, 0) := am_gfN rfl rfl (am_tw1 (i := 163) rfl rfl)
theorem am_l0_0_10 : am_ltP am_P "DelegationShop$Code" (0, 41, 0, 6, 0) := am_gfN rfl rfl (am_tw1 (i := 173) rfl rfl)
theorem am_l0_0_11 : am_ltP am_P "DelegationShop$Code" (0, 44, 0, 11, 0) := am_gfN rfl rfl (am_tw1 (i := 180) rfl rfl)
theorem am_l0_0_12 : am_ltP am_P "DelegationShop$Code" (10, 1, 903, 0, 0) := am_pr903 (am_tw1 (i := 158) rfl rfl)
theorem am_l0_0_13 : am_ltP am_P "DelegationShop$Code" (11, 37, 0, 2, 0) := am_pfN rfl rfl (am_tw1 (i := 163) rfl rfl) rfl
theorem am_l0_0_14 : am_ltP am_P "DelegationShop$Code" (11, 41, 0, 6, 0) := am_pfN rfl rfl (am_tw1 (i := 173) rfl rfl) rfl
theorem am_l0_0_15 : am_ltP am_P "DelegationShop$Code" (11, 44, 0, 11, 0) := am_pfN rfl rfl (am_tw1 (i := 180) rfl rfl) rfl
theorem am_l0_0_16 : am_ltP am_P "DelegationShop$Code" (12, 9, 0, 0, 0) := am_pfF rfl rfl (am_tw1 (i := 159) rfl rfl) rfl
theorem am_l0_0_17 : am_ltP am_P "DelegationShop$Code" (12, 13, 0, 1, 0) := am_pfF rfl rfl (am_tw1 (i := 161) rfl rfl) rfl
theorem am_l0_0_18 : am_ltP am_P "DelegationShop$Code" (12, 16, 0, 3, 0) := am_pfF rfl rfl (am_tw1 (i := 166) rfl rfl) rfl
theorem am_l0_0_19 : am_ltP am_P "DelegationShop$Code" (12, 19, 0, 4, 0) := am_pfF rfl rfl (am_tw1 (i := 167) rfl rfl) rfl
def am_LT0_0 : List am_LE := [(0, 9, 0, 0, 0), (0, 13, 0, 1, 0), (0, 16, 0, 3, 0), (0, 19, 0, 4, 0), (0, 22, 0, 5, 0), (0, 25, 0, 7, 0), (0, 28, 0, 8, 0), (0, 31, 0, 9, 0), (0, 34, 0, 10, 0), (0, 37, 0, 2, 0), (0, 41, 0, 6, 0), (0, 44, 0, 11, 0), (10, 1, 903, 0, 0), (11, 37, 0, 2, 0), (11, 41, 0, 6, 0), (11, 44, 0, 11, 0), (12, 9, 0, 0, 0), (12, 13, 0, 1, 0), (12, 16, 0, 3, 0), (12, 19, 0, 4, 0)]
theorem am_LTo0_0 : ∀ x ∈ am_LT0_0, am_ltP am_P "DelegationShop$Code" x := List.forall_mem_cons.mpr ⟨am_l0_0_0, List.forall_mem_cons.mpr ⟨am_l0_0_1, List.forall_mem_cons.mpr ⟨am_l0_0_2, List.forall_mem_cons.mpr ⟨am_l0_0_3, List.forall_mem_cons.mpr ⟨am_l0_0_4, List.forall_mem_cons.mpr ⟨am_l0_0_5, List.forall_mem_cons.mpr ⟨am_l0_0_6, List.forall_mem_cons.mpr ⟨am_l0_0_7, List.forall_mem_cons.mpr ⟨am_l0_0_8, List.forall_mem_cons.mpr ⟨am_l0_0_9, List.forall_mem_cons.mpr ⟨am_l0_0_10, List.forall_mem_cons.mpr ⟨am_l0_0_11, List.forall_mem_cons.mpr ⟨am_l0_0_12, List.forall_mem_cons.mpr ⟨am_l0_0_13, List.forall_mem_cons.mpr ⟨am_l0_0_14, List.forall_mem_cons.mpr ⟨am_l0_0_15, List.forall_mem_cons.mpr ⟨am_l0_0_16, List.forall_mem_cons.mpr ⟨am_l0_0_17, List.forall_mem_cons.mpr ⟨am_l0_0_18, List.forall_mem_cons.mpr ⟨am_l0_0_19, fun _ h => by cases h⟩⟩⟩⟩⟩⟩⟩⟩⟩⟩⟩⟩⟩⟩⟩⟩⟩⟩⟩⟩
theorem am_l0_1_0 : am_ltP am_P "DelegationShop$Code" (12, 22, 0, 5, 0) := am_pfF rfl rfl (am_tw1 (i := 170) rfl rfl) rfl
theorem am_l0_1_1 : am_ltP am_P "DelegationShop$Code" (12, 25, 0, 7, 0) := am_pfF rfl rfl (am_tw1 (i := 174) rfl rfl) rfl
theorem am_l0_1_2 : am_ltP am_P "DelegationShop$Code" (12, 28, 0, 8, 0) := am_pfF rfl rfl (am_tw1 (i := 175) rfl rfl) rfl
theorem am_l0_1_3 : am_ltP am_P "DelegationShop$Code" (12, 31, 0, 9, 0) := am_pfF rfl rfl (am_tw1 (i := 177) rfl rfl) rfl
theorem am_l0_1_4 : am_ltP am_P "DelegationShop$Code" (12, 34, 0, 10, 0) := am_pfF rfl rfl (am_tw1 (i := 179) rfl rfl) rfl
def am_LT0_1 : List am_LE := [(12, 22, 0, 5, 0), (12, 25, 0, 7, 0), (12, 28, 0, 8, 0), (12, 31, 0, 9, 0), (12, 34, 0, 10, 0)]
theorem am_LTo0_1 : ∀ x ∈ am_LT0_1, am_ltP am_P "DelegationShop$Code" x := List.forall_mem_cons.mpr ⟨am_l0_1_0, List.forall_mem_cons.mpr ⟨am_l0_1_1, List.forall_mem_cons.mpr ⟨am_l0_1_2, List.forall_mem_cons.mpr ⟨am_l0_1_3, List.forall_mem_cons.mpr ⟨am_l0_1_4, fun _ h => by cases h⟩⟩⟩⟩⟩
def am_LT0 : List am_LE := am_LT0_0 ++ (am_LT0_1)
theorem am_LTok0 : ∀ x ∈ am_LT0, am_ltP am_P "DelegationShop$Code" x := fun x h => (List.mem_append.mp h).elim (fun h => am_LTo0_0 x h) (fun h => am_LTo0_1 x h)
theorem am_l1_0_0 : am_ltP am_P "DelegationShop$Compiler" (0, 12, 1, 0, 0) := am_gfN rfl rfl (am_tw2 (i := 35) rfl rfl)
theorem am_l1_0_1 : am_ltP am_P "DelegationShop$Compiler" (0, 21, 1, 1, 0) := am_gfN rfl rfl (am_tw2 (i := 37) rfl rfl)
theorem am_l1_0_2 : am_ltP am_P "DelegationShop$Compiler" (0, 25, 8, 0, 1) := am_gfX rfl rfl (am_tw1 (i := 207) rfl rfl)
theorem am_l1_0_3 : am_ltP am_P "DelegationShop$Compiler" (0, 29, 1, 2, 0) := am_gfN rfl rfl (am_tw2 (i := 39) rfl rfl)
theorem am_l1_0_4 : am_ltP am_P "DelegationShop$Compiler" (0, 30, 1, 3, 0) := am_gfN rfl rfl (am_tw2 (i := 40) rfl rfl)
theorem am_l1_0_5 : am_ltP am_P "DelegationShop$Compiler" (0, 34, 1, 4, 0) := am_gfN rfl rfl (am_tw2 (i := 41) rfl rfl)
theorem am_l1_0_6 : am_ltP am_P "DelegationShop$Compiler" (0, 54, 7, 8, 1) := am_gfX rfl rfl (am_tw1 (i := 114) rfl rfl)
theorem am_l1_0_7 : am_ltP am_P "DelegationShop$Compiler" (0, 68, 8, 4, 1) := am_gfX rfl rfl (am_tw1 (i := 220) rfl rfl)
theorem am_l1_0_8 : am_ltP am_P "DelegationShop$Compiler" (0, 71, 7, 10, 1) := am_gfX rfl rfl (am_tw1 (i := 119) rfl rfl)
theorem am_l1_0_9 : am_ltP am_P "DelegationShop$Compiler" (0, 79, 1, 6, 0) := am_gfN rfl rfl (am_tw2 (i := 43) rfl rfl)
theorem am_l1_0_10 : am_ltP am_P "DelegationShop$Compiler" (0, 82, 8, 1, 1) := am_gfX rfl rfl (am_tw1 (i := 210) rfl rfl)
theorem am_l1_0_11 : am_ltP am_P "DelegationShop$Compiler" (0, 85, 8, 3, 1) := am_gfX rfl rfl (am_tw1 (i := 216) rfl rfl)
theorem am_l1_0_12 : am_ltP am_P "DelegationShop$Compiler" (0, 88, 0, 2, 1) := am_gfX rfl rfl (am_tw1 (i := 165) rfl rfl)
theorem am_l1_0_13 : am_ltP am_P "DelegationShop$Compiler" (0, 93, 1, 5, 0) := am_gfN rfl rfl (am_tw2 (i := 42) rfl rfl)
theorem am_l1_0_14 : am_ltP am_P "DelegationShop$Compiler" (0, 100, 8, 2, 1) := am_gfX rfl rfl (am_tw1 (i := 213) rfl rfl)
theorem am_l1_0_15 : am_ltP am_P "DelegationShop$Compiler" (0, 134, 7, 9, 1) := am_gfX rfl rfl (am_tw1 (i := 118) rfl rfl)
theorem am_l1_0_16 : am_ltP am_P "DelegationShop$Compiler" (0, 197, 0, 4, 1) := am_gfX rfl rfl (am_tw1 (i := 168) rfl rfl)
theorem am_l1_0_17 : am_ltP am_P "DelegationShop$Compiler" (0, 200, 0, 5, 1) := am_gfX rfl rfl (am_tw1 (i := 171) rfl rfl)
theorem am_l1_0_18 : am_ltP am_P "DelegationShop$Compiler" (0, 231, 8, 10, 1) := am_gfX rfl rfl (am_tw1 (i := 232) rfl rfl)
theorem am_l1_0_19 : am_ltP am_P "DelegationShop$Compiler" (0, 234, 8, 7, 1) := am_gfX rfl rfl (am_tw1 (i := 225) rfl rfl)
def am_LT1_0 : List am_LE := [(0, 12, 1, 0, 0), (0, 21, 1, 1, 0), (0, 25, 8, 0, 1), (0, 29, 1, 2, 0), (0, 30, 1, 3, 0), (0, 34, 1, 4, 0), (0, 54, 7, 8, 1), (0, 68, 8, 4, 1), (0, 71, 7, 10, 1), (0, 79, 1, 6, 0), (0, 82, 8, 1, 1), (0, 85, 8, 3, 1), (0, 88, 0, 2, 1), (0, 93, 1, 5, 0), (0, 100, 8, 2, 1), (0, 134, 7, 9, 1), (0, 197, 0, 4, 1), (0, 200, 0, 5, 1), (0, 231, 8, 10, 1), (0, 234, 8, 7, 1)]
theorem am_LTo1_0 : ∀ x ∈ am_LT1_0, am_ltP am_P "DelegationShop$Compiler" x := List.forall_mem_cons.mpr ⟨am_l1_0_0, List.forall_mem_cons.mpr ⟨am_l1_0_1, List.forall_mem_cons.mpr ⟨am_l1_0_2, List.forall_mem_cons.mpr ⟨am_l1_0_3, List.forall_mem_cons.mpr ⟨am_l1_0_4, List.forall_mem_cons.mpr ⟨am_l1_0_5, List.forall_mem_cons.mpr ⟨am_l1_0_6, List.forall_mem_cons.mpr ⟨am_l1_0_7, List.forall_mem_cons.mpr ⟨am_l1_0_8, List.forall_mem_cons.mpr ⟨am_l1_0_9, List.forall_mem_cons.mpr ⟨am_l1_0_10, List.forall_mem_cons.mpr ⟨am_l1_0_11, List.forall_mem_cons.mpr ⟨am_l1_0_12, List.forall_mem_cons.mpr ⟨am_l1_0_13, List.forall_mem_cons.mpr ⟨am_l1_0_14, List.forall_mem_cons.mpr ⟨am_l1_0_15, List.forall_mem_cons.mpr ⟨am_l1_0_16, List.forall_mem_cons.mpr ⟨am_l1_0_17, List.forall_mem_cons.mpr ⟨am_l1_0_18, List.forall_mem_cons.mpr ⟨am_l1_0_19, fun _ h => by cases h⟩⟩⟩⟩⟩⟩⟩⟩⟩⟩⟩⟩⟩⟩⟩⟩⟩⟩⟩⟩
theorem am_l1_1_0 : am_ltP am_P "DelegationShop$Compiler" (0, 237, 8, 8, 1) := am_gfX rfl rfl (am_tw1 (i := 228) rfl rfl)
theorem am_l1_1_1 : am_ltP am_P "DelegationShop$Compiler" (0, 240, 8, 9, 1) := am_gfX rfl rfl (am_tw1 (i := 230) rfl rfl)
theorem am_l1_1_2 : am_ltP am_P "DelegationShop$Compiler" (0, 255, 8, 14, 1) := am_gfX rfl rfl (am_tw2 (i := 3) rfl rfl)
theorem am_l1_1_3 : am_ltP am_P "DelegationShop$Compiler" (0, 258, 8, 11, 1) := am_gfX rfl rfl (am_tw1 (i := 235) rfl rfl)
theorem am_l1_1_4 : am_ltP am_P "DelegationShop$Compiler" (0, 261, 8, 13, 1) := am_gfX rfl rfl (am_tw2 (i := 1) rfl rfl)
theorem am_l1_1_5 : am_ltP am_P "DelegationShop$Compiler" (0, 264, 8, 12, 1) := am_gfX rfl rfl (am_tw1 (i := 238) rfl rfl)
theorem am_l1_1_6 : am_ltP am_P "DelegationShop$Compiler" (1, 38, 129, 0, 0) := am_lm129 (Or.inr ⟨_, (am_tw3 (i := 209) rfl rfl)⟩)
theorem am_l1_1_7 : am_ltP am_P "DelegationShop$Compiler" (1, 41, 117, 0, 0) := am_lm117 (Or.inr ⟨_, (am_tw3 (i := 218) rfl rfl)⟩)
theorem am_l1_1_8 : am_ltP am_P "DelegationShop$Compiler" (1, 44, 13, 0, 0) := am_lm13 (Or.inl (am_tw4 (i := 73) rfl rfl))
theorem am_l1_1_9 : am_ltP am_P "DelegationShop$Compiler" (1, 62, 123, 0, 0) := am_lm123 (Or.inr ⟨_, (am_tw4 (i := 150) rfl rfl)⟩)
theorem am_l1_1_10 : am_ltP am_P "DelegationShop$Compiler" (1, 65, 14, 0, 0) := am_lm14 (Or.inl (am_tw4 (i := 77) rfl rfl))
theorem am_l1_1_11 : am_ltP am_P "DelegationShop$Compiler" (1, 75, 130, 0, 0) := am_lm130 (Or.inr ⟨_, (am_tw4 (i := 151) rfl rfl)⟩)
theorem am_l1_1_12 : am_ltP am_P "DelegationShop$Compiler" (1, 96, 12, 0, 0) := am_lm12 (Or.inl (am_tw4 (i := 155) rfl rfl))
theorem am_l1_1_13 : am_ltP am_P "DelegationShop$Compiler" (1, 103, 15, 0, 0) := am_lm15 (Or.inl (am_tw4 (i := 159) rfl rfl))
theorem am_l1_1_14 : am_ltP am_P "DelegationShop$Compiler" (1, 107, 11, 0, 0) := am_lm11 (Or.inl (am_tw4 (i := 175) rfl rfl))
theorem am_l1_1_15 : am_ltP am_P "DelegationShop$Compiler" (1, 111, 20, 0, 0) := am_lm20 (Or.inl (am_tw4 (i := 179) rfl rfl))
theorem am_l1_1_16 : am_ltP am_P "DelegationShop$Compiler" (1, 114, 3, 0, 0) := am_lm3 (Or.inr ⟨_, (am_tw4 (i := 191) rfl rfl)⟩)
theorem am_l1_1_17 : am_ltP am_P "DelegationShop$Compiler" (1, 118, 16, 0, 0) := am_lm16 (Or.inl (am_tw4 (i := 163) rfl rfl))
theorem am_l1_1_18 : am_ltP am_P "DelegationShop$Compiler" (1, 121, 17, 0, 0) := am_lm17 (Or.inl (am_tw4 (i := 171) rfl rfl))
theorem am_l1_1_19 : am_ltP am_P "DelegationShop$Compiler" (1, 124, 18, 0, 0) := am_lm18 (Or.inl (am_tw4 (i := 167) rfl rfl))
def am_LT1_1 : List am_LE := [(0, 237, 8, 8, 1), (0, 240, 8, 9, 1), (0, 255, 8, 14, 1), (0, 258, 8, 11, 1), (0, 261, 8, 13, 1), (0, 264, 8, 12, 1), (1, 38, 129, 0, 0), (1, 41, 117, 0, 0), (1, 44, 13, 0, 0), (1, 62, 123, 0, 0), (1, 65, 14, 0, 0), (1, 75, 130, 0, 0), (1, 96, 12, 0, 0), (1, 103, 15, 0, 0), (1, 107, 11, 0, 0), (1, 111, 20, 0, 0), (1, 114, 3, 0, 0), (1, 118, 16, 0, 0), (1, 121, 17, 0, 0), (1, 124, 18, 0, 0)]
theorem am_LTo1_1 : ∀ x ∈ am_LT1_1, am_ltP am_P "DelegationShop$Compiler" x := List.forall_mem_cons.mpr ⟨am_l1_1_0, List.forall_mem_cons.mpr ⟨am_l1_1_1, List.forall_mem_cons.mpr ⟨am_l1_1_2, List.forall_mem_cons.mpr ⟨am_l1_1_3, List.forall_mem_cons.mpr ⟨am_l1_1_4, List.forall_mem_cons.mpr ⟨am_l1_1_5, List.forall_mem_cons.mpr ⟨am_l1_1_6, List.forall_mem_cons.mpr ⟨am_l1_1_7, List.forall_mem_cons.mpr ⟨am_l1_1_8, List.forall_mem_cons.mpr ⟨am_l1_1_9, List.forall_mem_cons.mpr ⟨am_l1_1_10, List.forall_mem_cons.mpr ⟨am_l1_1_11, List.forall_mem_cons.mpr ⟨am_l1_1_12, List.forall_mem_cons.mpr ⟨am_l1_1_13, List.forall_mem_cons.mpr ⟨am_l1_1_14, List.forall_mem_cons.mpr ⟨am_l1_1_15, List.forall_mem_cons.mpr ⟨am_l1_1_16, List.forall_mem_cons.mpr ⟨am_l1_1_17, List.forall_mem_cons.mpr ⟨am_l1_1_18, List.forall_mem_cons.mpr ⟨am_l1_1_19, fun _ h => by cases h⟩⟩⟩⟩⟩⟩⟩⟩⟩⟩⟩⟩⟩⟩⟩⟩⟩⟩⟩⟩
theorem am_l1_2_0 : am_ltP am_P "DelegationShop$Compiler" (1, 128, 21, 0, 0) := am_lm21 (Or.inl (am_tw4 (i := 183) rfl rfl))
theorem am_l1_2_1 : am_ltP am_P "DelegationShop$Compiler" (1, 131, 22, 0, 0) := am_lm22 (Or.inl (am_tw4 (i := 187) rfl rfl))
theorem am_l1_2_2 : am_ltP am_P "DelegationShop$Compiler" (1, 137, 23, 0, 0) := am_lm23 (Or.inl (am_tw4 (i := 195) rfl rfl))
theorem am_l1_2_3 : am_ltP am_P "DelegationShop$Compiler" (1, 140, 25, 0, 0) := am_lm25 (Or.inl (am_tw5 (i := 26) rfl rfl))
theorem am_l1_2_4 : am_ltP am_P "DelegationShop$Compiler" (1, 143, 26, 0, 0) := am_lm26 (Or.inl (am_tw5 (i := 30) rfl rfl))
theorem am_l1_2_5 : am_ltP am_P "DelegationShop$Compiler" (1, 146, 27, 0, 0) := am_lm27 (Or.inl (am_tw5 (i := 34) rfl rfl))
theorem am_l1_2_6 : am_ltP am_P "DelegationShop$Compiler" (1, 149, 28, 0, 0) := am_lm28 (Or.inl (am_tw5 (i := 38) rfl rfl))
theorem am_l1_2_7 : am_ltP am_P "DelegationShop$Compiler" (1, 152, 29, 0, 0) := am_lm29 (Or.inl (am_tw5 (i := 42) rfl rfl))
theorem am_l1_2_8 : am_ltP am_P "DelegationShop$Compiler" (1, 155, 30, 0, 0) := am_lm30 (Or.inl (am_tw5 (i := 46) rfl rfl))
theorem am_l1_2_9 : am_ltP am_P "DelegationShop$Compiler" (1, 158, 31, 0, 0) := am_lm31 (Or.inl (am_tw5 (i := 50) rfl rfl))
theorem am_l1_2_10 : am_ltP am_P "DelegationShop$Compiler" (1, 161, 32, 0, 0) := am_lm32 (Or.inl (am_tw5 (i := 56) rfl rfl))
theorem am_l1_2_11 : am_ltP am_P "DelegationShop$Compiler" (1, 164, 24, 0, 0) := am_lm24 (Or.inl (am_tw5 (i := 72) rfl rfl))
theorem am_l1_2_12 : am_ltP am_P "DelegationShop$Compiler" (1, 167, 34, 0, 0) := am_lm34 (Or.inl (am_tw4 (i := 199) rfl rfl))
theorem am_l1_2_13 : am_ltP am_P "DelegationShop$Compiler" (1, 170, 124, 0, 0) := am_lm124 (Or.inr ⟨_, (am_tw5 (i := 76) rfl rfl)⟩)
theorem am_l1_2_14 : am_ltP am_P "DelegationShop$Compiler" (1, 174, 19, 0, 0) := am_lm19 (Or.inl (am_tw5 (i := 19) rfl rfl))
theorem am_l1_2_15 : am_ltP am_P "DelegationShop$Compiler" (1, 177, 42, 0, 0) := am_lm42 (Or.inl (am_tw4 (i := 231) rfl rfl))
theorem am_l1_2_16 : am_ltP am_P "DelegationShop$Compiler" (1, 181, 43, 0, 0) := am_lm43 (Or.inl (am_tw4 (i := 235) rfl rfl))
theorem am_l1_2_17 : am_ltP am_P "DelegationShop$Compiler" (1, 184, 4, 0, 0) := am_lm4 (Or.inr ⟨_, (am_tw5 (i := 11) rfl rfl)⟩)
theorem am_l1_2_18 : am_ltP am_P "DelegationShop$Compiler" (1, 191, 5, 0, 0) := am_lm5 (Or.inr ⟨_, (am_tw5 (i := 60) rfl rfl)⟩)
theorem am_l1_2_19 : am_ltP am_P "DelegationShop$Compiler" (1, 194, 33, 0, 0) := am_lm33 (Or.inl (am_tw5 (i := 64) rfl rfl))
def am_LT1_2 : List am_LE := [(1, 128, 21, 0, 0), (1, 131, 22, 0, 0), (1, 137, 23, 0, 0), (1, 140, 25, 0, 0), (1, 143, 26, 0, 0), (1, 146, 27, 0, 0), (1, 149, 28, 0, 0), (1, 152, 29, 0, 0), (1, 155, 30, 0, 0), (1, 158, 31, 0, 0), (1, 161, 32, 0, 0), (1, 164, 24, 0, 0), (1, 167, 34, 0, 0), (1, 170, 124, 0, 0), (1, 174, 19, 0, 0), (1, 177, 42, 0, 0), (1, 181, 43, 0, 0), (1, 184, 4, 0, 0), (1, 191, 5, 0, 0), (1, 194, 33, 0, 0)]
theorem am_LTo1_2 : ∀ x ∈ am_LT1_2, am_ltP am_P "DelegationShop$Compiler" x := List.forall_mem_cons.mpr ⟨am_l1_2_0, List.forall_mem_cons.mpr ⟨am_l1_2_1, List.forall_mem_cons.mpr ⟨am_l1_2_2, List.forall_mem_cons.mpr ⟨am_l1_2_3, List.forall_mem_cons.mpr ⟨am_l1_2_4, List.forall_mem_cons.mpr ⟨am_l1_2_5, List.forall_mem_cons.mpr ⟨am_l1_2_6, List.forall_mem_cons.mpr ⟨am_l1_2_7, List.forall_mem_cons.mpr ⟨am_l1_2_8, List.forall_mem_cons.mpr ⟨am_l1_2_9, List.forall_mem_cons.mpr ⟨am_l1_2_10, List.forall_mem_cons.mpr ⟨am_l1_2_11, List.forall_mem_cons.mpr ⟨am_l1_2_12, List.forall_mem_cons.mpr ⟨am_l1_2_13, List.forall_mem_cons.mpr ⟨am_l1_2_14, List.forall_mem_cons.mpr ⟨am_l1_2_15, List.forall_mem_cons.mpr ⟨am_l1_2_16, List.forall_mem_cons.mpr ⟨am_l1_2_17, List.forall_mem_cons.mpr ⟨am_l1_2_18, List.forall_mem_cons.mpr ⟨am_l1_2_19, fun _ h => by cases h⟩⟩⟩⟩⟩⟩⟩⟩⟩⟩⟩⟩⟩⟩⟩⟩⟩⟩⟩⟩
theorem am_l1_3_0 : am_ltP am_P "DelegationShop$Compiler" (1, 203, 6, 0, 0) := am_lm6 (Or.inr ⟨_, (am_tw5 (i := 68) rfl rfl)⟩)
theorem am_l1_3_1 : am_ltP am_P "DelegationShop$Compiler" (1, 207, 36, 0, 0) := am_lm36 (Or.inl (am_tw4 (i := 203) rfl rfl))
theorem am_l1_3_2 : am_ltP am_P "DelegationShop$Compiler" (1, 213, 37, 0, 0) := am_lm37 (Or.inl (am_tw4 (i := 207) rfl rfl))
theorem am_l1_3_3 : am_ltP am_P "DelegationShop$Compiler" (1, 216, 38, 0, 0) := am_lm38 (Or.inl (am_tw4 (i := 211) rfl rfl))
theorem am_l1_3_4 : am_ltP am_P "DelegationShop$Compiler" (1, 219, 39, 0, 0) := am_lm39 (Or.inl (am_tw4 (i := 215) rfl rfl))
theorem am_l1_3_5 : am_ltP am_P "DelegationShop$Compiler" (1, 222, 44, 0, 0) := am_lm44 (Or.inl (am_tw4 (i := 219) rfl rfl))
theorem am_l1_3_6 : am_ltP am_P "DelegationShop$Compiler" (1, 225, 40, 0, 0) := am_lm40 (Or.inl (am_tw4 (i := 227) rfl rfl))
theorem am_l1_3_7 : am_ltP am_P "DelegationShop$Compiler" (1, 228, 41, 0, 0) := am_lm41 (Or.inl (am_tw5 (i := 3) rfl rfl))
theorem am_l1_3_8 : am_ltP am_P "DelegationShop$Compiler" (1, 243, 131, 0, 0) := am_lm131 (Or.inr ⟨_, (am_tw4 (i := 239) rfl rfl)⟩)
theorem am_l1_3_9 : am_ltP am_P "DelegationShop$Compiler" (1, 246, 45, 0, 0) := am_lm45 (Or.inl (am_tw4 (i := 223) rfl rfl))
theorem am_l1_3_10 : am_ltP am_P "DelegationShop$Compiler" (1, 249, 47, 0, 0) := am_lm47 (Or.inl (am_tw5 (i := 7) rfl rfl))
theorem am_l1_3_11 : am_ltP am_P "DelegationShop$Compiler" (1, 252, 46, 0, 0) := am_lm46 (Or.inl (am_tw5 (i := 15) rfl rfl))
theorem am_l1_3_12 : am_ltP am_P "DelegationShop$Compiler" (2, 58, 10, 0, 0) := am_lm10 (Or.inl (am_tw4 (i := 81) rfl rfl))
theorem am_l1_3_13 : am_ltP am_P "DelegationShop$Compiler" (2, 210, 35, 0, 0) := am_lm35 (Or.inl (am_tw5 (i := 23) rfl rfl))
theorem am_l1_3_14 : am_ltP am_P "DelegationShop$Compiler" (3, 11, 115, 0, 0) := am_lm115 (Or.inr ⟨_, (am_tw1 (i := 48) rfl rfl)⟩)
theorem am_l1_3_15 : am_ltP am_P "DelegationShop$Compiler" (3, 20, 128, 0, 0) := am_lm128 (Or.inr ⟨_, (am_tw1 (i := 149) rfl rfl)⟩)
theorem am_l1_3_16 : am_ltP am_P "DelegationShop$Compiler" (4, 9, 7, 0, 0) := am_nwN rfl (am_tw1 (i := 46) rfl rfl) (am_tw1 (i := 47) rfl rfl) (am_tw1 (i := 3) rfl rfl)
theorem am_l1_3_17 : am_ltP am_P "DelegationShop$Compiler" (4, 18, 8, 0, 0) := am_nwN rfl (am_tw1 (i := 147) rfl rfl) (am_tw1 (i := 148) rfl rfl) (am_tw1 (i := 8) rfl rfl)
theorem am_l1_3_18 : am_ltP am_P "DelegationShop$Compiler" (7, 187, 0, 0, 20) := am_lcL (am_tw5 (i := 54) (by decide +kernel) rfl)
theorem am_l1_3_19 : am_ltP am_P "DelegationShop$Compiler" (7, 189, 0, 0, 99) := am_lcL (am_tw5 (i := 55) (by decide +kernel) rfl)
def am_LT1_3 : List am_LE := [(1, 203, 6, 0, 0), (1, 207, 36, 0, 0), (1, 213, 37, 0, 0), (1, 216, 38, 0, 0), (1, 219, 39, 0, 0), (1, 222, 44, 0, 0), (1, 225, 40, 0, 0), (1, 228, 41, 0, 0), (1, 243, 131, 0, 0), (1, 246, 45, 0, 0), (1, 249, 47, 0, 0), (1, 252, 46, 0, 0), (2, 58, 10, 0, 0), (2, 210, 35, 0, 0), (3, 11, 115, 0, 0), (3, 20, 128, 0, 0), (4, 9, 7, 0, 0), (4, 18, 8, 0, 0), (7, 187, 0, 0, 20), (7, 189, 0, 0, 99)]
theorem am_LTo1_3 : ∀ x ∈ am_LT1_3, am_ltP am_P "DelegationShop$Compiler" x := List.forall_mem_cons.mpr ⟨am_l1_3_0, List.forall_mem_cons.mpr ⟨am_l1_3_1, List.forall_mem_cons.mpr ⟨am_l1_3_2, List.forall_mem_cons.mpr ⟨am_l1_3_3, List.forall_mem_cons.mpr ⟨am_l1_3_4, List.forall_mem_cons.mpr ⟨am_l1_3_5, List.forall_mem_cons.mpr ⟨am_l1_3_6, List.forall_mem_cons.mpr ⟨am_l1_3_7, List.forall_mem_cons.mpr ⟨am_l1_3_8, List.forall_mem_cons.mpr ⟨am_l1_3_9, List.forall_mem_cons.mpr ⟨am_l1_3_10, List.forall_mem_cons.mpr ⟨am_l1_3_11, List.forall_mem_cons.mpr ⟨am_l1_3_12, List.forall_mem_cons.mpr ⟨am_l1_3_13, List.forall_mem_cons.mpr ⟨am_l1_3_14, List.forall_mem_cons.mpr ⟨am_l1_3_15, List.forall_mem_cons.mpr ⟨am_l1_3_16, List.forall_mem_cons.mpr ⟨am_l1_3_17, List.forall_mem_cons.mpr ⟨am_l1_3_18, List.forall_mem_cons.mpr ⟨am_l1_3_19, fun _ h => by cases h⟩⟩⟩⟩⟩⟩⟩⟩⟩⟩⟩⟩⟩⟩⟩⟩⟩⟩⟩⟩
theorem am_l1_4_0 : am_ltP am_P "DelegationShop$Compiler" (10, 3, 903, 0, 0) := am_pr903 (am_tw1 (i := 45) rfl rfl)
theorem am_l1_4_1 : am_ltP am_P "DelegationShop$Compiler" (11, 21, 1, 1, 0) := am_pfN rfl rfl (am_tw2 (i := 37) rfl rfl) rfl
theorem am_l1_4_2 : am_ltP am_P "DelegationShop$Compiler" (11, 29, 1, 2, 0) := am_pfN rfl rfl (am_tw2 (i := 39) rfl rfl) rfl
theorem am_l1_4_3 : am_ltP am_P "DelegationShop$Compiler" (11, 68, 8, 4, 1) := am_pfX rfl rfl (am_tw1 (i := 220) rfl rfl) rfl
theorem am_l1_4_4 : am_ltP am_P "DelegationShop$Compiler" (11, 79, 1, 6, 0) := am_pfN rfl rfl (am_tw2 (i := 43) rfl rfl) rfl
theorem am_l1_4_5 : am_ltP am_P "DelegationShop$Compiler" (11, 93, 1, 5, 0) := am_pfN rfl rfl (am_tw2 (i := 42) rfl rfl) rfl
theorem am_l1_4_6 : am_ltP am_P "DelegationShop$Compiler" (11, 231, 8, 10, 1) := am_pfX rfl rfl (am_tw1 (i := 232) rfl rfl) rfl
theorem am_l1_4_7 : am_ltP am_P "DelegationShop$Compiler" (11, 255, 8, 14, 1) := am_pfX rfl rfl (am_tw2 (i := 3) rfl rfl) rfl
theorem am_l1_4_8 : am_ltP am_P "DelegationShop$Compiler" (12, 12, 1, 0, 0) := am_pfF rfl rfl (am_tw2 (i := 35) rfl rfl) rfl
theorem am_l1_4_9 : am_ltP am_P "DelegationShop$Compiler" (12, 30, 1, 3, 0) := am_pfF rfl rfl (am_tw2 (i := 40) rfl rfl) rfl
theorem am_l1_4_10 : am_ltP am_P "DelegationShop$Compiler" (12, 34, 1, 4, 0) := am_pfF rfl rfl (am_tw2 (i := 41) rfl rfl) rfl
def am_LT1_4 : List am_LE := [(10, 3, 903, 0, 0), (11, 21, 1, 1, 0), (11, 29, 1, 2, 0), (11, 68, 8, 4, 1), (11, 79, 1, 6, 0), (11, 93, 1, 5, 0), (11, 231, 8, 10, 1), (11, 255, 8, 14, 1), (12, 12, 1, 0, 0), (12, 30, 1, 3, 0), (12, 34, 1, 4, 0)]
theorem am_LTo1_4 : ∀ x ∈ am_LT1_4, am_ltP am_P "DelegationShop$Compiler" x := List.forall_mem_cons.mpr ⟨am_l1_4_0, List.forall_mem_cons.mpr ⟨am_l1_4_1, List.forall_mem_cons.mpr ⟨am_l1_4_2, List.forall_mem_cons.mpr ⟨am_l1_4_3, List.forall_mem_cons.mpr ⟨am_l1_4_4, List.forall_mem_cons.mpr ⟨am_l1_4_5, List.forall_mem_cons.mpr ⟨am_l1_4_6, List.forall_mem_cons.mpr ⟨am_l1_4_7, List.forall_mem_cons.mpr ⟨am_l1_4_8, List.forall_mem_cons.mpr ⟨am_l1_4_9, List.forall_mem_cons.mpr ⟨am_l1_4_10, fun _ h => by cases h⟩⟩⟩⟩⟩⟩⟩⟩⟩⟩⟩
def am_LT1 : List am_LE := am_LT1_0 ++ (am_LT1_1 ++ (am_LT1_2 ++ (am_LT1_3 ++ (am_LT1_4))))
theorem am_LTok1 : ∀ x ∈ am_LT1, am_ltP am_P "DelegationShop$Compiler" x := fun x h => (List.mem_append.mp h).elim (fun h => am_LTo1_0 x h) (fun h => (List.mem_append.mp h).elim (fun h => am_LTo1_1 x h) (fun h => (List.mem_append.mp h).elim (fun h => am_LTo1_2 x h) (fun h => (List.mem_append.mp h).elim (fun h => am_LTo1_3 x h) (fun h => am_LTo1_4 x h))))
theorem am_l2_0_0 : am_ltP am_P "DelegationShop$Frames" (0, 9, 2, 0, 0) := am_gfN rfl rfl (am_tw3 (i := 15) rfl rfl)
theorem am_l2_0_1 : am_ltP am_P "DelegationShop$Frames" (0, 15, 2, 1, 0) := am_gfN rfl rfl (am_tw3 (i := 17) rfl rfl)
theorem am_l2_0_2 : am_ltP am_P "DelegationShop$Frames" (0, 18, 2, 2, 0) := am_gfN rfl rfl (am_tw3 (i := 19) rfl rfl)
theorem am_l2_0_3 : am_ltP am_P "DelegationShop$Frames" (0, 21, 2, 3, 0) := am_gfN rfl rfl (am_tw3 (i := 21) rfl rfl)
theorem am_l2_0_4 : am_ltP am_P "DelegationShop$Frames" (0, 24, 2, 4, 0) := am_gfN rfl rfl (am_tw3 (i := 23) rfl rfl)
theorem am_l2_0_5 : am_ltP am_P "DelegationShop$Frames" (0, 27, 2, 5, 0) := am_gfN rfl rfl (am_tw3 (i := 25) rfl rfl)
theorem am_l2_0_6 : am_ltP am_P "DelegationShop$Frames" (0, 30, 2, 6, 0) := am_gfN rfl rfl (am_tw3 (i := 27) rfl rfl)
theorem am_l2_0_7 : am_ltP am_P "DelegationShop$Frames" (0, 34, 2, 7, 0) := am_gfN rfl rfl (am_tw3 (i := 28) rfl rfl)
theorem am_l2_0_8 : am_ltP am_P "DelegationShop$Frames" (0, 38, 2, 8, 0) := am_gfN rfl rfl (am_tw3 (i := 30) rfl rfl)
theorem am_l2_0_9 : am_ltP am_P "DelegationShop$Frames" (10, 3, 903, 0, 0) := am_pr903 (am_tw3 (i := 14) rfl rfl)
theorem am_l2_0_10 : am_ltP am_P "DelegationShop$Frames" (11, 34, 2, 7, 0) := am_pfN rfl rfl (am_tw3 (i := 28) rfl rfl) rfl
theorem am_l2_0_11 : am_ltP am_P "DelegationShop$Frames" (11, 38, 2, 8, 0) := am_pfN rfl rfl (am_tw3 (i := 30) rfl rfl) rfl
theorem am_l2_0_12 : am_ltP am_P "DelegationShop$Frames" (12, 9, 2, 0, 0) := am_pfF rfl rfl (am_tw3 (i := 15) rfl rfl) rfl
theorem am_l2_0_13 : am_ltP am_P "DelegationShop$Frames" (12, 15, 2, 1, 0) := am_pfF rfl rfl (am_tw3 (i := 17) rfl rfl) rfl
theorem am_l2_0_14 : am_ltP am_P "DelegationShop$Frames" (12, 18, 2, 2, 0) := am_pfF rfl rfl (am_tw3 (i := 19) rfl rfl) rfl
theorem am_l2_0_15 : am_ltP am_P "DelegationShop$Frames" (12, 21, 2, 3, 0) := am_pfF rfl rfl (am_tw3 (i := 21) rfl rfl) rfl
theorem am_l2_0_16 : am_ltP am_P "DelegationShop$Frames" (12, 24, 2, 4, 0) := am_pfF rfl rfl (am_tw3 (i := 23) rfl rfl) rfl
theorem am_l2_0_17 : am_ltP am_P "DelegationShop$Frames" (12, 27, 2, 5, 0) := am_pfF rfl rfl (am_tw3 (i := 25) rfl rfl) rfl
theorem am_l2_0_18 : am_ltP am_P "DelegationShop$Frames" (12, 30, 2, 6, 0) := am_pfF rfl rfl (am_tw3 (i := 27) rfl rfl) rfl
def am_LT2_0 : List am_LE := [(0, 9, 2, 0, 0), (0, 15, 2, 1, 0), (0, 18, 2, 2, 0), (0, 21, 2, 3, 0), (0, 24, 2, 4, 0), (0, 27, 2, 5, 0), (0, 30, 2, 6, 0), (0, 34, 2, 7, 0), (0, 38, 2, 8, 0), (10, 3, 903, 0, 0), (11, 34, 2, 7, 0), (11, 38, 2, 8, 0), (12, 9, 2, 0, 0), (12, 15, 2, 1, 0), (12, 18, 2, 2, 0), (12, 21, 2, 3, 0), (12, 24, 2, 4, 0), (12, 27, 2, 5, 0), (12, 30, 2, 6, 0)]
theorem am_LTo2_0 : ∀ x ∈ am_LT2_0, am_ltP am_P "DelegationShop$Frames" x := List.forall_mem_cons.mpr ⟨am_l2_0_0, List.forall_mem_cons.mpr ⟨am_l2_0_1, List.forall_mem_cons.mpr ⟨am_l2_0_2, List.forall_mem_cons.mpr ⟨am_l2_0_3, List.forall_mem_cons.mpr ⟨am_l2_0_4, List.forall_mem_cons.mpr ⟨am_l2_0_5, List.forall_mem_cons.mpr ⟨am_l2_0_6, List.forall_mem_cons.mpr ⟨am_l2_0_7, List.forall_mem_cons.mpr ⟨am_l2_0_8, List.forall_mem_cons.mpr ⟨am_l2_0_9, List.forall_mem_cons.mpr ⟨am_l2_0_10, List.forall_mem_cons.mpr ⟨am_l2_0_11, List.forall_mem_cons.mpr ⟨am_l2_0_12, List.forall_mem_cons.mpr ⟨am_l2_0_13, List.forall_mem_cons.mpr ⟨am_l2_0_14, List.forall_mem_cons.mpr ⟨am_l2_0_15, List.forall_mem_cons.mpr ⟨am_l2_0_16, List.forall_mem_cons.mpr ⟨am_l2_0_17, List.forall_mem_cons.mpr ⟨am_l2_0_18, fun _ h => by cases h⟩⟩⟩⟩⟩⟩⟩⟩⟩⟩⟩⟩⟩⟩⟩⟩⟩⟩⟩
def am_LT2 : List am_LE := am_LT2_0
theorem am_LTok2 : ∀ x ∈ am_LT2, am_ltP am_P "DelegationShop$Frames" x := fun x h => am_LTo2_0 x h
theorem am_l3_0_0 : am_ltP am_P "DelegationShop$Guards" (0, 11, 3, 0, 0) := am_gfN rfl rfl (am_tw3 (i := 57) rfl rfl)
theorem am_l3_0_1 : am_ltP am_P "DelegationShop$Guards" (0, 15, 3, 1, 0) := am_gfN rfl rfl (am_tw3 (i := 59) rfl rfl)
theorem am_l3_0_2 : am_ltP am_P "DelegationShop$Guards" (0, 18, 3, 2, 0) := am_gfN rfl rfl (am_tw3 (i := 61) rfl rfl)
theorem am_l3_0_3 : am_ltP am_P "DelegationShop$Guards" (0, 21, 3, 3, 0) := am_gfN rfl rfl (am_tw3 (i := 63) rfl rfl)
theorem am_l3_0_4 : am_ltP am_P "DelegationShop$Guards" (0, 24, 3, 5, 0) := am_gfN rfl rfl (am_tw3 (i := 67) rfl rfl)
theorem am_l3_0_5 : am_ltP am_P "DelegationShop$Guards" (0, 27, 3, 6, 0) := am_gfN rfl rfl (am_tw3 (i := 68) rfl rfl)
theorem am_l3_0_6 : am_ltP am_P "DelegationShop$Guards" (0, 30, 3, 7, 0) := am_gfN rfl rfl (am_tw3 (i := 69) rfl rfl)
theorem am_l3_0_7 : am_ltP am_P "DelegationShop$Guards" (0, 33, 3, 8, 0) := am_gfN rfl rfl (am_tw3 (i := 70) rfl rfl)
theorem am_l3_0_8 : am_ltP am_P "DelegationShop$Guards" (0, 37, 3, 9, 0) := am_gfN rfl rfl (am_tw3 (i := 71) rfl rfl)
theorem am_l3_0_9 : am_ltP am_P "DelegationShop$Guards" (0, 40, 3, 4, 0) := am_gfN rfl rfl (am_tw3 (i := 65) rfl rfl)
theorem am_l3_0_10 : am_ltP am_P "DelegationShop$Guards" (0, 44, 3, 10, 0) := am_gfN rfl rfl (am_tw3 (i := 72) rfl rfl)
theorem am_l3_0_11 : am_ltP am_P "DelegationShop$Guards" (0, 47, 3, 11, 0) := am_gfN rfl rfl (am_tw3 (i := 74) rfl rfl)
theorem am_l3_0_12 : am_ltP am_P "DelegationShop$Guards" (0, 50, 3, 12, 0) := am_gfN rfl rfl (am_tw3 (i := 76) rfl rfl)
theorem am_l3_0_13 : am_ltP am_P "DelegationShop$Guards" (0, 53, 3, 13, 0) := am_gfN rfl rfl (am_tw3 (i := 78) rfl rfl)
theorem am_l3_0_14 : am_ltP am_P "DelegationShop$Guards" (0, 57, 3, 14, 0) := am_gfN rfl rfl (am_tw3 (i := 80) rfl rfl)
theorem am_l3_0_15 : am_ltP am_P "DelegationShop$Guards" (1, 60, 54, 0, 0) := am_lm54 (Or.inl (am_tw8 (i := 35) rfl rfl))
theorem am_l3_0_16 : am_ltP am_P "DelegationShop$Guards" (10, 3, 903, 0, 0) := am_pr903 (am_tw3 (i := 56) rfl rfl)
theorem am_l3_0_17 : am_ltP am_P "DelegationShop$Guards" (11, 40, 3, 4, 0) := am_pfN rfl rfl (am_tw3 (i := 65) rfl rfl) rfl
theorem am_l3_0_18 : am_ltP am_P "DelegationShop$Guards" (11, 44, 3, 10, 0) := am_pfN rfl rfl (am_tw3 (i := 72) rfl rfl) rfl
theorem am_l3_0_19 : am_ltP am_P "DelegationShop$Guards" (11, 47, 3, 11, 0) := am_pfN rfl rfl (am_tw3 (i := 74) rfl rfl) rfl
def am_LT3_0 : List am_LE := [(0, 11, 3, 0, 0), (0, 15, 3, 1, 0), (0, 18, 3, 2, 0), (0, 21, 3, 3, 0), (0, 24, 3, 5, 0), (0, 27, 3, 6, 0), (0, 30, 3, 7, 0), (0, 33, 3, 8, 0), (0, 37, 3, 9, 0), (0, 40, 3, 4, 0), (0, 44, 3, 10, 0), (0, 47, 3, 11, 0), (0, 50, 3, 12, 0), (0, 53, 3, 13, 0), (0, 57, 3, 14, 0), (1, 60, 54, 0, 0), (10, 3, 903, 0, 0), (11, 40, 3, 4, 0), (11, 44, 3, 10, 0), (11, 47, 3, 11, 0)]
theorem am_LTo3_0 : ∀ x ∈ am_LT3_0, am_ltP am_P "DelegationShop$Guards" x := List.forall_mem_cons.mpr ⟨am_l3_0_0, List.forall_mem_cons.mpr ⟨am_l3_0_1, List.forall_mem_cons.mpr ⟨am_l3_0_2, List.forall_mem_cons.mpr ⟨am_l3_0_3, List.forall_mem_cons.mpr ⟨am_l3_0_4, List.forall_mem_cons.mpr ⟨am_l3_0_5, List.forall_mem_cons.mpr ⟨am_l3_0_6, List.forall_mem_cons.mpr ⟨am_l3_0_7, List.forall_mem_cons.mpr ⟨am_l3_0_8, List.forall_mem_cons.mpr ⟨am_l3_0_9, List.forall_mem_cons.mpr ⟨am_l3_0_10, List.forall_mem_cons.mpr ⟨am_l3_0_11, List.forall_mem_cons.mpr ⟨am_l3_0_12, List.forall_mem_cons.mpr ⟨am_l3_0_13, List.forall_mem_cons.mpr ⟨am_l3_0_14, List.forall_mem_cons.mpr ⟨am_l3_0_15, List.forall_mem_cons.mpr ⟨am_l3_0_16, List.forall_mem_cons.mpr ⟨am_l3_0_17, List.forall_mem_cons.mpr ⟨am_l3_0_18, List.forall_mem_cons.mpr ⟨am_l3_0_19, fun _ h => by cases h⟩⟩⟩⟩⟩⟩⟩⟩⟩⟩⟩⟩⟩⟩⟩⟩⟩⟩⟩⟩
theorem am_l3_1_0 : am_ltP am_P "DelegationShop$Guards" (11, 50, 3, 12, 0) := am_pfN rfl rfl (am_tw3 (i := 76) rfl rfl) rfl
theorem am_l3_1_1 : am_ltP am_P "DelegationShop$Guards" (11, 53, 3, 13, 0) := am_pfN rfl rfl (am_tw3 (i := 78) rfl rfl) rfl
theorem am_l3_1_2 : am_ltP am_P "DelegationShop$Guards" (11, 57, 3, 14, 0) := am_pfN rfl rfl (am_tw3 (i := 80) rfl rfl) rfl
theorem am_l3_1_3 : am_ltP am_P "DelegationShop$Guards" (12, 11, 3, 0, 0) := am_pfF rfl rfl (am_tw3 (i := 57) rfl rfl) rfl
theorem am_l3_1_4 : am_ltP am_P "DelegationShop$Guards" (12, 15, 3, 1, 0) := am_pfF rfl rfl (am_tw3 (i := 59) rfl rfl) rfl
theorem am_l3_1_5 : am_ltP am_P "DelegationShop$Guards" (12, 18, 3, 2, 0) := am_pfF rfl rfl (am_tw3 (i := 61) rfl rfl) rfl
theorem am_l3_1_6 : am_ltP am_P "DelegationShop$Guards" (12, 21, 3, 3, 0) := am_pfF rfl rfl (am_tw3 (i := 63) rfl rfl) rfl
theorem am_l3_1_7 : am_ltP am_P "DelegationShop$Guards" (12, 24, 3, 5, 0) := am_pfF rfl rfl (am_tw3 (i := 67) rfl rfl) rfl
theorem am_l3_1_8 : am_ltP am_P "DelegationShop$Guards" (12, 27, 3, 6, 0) := am_pfF rfl rfl (am_tw3 (i := 68) rfl rfl) rfl
theorem am_l3_1_9 : am_ltP am_P "DelegationShop$Guards" (12, 30, 3, 7, 0) := am_pfF rfl rfl (am_tw3 (i := 69) rfl rfl) rfl
theorem am_l3_1_10 : am_ltP am_P "DelegationShop$Guards" (12, 33, 3, 8, 0) := am_pfF rfl rfl (am_tw3 (i := 70) rfl rfl) rfl
theorem am_l3_1_11 : am_ltP am_P "DelegationShop$Guards" (12, 37, 3, 9, 0) := am_pfF rfl rfl (am_tw3 (i := 71) rfl rfl) rfl
def am_LT3_1 : List am_LE := [(11, 50, 3, 12, 0), (11, 53, 3, 13, 0), (11, 57, 3, 14, 0), (12, 11, 3, 0, 0), (12, 15, 3, 1, 0), (12, 18, 3, 2, 0), (12, 21, 3, 3, 0), (12, 24, 3, 5, 0), (12, 27, 3, 6, 0), (12, 30, 3, 7, 0), (12, 33, 3, 8, 0), (12, 37, 3, 9, 0)]
theorem am_LTo3_1 : ∀ x ∈ am_LT3_1, am_ltP am_P "DelegationShop$Guards" x := List.forall_mem_cons.mpr ⟨am_l3_1_0, List.forall_mem_cons.mpr ⟨am_l3_1_1, List.forall_mem_cons.mpr ⟨am_l3_1_2, List.forall_mem_cons.mpr ⟨am_l3_1_3, List.forall_mem_cons.mpr ⟨am_l3_1_4, List.forall_mem_cons.mpr ⟨am_l3_1_5, List.forall_mem_cons.mpr ⟨am_l3_1_6, List.forall_mem_cons.mpr ⟨am_l3_1_7, List.forall_mem_cons.mpr ⟨am_l3_1_8, List.forall_mem_cons.mpr ⟨am_l3_1_9, List.forall_mem_cons.mpr ⟨am_l3_1_10, List.forall_mem_cons.mpr ⟨am_l3_1_11, fun _ h => by cases h⟩⟩⟩⟩⟩⟩⟩⟩⟩⟩⟩⟩
def am_LT3 : List am_LE := am_LT3_0 ++ (am_LT3_1)
theorem am_LTok3 : ∀ x ∈ am_LT3, am_ltP am_P "DelegationShop$Guards" x := fun x h => (List.mem_append.mp h).elim (fun h => am_LTo3_0 x h) (fun h => am_LTo3_1 x h)
theorem am_l4_0_0 : am_ltP am_P "DelegationShop$Journal" (0, 11, 4, 0, 0) := am_gfN rfl rfl (am_tw2 (i := 231) rfl rfl)
theorem am_l4_0_1 : am_ltP am_P "DelegationShop$Journal" (0, 15, 4, 1, 0) := am_gfN rfl rfl (am_tw2 (i := 234) rfl rfl)
theorem am_l4_0_2 : am_ltP am_P "DelegationShop$Journal" (0, 18, 4, 2, 0) := am_gfN rfl rfl (am_tw2 (i := 235) rfl rfl)
theorem am_l4_0_3 : am_ltP am_P "DelegationShop$Journal" (0, 21, 4, 3, 0) := am_gfN rfl rfl (am_tw2 (i := 236) rfl rfl)
theorem am_l4_0_4 : am_ltP am_P "DelegationShop$Journal" (0, 24, 4, 4, 0) := am_gfN rfl rfl (am_tw2 (i := 237) rfl rfl)
theorem am_l4_0_5 : am_ltP am_P "DelegationShop$Journal" (1, 28, 60, 0, 0) := am_lm60 (Or.inl (am_tw5 (i := 111) rfl rfl))
theorem am_l4_0_6 : am_ltP am_P "DelegationShop$Journal" (2, 31, 190, 0, 0) := am_lm190 (Or.inl (am_tw5 (i := 119) rfl rfl))
theorem am_l4_0_7 : am_ltP am_P "DelegationShop$Journal" (2, 37, 193, 0, 0) := am_lm193 (Or.inl (am_tw5 (i := 115) rfl rfl))
theorem am_l4_0_8 : am_ltP am_P "DelegationShop$Journal" (7, 40, 0, 0, (-1)) := am_lcL (am_tw5 (i := 118) (by decide +kernel) rfl)
theorem am_l4_0_9 : am_ltP am_P "DelegationShop$Journal" (7, 42, 0, 0, 300) := am_lcL (am_tw7 (i := 25) (by decide +kernel) rfl)
theorem am_l4_0_10 : am_ltP am_P "DelegationShop$Journal" (7, 50, 0, 0, 64) := am_lcL (am_tw7 (i := 52) (by decide +kernel) rfl)
theorem am_l4_0_11 : am_ltP am_P "DelegationShop$Journal" (10, 3, 903, 0, 0) := am_pr903 (am_tw2 (i := 230) rfl rfl)
theorem am_l4_0_12 : am_ltP am_P "DelegationShop$Journal" (12, 11, 4, 0, 0) := am_pfF rfl rfl (am_tw2 (i := 231) rfl rfl) rfl
theorem am_l4_0_13 : am_ltP am_P "DelegationShop$Journal" (12, 15, 4, 1, 0) := am_pfF rfl rfl (am_tw2 (i := 234) rfl rfl) rfl
theorem am_l4_0_14 : am_ltP am_P "DelegationShop$Journal" (12, 18, 4, 2, 0) := am_pfF rfl rfl (am_tw2 (i := 235) rfl rfl) rfl
theorem am_l4_0_15 : am_ltP am_P "DelegationShop$Journal" (12, 21, 4, 3, 0) := am_pfF rfl rfl (am_tw2 (i := 236) rfl rfl) rfl
theorem am_l4_0_16 : am_ltP am_P "DelegationShop$Journal" (12, 24, 4, 4, 0) := am_pfF rfl rfl (am_tw2 (i := 237) rfl rfl) rfl
def am_LT4_0 : List am_LE := [(0, 11, 4, 0, 0), (0, 15, 4, 1, 0), (0, 18, 4, 2, 0), (0, 21, 4, 3, 0), (0, 24, 4, 4, 0), (1, 28, 60, 0, 0), (2, 31, 190, 0, 0), (2, 37, 193, 0, 0), (7, 40, 0, 0, (-1)), (7, 42, 0, 0, 300), (7, 50, 0, 0, 64), (10, 3, 903, 0, 0), (12, 11, 4, 0, 0), (12, 15, 4, 1, 0), (12, 18, 4, 2, 0), (12, 21, 4, 3, 0), (12, 24, 4, 4, 0)]
theorem am_LTo4_0 : ∀ x ∈ am_LT4_0, am_ltP am_P "DelegationShop$Journal" x := List.forall_mem_cons.mpr ⟨am_l4_0_0, List.forall_mem_cons.mpr ⟨am_l4_0_1, List.forall_mem_cons.mpr ⟨am_l4_0_2, List.forall_mem_cons.mpr ⟨am_l4_0_3, List.forall_mem_cons.mpr ⟨am_l4_0_4, List.forall_mem_cons.mpr ⟨am_l4_0_5, List.forall_mem_cons.mpr ⟨am_l4_0_6, List.forall_mem_cons.mpr ⟨am_l4_0_7, List.forall_mem_cons.mpr ⟨am_l4_0_8, List.forall_mem_cons.mpr ⟨am_l4_0_9, List.forall_mem_cons.mpr ⟨am_l4_0_10, List.forall_mem_cons.mpr ⟨am_l4_0_11, List.forall_mem_cons.mpr ⟨am_l4_0_12, List.forall_mem_cons.mpr ⟨am_l4_0_13, List.forall_mem_cons.mpr ⟨am_l4_0_14, List.forall_mem_cons.mpr ⟨am_l4_0_15, List.forall_mem_cons.mpr ⟨am_l4_0_16, fun _ h => by cases h⟩⟩⟩⟩⟩⟩⟩⟩⟩⟩⟩⟩⟩⟩⟩⟩⟩
def am_LT4 : List am_LE := am_LT4_0
theorem am_LTok4 : ∀ x ∈ am_LT4, am_ltP am_P "DelegationShop$Journal" x := fun x h => am_LTo4_0 x h
theorem am_l5_0_0 : am_ltP am_P "DelegationShop$Machine" (0, 12, 5, 0, 0) := am_gfN rfl rfl (am_tw3 (i := 115) rfl rfl)
theorem am_l5_0_1 : am_ltP am_P "DelegationShop$Machine" (0, 21, 5, 1, 0) := am_gfN rfl rfl (am_tw3 (i := 117) rfl rfl)
theorem am_l5_0_2 : am_ltP am_P "DelegationShop$Machine" (0, 28, 5, 2, 0) := am_gfN rfl rfl (am_tw3 (i := 119) rfl rfl)
theorem am_l5_0_3 : am_ltP am_P "DelegationShop$Machine" (0, 35, 5, 3, 0) := am_gfN rfl rfl (am_tw3 (i := 121) rfl rfl)
theorem am_l5_0_4 : am_ltP am_P "DelegationShop$Machine" (0, 42, 5, 4, 0) := am_gfN rfl rfl (am_tw3 (i := 123) rfl rfl)
theorem am_l5_0_5 : am_ltP am_P "DelegationShop$Machine" (0, 49, 5, 5, 0) := am_gfN rfl rfl (am_tw3 (i := 124) rfl rfl)
theorem am_l5_0_6 : am_ltP am_P "DelegationShop$Machine" (0, 56, 5, 6, 0) := am_gfN rfl rfl (am_tw3 (i := 125) rfl rfl)
theorem am_l5_0_7 : am_ltP am_P "DelegationShop$Machine" (0, 60, 8, 0, 1) := am_gfX rfl rfl (am_tw1 (i := 208) rfl rfl)
theorem am_l5_0_8 : am_ltP am_P "DelegationShop$Machine" (0, 64, 5, 7, 0) := am_gfN rfl rfl (am_tw3 (i := 127) rfl rfl)
theorem am_l5_0_9 : am_ltP am_P "DelegationShop$Machine" (0, 65, 5, 8, 0) := am_gfN rfl rfl (am_tw3 (i := 128) rfl rfl)
theorem am_l5_0_10 : am_ltP am_P "DelegationShop$Machine" (0, 69, 5, 9, 0) := am_gfN rfl rfl (am_tw3 (i := 129) rfl rfl)
theorem am_l5_0_11 : am_ltP am_P "DelegationShop$Machine" (0, 83, 5, 10, 0) := am_gfN rfl rfl (am_tw3 (i := 130) rfl rfl)
theorem am_l5_0_12 : am_ltP am_P "DelegationShop$Machine" (0, 87, 5, 11, 0) := am_gfN rfl rfl (am_tw3 (i := 131) rfl rfl)
theorem am_l5_0_13 : am_ltP am_P "DelegationShop$Machine" (0, 94, 5, 13, 0) := am_gfN rfl rfl (am_tw3 (i := 133) rfl rfl)
theorem am_l5_0_14 : am_ltP am_P "DelegationShop$Machine" (0, 97, 5, 14, 0) := am_gfN rfl rfl (am_tw3 (i := 134) rfl rfl)
theorem am_l5_0_15 : am_ltP am_P "DelegationShop$Machine" (0, 100, 5, 15, 0) := am_gfN rfl rfl (am_tw3 (i := 135) rfl rfl)
theorem am_l5_0_16 : am_ltP am_P "DelegationShop$Machine" (0, 103, 5, 16, 0) := am_gfN rfl rfl (am_tw3 (i := 136) rfl rfl)
theorem am_l5_0_17 : am_ltP am_P "DelegationShop$Machine" (0, 115, 3, 10, 1) := am_gfX rfl rfl (am_tw3 (i := 73) rfl rfl)
theorem am_l5_0_18 : am_ltP am_P "DelegationShop$Machine" (0, 124, 10, 1, 1) := am_gfX rfl rfl (am_tw2 (i := 73) rfl rfl)
theorem am_l5_0_19 : am_ltP am_P "DelegationShop$Machine" (0, 134, 2, 7, 1) := am_gfX rfl rfl (am_tw3 (i := 29) rfl rfl)
def am_LT5_0 : List am_LE := [(0, 12, 5, 0, 0), (0, 21, 5, 1, 0), (0, 28, 5, 2, 0), (0, 35, 5, 3, 0), (0, 42, 5, 4, 0), (0, 49, 5, 5, 0), (0, 56, 5, 6, 0), (0, 60, 8, 0, 1), (0, 64, 5, 7, 0), (0, 65, 5, 8, 0), (0, 69, 5, 9, 0), (0, 83, 5, 10, 0), (0, 87, 5, 11, 0), (0, 94, 5, 13, 0), (0, 97, 5, 14, 0), (0, 100, 5, 15, 0), (0, 103, 5, 16, 0), (0, 115, 3, 10, 1), (0, 124, 10, 1, 1), (0, 134, 2, 7, 1)]
theorem am_LTo5_0 : ∀ x ∈ am_LT5_0, am_ltP am_P "DelegationShop$Machine" x := List.forall_mem_cons.mpr ⟨am_l5_0_0, List.forall_mem_cons.mpr ⟨am_l5_0_1, List.forall_mem_cons.mpr ⟨am_l5_0_2, List.forall_mem_cons.mpr ⟨am_l5_0_3, List.forall_mem_cons.mpr ⟨am_l5_0_4, List.forall_mem_cons.mpr ⟨am_l5_0_5, List.forall_mem_cons.mpr ⟨am_l5_0_6, List.forall_mem_cons.mpr ⟨am_l5_0_7, List.forall_mem_cons.mpr ⟨am_l5_0_8, List.forall_mem_cons.mpr ⟨am_l5_0_9, List.forall_mem_cons.mpr ⟨am_l5_0_10, List.forall_mem_cons.mpr ⟨am_l5_0_11, List.forall_mem_cons.mpr ⟨am_l5_0_12, List.forall_mem_cons.mpr ⟨am_l5_0_13, List.forall_mem_cons.mpr ⟨am_l5_0_14, List.forall_mem_cons.mpr ⟨am_l5_0_15, List.forall_mem_cons.mpr ⟨am_l5_0_16, List.forall_mem_cons.mpr ⟨am_l5_0_17, List.forall_mem_cons.mpr ⟨am_l5_0_18, List.forall_mem_cons.mpr ⟨am_l5_0_19, fun _ h => by cases h⟩⟩⟩⟩⟩⟩⟩⟩⟩⟩⟩⟩⟩⟩⟩⟩⟩⟩⟩⟩
theorem am_l5_1_0 : am_ltP am_P "DelegationShop$Machine" (0, 137, 5, 12, 0) := am_gfN rfl rfl (am_tw3 (i := 132) rfl rfl)
theorem am_l5_1_1 : am_ltP am_P "DelegationShop$Machine" (0, 140, 2, 2, 1) := am_gfX rfl rfl (am_tw3 (i := 20) rfl rfl)
theorem am_l5_1_2 : am_ltP am_P "DelegationShop$Machine" (0, 143, 0, 2, 1) := am_gfX rfl rfl (am_tw1 (i := 164) rfl rfl)
theorem am_l5_1_3 : am_ltP am_P "DelegationShop$Machine" (0, 146, 0, 0, 1) := am_gfX rfl rfl (am_tw1 (i := 160) rfl rfl)
theorem am_l5_1_4 : am_ltP am_P "DelegationShop$Machine" (0, 149, 0, 1, 1) := am_gfX rfl rfl (am_tw1 (i := 162) rfl rfl)
theorem am_l5_1_5 : am_ltP am_P "DelegationShop$Machine" (0, 171, 4, 0, 1) := am_gfX rfl rfl (am_tw2 (i := 233) rfl rfl)
theorem am_l5_1_6 : am_ltP am_P "DelegationShop$Machine" (0, 176, 2, 1, 1) := am_gfX rfl rfl (am_tw3 (i := 18) rfl rfl)
theorem am_l5_1_7 : am_ltP am_P "DelegationShop$Machine" (0, 179, 2, 3, 1) := am_gfX rfl rfl (am_tw3 (i := 22) rfl rfl)
theorem am_l5_1_8 : am_ltP am_P "DelegationShop$Machine" (0, 194, 2, 0, 1) := am_gfX rfl rfl (am_tw3 (i := 16) rfl rfl)
theorem am_l5_1_9 : am_ltP am_P "DelegationShop$Machine" (0, 197, 9, 6, 1) := am_gfX rfl rfl (am_tw2 (i := 179) rfl rfl)
theorem am_l5_1_10 : am_ltP am_P "DelegationShop$Machine" (0, 200, 9, 3, 1) := am_gfX rfl rfl (am_tw2 (i := 174) rfl rfl)
theorem am_l5_1_11 : am_ltP am_P "DelegationShop$Machine" (0, 203, 9, 7, 1) := am_gfX rfl rfl (am_tw2 (i := 181) rfl rfl)
theorem am_l5_1_12 : am_ltP am_P "DelegationShop$Machine" (0, 231, 9, 0, 1) := am_gfX rfl rfl (am_tw2 (i := 169) rfl rfl)
theorem am_l5_1_13 : am_ltP am_P "DelegationShop$Machine" (0, 232, 9, 1, 1) := am_gfX rfl rfl (am_tw2 (i := 171) rfl rfl)
theorem am_l5_1_14 : am_ltP am_P "DelegationShop$Machine" (0, 272, 9, 8, 1) := am_gfX rfl rfl (am_tw2 (i := 183) rfl rfl)
theorem am_l5_1_15 : am_ltP am_P "DelegationShop$Machine" (0, 275, 9, 9, 1) := am_gfX rfl rfl (am_tw2 (i := 185) rfl rfl)
theorem am_l5_1_16 : am_ltP am_P "DelegationShop$Machine" (0, 286, 8, 8, 1) := am_gfX rfl rfl (am_tw1 (i := 227) rfl rfl)
theorem am_l5_1_17 : am_ltP am_P "DelegationShop$Machine" (0, 293, 6, 7, 1) := am_gfX rfl rfl (am_tw2 (i := 140) rfl rfl)
theorem am_l5_1_18 : am_ltP am_P "DelegationShop$Machine" (0, 299, 6, 8, 1) := am_gfX rfl rfl (am_tw2 (i := 142) rfl rfl)
theorem am_l5_1_19 : am_ltP am_P "DelegationShop$Machine" (0, 308, 10, 2, 1) := am_gfX rfl rfl (am_tw2 (i := 75) rfl rfl)
def am_LT5_1 : List am_LE := [(0, 137, 5, 12, 0), (0, 140, 2, 2, 1), (0, 143, 0, 2, 1), (0, 146, 0, 0, 1), (0, 149, 0, 1, 1), (0, 171, 4, 0, 1), (0, 176, 2, 1, 1), (0, 179, 2, 3, 1), (0, 194, 2, 0, 1), (0, 197, 9, 6, 1), (0, 200, 9, 3, 1), (0, 203, 9, 7, 1), (0, 231, 9, 0, 1), (0, 232, 9, 1, 1), (0, 272, 9, 8, 1), (0, 275, 9, 9, 1), (0, 286, 8, 8, 1), (0, 293, 6, 7, 1), (0, 299, 6, 8, 1), (0, 308, 10, 2, 1)]
theorem am_LTo5_1 : ∀ x ∈ am_LT5_1, am_ltP am_P "DelegationShop$Machine" x := List.forall_mem_cons.mpr ⟨am_l5_1_0, List.forall_mem_cons.mpr ⟨am_l5_1_1, List.forall_mem_cons.mpr ⟨am_l5_1_2, List.forall_mem_cons.mpr ⟨am_l5_1_3, List.forall_mem_cons.mpr ⟨am_l5_1_4, List.forall_mem_cons.mpr ⟨am_l5_1_5, List.forall_mem_cons.mpr ⟨am_l5_1_6, List.forall_mem_cons.mpr ⟨am_l5_1_7, List.forall_mem_cons.mpr ⟨am_l5_1_8, List.forall_mem_cons.mpr ⟨am_l5_1_9, List.forall_mem_cons.mpr ⟨am_l5_1_10, List.forall_mem_cons.mpr ⟨am_l5_1_11, List.forall_mem_cons.mpr ⟨am_l5_1_12, List.forall_mem_cons.mpr ⟨am_l5_1_13, List.forall_mem_cons.mpr ⟨am_l5_1_14, List.forall_mem_cons.mpr ⟨am_l5_1_15, List.forall_mem_cons.mpr ⟨am_l5_1_16, List.forall_mem_cons.mpr ⟨am_l5_1_17, List.forall_mem_cons.mpr ⟨am_l5_1_18, List.forall_mem_cons.mpr ⟨am_l5_1_19, fun _ h => by cases h⟩⟩⟩⟩⟩⟩⟩⟩⟩⟩⟩⟩⟩⟩⟩⟩⟩⟩⟩⟩
theorem am_l5_2_0 : am_ltP am_P "DelegationShop$Machine" (0, 309, 10, 3, 1) := am_gfX rfl rfl (am_tw2 (i := 77) rfl rfl)
theorem am_l5_2_1 : am_ltP am_P "DelegationShop$Machine" (0, 310, 8, 2, 1) := am_gfX rfl rfl (am_tw1 (i := 214) rfl rfl)
theorem am_l5_2_2 : am_ltP am_P "DelegationShop$Machine" (0, 316, 8, 4, 1) := am_gfX rfl rfl (am_tw1 (i := 221) rfl rfl)
theorem am_l5_2_3 : am_ltP am_P "DelegationShop$Machine" (0, 323, 10, 9, 1) := am_gfX rfl rfl (am_tw2 (i := 85) rfl rfl)
theorem am_l5_2_4 : am_ltP am_P "DelegationShop$Machine" (0, 324, 10, 10, 1) := am_gfX rfl rfl (am_tw2 (i := 88) rfl rfl)
theorem am_l5_2_5 : am_ltP am_P "DelegationShop$Machine" (0, 325, 2, 8, 1) := am_gfX rfl rfl (am_tw3 (i := 31) rfl rfl)
theorem am_l5_2_6 : am_ltP am_P "DelegationShop$Machine" (0, 331, 9, 12, 1) := am_gfX rfl rfl (am_tw2 (i := 189) rfl rfl)
theorem am_l5_2_7 : am_ltP am_P "DelegationShop$Machine" (0, 334, 8, 11, 1) := am_gfX rfl rfl (am_tw1 (i := 234) rfl rfl)
theorem am_l5_2_8 : am_ltP am_P "DelegationShop$Machine" (0, 337, 9, 13, 1) := am_gfX rfl rfl (am_tw2 (i := 191) rfl rfl)
theorem am_l5_2_9 : am_ltP am_P "DelegationShop$Machine" (0, 340, 8, 13, 1) := am_gfX rfl rfl (am_tw2 (i := 0) rfl rfl)
theorem am_l5_2_10 : am_ltP am_P "DelegationShop$Machine" (0, 343, 8, 12, 1) := am_gfX rfl rfl (am_tw1 (i := 237) rfl rfl)
theorem am_l5_2_11 : am_ltP am_P "DelegationShop$Machine" (0, 349, 8, 3, 1) := am_gfX rfl rfl (am_tw1 (i := 217) rfl rfl)
theorem am_l5_2_12 : am_ltP am_P "DelegationShop$Machine" (0, 367, 3, 4, 1) := am_gfX rfl rfl (am_tw3 (i := 66) rfl rfl)
theorem am_l5_2_13 : am_ltP am_P "DelegationShop$Machine" (0, 391, 9, 4, 1) := am_gfX rfl rfl (am_tw2 (i := 176) rfl rfl)
theorem am_l5_2_14 : am_ltP am_P "DelegationShop$Machine" (0, 394, 0, 4, 1) := am_gfX rfl rfl (am_tw1 (i := 169) rfl rfl)
theorem am_l5_2_15 : am_ltP am_P "DelegationShop$Machine" (0, 400, 0, 5, 1) := am_gfX rfl rfl (am_tw1 (i := 172) rfl rfl)
theorem am_l5_2_16 : am_ltP am_P "DelegationShop$Machine" (0, 403, 2, 5, 1) := am_gfX rfl rfl (am_tw3 (i := 26) rfl rfl)
theorem am_l5_2_17 : am_ltP am_P "DelegationShop$Machine" (0, 406, 3, 14, 1) := am_gfX rfl rfl (am_tw3 (i := 81) rfl rfl)
theorem am_l5_2_18 : am_ltP am_P "DelegationShop$Machine" (0, 415, 3, 1, 1) := am_gfX rfl rfl (am_tw3 (i := 60) rfl rfl)
theorem am_l5_2_19 : am_ltP am_P "DelegationShop$Machine" (0, 418, 3, 0, 1) := am_gfX rfl rfl (am_tw3 (i := 58) rfl rfl)
def am_LT5_2 : List am_LE := [(0, 309, 10, 3, 1), (0, 310, 8, 2, 1), (0, 316, 8, 4, 1), (0, 323, 10, 9, 1), (0, 324, 10, 10, 1), (0, 325, 2, 8, 1), (0, 331, 9, 12, 1), (0, 334, 8, 11, 1), (0, 337, 9, 13, 1), (0, 340, 8, 13, 1), (0, 343, 8, 12, 1), (0, 349, 8, 3, 1), (0, 367, 3, 4, 1), (0, 391, 9, 4, 1), (0, 394, 0, 4, 1), (0, 400, 0, 5, 1), (0, 403, 2, 5, 1), (0, 406, 3, 14, 1), (0, 415, 3, 1, 1), (0, 418, 3, 0, 1)]
theorem am_LTo5_2 : ∀ x ∈ am_LT5_2, am_ltP am_P "DelegationShop$Machine" x := List.forall_mem_cons.mpr ⟨am_l5_2_0, List.forall_mem_cons.mpr ⟨am_l5_2_1, List.forall_mem_cons.mpr ⟨am_l5_2_2, List.forall_mem_cons.mpr ⟨am_l5_2_3, List.forall_mem_cons.mpr ⟨am_l5_2_4, List.forall_mem_cons.mpr ⟨am_l5_2_5, List.forall_mem_cons.mpr ⟨am_l5_2_6, List.forall_mem_cons.mpr ⟨am_l5_2_7, List.forall_mem_cons.mpr ⟨am_l5_2_8, List.forall_mem_cons.mpr ⟨am_l5_2_9, List.forall_mem_cons.mpr ⟨am_l5_2_10, List.forall_mem_cons.mpr ⟨am_l5_2_11, List.forall_mem_cons.mpr ⟨am_l5_2_12, List.forall_mem_cons.mpr ⟨am_l5_2_13, List.forall_mem_cons.mpr ⟨am_l5_2_14, List.forall_mem_cons.mpr ⟨am_l5_2_15, List.forall_mem_cons.mpr ⟨am_l5_2_16, List.forall_mem_cons.mpr ⟨am_l5_2_17, List.forall_mem_cons.mpr ⟨am_l5_2_18, List.forall_mem_cons.mpr ⟨am_l5_2_19, fun _ h => by cases h⟩⟩⟩⟩⟩⟩⟩⟩⟩⟩⟩⟩⟩⟩⟩⟩⟩⟩⟩⟩
theorem am_l5_3_0 : am_ltP am_P "DelegationShop$Machine" (0, 421, 3, 11, 1) := am_gfX rfl rfl (am_tw3 (i := 75) rfl rfl)
theorem am_l5_3_1 : am_ltP am_P "DelegationShop$Machine" (0, 427, 3, 2, 1) := am_gfX rfl rfl (am_tw3 (i := 62) rfl rfl)
theorem am_l5_3_2 : am_ltP am_P "DelegationShop$Machine" (0, 428, 0, 9, 1) := am_gfX rfl rfl (am_tw1 (i := 178) rfl rfl)
theorem am_l5_3_3 : am_ltP am_P "DelegationShop$Machine" (0, 434, 0, 8, 1) := am_gfX rfl rfl (am_tw1 (i := 176) rfl rfl)
theorem am_l5_3_4 : am_ltP am_P "DelegationShop$Machine" (0, 437, 3, 12, 1) := am_gfX rfl rfl (am_tw3 (i := 77) rfl rfl)
theorem am_l5_3_5 : am_ltP am_P "DelegationShop$Machine" (0, 440, 3, 13, 1) := am_gfX rfl rfl (am_tw3 (i := 79) rfl rfl)
theorem am_l5_3_6 : am_ltP am_P "DelegationShop$Machine" (0, 444, 3, 3, 1) := am_gfX rfl rfl (am_tw3 (i := 64) rfl rfl)
theorem am_l5_3_7 : am_ltP am_P "DelegationShop$Machine" (0, 447, 2, 4, 1) := am_gfX rfl rfl (am_tw3 (i := 24) rfl rfl)
theorem am_l5_3_8 : am_ltP am_P "DelegationShop$Machine" (1, 73, 142, 0, 0) := am_lm142 (Or.inr ⟨_, (am_tw5 (i := 84) rfl rfl)⟩)
theorem am_l5_3_9 : am_ltP am_P "DelegationShop$Machine" (1, 76, 103, 0, 0) := am_lm103 (Or.inr ⟨_, (am_tw5 (i := 92) rfl rfl)⟩)
theorem am_l5_3_10 : am_ltP am_P "DelegationShop$Machine" (1, 77, 133, 0, 0) := am_lm133 (Or.inr ⟨_, (am_tw5 (i := 103) rfl rfl)⟩)
theorem am_l5_3_11 : am_ltP am_P "DelegationShop$Machine" (1, 78, 59, 0, 0) := am_lm59 (Or.inr ⟨_, (am_tw5 (i := 107) rfl rfl)⟩)
theorem am_l5_3_12 : am_ltP am_P "DelegationShop$Machine" (1, 79, 60, 0, 0) := am_lm60 (Or.inr ⟨_, (am_tw6 (i := 7) rfl rfl)⟩)
theorem am_l5_3_13 : am_ltP am_P "DelegationShop$Machine" (1, 82, 52, 0, 0) := am_lm52 (Or.inr ⟨_, (am_tw6 (i := 8) rfl rfl)⟩)
theorem am_l5_3_14 : am_ltP am_P "DelegationShop$Machine" (1, 90, 70, 0, 0) := am_lm70 (Or.inl (am_tw6 (i := 12) rfl rfl))
theorem am_l5_3_15 : am_ltP am_P "DelegationShop$Machine" (1, 107, 90, 0, 0) := am_lm90 (Or.inl (am_tw6 (i := 16) rfl rfl))
theorem am_l5_3_16 : am_ltP am_P "DelegationShop$Machine" (1, 112, 69, 0, 0) := am_lm69 (Or.inl (am_tw7 (i := 27) rfl rfl))
theorem am_l5_3_17 : am_ltP am_P "DelegationShop$Machine" (1, 118, 97, 0, 0) := am_lm97 (Or.inl (am_tw8 (i := 36) rfl rfl))
theorem am_l5_3_18 : am_ltP am_P "DelegationShop$Machine" (1, 121, 101, 0, 0) := am_lm101 (Or.inl (am_tw8 (i := 52) rfl rfl))
theorem am_l5_3_19 : am_ltP am_P "DelegationShop$Machine" (1, 127, 150, 0, 0) := am_lm150 (Or.inr ⟨_, (am_tw7 (i := 194) rfl rfl)⟩)
def am_LT5_3 : List am_LE := [(0, 421, 3, 11, 1), (0, 427, 3, 2, 1), (0, 428, 0, 9, 1), (0, 434, 0, 8, 1), (0, 437, 3, 12, 1), (0, 440, 3, 13, 1), (0, 444, 3, 3, 1), (0, 447, 2, 4, 1), (1, 73, 142, 0, 0), (1, 76, 103, 0, 0), (1, 77, 133, 0, 0), (1, 78, 59, 0, 0), (1, 79, 60, 0, 0), (1, 82, 52, 0, 0), (1, 90, 70, 0, 0), (1, 107, 90, 0, 0), (1, 112, 69, 0, 0), (1, 118, 97, 0, 0), (1, 121, 101, 0, 0), (1, 127, 150, 0, 0)]
theorem am_LTo5_3 : ∀ x ∈ am_LT5_3, am_ltP am_P "DelegationShop$Machine" x := List.forall_mem_cons.mpr ⟨am_l5_3_0, List.forall_mem_cons.mpr ⟨am_l5_3_1, List.forall_mem_cons.mpr ⟨am_l5_3_2, List.forall_mem_cons.mpr ⟨am_l5_3_3, List.forall_mem_cons.mpr ⟨am_l5_3_4, List.forall_mem_cons.mpr ⟨am_l5_3_5, List.forall_mem_cons.mpr ⟨am_l5_3_6, List.forall_mem_cons.mpr ⟨am_l5_3_7, List.forall_mem_cons.mpr ⟨am_l5_3_8, List.forall_mem_cons.mpr ⟨am_l5_3_9, List.forall_mem_cons.mpr ⟨am_l5_3_10, List.forall_mem_cons.mpr ⟨am_l5_3_11, List.forall_mem_cons.mpr ⟨am_l5_3_12, List.forall_mem_cons.mpr ⟨am_l5_3_13, List.forall_mem_cons.mpr ⟨am_l5_3_14, List.forall_mem_cons.mpr ⟨am_l5_3_15, List.forall_mem_cons.mpr ⟨am_l5_3_16, List.forall_mem_cons.mpr ⟨am_l5_3_17, List.forall_mem_cons.mpr ⟨am_l5_3_18, List.forall_mem_cons.mpr ⟨am_l5_3_19, fun _ h => by cases h⟩⟩⟩⟩⟩⟩⟩⟩⟩⟩⟩⟩⟩⟩⟩⟩⟩⟩⟩⟩
theorem am_l5_4_0 : am_ltP am_P "DelegationShop$Machine" (1, 131, 112, 0, 0) := am_lm112 (Or.inr ⟨_, (am_tw7 (i := 223) rfl rfl)⟩)
theorem am_l5_4_1 : am_ltP am_P "DelegationShop$Machine" (1, 152, 75, 0, 0) := am_lm75 (Or.inl (am_tw7 (i := 31) rfl rfl))
theorem am_l5_4_2 : am_ltP am_P "DelegationShop$Machine" (1, 156, 77, 0, 0) := am_lm77 (Or.inl (am_tw7 (i := 75) rfl rfl))
theorem am_l5_4_3 : am_ltP am_P "DelegationShop$Machine" (1, 159, 82, 0, 0) := am_lm82 (Or.inl (am_tw7 (i := 96) rfl rfl))
theorem am_l5_4_4 : am_ltP am_P "DelegationShop$Machine" (1, 162, 92, 0, 0) := am_lm92 (Or.inl (am_tw7 (i := 186) rfl rfl))
theorem am_l5_4_5 : am_ltP am_P "DelegationShop$Machine" (1, 165, 93, 0, 0) := am_lm93 (Or.inl (am_tw7 (i := 239) rfl rfl))
theorem am_l5_4_6 : am_ltP am_P "DelegationShop$Machine" (1, 168, 94, 0, 0) := am_lm94 (Or.inl (am_tw8 (i := 11) rfl rfl))
theorem am_l5_4_7 : am_ltP am_P "DelegationShop$Machine" (1, 182, 57, 0, 0) := am_lm57 (Or.inr ⟨_, (am_tw7 (i := 44) rfl rfl)⟩)
theorem am_l5_4_8 : am_ltP am_P "DelegationShop$Machine" (1, 186, 64, 0, 0) := am_lm64 (Or.inr ⟨_, (am_tw7 (i := 48) rfl rfl)⟩)
theorem am_l5_4_9 : am_ltP am_P "DelegationShop$Machine" (1, 190, 54, 0, 0) := am_lm54 (Or.inr ⟨_, (am_tw7 (i := 53) rfl rfl)⟩)
theorem am_l5_4_10 : am_ltP am_P "DelegationShop$Machine" (1, 206, 143, 0, 0) := am_lm143 (Or.inr ⟨_, (am_tw7 (i := 35) rfl rfl)⟩)
theorem am_l5_4_11 : am_ltP am_P "DelegationShop$Machine" (1, 209, 76, 0, 0) := am_lm76 (Or.inl (am_tw7 (i := 36) rfl rfl))
theorem am_l5_4_12 : am_ltP am_P "DelegationShop$Machine" (1, 212, 71, 0, 0) := am_lm71 (Or.inl (am_tw7 (i := 57) rfl rfl))
theorem am_l5_4_13 : am_ltP am_P "DelegationShop$Machine" (1, 215, 145, 0, 0) := am_lm145 (Or.inr ⟨_, (am_tw7 (i := 61) rfl rfl)⟩)
theorem am_l5_4_14 : am_ltP am_P "DelegationShop$Machine" (1, 219, 74, 0, 0) := am_lm74 (Or.inl (am_tw7 (i := 40) rfl rfl))
theorem am_l5_4_15 : am_ltP am_P "DelegationShop$Machine" (1, 223, 144, 0, 0) := am_lm144 (Or.inr ⟨_, (am_tw7 (i := 65) rfl rfl)⟩)
theorem am_l5_4_16 : am_ltP am_P "DelegationShop$Machine" (1, 227, 139, 0, 0) := am_lm139 (Or.inr ⟨_, (am_tw7 (i := 70) rfl rfl)⟩)
theorem am_l5_4_17 : am_ltP am_P "DelegationShop$Machine" (1, 233, 137, 0, 0) := am_lm137 (Or.inr ⟨_, (am_tw7 (i := 71) rfl rfl)⟩)
theorem am_l5_4_18 : am_ltP am_P "DelegationShop$Machine" (1, 236, 78, 0, 0) := am_lm78 (Or.inl (am_tw7 (i := 79) rfl rfl))
theorem am_l5_4_19 : am_ltP am_P "DelegationShop$Machine" (1, 239, 80, 0, 0) := am_lm80 (Or.inl (am_tw7 (i := 84) rfl rfl))
def am_LT5_4 : List am_LE := [(1, 131, 112, 0, 0), (1, 152, 75, 0, 0), (1, 156, 77, 0, 0), (1, 159, 82, 0, 0), (1, 162, 92, 0, 0), (1, 165, 93, 0, 0), (1, 168, 94, 0, 0), (1, 182, 57, 0, 0), (1, 186, 64, 0, 0), (1, 190, 54, 0, 0), (1, 206, 143, 0, 0), (1, 209, 76, 0, 0), (1, 212, 71, 0, 0), (1, 215, 145, 0, 0), (1, 219, 74, 0, 0), (1, 223, 144, 0, 0), (1, 227, 139, 0, 0), (1, 233, 137, 0, 0), (1, 236, 78, 0, 0), (1, 239, 80, 0, 0)]
theorem am_LTo5_4 : ∀ x ∈ am_LT5_4, am_ltP am_P "DelegationShop$Machine" x := List.forall_mem_cons.mpr ⟨am_l5_4_0, List.forall_mem_cons.mpr ⟨am_l5_4_1, List.forall_mem_cons.mpr ⟨am_l5_4_2, List.forall_mem_cons.mpr ⟨am_l5_4_3, List.forall_mem_cons.mpr ⟨am_l5_4_4, List.forall_mem_cons.mpr ⟨am_l5_4_5, List.forall_mem_cons.mpr ⟨am_l5_4_6, List.forall_mem_cons.mpr ⟨am_l5_4_7, List.forall_mem_cons.mpr ⟨am_l5_4_8, List.forall_mem_cons.mpr ⟨am_l5_4_9, List.forall_mem_cons.mpr ⟨am_l5_4_10, List.forall_mem_cons.mpr ⟨am_l5_4_11, List.forall_mem_cons.mpr ⟨am_l5_4_12, List.forall_mem_cons.mpr ⟨am_l5_4_13, List.forall_mem_cons.mpr ⟨am_l5_4_14, List.forall_mem_cons.mpr ⟨am_l5_4_15, List.forall_mem_cons.mpr ⟨am_l5_4_16, List.forall_mem_cons.mpr ⟨am_l5_4_17, List.forall_mem_cons.mpr ⟨am_l5_4_18, List.forall_mem_cons.mpr ⟨am_l5_4_19, fun _ h => by cases h⟩⟩⟩⟩⟩⟩⟩⟩⟩⟩⟩⟩⟩⟩⟩⟩⟩⟩⟩⟩
theorem am_l5_5_0 : am_ltP am_P "DelegationShop$Machine" (1, 247, 79, 0, 0) := am_lm79 (Or.inl (am_tw7 (i := 92) rfl rfl))
theorem am_l5_5_1 : am_ltP am_P "DelegationShop$Machine" (1, 255, 73, 0, 0) := am_lm73 (Or.inl (am_tw7 (i := 100) rfl rfl))
theorem am_l5_5_2 : am_ltP am_P "DelegationShop$Machine" (1, 259, 88, 0, 0) := am_lm88 (Or.inl (am_tw7 (i := 105) rfl rfl))
theorem am_l5_5_3 : am_ltP am_P "DelegationShop$Machine" (1, 262, 89, 0, 0) := am_lm89 (Or.inl (am_tw7 (i := 165) rfl rfl))
theorem am_l5_5_4 : am_ltP am_P "DelegationShop$Machine" (1, 265, 83, 0, 0) := am_lm83 (Or.inl (am_tw7 (i := 173) rfl rfl))
theorem am_l5_5_5 : am_ltP am_P "DelegationShop$Machine" (1, 268, 84, 0, 0) := am_lm84 (Or.inl (am_tw7 (i := 177) rfl rfl))
theorem am_l5_5_6 : am_ltP am_P "DelegationShop$Machine" (1, 283, 146, 0, 0) := am_lm146 (Or.inr ⟨_, (am_tw7 (i := 109) rfl rfl)⟩)
theorem am_l5_5_7 : am_ltP am_P "DelegationShop$Machine" (1, 289, 107, 0, 0) := am_lm107 (Or.inr ⟨_, (am_tw7 (i := 114) rfl rfl)⟩)
theorem am_l5_5_8 : am_ltP am_P "DelegationShop$Machine" (1, 296, 87, 0, 0) := am_lm87 (Or.inl (am_tw7 (i := 181) rfl rfl))
theorem am_l5_5_9 : am_ltP am_P "DelegationShop$Machine" (1, 301, 85, 0, 0) := am_lm85 (Or.inl (am_tw7 (i := 156) rfl rfl))
theorem am_l5_5_10 : am_ltP am_P "DelegationShop$Machine" (1, 305, 86, 0, 0) := am_lm86 (Or.inl (am_tw7 (i := 161) rfl rfl))
theorem am_l5_5_11 : am_ltP am_P "DelegationShop$Machine" (1, 313, 147, 0, 0) := am_lm147 (Or.inr ⟨_, (am_tw7 (i := 160) rfl rfl)⟩)
theorem am_l5_5_12 : am_ltP am_P "DelegationShop$Machine" (1, 319, 157, 0, 0) := am_lm157 (Or.inr ⟨_, (am_tw7 (i := 185) rfl rfl)⟩)
theorem am_l5_5_13 : am_ltP am_P "DelegationShop$Machine" (1, 328, 138, 0, 0) := am_lm138 (Or.inr ⟨_, (am_tw7 (i := 169) rfl rfl)⟩)
theorem am_l5_5_14 : am_ltP am_P "DelegationShop$Machine" (1, 346, 91, 0, 0) := am_lm91 (Or.inl (am_tw6 (i := 21) rfl rfl))
theorem am_l5_5_15 : am_ltP am_P "DelegationShop$Machine" (1, 352, 135, 0, 0) := am_lm135 (Or.inr ⟨_, (am_tw7 (i := 17) rfl rfl)⟩)
theorem am_l5_5_16 : am_ltP am_P "DelegationShop$Machine" (1, 356, 63, 0, 0) := am_lm63 (Or.inr ⟨_, (am_tw7 (i := 21) rfl rfl)⟩)
theorem am_l5_5_17 : am_ltP am_P "DelegationShop$Machine" (1, 360, 134, 0, 0) := am_lm134 (Or.inr ⟨_, (am_tw6 (i := 25) rfl rfl)⟩)
theorem am_l5_5_18 : am_ltP am_P "DelegationShop$Machine" (1, 363, 140, 0, 0) := am_lm140 (Or.inr ⟨_, (am_tw7 (i := 4) rfl rfl)⟩)
theorem am_l5_5_19 : am_ltP am_P "DelegationShop$Machine" (1, 368, 49, 0, 0) := am_lm49 (Or.inr ⟨_, (am_tw7 (i := 13) rfl rfl)⟩)
def am_LT5_5 : List am_LE := [(1, 247, 79, 0, 0), (1, 255, 73, 0, 0), (1, 259, 88, 0, 0), (1, 262, 89, 0, 0), (1, 265, 83, 0, 0), (1, 268, 84, 0, 0), (1, 283, 146, 0, 0), (1, 289, 107, 0, 0), (1, 296, 87, 0, 0), (1, 301, 85, 0, 0), (1, 305, 86, 0, 0), (1, 313, 147, 0, 0), (1, 319, 157, 0, 0), (1, 328, 138, 0, 0), (1, 346, 91, 0, 0), (1, 352, 135, 0, 0), (1, 356, 63, 0, 0), (1, 360, 134, 0, 0), (1, 363, 140, 0, 0), (1, 368, 49, 0, 0)]
theorem am_LTo5_5 : ∀ x ∈ am_LT5_5, am_ltP am_P "DelegationShop$Machine" x := List.forall_mem_cons.mpr ⟨am_l5_5_0, List.forall_mem_cons.mpr ⟨am_l5_5_1, List.forall_mem_cons.mpr ⟨am_l5_5_2, List.forall_mem_cons.mpr ⟨am_l5_5_3, List.forall_mem_cons.mpr ⟨am_l5_5_4, List.forall_mem_cons.mpr ⟨am_l5_5_5, List.forall_mem_cons.mpr ⟨am_l5_5_6, List.forall_mem_cons.mpr ⟨am_l5_5_7, List.forall_mem_cons.mpr ⟨am_l5_5_8, List.forall_mem_cons.mpr ⟨am_l5_5_9, List.forall_mem_cons.mpr ⟨am_l5_5_10, List.forall_mem_cons.mpr ⟨am_l5_5_11, List.forall_mem_cons.mpr ⟨am_l5_5_12, List.forall_mem_cons.mpr ⟨am_l5_5_13, List.forall_mem_cons.mpr ⟨am_l5_5_14, List.forall_mem_cons.mpr ⟨am_l5_5_15, List.forall_mem_cons.mpr ⟨am_l5_5_16, List.forall_mem_cons.mpr ⟨am_l5_5_17, List.forall_mem_cons.mpr ⟨am_l5_5_18, List.forall_mem_cons.mpr ⟨am_l5_5_19, fun _ h => by cases h⟩⟩⟩⟩⟩⟩⟩⟩⟩⟩⟩⟩⟩⟩⟩⟩⟩⟩⟩⟩
theorem am_l5_6_0 : am_ltP am_P "DelegationShop$Machine" (1, 371, 68, 0, 0) := am_lm68 (Or.inl (am_tw7 (i := 190) rfl rfl))
theorem am_l5_6_1 : am_ltP am_P "DelegationShop$Machine" (1, 372, 62, 0, 0) := am_lm62 (Or.inr ⟨_, (am_tw8 (i := 3) rfl rfl)⟩)
theorem am_l5_6_2 : am_ltP am_P "DelegationShop$Machine" (1, 375, 72, 0, 0) := am_lm72 (Or.inl (am_tw8 (i := 7) rfl rfl))
theorem am_l5_6_3 : am_ltP am_P "DelegationShop$Machine" (1, 379, 95, 0, 0) := am_lm95 (Or.inl (am_tw8 (i := 15) rfl rfl))
theorem am_l5_6_4 : am_ltP am_P "DelegationShop$Machine" (1, 382, 53, 0, 0) := am_lm53 (Or.inr ⟨_, (am_tw8 (i := 19) rfl rfl)⟩)
theorem am_l5_6_5 : am_ltP am_P "DelegationShop$Machine" (1, 385, 96, 0, 0) := am_lm96 (Or.inl (am_tw8 (i := 23) rfl rfl))
theorem am_l5_6_6 : am_ltP am_P "DelegationShop$Machine" (1, 388, 56, 0, 0) := am_lm56 (Or.inr ⟨_, (am_tw8 (i := 31) rfl rfl)⟩)
theorem am_l5_6_7 : am_ltP am_P "DelegationShop$Machine" (1, 397, 55, 0, 0) := am_lm55 (Or.inr ⟨_, (am_tw8 (i := 27) rfl rfl)⟩)
theorem am_l5_6_8 : am_ltP am_P "DelegationShop$Machine" (1, 409, 98, 0, 0) := am_lm98 (Or.inl (am_tw8 (i := 40) rfl rfl))
theorem am_l5_6_9 : am_ltP am_P "DelegationShop$Machine" (1, 412, 100, 0, 0) := am_lm100 (Or.inl (am_tw8 (i := 64) rfl rfl))
theorem am_l5_6_10 : am_ltP am_P "DelegationShop$Machine" (1, 424, 7, 0, 0) := am_lm7 (Or.inr ⟨_, (am_tw8 (i := 44) rfl rfl)⟩)
theorem am_l5_6_11 : am_ltP am_P "DelegationShop$Machine" (1, 431, 99, 0, 0) := am_lm99 (Or.inl (am_tw8 (i := 48) rfl rfl))
theorem am_l5_6_12 : am_ltP am_P "DelegationShop$Machine" (1, 450, 61, 0, 0) := am_lm61 (Or.inr ⟨_, (am_tw8 (i := 68) rfl rfl)⟩)
theorem am_l5_6_13 : am_ltP am_P "DelegationShop$Machine" (1, 453, 50, 0, 0) := am_lm50 (Or.inr ⟨_, (am_tw8 (i := 56) rfl rfl)⟩)
theorem am_l5_6_14 : am_ltP am_P "DelegationShop$Machine" (1, 455, 136, 0, 0) := am_lm136 (Or.inr ⟨_, (am_tw8 (i := 60) rfl rfl)⟩)
theorem am_l5_6_15 : am_ltP am_P "DelegationShop$Machine" (2, 243, 81, 0, 0) := am_lm81 (Or.inl (am_tw7 (i := 88) rfl rfl))
theorem am_l5_6_16 : am_ltP am_P "DelegationShop$Machine" (3, 11, 141, 0, 0) := am_lm141 (Or.inr ⟨_, (am_tw2 (i := 67) rfl rfl)⟩)
theorem am_l5_6_17 : am_ltP am_P "DelegationShop$Machine" (3, 20, 102, 0, 0) := am_lm102 (Or.inr ⟨_, (am_tw2 (i := 127) rfl rfl)⟩)
theorem am_l5_6_18 : am_ltP am_P "DelegationShop$Machine" (3, 27, 132, 0, 0) := am_lm132 (Or.inr ⟨_, (am_tw2 (i := 164) rfl rfl)⟩)
theorem am_l5_6_19 : am_ltP am_P "DelegationShop$Machine" (3, 34, 58, 0, 0) := am_lm58 (Or.inr ⟨_, (am_tw2 (i := 227) rfl rfl)⟩)
def am_LT5_6 : List am_LE := [(1, 371, 68, 0, 0), (1, 372, 62, 0, 0), (1, 375, 72, 0, 0), (1, 379, 95, 0, 0), (1, 382, 53, 0, 0), (1, 385, 96, 0, 0), (1, 388, 56, 0, 0), (1, 397, 55, 0, 0), (1, 409, 98, 0, 0), (1, 412, 100, 0, 0), (1, 424, 7, 0, 0), (1, 431, 99, 0, 0), (1, 450, 61, 0, 0), (1, 453, 50, 0, 0), (1, 455, 136, 0, 0), (2, 243, 81, 0, 0), (3, 11, 141, 0, 0), (3, 20, 102, 0, 0), (3, 27, 132, 0, 0), (3, 34, 58, 0, 0)]
theorem am_LTo5_6 : ∀ x ∈ am_LT5_6, am_ltP am_P "DelegationShop$Machine" x := List.forall_mem_cons.mpr ⟨am_l5_6_0, List.forall_mem_cons.mpr ⟨am_l5_6_1, List.forall_mem_cons.mpr ⟨am_l5_6_2, List.forall_mem_cons.mpr ⟨am_l5_6_3, List.forall_mem_cons.mpr ⟨am_l5_6_4, List.forall_mem_cons.mpr ⟨am_l5_6_5, List.forall_mem_cons.mpr ⟨am_l5_6_6, List.forall_mem_cons.mpr ⟨am_l5_6_7, List.forall_mem_cons.mpr ⟨am_l5_6_8, List.forall_mem_cons.mpr ⟨am_l5_6_9, List.forall_mem_cons.mpr ⟨am_l5_6_10, List.forall_mem_cons.mpr ⟨am_l5_6_11, List.forall_mem_cons.mpr ⟨am_l5_6_12, List.forall_mem_cons.mpr ⟨am_l5_6_13, List.forall_mem_cons.mpr ⟨am_l5_6_14, List.forall_mem_cons.mpr ⟨am_l5_6_15, List.forall_mem_cons.mpr ⟨am_l5_6_16, List.forall_mem_cons.mpr ⟨am_l5_6_17, List.forall_mem_cons.mpr ⟨am_l5_6_18, List.forall_mem_cons.mpr ⟨am_l5_6_19, fun _ h => by cases h⟩⟩⟩⟩⟩⟩⟩⟩⟩⟩⟩⟩⟩⟩⟩⟩⟩⟩⟩⟩
theorem am_l5_7_0 : am_ltP am_P "DelegationShop$Machine" (3, 41, 48, 0, 0) := am_lm48 (Or.inr ⟨_, (am_tw3 (i := 11) rfl rfl)⟩)
theorem am_l5_7_1 : am_ltP am_P "DelegationShop$Machine" (3, 48, 51, 0, 0) := am_lm51 (Or.inr ⟨_, (am_tw3 (i := 53) rfl rfl)⟩)
theorem am_l5_7_2 : am_ltP am_P "DelegationShop$Machine" (3, 55, 128, 0, 0) := am_lm128 (Or.inr ⟨_, (am_tw3 (i := 114) rfl rfl)⟩)
theorem am_l5_7_3 : am_ltP am_P "DelegationShop$Machine" (4, 9, 10, 0, 0) := am_nwN rfl (am_tw2 (i := 65) rfl rfl) (am_tw2 (i := 66) rfl rfl) (am_tw1 (i := 11) rfl rfl)
theorem am_l5_7_4 : am_ltP am_P "DelegationShop$Machine" (4, 18, 6, 0, 0) := am_nwN rfl (am_tw2 (i := 125) rfl rfl) (am_tw2 (i := 126) rfl rfl) (am_tw1 (i := 12) rfl rfl)
theorem am_l5_7_5 : am_ltP am_P "DelegationShop$Machine" (4, 25, 9, 0, 0) := am_nwN rfl (am_tw2 (i := 162) rfl rfl) (am_tw2 (i := 163) rfl rfl) (am_tw1 (i := 13) rfl rfl)
theorem am_l5_7_6 : am_ltP am_P "DelegationShop$Machine" (4, 32, 4, 0, 0) := am_nwN rfl (am_tw2 (i := 225) rfl rfl) (am_tw2 (i := 226) rfl rfl) (am_tw1 (i := 14) rfl rfl)
theorem am_l5_7_7 : am_ltP am_P "DelegationShop$Machine" (4, 39, 2, 0, 0) := am_nwN rfl (am_tw3 (i := 9) rfl rfl) (am_tw3 (i := 10) rfl rfl) (am_tw1 (i := 15) rfl rfl)
theorem am_l5_7_8 : am_ltP am_P "DelegationShop$Machine" (4, 46, 3, 0, 0) := am_nwN rfl (am_tw3 (i := 51) rfl rfl) (am_tw3 (i := 52) rfl rfl) (am_tw1 (i := 16) rfl rfl)
theorem am_l5_7_9 : am_ltP am_P "DelegationShop$Machine" (4, 53, 8, 0, 0) := am_nwN rfl (am_tw3 (i := 113) rfl rfl) (am_tw1 (i := 148) rfl rfl) (am_tw1 (i := 8) rfl rfl)
theorem am_l5_7_10 : am_ltP am_P "DelegationShop$Machine" (5, 111, 0, 0, 100000000) := am_lcN (am_tw7 (i := 26) (by decide +kernel) rfl)
theorem am_l5_7_11 : am_ltP am_P "DelegationShop$Machine" (7, 174, 0, 0, 4000) := am_lcL (am_tw7 (i := 104) (by decide +kernel) rfl)
theorem am_l5_7_12 : am_ltP am_P "DelegationShop$Machine" (7, 251, 0, 0, (-9223372036854775808)) := am_lcL (am_tw7 (i := 83) (by decide +kernel) rfl)
theorem am_l5_7_13 : am_ltP am_P "DelegationShop$Machine" (7, 253, 0, 0, (-1)) := am_lcL (am_tw7 (i := 91) (by decide +kernel) rfl)
theorem am_l5_7_14 : am_ltP am_P "DelegationShop$Machine" (9, 278, 900, 0, 0) := am_pr900 (am_tw6 (i := 20) rfl rfl)
theorem am_l5_7_15 : am_ltP am_P "DelegationShop$Machine" (10, 3, 903, 0, 0) := am_pr903 (am_tw2 (i := 64) rfl rfl)
theorem am_l5_7_16 : am_ltP am_P "DelegationShop$Machine" (11, 56, 5, 6, 0) := am_pfN rfl rfl (am_tw3 (i := 125) rfl rfl) rfl
theorem am_l5_7_17 : am_ltP am_P "DelegationShop$Machine" (11, 64, 5, 7, 0) := am_pfN rfl rfl (am_tw3 (i := 127) rfl rfl) rfl
theorem am_l5_7_18 : am_ltP am_P "DelegationShop$Machine" (11, 83, 5, 10, 0) := am_pfN rfl rfl (am_tw3 (i := 130) rfl rfl) rfl
theorem am_l5_7_19 : am_ltP am_P "DelegationShop$Machine" (11, 87, 5, 11, 0) := am_pfN rfl rfl (am_tw3 (i := 131) rfl rfl) rfl
def am_LT5_7 : List am_LE := [(3, 41, 48, 0, 0), (3, 48, 51, 0, 0), (3, 55, 128, 0, 0), (4, 9, 10, 0, 0), (4, 18, 6, 0, 0), (4, 25, 9, 0, 0), (4, 32, 4, 0, 0), (4, 39, 2, 0, 0), (4, 46, 3, 0, 0), (4, 53, 8, 0, 0), (5, 111, 0, 0, 100000000), (7, 174, 0, 0, 4000), (7, 251, 0, 0, (-9223372036854775808)), (7, 253, 0, 0, (-1)), (9, 278, 900, 0, 0), (10, 3, 903, 0, 0), (11, 56, 5, 6, 0), (11, 64, 5, 7, 0), (11, 83, 5, 10, 0), (11, 87, 5, 11, 0)]
theorem am_LTo5_7 : ∀ x ∈ am_LT5_7, am_ltP am_P "DelegationShop$Machine" x := List.forall_mem_cons.mpr ⟨am_l5_7_0, List.forall_mem_cons.mpr ⟨am_l5_7_1, List.forall_mem_cons.mpr ⟨am_l5_7_2, List.forall_mem_cons.mpr ⟨am_l5_7_3, List.forall_mem_cons.mpr ⟨am_l5_7_4, List.forall_mem_cons.mpr ⟨am_l5_7_5, List.forall_mem_cons.mpr ⟨am_l5_7_6, List.forall_mem_cons.mpr ⟨am_l5_7_7, List.forall_mem_cons.mpr ⟨am_l5_7_8, List.forall_mem_cons.mpr ⟨am_l5_7_9, List.forall_mem_cons.mpr ⟨am_l5_7_10, List.forall_mem_cons.mpr ⟨am_l5_7_11, List.forall_mem_cons.mpr ⟨am_l5_7_12, List.forall_mem_cons.mpr ⟨am_l5_7_13, List.forall_mem_cons.mpr ⟨am_l5_7_14, List.forall_mem_cons.mpr ⟨am_l5_7_15, List.forall_mem_cons.mpr ⟨am_l5_7_16, List.forall_mem_cons.mpr ⟨am_l5_7_17, List.forall_mem_cons.mpr ⟨am_l5_7_18, List.forall_mem_cons.mpr ⟨am_l5_7_19, fun _ h => by cases h⟩⟩⟩⟩⟩⟩⟩⟩⟩⟩⟩⟩⟩⟩⟩⟩⟩⟩⟩⟩
theorem am_l5_8_0 : am_ltP am_P "DelegationShop$Machine" (11, 94, 5, 13, 0) := am_pfN rfl rfl (am_tw3 (i := 133) rfl rfl) rfl
theorem am_l5_8_1 : am_ltP am_P "DelegationShop$Machine" (11, 97, 5, 14, 0) := am_pfN rfl rfl (am_tw3 (i := 134) rfl rfl) rfl
theorem am_l5_8_2 : am_ltP am_P "DelegationShop$Machine" (11, 100, 5, 15, 0) := am_pfN rfl rfl (am_tw3 (i := 135) rfl rfl) rfl
theorem am_l5_8_3 : am_ltP am_P "DelegationShop$Machine" (11, 103, 5, 16, 0) := am_pfN rfl rfl (am_tw3 (i := 136) rfl rfl) rfl
theorem am_l5_8_4 : am_ltP am_P "DelegationShop$Machine" (11, 115, 3, 10, 1) := am_pfX rfl rfl (am_tw3 (i := 73) rfl rfl) rfl
theorem am_l5_8_5 : am_ltP am_P "DelegationShop$Machine" (11, 137, 5, 12, 0) := am_pfN rfl rfl (am_tw3 (i := 132) rfl rfl) rfl
theorem am_l5_8_6 : am_ltP am_P "DelegationShop$Machine" (11, 367, 3, 4, 1) := am_pfX rfl rfl (am_tw3 (i := 66) rfl rfl) rfl
theorem am_l5_8_7 : am_ltP am_P "DelegationShop$Machine" (12, 12, 5, 0, 0) := am_pfF rfl rfl (am_tw3 (i := 115) rfl rfl) rfl
theorem am_l5_8_8 : am_ltP am_P "DelegationShop$Machine" (12, 21, 5, 1, 0) := am_pfF rfl rfl (am_tw3 (i := 117) rfl rfl) rfl
theorem am_l5_8_9 : am_ltP am_P "DelegationShop$Machine" (12, 28, 5, 2, 0) := am_pfF rfl rfl (am_tw3 (i := 119) rfl rfl) rfl
theorem am_l5_8_10 : am_ltP am_P "DelegationShop$Machine" (12, 35, 5, 3, 0) := am_pfF rfl rfl (am_tw3 (i := 121) rfl rfl) rfl
theorem am_l5_8_11 : am_ltP am_P "DelegationShop$Machine" (12, 42, 5, 4, 0) := am_pfF rfl rfl (am_tw3 (i := 123) rfl rfl) rfl
theorem am_l5_8_12 : am_ltP am_P "DelegationShop$Machine" (12, 49, 5, 5, 0) := am_pfF rfl rfl (am_tw3 (i := 124) rfl rfl) rfl
theorem am_l5_8_13 : am_ltP am_P "DelegationShop$Machine" (12, 65, 5, 8, 0) := am_pfF rfl rfl (am_tw3 (i := 128) rfl rfl) rfl
theorem am_l5_8_14 : am_ltP am_P "DelegationShop$Machine" (12, 69, 5, 9, 0) := am_pfF rfl rfl (am_tw3 (i := 129) rfl rfl) rfl
def am_LT5_8 : List am_LE := [(11, 94, 5, 13, 0), (11, 97, 5, 14, 0), (11, 100, 5, 15, 0), (11, 103, 5, 16, 0), (11, 115, 3, 10, 1), (11, 137, 5, 12, 0), (11, 367, 3, 4, 1), (12, 12, 5, 0, 0), (12, 21, 5, 1, 0), (12, 28, 5, 2, 0), (12, 35, 5, 3, 0), (12, 42, 5, 4, 0), (12, 49, 5, 5, 0), (12, 65, 5, 8, 0), (12, 69, 5, 9, 0)]
theorem am_LTo5_8 : ∀ x ∈ am_LT5_8, am_ltP am_P "DelegationShop$Machine" x := List.forall_mem_cons.mpr ⟨am_l5_8_0, List.forall_mem_cons.mpr ⟨am_l5_8_1, List.forall_mem_cons.mpr ⟨am_l5_8_2, List.forall_mem_cons.mpr ⟨am_l5_8_3, List.forall_mem_cons.mpr ⟨am_l5_8_4, List.forall_mem_cons.mpr ⟨am_l5_8_5, List.forall_mem_cons.mpr ⟨am_l5_8_6, List.forall_mem_cons.mpr ⟨am_l5_8_7, List.forall_mem_cons.mpr ⟨am_l5_8_8, List.forall_mem_cons.mpr ⟨am_l5_8_9, List.forall_mem_cons.mpr ⟨am_l5_8_10, List.forall_mem_cons.mpr ⟨am_l5_8_11, List.forall_mem_cons.mpr ⟨am_l5_8_12, List.forall_mem_cons.mpr ⟨am_l5_8_13, List.forall_mem_cons.mpr ⟨am_l5_8_14, fun _ h => by cases h⟩⟩⟩⟩⟩⟩⟩⟩⟩⟩⟩⟩⟩⟩⟩
def am_LT5 : List am_LE := am_LT5_0 ++ (am_LT5_1 ++ (am_LT5_2 ++ (am_LT5_3 ++ (am_LT5_4 ++ (am_LT5_5 ++ (am_LT5_6 ++ (am_LT5_7 ++ (am_LT5_8))))))))
theorem am_LTok5 : ∀ x ∈ am_LT5, am_ltP am_P "DelegationShop$Machine" x := fun x h => (List.mem_append.mp h).elim (fun h => am_LTo5_0 x h) (fun h => (List.mem_append.mp h).elim (fun h => am_LTo5_1 x h) (fun h => (List.mem_append.mp h).elim (fun h => am_LTo5_2 x h) (fun h => (List.mem_append.mp h).elim (fun h => am_LTo5_3 x h) (fun h => (List.mem_append.mp h).elim (fun h => am_LTo5_4 x h) (fun h => (List.mem_append.mp h).elim (fun h => am_LTo5_5 x h) (fun h => (List.mem_append.mp h).elim (fun h => am_LTo5_6 x h) (fun h => (List.mem_append.mp h).elim (fun h => am_LTo5_7 x h) (fun h => am_LTo5_8 x h))))))))
theorem am_l6_0_0 : am_ltP am_P "DelegationShop$Sites" (0, 11, 6, 0, 0) := am_gfN rfl rfl (am_tw2 (i := 131) rfl rfl)
theorem am_l6_0_1 : am_ltP am_P "DelegationShop$Sites" (0, 15, 6, 1, 0) := am_gfN rfl rfl (am_tw2 (i := 132) rfl rfl)
theorem am_l6_0_2 : am_ltP am_P "DelegationShop$Sites" (0, 19, 6, 2, 0) := am_gfN rfl rfl (am_tw2 (i := 133) rfl rfl)
theorem am_l6_0_3 : am_ltP am_P "DelegationShop$Sites" (0, 22, 6, 3, 0) := am_gfN rfl rfl (am_tw2 (i := 134) rfl rfl)
theorem am_l6_0_4 : am_ltP am_P "DelegationShop$Sites" (0, 28, 6, 5, 0) := am_gfN rfl rfl (am_tw2 (i := 136) rfl rfl)
theorem am_l6_0_5 : am_ltP am_P "DelegationShop$Sites" (0, 38, 6, 4, 0) := am_gfN rfl rfl (am_tw2 (i := 135) rfl rfl)
theorem am_l6_0_6 : am_ltP am_P "DelegationShop$Sites" (0, 41, 6, 6, 0) := am_gfN rfl rfl (am_tw2 (i := 138) rfl rfl)
theorem am_l6_0_7 : am_ltP am_P "DelegationShop$Sites" (0, 50, 10, 9, 1) := am_gfX rfl rfl (am_tw2 (i := 83) rfl rfl)
theorem am_l6_0_8 : am_ltP am_P "DelegationShop$Sites" (0, 54, 10, 10, 1) := am_gfX rfl rfl (am_tw2 (i := 86) rfl rfl)
theorem am_l6_0_9 : am_ltP am_P "DelegationShop$Sites" (0, 76, 10, 11, 1) := am_gfX rfl rfl (am_tw2 (i := 90) rfl rfl)
theorem am_l6_0_10 : am_ltP am_P "DelegationShop$Sites" (1, 25, 104, 0, 0) := am_lm104 (Or.inl (am_tw5 (i := 96) rfl rfl))
theorem am_l6_0_11 : am_ltP am_P "DelegationShop$Sites" (1, 44, 157, 0, 0) := am_lm157 (Or.inr ⟨_, (am_tw7 (i := 118) rfl rfl)⟩)
theorem am_l6_0_12 : am_ltP am_P "DelegationShop$Sites" (1, 58, 109, 0, 0) := am_lm109 (Or.inl (am_tw7 (i := 136) rfl rfl))
theorem am_l6_0_13 : am_ltP am_P "DelegationShop$Sites" (1, 62, 108, 0, 0) := am_lm108 (Or.inl (am_tw7 (i := 140) rfl rfl))
theorem am_l6_0_14 : am_ltP am_P "DelegationShop$Sites" (1, 65, 110, 0, 0) := am_lm110 (Or.inl (am_tw7 (i := 147) rfl rfl))
theorem am_l6_0_15 : am_ltP am_P "DelegationShop$Sites" (1, 73, 111, 0, 0) := am_lm111 (Or.inl (am_tw7 (i := 151) rfl rfl))
theorem am_l6_0_16 : am_ltP am_P "DelegationShop$Sites" (1, 85, 113, 0, 0) := am_lm113 (Or.inl (am_tw7 (i := 227) rfl rfl))
theorem am_l6_0_17 : am_ltP am_P "DelegationShop$Sites" (1, 88, 106, 0, 0) := am_lm106 (Or.inl (am_tw7 (i := 231) rfl rfl))
theorem am_l6_0_18 : am_ltP am_P "DelegationShop$Sites" (1, 92, 114, 0, 0) := am_lm114 (Or.inl (am_tw7 (i := 235) rfl rfl))
theorem am_l6_0_19 : am_ltP am_P "DelegationShop$Sites" (2, 32, 190, 0, 0) := am_lm190 (Or.inl (am_tw5 (i := 100) rfl rfl))
def am_LT6_0 : List am_LE := [(0, 11, 6, 0, 0), (0, 15, 6, 1, 0), (0, 19, 6, 2, 0), (0, 22, 6, 3, 0), (0, 28, 6, 5, 0), (0, 38, 6, 4, 0), (0, 41, 6, 6, 0), (0, 50, 10, 9, 1), (0, 54, 10, 10, 1), (0, 76, 10, 11, 1), (1, 25, 104, 0, 0), (1, 44, 157, 0, 0), (1, 58, 109, 0, 0), (1, 62, 108, 0, 0), (1, 65, 110, 0, 0), (1, 73, 111, 0, 0), (1, 85, 113, 0, 0), (1, 88, 106, 0, 0), (1, 92, 114, 0, 0), (2, 32, 190, 0, 0)]
theorem am_LTo6_0 : ∀ x ∈ am_LT6_0, am_ltP am_P "DelegationShop$Sites" x := List.forall_mem_cons.mpr ⟨am_l6_0_0, List.forall_mem_cons.mpr ⟨am_l6_0_1, List.forall_mem_cons.mpr ⟨am_l6_0_2, List.forall_mem_cons.mpr ⟨am_l6_0_3, List.forall_mem_cons.mpr ⟨am_l6_0_4, List.forall_mem_cons.mpr ⟨am_l6_0_5, List.forall_mem_cons.mpr ⟨am_l6_0_6, List.forall_mem_cons.mpr ⟨am_l6_0_7, List.forall_mem_cons.mpr ⟨am_l6_0_8, List.forall_mem_cons.mpr ⟨am_l6_0_9, List.forall_mem_cons.mpr ⟨am_l6_0_10, List.forall_mem_cons.mpr ⟨am_l6_0_11, List.forall_mem_cons.mpr ⟨am_l6_0_12, List.forall_mem_cons.mpr ⟨am_l6_0_13, List.forall_mem_cons.mpr ⟨am_l6_0_14, List.forall_mem_cons.mpr ⟨am_l6_0_15, List.forall_mem_cons.mpr ⟨am_l6_0_16, List.forall_mem_cons.mpr ⟨am_l6_0_17, List.forall_mem_cons.mpr ⟨am_l6_0_18, List.forall_mem_cons.mpr ⟨am_l6_0_19, fun _ h => by cases h⟩⟩⟩⟩⟩⟩⟩⟩⟩⟩⟩⟩⟩⟩⟩⟩⟩⟩⟩⟩
theorem am_l6_1_0 : am_ltP am_P "DelegationShop$Sites" (2, 69, 105, 0, 0) := am_lm105 (Or.inl (am_tw7 (i := 144) rfl rfl))
theorem am_l6_1_1 : am_ltP am_P "DelegationShop$Sites" (9, 79, 904, 0, 0) := am_pr904 (am_tw7 (i := 155) rfl rfl)
theorem am_l6_1_2 : am_ltP am_P "DelegationShop$Sites" (10, 5, 903, 0, 0) := am_pr903 (am_tw2 (i := 130) rfl rfl)
theorem am_l6_1_3 : am_ltP am_P "DelegationShop$Sites" (11, 28, 6, 5, 0) := am_pfN rfl rfl (am_tw2 (i := 136) rfl rfl) rfl
theorem am_l6_1_4 : am_ltP am_P "DelegationShop$Sites" (11, 38, 6, 4, 0) := am_pfN rfl rfl (am_tw2 (i := 135) rfl rfl) rfl
theorem am_l6_1_5 : am_ltP am_P "DelegationShop$Sites" (11, 53, 6, 7, 0) := am_pfN rfl rfl (am_tw2 (i := 139) rfl rfl) rfl
theorem am_l6_1_6 : am_ltP am_P "DelegationShop$Sites" (11, 57, 6, 8, 0) := am_pfN rfl rfl (am_tw2 (i := 141) rfl rfl) rfl
theorem am_l6_1_7 : am_ltP am_P "DelegationShop$Sites" (12, 11, 6, 0, 0) := am_pfF rfl rfl (am_tw2 (i := 131) rfl rfl) rfl
theorem am_l6_1_8 : am_ltP am_P "DelegationShop$Sites" (12, 15, 6, 1, 0) := am_pfF rfl rfl (am_tw2 (i := 132) rfl rfl) rfl
theorem am_l6_1_9 : am_ltP am_P "DelegationShop$Sites" (12, 19, 6, 2, 0) := am_pfF rfl rfl (am_tw2 (i := 133) rfl rfl) rfl
theorem am_l6_1_10 : am_ltP am_P "DelegationShop$Sites" (12, 22, 6, 3, 0) := am_pfF rfl rfl (am_tw2 (i := 134) rfl rfl) rfl
def am_LT6_1 : List am_LE := [(2, 69, 105, 0, 0), (9, 79, 904, 0, 0), (10, 5, 903, 0, 0), (11, 28, 6, 5, 0), (11, 38, 6, 4, 0), (11, 53, 6, 7, 0), (11, 57, 6, 8, 0), (12, 11, 6, 0, 0), (12, 15, 6, 1, 0), (12, 19, 6, 2, 0), (12, 22, 6, 3, 0)]
theorem am_LTo6_1 : ∀ x ∈ am_LT6_1, am_ltP am_P "DelegationShop$Sites" x := List.forall_mem_cons.mpr ⟨am_l6_1_0, List.forall_mem_cons.mpr ⟨am_l6_1_1, List.forall_mem_cons.mpr ⟨am_l6_1_2, List.forall_mem_cons.mpr ⟨am_l6_1_3, List.forall_mem_cons.mpr ⟨am_l6_1_4, List.forall_mem_cons.mpr ⟨am_l6_1_5, List.forall_mem_cons.mpr ⟨am_l6_1_6, List.forall_mem_cons.mpr ⟨am_l6_1_7, List.forall_mem_cons.mpr ⟨am_l6_1_8, List.forall_mem_cons.mpr ⟨am_l6_1_9, List.forall_mem_cons.mpr ⟨am_l6_1_10, fun _ h => by cases h⟩⟩⟩⟩⟩⟩⟩⟩⟩⟩⟩
def am_LT6 : List am_LE := am_LT6_0 ++ (am_LT6_1)
theorem am_LTok6 : ∀ x ∈ am_LT6, am_ltP am_P "DelegationShop$Sites" x := fun x h => (List.mem_append.mp h).elim (fun h => am_LTo6_0 x h) (fun h => am_LTo6_1 x h)
theorem am_l7_0_0 : am_ltP am_P "DelegationShop$Tape" (0, 9, 7, 0, 0) := am_gfN rfl rfl (am_tw1 (i := 105) rfl rfl)
theorem am_l7_0_1 : am_ltP am_P "DelegationShop$Tape" (0, 15, 7, 2, 0) := am_gfN rfl rfl (am_tw1 (i := 108) rfl rfl)
theorem am_l7_0_2 : am_ltP am_P "DelegationShop$Tape" (0, 19, 7, 3, 0) := am_gfN rfl rfl (am_tw1 (i := 109) rfl rfl)
theorem am_l7_0_3 : am_ltP am_P "DelegationShop$Tape" (0, 23, 7, 4, 0) := am_gfN rfl rfl (am_tw1 (i := 110) rfl rfl)
theorem am_l7_0_4 : am_ltP am_P "DelegationShop$Tape" (0, 26, 7, 5, 0) := am_gfN rfl rfl (am_tw1 (i := 111) rfl rfl)
theorem am_l7_0_5 : am_ltP am_P "DelegationShop$Tape" (0, 45, 7, 1, 0) := am_gfN rfl rfl (am_tw1 (i := 107) rfl rfl)
theorem am_l7_0_6 : am_ltP am_P "DelegationShop$Tape" (0, 48, 7, 6, 0) := am_gfN rfl rfl (am_tw1 (i := 112) rfl rfl)
theorem am_l7_0_7 : am_ltP am_P "DelegationShop$Tape" (0, 72, 7, 7, 0) := am_gfN rfl rfl (am_tw1 (i := 113) rfl rfl)
theorem am_l7_0_8 : am_ltP am_P "DelegationShop$Tape" (1, 31, 184, 0, 0) := am_lm184 (Or.inl (am_tw1 (i := 53) rfl rfl))
theorem am_l7_0_9 : am_ltP am_P "DelegationShop$Tape" (1, 37, 178, 0, 0) := am_lm178 (Or.inl (am_tw1 (i := 63) rfl rfl))
theorem am_l7_0_10 : am_ltP am_P "DelegationShop$Tape" (1, 55, 119, 0, 0) := am_lm119 (Or.inl (am_tw3 (i := 225) rfl rfl))
theorem am_l7_0_11 : am_ltP am_P "DelegationShop$Tape" (1, 62, 121, 0, 0) := am_lm121 (Or.inl (am_tw4 (i := 0) rfl rfl))
theorem am_l7_0_12 : am_ltP am_P "DelegationShop$Tape" (1, 65, 122, 0, 0) := am_lm122 (Or.inl (am_tw4 (i := 5) rfl rfl))
theorem am_l7_0_13 : am_ltP am_P "DelegationShop$Tape" (1, 68, 118, 0, 0) := am_lm118 (Or.inl (am_tw3 (i := 233) rfl rfl))
theorem am_l7_0_14 : am_ltP am_P "DelegationShop$Tape" (1, 75, 123, 0, 0) := am_lm123 (Or.inl (am_tw4 (i := 69) rfl rfl))
theorem am_l7_0_15 : am_ltP am_P "DelegationShop$Tape" (1, 78, 120, 0, 0) := am_lm120 (Or.inl (am_tw3 (i := 229) rfl rfl))
theorem am_l7_0_16 : am_ltP am_P "DelegationShop$Tape" (1, 86, 181, 0, 0) := am_lm181 (Or.inl (am_tw4 (i := 10) rfl rfl))
theorem am_l7_0_17 : am_ltP am_P "DelegationShop$Tape" (2, 41, 125, 0, 0) := am_lm125 (Or.inl (am_tw1 (i := 101) rfl rfl))
theorem am_l7_0_18 : am_ltP am_P "DelegationShop$Tape" (2, 51, 126, 0, 0) := am_lm126 (Or.inl (am_tw3 (i := 222) rfl rfl))
theorem am_l7_0_19 : am_ltP am_P "DelegationShop$Tape" (2, 59, 127, 0, 0) := am_lm127 (Or.inl (am_tw3 (i := 237) rfl rfl))
def am_LT7_0 : List am_LE := [(0, 9, 7, 0, 0), (0, 15, 7, 2, 0), (0, 19, 7, 3, 0), (0, 23, 7, 4, 0), (0, 26, 7, 5, 0), (0, 45, 7, 1, 0), (0, 48, 7, 6, 0), (0, 72, 7, 7, 0), (1, 31, 184, 0, 0), (1, 37, 178, 0, 0), (1, 55, 119, 0, 0), (1, 62, 121, 0, 0), (1, 65, 122, 0, 0), (1, 68, 118, 0, 0), (1, 75, 123, 0, 0), (1, 78, 120, 0, 0), (1, 86, 181, 0, 0), (2, 41, 125, 0, 0), (2, 51, 126, 0, 0), (2, 59, 127, 0, 0)]
theorem am_LTo7_0 : ∀ x ∈ am_LT7_0, am_ltP am_P "DelegationShop$Tape" x := List.forall_mem_cons.mpr ⟨am_l7_0_0, List.forall_mem_cons.mpr ⟨am_l7_0_1, List.forall_mem_cons.mpr ⟨am_l7_0_2, List.forall_mem_cons.mpr ⟨am_l7_0_3, List.forall_mem_cons.mpr ⟨am_l7_0_4, List.forall_mem_cons.mpr ⟨am_l7_0_5, List.forall_mem_cons.mpr ⟨am_l7_0_6, List.forall_mem_cons.mpr ⟨am_l7_0_7, List.forall_mem_cons.mpr ⟨am_l7_0_8, List.forall_mem_cons.mpr ⟨am_l7_0_9, List.forall_mem_cons.mpr ⟨am_l7_0_10, List.forall_mem_cons.mpr ⟨am_l7_0_11, List.forall_mem_cons.mpr ⟨am_l7_0_12, List.forall_mem_cons.mpr ⟨am_l7_0_13, List.forall_mem_cons.mpr ⟨am_l7_0_14, List.forall_mem_cons.mpr ⟨am_l7_0_15, List.forall_mem_cons.mpr ⟨am_l7_0_16, List.forall_mem_cons.mpr ⟨am_l7_0_17, List.forall_mem_cons.mpr ⟨am_l7_0_18, List.forall_mem_cons.mpr ⟨am_l7_0_19, fun _ h => by cases h⟩⟩⟩⟩⟩⟩⟩⟩⟩⟩⟩⟩⟩⟩⟩⟩⟩⟩⟩⟩
theorem am_l7_1_0 : am_ltP am_P "DelegationShop$Tape" (5, 29, 10, 1, 0) := am_lcS (List.mem_of_getElem? (i := 0) rfl)
theorem am_l7_1_1 : am_ltP am_P "DelegationShop$Tape" (5, 84, 11, 1, 0) := am_lcS (List.mem_of_getElem? (i := 1) rfl)
theorem am_l7_1_2 : am_ltP am_P "DelegationShop$Tape" (7, 82, 0, 0, 10) := am_lcL (am_tw4 (i := 4) (by decide +kernel) rfl)
theorem am_l7_1_3 : am_ltP am_P "DelegationShop$Tape" (7, 99, 0, 0, 32) := am_lcL (am_tw1 (i := 104) (by decide +kernel) rfl)
theorem am_l7_1_4 : am_ltP am_P "DelegationShop$Tape" (10, 3, 903, 0, 0) := am_pr903 (am_tw1 (i := 51) rfl rfl)
theorem am_l7_1_5 : am_ltP am_P "DelegationShop$Tape" (11, 45, 7, 1, 0) := am_pfN rfl rfl (am_tw1 (i := 107) rfl rfl) rfl
theorem am_l7_1_6 : am_ltP am_P "DelegationShop$Tape" (11, 48, 7, 6, 0) := am_pfN rfl rfl (am_tw1 (i := 112) rfl rfl) rfl
theorem am_l7_1_7 : am_ltP am_P "DelegationShop$Tape" (11, 72, 7, 7, 0) := am_pfN rfl rfl (am_tw1 (i := 113) rfl rfl) rfl
theorem am_l7_1_8 : am_ltP am_P "DelegationShop$Tape" (11, 89, 7, 8, 0) := am_pfN rfl rfl (am_tw1 (i := 115) rfl rfl) rfl
theorem am_l7_1_9 : am_ltP am_P "DelegationShop$Tape" (11, 92, 7, 9, 0) := am_pfN rfl rfl (am_tw1 (i := 117) rfl rfl) rfl
theorem am_l7_1_10 : am_ltP am_P "DelegationShop$Tape" (11, 95, 7, 10, 0) := am_pfN rfl rfl (am_tw1 (i := 120) rfl rfl) rfl
theorem am_l7_1_11 : am_ltP am_P "DelegationShop$Tape" (12, 9, 7, 0, 0) := am_pfF rfl rfl (am_tw1 (i := 105) rfl rfl) rfl
theorem am_l7_1_12 : am_ltP am_P "DelegationShop$Tape" (12, 15, 7, 2, 0) := am_pfF rfl rfl (am_tw1 (i := 108) rfl rfl) rfl
theorem am_l7_1_13 : am_ltP am_P "DelegationShop$Tape" (12, 19, 7, 3, 0) := am_pfF rfl rfl (am_tw1 (i := 109) rfl rfl) rfl
theorem am_l7_1_14 : am_ltP am_P "DelegationShop$Tape" (12, 23, 7, 4, 0) := am_pfF rfl rfl (am_tw1 (i := 110) rfl rfl) rfl
theorem am_l7_1_15 : am_ltP am_P "DelegationShop$Tape" (12, 26, 7, 5, 0) := am_pfF rfl rfl (am_tw1 (i := 111) rfl rfl) rfl
def am_LT7_1 : List am_LE := [(5, 29, 10, 1, 0), (5, 84, 11, 1, 0), (7, 82, 0, 0, 10), (7, 99, 0, 0, 32), (10, 3, 903, 0, 0), (11, 45, 7, 1, 0), (11, 48, 7, 6, 0), (11, 72, 7, 7, 0), (11, 89, 7, 8, 0), (11, 92, 7, 9, 0), (11, 95, 7, 10, 0), (12, 9, 7, 0, 0), (12, 15, 7, 2, 0), (12, 19, 7, 3, 0), (12, 23, 7, 4, 0), (12, 26, 7, 5, 0)]
theorem am_LTo7_1 : ∀ x ∈ am_LT7_1, am_ltP am_P "DelegationShop$Tape" x := List.forall_mem_cons.mpr ⟨am_l7_1_0, List.forall_mem_cons.mpr ⟨am_l7_1_1, List.forall_mem_cons.mpr ⟨am_l7_1_2, List.forall_mem_cons.mpr ⟨am_l7_1_3, List.forall_mem_cons.mpr ⟨am_l7_1_4, List.forall_mem_cons.mpr ⟨am_l7_1_5, List.forall_mem_cons.mpr ⟨am_l7_1_6, List.forall_mem_cons.mpr ⟨am_l7_1_7, List.forall_mem_cons.mpr ⟨am_l7_1_8, List.forall_mem_cons.mpr ⟨am_l7_1_9, List.forall_mem_cons.mpr ⟨am_l7_1_10, List.forall_mem_cons.mpr ⟨am_l7_1_11, List.forall_mem_cons.mpr ⟨am_l7_1_12, List.forall_mem_cons.mpr ⟨am_l7_1_13, List.forall_mem_cons.mpr ⟨am_l7_1_14, List.forall_mem_cons.mpr ⟨am_l7_1_15, fun _ h => by cases h⟩⟩⟩⟩⟩⟩⟩⟩⟩⟩⟩⟩⟩⟩⟩⟩
def am_LT7 : List am_LE := am_LT7_0 ++ (am_LT7_1)
theorem am_LTok7 : ∀ x ∈ am_LT7, am_ltP am_P "DelegationShop$Tape" x := fun x h => (List.mem_append.mp h).elim (fun h => am_LTo7_0 x h) (fun h => am_LTo7_1 x h)
theorem am_l8_0_0 : am_ltP am_P "DelegationShop$Text" (0, 12, 8, 0, 0) := am_gfN rfl rfl (am_tw1 (i := 206) rfl rfl)
theorem am_l8_0_1 : am_ltP am_P "DelegationShop$Text" (0, 18, 8, 1, 0) := am_gfN rfl rfl (am_tw1 (i := 209) rfl rfl)
theorem am_l8_0_2 : am_ltP am_P "DelegationShop$Text" (0, 29, 8, 5, 0) := am_gfN rfl rfl (am_tw1 (i := 222) rfl rfl)
theorem am_l8_0_3 : am_ltP am_P "DelegationShop$Text" (0, 53, 8, 4, 0) := am_gfN rfl rfl (am_tw1 (i := 218) rfl rfl)
theorem am_l8_0_4 : am_ltP am_P "DelegationShop$Text" (0, 65, 8, 6, 0) := am_gfN rfl rfl (am_tw1 (i := 223) rfl rfl)
theorem am_l8_0_5 : am_ltP am_P "DelegationShop$Text" (1, 50, 2, 0, 0) := am_lm2 (Or.inr ⟨_, (am_tw3 (i := 213) rfl rfl)⟩)
theorem am_l8_0_6 : am_ltP am_P "DelegationShop$Text" (3, 11, 1, 0, 0) := am_lm1 (Or.inr ⟨_, (am_tw1 (i := 155) rfl rfl)⟩)
theorem am_l8_0_7 : am_ltP am_P "DelegationShop$Text" (4, 9, 0, 0, 0) := am_nwN rfl (am_tw1 (i := 153) rfl rfl) (am_tw1 (i := 154) rfl rfl) (am_tw1 (i := 9) rfl rfl)
theorem am_l8_0_8 : am_ltP am_P "DelegationShop$Text" (7, 63, 0, 0, 409204) := am_lcL (am_tw3 (i := 217) (by decide +kernel) rfl)
theorem am_l8_0_9 : am_ltP am_P "DelegationShop$Text" (10, 3, 903, 0, 0) := am_pr903 (am_tw1 (i := 152) rfl rfl)
theorem am_l8_0_10 : am_ltP am_P "DelegationShop$Text" (11, 53, 8, 4, 0) := am_pfN rfl rfl (am_tw1 (i := 218) rfl rfl) rfl
theorem am_l8_0_11 : am_ltP am_P "DelegationShop$Text" (11, 57, 8, 10, 0) := am_pfN rfl rfl (am_tw1 (i := 231) rfl rfl) rfl
theorem am_l8_0_12 : am_ltP am_P "DelegationShop$Text" (11, 60, 8, 14, 0) := am_pfN rfl rfl (am_tw2 (i := 2) rfl rfl) rfl
theorem am_l8_0_13 : am_ltP am_P "DelegationShop$Text" (11, 65, 8, 6, 0) := am_pfN rfl rfl (am_tw1 (i := 223) rfl rfl) rfl
theorem am_l8_0_14 : am_ltP am_P "DelegationShop$Text" (12, 12, 8, 0, 0) := am_pfF rfl rfl (am_tw1 (i := 206) rfl rfl) rfl
theorem am_l8_0_15 : am_ltP am_P "DelegationShop$Text" (12, 18, 8, 1, 0) := am_pfF rfl rfl (am_tw1 (i := 209) rfl rfl) rfl
theorem am_l8_0_16 : am_ltP am_P "DelegationShop$Text" (12, 22, 8, 2, 0) := am_pfF rfl rfl (am_tw1 (i := 211) rfl rfl) rfl
theorem am_l8_0_17 : am_ltP am_P "DelegationShop$Text" (12, 26, 8, 3, 0) := am_pfF rfl rfl (am_tw1 (i := 215) rfl rfl) rfl
theorem am_l8_0_18 : am_ltP am_P "DelegationShop$Text" (12, 29, 8, 5, 0) := am_pfF rfl rfl (am_tw1 (i := 222) rfl rfl) rfl
theorem am_l8_0_19 : am_ltP am_P "DelegationShop$Text" (12, 32, 8, 7, 0) := am_pfF rfl rfl (am_tw1 (i := 224) rfl rfl) rfl
def am_LT8_0 : List am_LE := [(0, 12, 8, 0, 0), (0, 18, 8, 1, 0), (0, 29, 8, 5, 0), (0, 53, 8, 4, 0), (0, 65, 8, 6, 0), (1, 50, 2, 0, 0), (3, 11, 1, 0, 0), (4, 9, 0, 0, 0), (7, 63, 0, 0, 409204), (10, 3, 903, 0, 0), (11, 53, 8, 4, 0), (11, 57, 8, 10, 0), (11, 60, 8, 14, 0), (11, 65, 8, 6, 0), (12, 12, 8, 0, 0), (12, 18, 8, 1, 0), (12, 22, 8, 2, 0), (12, 26, 8, 3, 0), (12, 29, 8, 5, 0), (12, 32, 8, 7, 0)]
theorem am_LTo8_0 : ∀ x ∈ am_LT8_0, am_ltP am_P "DelegationShop$Text" x := List.forall_mem_cons.mpr ⟨am_l8_0_0, List.forall_mem_cons.mpr ⟨am_l8_0_1, List.forall_mem_cons.mpr ⟨am_l8_0_2, List.forall_mem_cons.mpr ⟨am_l8_0_3, List.forall_mem_cons.mpr ⟨am_l8_0_4, List.forall_mem_cons.mpr ⟨am_l8_0_5, List.forall_mem_cons.mpr ⟨am_l8_0_6, List.forall_mem_cons.mpr ⟨am_l8_0_7, List.forall_mem_cons.mpr ⟨am_l8_0_8, List.forall_mem_cons.mpr ⟨am_l8_0_9, List.forall_mem_cons.mpr ⟨am_l8_0_10, List.forall_mem_cons.mpr ⟨am_l8_0_11, List.forall_mem_cons.mpr ⟨am_l8_0_12, List.forall_mem_cons.mpr ⟨am_l8_0_13, List.forall_mem_cons.mpr ⟨am_l8_0_14, List.forall_mem_cons.mpr ⟨am_l8_0_15, List.forall_mem_cons.mpr ⟨am_l8_0_16, List.forall_mem_cons.mpr ⟨am_l8_0_17, List.forall_mem_cons.mpr ⟨am_l8_0_18, List.forall_mem_cons.mpr ⟨am_l8_0_19, fun _ h => by cases h⟩⟩⟩⟩⟩⟩⟩⟩⟩⟩⟩⟩⟩⟩⟩⟩⟩⟩⟩⟩
theorem am_l8_1_0 : am_ltP am_P "DelegationShop$Text" (12, 35, 8, 8, 0) := am_pfF rfl rfl (am_tw1 (i := 226) rfl rfl) rfl
theorem am_l8_1_1 : am_ltP am_P "DelegationShop$Text" (12, 38, 8, 9, 0) := am_pfF rfl rfl (am_tw1 (i := 229) rfl rfl) rfl
theorem am_l8_1_2 : am_ltP am_P "DelegationShop$Text" (12, 41, 8, 11, 0) := am_pfF rfl rfl (am_tw1 (i := 233) rfl rfl) rfl
theorem am_l8_1_3 : am_ltP am_P "DelegationShop$Text" (12, 44, 8, 12, 0) := am_pfF rfl rfl (am_tw1 (i := 236) rfl rfl) rfl
theorem am_l8_1_4 : am_ltP am_P "DelegationShop$Text" (12, 47, 8, 13, 0) := am_pfF rfl rfl (am_tw1 (i := 239) rfl rfl) rfl
def am_LT8_1 : List am_LE := [(12, 35, 8, 8, 0), (12, 38, 8, 9, 0), (12, 41, 8, 11, 0), (12, 44, 8, 12, 0), (12, 47, 8, 13, 0)]
theorem am_LTo8_1 : ∀ x ∈ am_LT8_1, am_ltP am_P "DelegationShop$Text" x := List.forall_mem_cons.mpr ⟨am_l8_1_0, List.forall_mem_cons.mpr ⟨am_l8_1_1, List.forall_mem_cons.mpr ⟨am_l8_1_2, List.forall_mem_cons.mpr ⟨am_l8_1_3, List.forall_mem_cons.mpr ⟨am_l8_1_4, fun _ h => by cases h⟩⟩⟩⟩⟩
def am_LT8 : List am_LE := am_LT8_0 ++ (am_LT8_1)
theorem am_LTok8 : ∀ x ∈ am_LT8, am_ltP am_P "DelegationShop$Text" x := fun x h => (List.mem_append.mp h).elim (fun h => am_LTo8_0 x h) (fun h => am_LTo8_1 x h)
theorem am_l9_0_0 : am_ltP am_P "DelegationShop$Words" (0, 11, 9, 0, 0) := am_gfN rfl rfl (am_tw2 (i := 168) rfl rfl)
theorem am_l9_0_1 : am_ltP am_P "DelegationShop$Words" (0, 15, 9, 1, 0) := am_gfN rfl rfl (am_tw2 (i := 170) rfl rfl)
theorem am_l9_0_2 : am_ltP am_P "DelegationShop$Words" (0, 19, 9, 2, 0) := am_gfN rfl rfl (am_tw2 (i := 172) rfl rfl)
theorem am_l9_0_3 : am_ltP am_P "DelegationShop$Words" (0, 22, 9, 3, 0) := am_gfN rfl rfl (am_tw2 (i := 173) rfl rfl)
theorem am_l9_0_4 : am_ltP am_P "DelegationShop$Words" (0, 25, 9, 4, 0) := am_gfN rfl rfl (am_tw2 (i := 175) rfl rfl)
theorem am_l9_0_5 : am_ltP am_P "DelegationShop$Words" (0, 28, 9, 5, 0) := am_gfN rfl rfl (am_tw2 (i := 177) rfl rfl)
theorem am_l9_0_6 : am_ltP am_P "DelegationShop$Words" (0, 32, 9, 6, 0) := am_gfN rfl rfl (am_tw2 (i := 178) rfl rfl)
theorem am_l9_0_7 : am_ltP am_P "DelegationShop$Words" (0, 35, 9, 7, 0) := am_gfN rfl rfl (am_tw2 (i := 180) rfl rfl)
theorem am_l9_0_8 : am_ltP am_P "DelegationShop$Words" (0, 38, 9, 8, 0) := am_gfN rfl rfl (am_tw2 (i := 182) rfl rfl)
theorem am_l9_0_9 : am_ltP am_P "DelegationShop$Words" (0, 41, 9, 9, 0) := am_gfN rfl rfl (am_tw2 (i := 184) rfl rfl)
theorem am_l9_0_10 : am_ltP am_P "DelegationShop$Words" (0, 44, 9, 10, 0) := am_gfN rfl rfl (am_tw2 (i := 186) rfl rfl)
theorem am_l9_0_11 : am_ltP am_P "DelegationShop$Words" (0, 47, 9, 12, 0) := am_gfN rfl rfl (am_tw2 (i := 188) rfl rfl)
theorem am_l9_0_12 : am_ltP am_P "DelegationShop$Words" (0, 50, 9, 13, 0) := am_gfN rfl rfl (am_tw2 (i := 190) rfl rfl)
theorem am_l9_0_13 : am_ltP am_P "DelegationShop$Words" (0, 53, 9, 14, 0) := am_gfN rfl rfl (am_tw2 (i := 192) rfl rfl)
theorem am_l9_0_14 : am_ltP am_P "DelegationShop$Words" (0, 57, 9, 11, 0) := am_gfN rfl rfl (am_tw2 (i := 187) rfl rfl)
theorem am_l9_0_15 : am_ltP am_P "DelegationShop$Words" (1, 75, 139, 0, 0) := am_lm139 (Or.inl (am_tw7 (i := 8) rfl rfl))
theorem am_l9_0_16 : am_ltP am_P "DelegationShop$Words" (2, 60, 191, 0, 0) := am_lm191 (Or.inl (am_tw6 (i := 29) rfl rfl))
theorem am_l9_0_17 : am_ltP am_P "DelegationShop$Words" (2, 66, 192, 0, 0) := am_lm192 (Or.inl (am_tw7 (i := 1) rfl rfl))
theorem am_l9_0_18 : am_ltP am_P "DelegationShop$Words" (9, 69, 901, 0, 0) := am_pr901 (am_tw7 (i := 12) rfl rfl)
theorem am_l9_0_19 : am_ltP am_P "DelegationShop$Words" (10, 3, 903, 0, 0) := am_pr903 (am_tw2 (i := 167) rfl rfl)
def am_LT9_0 : List am_LE := [(0, 11, 9, 0, 0), (0, 15, 9, 1, 0), (0, 19, 9, 2, 0), (0, 22, 9, 3, 0), (0, 25, 9, 4, 0), (0, 28, 9, 5, 0), (0, 32, 9, 6, 0), (0, 35, 9, 7, 0), (0, 38, 9, 8, 0), (0, 41, 9, 9, 0), (0, 44, 9, 10, 0), (0, 47, 9, 12, 0), (0, 50, 9, 13, 0), (0, 53, 9, 14, 0), (0, 57, 9, 11, 0), (1, 75, 139, 0, 0), (2, 60, 191, 0, 0), (2, 66, 192, 0, 0), (9, 69, 901, 0, 0), (10, 3, 903, 0, 0)]
theorem am_LTo9_0 : ∀ x ∈ am_LT9_0, am_ltP am_P "DelegationShop$Words" x := List.forall_mem_cons.mpr ⟨am_l9_0_0, List.forall_mem_cons.mpr ⟨am_l9_0_1, List.forall_mem_cons.mpr ⟨am_l9_0_2, List.forall_mem_cons.mpr ⟨am_l9_0_3, List.forall_mem_cons.mpr ⟨am_l9_0_4, List.forall_mem_cons.mpr ⟨am_l9_0_5, List.forall_mem_cons.mpr ⟨am_l9_0_6, List.forall_mem_cons.mpr ⟨am_l9_0_7, List.forall_mem_cons.mpr ⟨am_l9_0_8, List.forall_mem_cons.mpr ⟨am_l9_0_9, List.forall_mem_cons.mpr ⟨am_l9_0_10, List.forall_mem_cons.mpr ⟨am_l9_0_11, List.forall_mem_cons.mpr ⟨am_l9_0_12, List.forall_mem_cons.mpr ⟨am_l9_0_13, List.forall_mem_cons.mpr ⟨am_l9_0_14, List.forall_mem_cons.mpr ⟨am_l9_0_15, List.forall_mem_cons.mpr ⟨am_l9_0_16, List.forall_mem_cons.mpr ⟨am_l9_0_17, List.forall_mem_cons.mpr ⟨am_l9_0_18, List.forall_mem_cons.mpr ⟨am_l9_0_19, fun _ h => by cases h⟩⟩⟩⟩⟩⟩⟩⟩⟩⟩⟩⟩⟩⟩⟩⟩⟩⟩⟩⟩
theorem am_l9_1_0 : am_ltP am_P "DelegationShop$Words" (11, 53, 9, 14, 0) := am_pfN rfl rfl (am_tw2 (i := 192) rfl rfl) rfl
theorem am_l9_1_1 : am_ltP am_P "DelegationShop$Words" (11, 57, 9, 11, 0) := am_pfN rfl rfl (am_tw2 (i := 187) rfl rfl) rfl
theorem am_l9_1_2 : am_ltP am_P "DelegationShop$Words" (12, 11, 9, 0, 0) := am_pfF rfl rfl (am_tw2 (i := 168) rfl rfl) rfl
theorem am_l9_1_3 : am_ltP am_P "DelegationShop$Words" (12, 15, 9, 1, 0) := am_pfF rfl rfl (am_tw2 (i := 170) rfl rfl) rfl
theorem am_l9_1_4 : am_ltP am_P "DelegationShop$Words" (12, 19, 9, 2, 0) := am_pfF rfl rfl (am_tw2 (i := 172) rfl rfl) rfl
theorem am_l9_1_5 : am_ltP am_P "DelegationShop$Words" (12, 22, 9, 3, 0) := am_pfF rfl rfl (am_tw2 (i := 173) rfl rfl) rfl
theorem am_l9_1_6 : am_ltP am_P "DelegationShop$Words" (12, 25, 9, 4, 0) := am_pfF rfl rfl (am_tw2 (i := 175) rfl rfl) rfl
theorem am_l9_1_7 : am_ltP am_P "DelegationShop$Words" (12, 28, 9, 5, 0) := am_pfF rfl rfl (am_tw2 (i := 177) rfl rfl) rfl
theorem am_l9_1_8 : am_ltP am_P "DelegationShop$Words" (12, 32, 9, 6, 0) := am_pfF rfl rfl (am_tw2 (i := 178) rfl rfl) rfl
theorem am_l9_1_9 : am_ltP am_P "DelegationShop$Words" (12, 35, 9, 7, 0) := am_pfF rfl rfl (am_tw2 (i := 180) rfl rfl) rfl
theorem am_l9_1_10 : am_ltP am_P "DelegationShop$Words" (12, 38, 9, 8, 0) := am_pfF rfl rfl (am_tw2 (i := 182) rfl rfl) rfl
theorem am_l9_1_11 : am_ltP am_P "DelegationShop$Words" (12, 41, 9, 9, 0) := am_pfF rfl rfl (am_tw2 (i := 184) rfl rfl) rfl
theorem am_l9_1_12 : am_ltP am_P "DelegationShop$Words" (12, 44, 9, 10, 0) := am_pfF rfl rfl (am_tw2 (i := 186) rfl rfl) rfl
theorem am_l9_1_13 : am_ltP am_P "DelegationShop$Words" (12, 47, 9, 12, 0) := am_pfF rfl rfl (am_tw2 (i := 188) rfl rfl) rfl
theorem am_l9_1_14 : am_ltP am_P "DelegationShop$Words" (12, 50, 9, 13, 0) := am_pfF rfl rfl (am_tw2 (i := 190) rfl rfl) rfl
def am_LT9_1 : List am_LE := [(11, 53, 9, 14, 0), (11, 57, 9, 11, 0), (12, 11, 9, 0, 0), (12, 15, 9, 1, 0), (12, 19, 9, 2, 0), (12, 22, 9, 3, 0), (12, 25, 9, 4, 0), (12, 28, 9, 5, 0), (12, 32, 9, 6, 0), (12, 35, 9, 7, 0), (12, 38, 9, 8, 0), (12, 41, 9, 9, 0), (12, 44, 9, 10, 0), (12, 47, 9, 12, 0), (12, 50, 9, 13, 0)]
theorem am_LTo9_1 : ∀ x ∈ am_LT9_1, am_ltP am_P "DelegationShop$Words" x := List.forall_mem_cons.mpr ⟨am_l9_1_0, List.forall_mem_cons.mpr ⟨am_l9_1_1, List.forall_mem_cons.mpr ⟨am_l9_1_2, List.forall_mem_cons.mpr ⟨am_l9_1_3, List.forall_mem_cons.mpr ⟨am_l9_1_4, List.forall_mem_cons.mpr ⟨am_l9_1_5, List.forall_mem_cons.mpr ⟨am_l9_1_6, List.forall_mem_cons.mpr ⟨am_l9_1_7, List.forall_mem_cons.mpr ⟨am_l9_1_8, List.forall_mem_cons.mpr ⟨am_l9_1_9, List.forall_mem_cons.mpr ⟨am_l9_1_10, List.forall_mem_cons.mpr ⟨am_l9_1_11, List.forall_mem_cons.mpr ⟨am_l9_1_12, List.forall_mem_cons.mpr ⟨am_l9_1_13, List.forall_mem_cons.mpr ⟨am_l9_1_14, fun _ h => by cases h⟩⟩⟩⟩⟩⟩⟩⟩⟩⟩⟩⟩⟩⟩⟩
def am_LT9 : List am_LE := am_LT9_0 ++ (am_LT9_1)
theorem am_LTok9 : ∀ x ∈ am_LT9, am_ltP am_P "DelegationShop$Words" x := fun x h => (List.mem_append.mp h).elim (fun h => am_LTo9_0 x h) (fun h => am_LTo9_1 x h)
theorem am_l10_0_0 : am_ltP am_P "DelegationShop$World" (0, 9, 10, 1, 0) := am_gfN rfl rfl (am_tw2 (i := 72) rfl rfl)
theorem am_l10_0_1 : am_ltP am_P "DelegationShop$World" (0, 15, 10, 2, 0) := am_gfN rfl rfl (am_tw2 (i := 74) rfl rfl)
theorem am_l10_0_2 : am_ltP am_P "DelegationShop$World" (0, 18, 10, 3, 0) := am_gfN rfl rfl (am_tw2 (i := 76) rfl rfl)
theorem am_l10_0_3 : am_ltP am_P "DelegationShop$World" (0, 22, 10, 5, 0) := am_gfN rfl rfl (am_tw2 (i := 79) rfl rfl)
theorem am_l10_0_4 : am_ltP am_P "DelegationShop$World" (0, 25, 10, 6, 0) := am_gfN rfl rfl (am_tw2 (i := 80) rfl rfl)
theorem am_l10_0_5 : am_ltP am_P "DelegationShop$World" (0, 28, 10, 7, 0) := am_gfN rfl rfl (am_tw2 (i := 81) rfl rfl)
theorem am_l10_0_6 : am_ltP am_P "DelegationShop$World" (0, 31, 10, 8, 0) := am_gfN rfl rfl (am_tw2 (i := 82) rfl rfl)
theorem am_l10_0_7 : am_ltP am_P "DelegationShop$World" (0, 34, 10, 11, 0) := am_gfN rfl rfl (am_tw2 (i := 89) rfl rfl)
theorem am_l10_0_8 : am_ltP am_P "DelegationShop$World" (0, 37, 10, 12, 0) := am_gfN rfl rfl (am_tw2 (i := 91) rfl rfl)
theorem am_l10_0_9 : am_ltP am_P "DelegationShop$World" (0, 40, 10, 13, 0) := am_gfN rfl rfl (am_tw2 (i := 92) rfl rfl)
theorem am_l10_0_10 : am_ltP am_P "DelegationShop$World" (0, 43, 10, 4, 0) := am_gfN rfl rfl (am_tw2 (i := 78) rfl rfl)
theorem am_l10_0_11 : am_ltP am_P "DelegationShop$World" (0, 47, 10, 0, 0) := am_gfN rfl rfl (am_tw2 (i := 71) rfl rfl)
theorem am_l10_0_12 : am_ltP am_P "DelegationShop$World" (0, 100, 10, 14, 0) := am_gfN rfl rfl (am_tw2 (i := 93) rfl rfl)
theorem am_l10_0_13 : am_ltP am_P "DelegationShop$World" (1, 50, 143, 0, 0) := am_lm143 (Or.inl (am_tw5 (i := 88) rfl rfl))
theorem am_l10_0_14 : am_ltP am_P "DelegationShop$World" (1, 60, 145, 0, 0) := am_lm145 (Or.inl (am_tw7 (i := 113) rfl rfl))
theorem am_l10_0_15 : am_ltP am_P "DelegationShop$World" (1, 64, 148, 0, 0) := am_lm148 (Or.inl (am_tw7 (i := 198) rfl rfl))
theorem am_l10_0_16 : am_ltP am_P "DelegationShop$World" (1, 68, 147, 0, 0) := am_lm147 (Or.inl (am_tw7 (i := 127) rfl rfl))
theorem am_l10_0_17 : am_ltP am_P "DelegationShop$World" (1, 71, 152, 0, 0) := am_lm152 (Or.inl (am_tw7 (i := 202) rfl rfl))
theorem am_l10_0_18 : am_ltP am_P "DelegationShop$World" (1, 74, 151, 0, 0) := am_lm151 (Or.inl (am_tw7 (i := 219) rfl rfl))
theorem am_l10_0_19 : am_ltP am_P "DelegationShop$World" (1, 78, 149, 0, 0) := am_lm149 (Or.inl (am_tw7 (i := 215) rfl rfl))
def am_LT10_0 : List am_LE := [(0, 9, 10, 1, 0), (0, 15, 10, 2, 0), (0, 18, 10, 3, 0), (0, 22, 10, 5, 0), (0, 25, 10, 6, 0), (0, 28, 10, 7, 0), (0, 31, 10, 8, 0), (0, 34, 10, 11, 0), (0, 37, 10, 12, 0), (0, 40, 10, 13, 0), (0, 43, 10, 4, 0), (0, 47, 10, 0, 0), (0, 100, 10, 14, 0), (1, 50, 143, 0, 0), (1, 60, 145, 0, 0), (1, 64, 148, 0, 0), (1, 68, 147, 0, 0), (1, 71, 152, 0, 0), (1, 74, 151, 0, 0), (1, 78, 149, 0, 0)]
theorem am_LTo10_0 : ∀ x ∈ am_LT10_0, am_ltP am_P "DelegationShop$World" x := List.forall_mem_cons.mpr ⟨am_l10_0_0, List.forall_mem_cons.mpr ⟨am_l10_0_1, List.forall_mem_cons.mpr ⟨am_l10_0_2, List.forall_mem_cons.mpr ⟨am_l10_0_3, List.forall_mem_cons.mpr ⟨am_l10_0_4, List.forall_mem_cons.mpr ⟨am_l10_0_5, List.forall_mem_cons.mpr ⟨am_l10_0_6, List.forall_mem_cons.mpr ⟨am_l10_0_7, List.forall_mem_cons.mpr ⟨am_l10_0_8, List.forall_mem_cons.mpr ⟨am_l10_0_9, List.forall_mem_cons.mpr ⟨am_l10_0_10, List.forall_mem_cons.mpr ⟨am_l10_0_11, List.forall_mem_cons.mpr ⟨am_l10_0_12, List.forall_mem_cons.mpr ⟨am_l10_0_13, List.forall_mem_cons.mpr ⟨am_l10_0_14, List.forall_mem_cons.mpr ⟨am_l10_0_15, List.forall_mem_cons.mpr ⟨am_l10_0_16, List.forall_mem_cons.mpr ⟨am_l10_0_17, List.forall_mem_cons.mpr ⟨am_l10_0_18, List.forall_mem_cons.mpr ⟨am_l10_0_19, fun _ h => by cases h⟩⟩⟩⟩⟩⟩⟩⟩⟩⟩⟩⟩⟩⟩⟩⟩⟩⟩⟩⟩
theorem am_l10_1_0 : am_ltP am_P "DelegationShop$World" (1, 82, 153, 0, 0) := am_lm153 (Or.inl (am_tw7 (i := 206) rfl rfl))
theorem am_l10_1_1 : am_ltP am_P "DelegationShop$World" (1, 86, 154, 0, 0) := am_lm154 (Or.inl (am_tw7 (i := 210) rfl rfl))
theorem am_l10_1_2 : am_ltP am_P "DelegationShop$World" (1, 104, 155, 0, 0) := am_lm155 (Or.inl (am_tw7 (i := 122) rfl rfl))
theorem am_l10_1_3 : am_ltP am_P "DelegationShop$World" (1, 108, 156, 0, 0) := am_lm156 (Or.inl (am_tw7 (i := 131) rfl rfl))
theorem am_l10_1_4 : am_ltP am_P "DelegationShop$World" (2, 94, 193, 0, 0) := am_lm193 (Or.inl (am_tw7 (i := 126) rfl rfl))
theorem am_l10_1_5 : am_ltP am_P "DelegationShop$World" (5, 103, 0, 0, 100000) := am_lcN (am_tw7 (i := 135) (by decide +kernel) rfl)
theorem am_l10_1_6 : am_ltP am_P "DelegationShop$World" (9, 54, 904, 0, 0) := am_pr904 (am_tw7 (i := 69) rfl rfl)
theorem am_l10_1_7 : am_ltP am_P "DelegationShop$World" (9, 89, 900, 0, 0) := am_pr900 (am_tw7 (i := 214) rfl rfl)
theorem am_l10_1_8 : am_ltP am_P "DelegationShop$World" (10, 3, 903, 0, 0) := am_pr903 (am_tw2 (i := 70) rfl rfl)
theorem am_l10_1_9 : am_ltP am_P "DelegationShop$World" (11, 43, 10, 4, 0) := am_pfN rfl rfl (am_tw2 (i := 78) rfl rfl) rfl
theorem am_l10_1_10 : am_ltP am_P "DelegationShop$World" (11, 47, 10, 0, 0) := am_pfN rfl rfl (am_tw2 (i := 71) rfl rfl) rfl
theorem am_l10_1_11 : am_ltP am_P "DelegationShop$World" (11, 100, 10, 14, 0) := am_pfN rfl rfl (am_tw2 (i := 93) rfl rfl) rfl
theorem am_l10_1_12 : am_ltP am_P "DelegationShop$World" (11, 111, 10, 9, 0) := am_pfN rfl rfl (am_tw2 (i := 84) rfl rfl) rfl
theorem am_l10_1_13 : am_ltP am_P "DelegationShop$World" (11, 114, 10, 10, 0) := am_pfN rfl rfl (am_tw2 (i := 87) rfl rfl) rfl
theorem am_l10_1_14 : am_ltP am_P "DelegationShop$World" (12, 9, 10, 1, 0) := am_pfF rfl rfl (am_tw2 (i := 72) rfl rfl) rfl
theorem am_l10_1_15 : am_ltP am_P "DelegationShop$World" (12, 15, 10, 2, 0) := am_pfF rfl rfl (am_tw2 (i := 74) rfl rfl) rfl
theorem am_l10_1_16 : am_ltP am_P "DelegationShop$World" (12, 18, 10, 3, 0) := am_pfF rfl rfl (am_tw2 (i := 76) rfl rfl) rfl
theorem am_l10_1_17 : am_ltP am_P "DelegationShop$World" (12, 22, 10, 5, 0) := am_pfF rfl rfl (am_tw2 (i := 79) rfl rfl) rfl
theorem am_l10_1_18 : am_ltP am_P "DelegationShop$World" (12, 25, 10, 6, 0) := am_pfF rfl rfl (am_tw2 (i := 80) rfl rfl) rfl
theorem am_l10_1_19 : am_ltP am_P "DelegationShop$World" (12, 28, 10, 7, 0) := am_pfF rfl rfl (am_tw2 (i := 81) rfl rfl) rfl
def am_LT10_1 : List am_LE := [(1, 82, 153, 0, 0), (1, 86, 154, 0, 0), (1, 104, 155, 0, 0), (1, 108, 156, 0, 0), (2, 94, 193, 0, 0), (5, 103, 0, 0, 100000), (9, 54, 904, 0, 0), (9, 89, 900, 0, 0), (10, 3, 903, 0, 0), (11, 43, 10, 4, 0), (11, 47, 10, 0, 0), (11, 100, 10, 14, 0), (11, 111, 10, 9, 0), (11, 114, 10, 10, 0), (12, 9, 10, 1, 0), (12, 15, 10, 2, 0), (12, 18, 10, 3, 0), (12, 22, 10, 5, 0), (12, 25, 10, 6, 0), (12, 28, 10, 7, 0)]
theorem am_LTo10_1 : ∀ x ∈ am_LT10_1, am_ltP am_P "DelegationShop$World" x := List.forall_mem_cons.mpr ⟨am_l10_1_0, List.forall_mem_cons.mpr ⟨am_l10_1_1, List.forall_mem_cons.mpr ⟨am_l10_1_2, List.forall_mem_cons.mpr ⟨am_l10_1_3, List.forall_mem_cons.mpr ⟨am_l10_1_4, List.forall_mem_cons.mpr ⟨am_l10_1_5, List.forall_mem_cons.mpr ⟨am_l10_1_6, List.forall_mem_cons.mpr ⟨am_l10_1_7, List.forall_mem_cons.mpr ⟨am_l10_1_8, List.forall_mem_cons.mpr ⟨am_l10_1_9, List.forall_mem_cons.mpr ⟨am_l10_1_10, List.forall_mem_cons.mpr ⟨am_l10_1_11, List.forall_mem_cons.mpr ⟨am_l10_1_12, List.forall_mem_cons.mpr ⟨am_l10_1_13, List.forall_mem_cons.mpr ⟨am_l10_1_14, List.forall_mem_cons.mpr ⟨am_l10_1_15, List.forall_mem_cons.mpr ⟨am_l10_1_16, List.forall_mem_cons.mpr ⟨am_l10_1_17, List.forall_mem_cons.mpr ⟨am_l10_1_18, List.forall_mem_cons.mpr ⟨am_l10_1_19, fun _ h => by cases h⟩⟩⟩⟩⟩⟩⟩⟩⟩⟩⟩⟩⟩⟩⟩⟩⟩⟩⟩⟩
theorem am_l10_2_0 : am_ltP am_P "DelegationShop$World" (12, 31, 10, 8, 0) := am_pfF rfl rfl (am_tw2 (i := 82) rfl rfl) rfl
theorem am_l10_2_1 : am_ltP am_P "DelegationShop$World" (12, 34, 10, 11, 0) := am_pfF rfl rfl (am_tw2 (i := 89) rfl rfl) rfl
theorem am_l10_2_2 : am_ltP am_P "DelegationShop$World" (12, 37, 10, 12, 0) := am_pfF rfl rfl (am_tw2 (i := 91) rfl rfl) rfl
theorem am_l10_2_3 : am_ltP am_P "DelegationShop$World" (12, 40, 10, 13, 0) := am_pfF rfl rfl (am_tw2 (i := 92) rfl rfl) rfl
def am_LT10_2 : List am_LE := [(12, 31, 10, 8, 0), (12, 34, 10, 11, 0), (12, 37, 10, 12, 0), (12, 40, 10, 13, 0)]
theorem am_LTo10_2 : ∀ x ∈ am_LT10_2, am_ltP am_P "DelegationShop$World" x := List.forall_mem_cons.mpr ⟨am_l10_2_0, List.forall_mem_cons.mpr ⟨am_l10_2_1, List.forall_mem_cons.mpr ⟨am_l10_2_2, List.forall_mem_cons.mpr ⟨am_l10_2_3, fun _ h => by cases h⟩⟩⟩⟩
def am_LT10 : List am_LE := am_LT10_0 ++ (am_LT10_1 ++ (am_LT10_2))
theorem am_LTok10 : ∀ x ∈ am_LT10, am_ltP am_P "DelegationShop$World" x := fun x h => (List.mem_append.mp h).elim (fun h => am_LTo10_0 x h) (fun h => (List.mem_append.mp h).elim (fun h => am_LTo10_1 x h) (fun h => am_LTo10_2 x h))
theorem am_l11_0_0 : am_ltP am_P "DelegationShop" (0, 10, 11, 0, 0) := am_gfN rfl rfl (am_tw3 (i := 172) rfl rfl)
theorem am_l11_0_1 : am_ltP am_P "DelegationShop" (0, 19, 11, 1, 0) := am_gfN rfl rfl (am_tw3 (i := 173) rfl rfl)
theorem am_l11_0_2 : am_ltP am_P "DelegationShop" (0, 23, 1, 0, 1) := am_gfX rfl rfl (am_tw2 (i := 36) rfl rfl)
theorem am_l11_0_3 : am_ltP am_P "DelegationShop" (0, 27, 11, 2, 0) := am_gfN rfl rfl (am_tw3 (i := 174) rfl rfl)
theorem am_l11_0_4 : am_ltP am_P "DelegationShop" (0, 28, 5, 0, 1) := am_gfX rfl rfl (am_tw3 (i := 116) rfl rfl)
theorem am_l11_0_5 : am_ltP am_P "DelegationShop" (0, 33, 5, 1, 1) := am_gfX rfl rfl (am_tw3 (i := 118) rfl rfl)
theorem am_l11_0_6 : am_ltP am_P "DelegationShop" (0, 37, 11, 4, 0) := am_gfN rfl rfl (am_tw3 (i := 176) rfl rfl)
theorem am_l11_0_7 : am_ltP am_P "DelegationShop" (0, 38, 5, 2, 1) := am_gfX rfl rfl (am_tw3 (i := 120) rfl rfl)
theorem am_l11_0_8 : am_ltP am_P "DelegationShop" (0, 43, 5, 3, 1) := am_gfX rfl rfl (am_tw3 (i := 122) rfl rfl)
theorem am_l11_0_9 : am_ltP am_P "DelegationShop" (0, 47, 11, 6, 0) := am_gfN rfl rfl (am_tw3 (i := 178) rfl rfl)
theorem am_l11_0_10 : am_ltP am_P "DelegationShop" (0, 48, 5, 6, 1) := am_gfX rfl rfl (am_tw3 (i := 126) rfl rfl)
theorem am_l11_0_11 : am_ltP am_P "DelegationShop" (0, 52, 11, 7, 0) := am_gfN rfl rfl (am_tw3 (i := 179) rfl rfl)
theorem am_l11_0_12 : am_ltP am_P "DelegationShop" (0, 53, 7, 1, 1) := am_gfX rfl rfl (am_tw1 (i := 106) rfl rfl)
theorem am_l11_0_13 : am_ltP am_P "DelegationShop" (0, 79, 7, 9, 1) := am_gfX rfl rfl (am_tw1 (i := 116) rfl rfl)
theorem am_l11_0_14 : am_ltP am_P "DelegationShop" (0, 82, 1, 1, 1) := am_gfX rfl rfl (am_tw2 (i := 38) rfl rfl)
theorem am_l11_0_15 : am_ltP am_P "DelegationShop" (0, 87, 11, 8, 0) := am_gfN rfl rfl (am_tw3 (i := 180) rfl rfl)
theorem am_l11_0_16 : am_ltP am_P "DelegationShop" (0, 91, 8, 4, 1) := am_gfX rfl rfl (am_tw1 (i := 219) rfl rfl)
theorem am_l11_0_17 : am_ltP am_P "DelegationShop" (0, 109, 8, 2, 1) := am_gfX rfl rfl (am_tw1 (i := 212) rfl rfl)
theorem am_l11_0_18 : am_ltP am_P "DelegationShop" (0, 125, 4, 0, 1) := am_gfX rfl rfl (am_tw2 (i := 232) rfl rfl)
theorem am_l11_0_19 : am_ltP am_P "DelegationShop" (1, 66, 116, 0, 0) := am_lm116 (Or.inr ⟨_, (am_tw5 (i := 162) rfl rfl)⟩)
def am_LT11_0 : List am_LE := [(0, 10, 11, 0, 0), (0, 19, 11, 1, 0), (0, 23, 1, 0, 1), (0, 27, 11, 2, 0), (0, 28, 5, 0, 1), (0, 33, 5, 1, 1), (0, 37, 11, 4, 0), (0, 38, 5, 2, 1), (0, 43, 5, 3, 1), (0, 47, 11, 6, 0), (0, 48, 5, 6, 1), (0, 52, 11, 7, 0), (0, 53, 7, 1, 1), (0, 79, 7, 9, 1), (0, 82, 1, 1, 1), (0, 87, 11, 8, 0), (0, 91, 8, 4, 1), (0, 109, 8, 2, 1), (0, 125, 4, 0, 1), (1, 66, 116, 0, 0)]
theorem am_LTo11_0 : ∀ x ∈ am_LT11_0, am_ltP am_P "DelegationShop" x := List.forall_mem_cons.mpr ⟨am_l11_0_0, List.forall_mem_cons.mpr ⟨am_l11_0_1, List.forall_mem_cons.mpr ⟨am_l11_0_2, List.forall_mem_cons.mpr ⟨am_l11_0_3, List.forall_mem_cons.mpr ⟨am_l11_0_4, List.forall_mem_cons.mpr ⟨am_l11_0_5, List.forall_mem_cons.mpr ⟨am_l11_0_6, List.forall_mem_cons.mpr ⟨am_l11_0_7, List.forall_mem_cons.mpr ⟨am_l11_0_8, List.forall_mem_cons.mpr ⟨am_l11_0_9, List.forall_mem_cons.mpr ⟨am_l11_0_10, List.forall_mem_cons.mpr ⟨am_l11_0_11, List.forall_mem_cons.mpr ⟨am_l11_0_12, List.forall_mem_cons.mpr ⟨am_l11_0_13, List.forall_mem_cons.mpr ⟨am_l11_0_14, List.forall_mem_cons.mpr ⟨am_l11_0_15, List.forall_mem_cons.mpr ⟨am_l11_0_16, List.forall_mem_cons.mpr ⟨am_l11_0_17, List.forall_mem_cons.mpr ⟨am_l11_0_18, List.forall_mem_cons.mpr ⟨am_l11_0_19, fun _ h => by cases h⟩⟩⟩⟩⟩⟩⟩⟩⟩⟩⟩⟩⟩⟩⟩⟩⟩⟩⟩⟩
theorem am_l11_1_0 : am_ltP am_P "DelegationShop" (1, 75, 9, 0, 0) := am_lm9 (Or.inr ⟨_, (am_tw3 (i := 204) rfl rfl)⟩)
theorem am_l11_1_1 : am_ltP am_P "DelegationShop" (1, 83, 66, 0, 0) := am_lm66 (Or.inr ⟨_, (am_tw5 (i := 80) rfl rfl)⟩)
theorem am_l11_1_2 : am_ltP am_P "DelegationShop" (1, 103, 104, 0, 0) := am_lm104 (Or.inr ⟨_, (am_tw5 (i := 124) rfl rfl)⟩)
theorem am_l11_1_3 : am_ltP am_P "DelegationShop" (1, 106, 166, 0, 0) := am_lm166 (Or.inl (am_tw5 (i := 235) rfl rfl))
theorem am_l11_1_4 : am_ltP am_P "DelegationShop" (1, 115, 67, 0, 0) := am_lm67 (Or.inr ⟨_, (am_tw6 (i := 3) rfl rfl)⟩)
theorem am_l11_1_5 : am_ltP am_P "DelegationShop" (2, 121, 167, 0, 0) := am_lm167 (Or.inl (am_tw8 (i := 80) rfl rfl))
theorem am_l11_1_6 : am_ltP am_P "DelegationShop" (3, 9, 8, 0, 0) := am_lm8 (Or.inr ⟨_, (am_tw1 (i := 42) rfl rfl)⟩)
theorem am_l11_1_7 : am_ltP am_P "DelegationShop" (3, 18, 65, 0, 0) := am_lm65 (Or.inr ⟨_, (am_tw2 (i := 61) rfl rfl)⟩)
theorem am_l11_1_8 : am_ltP am_P "DelegationShop" (4, 7, 1, 0, 0) := am_nwN rfl (am_tw1 (i := 40) rfl rfl) (am_tw1 (i := 41) rfl rfl) (am_tw1 (i := 2) rfl rfl)
theorem am_l11_1_9 : am_ltP am_P "DelegationShop" (4, 16, 5, 0, 0) := am_nwN rfl (am_tw2 (i := 59) rfl rfl) (am_tw2 (i := 60) rfl rfl) (am_tw1 (i := 10) rfl rfl)
theorem am_l11_1_10 : am_ltP am_P "DelegationShop" (10, 1, 903, 0, 0) := am_pr903 (am_tw1 (i := 37) rfl rfl)
theorem am_l11_1_11 : am_ltP am_P "DelegationShop" (11, 52, 11, 7, 0) := am_pfN rfl rfl (am_tw3 (i := 179) rfl rfl) rfl
theorem am_l11_1_12 : am_ltP am_P "DelegationShop" (11, 53, 7, 1, 1) := am_pfX rfl rfl (am_tw1 (i := 106) rfl rfl) rfl
theorem am_l11_1_13 : am_ltP am_P "DelegationShop" (11, 82, 1, 1, 1) := am_pfX rfl rfl (am_tw2 (i := 38) rfl rfl) rfl
theorem am_l11_1_14 : am_ltP am_P "DelegationShop" (11, 87, 11, 8, 0) := am_pfN rfl rfl (am_tw3 (i := 180) rfl rfl) rfl
theorem am_l11_1_15 : am_ltP am_P "DelegationShop" (11, 98, 6, 6, 1) := am_pfX rfl rfl (am_tw2 (i := 137) rfl rfl) rfl
theorem am_l11_1_16 : am_ltP am_P "DelegationShop" (12, 10, 11, 0, 0) := am_pfF rfl rfl (am_tw3 (i := 172) rfl rfl) rfl
theorem am_l11_1_17 : am_ltP am_P "DelegationShop" (12, 19, 11, 1, 0) := am_pfF rfl rfl (am_tw3 (i := 173) rfl rfl) rfl
theorem am_l11_1_18 : am_ltP am_P "DelegationShop" (12, 27, 11, 2, 0) := am_pfF rfl rfl (am_tw3 (i := 174) rfl rfl) rfl
theorem am_l11_1_19 : am_ltP am_P "DelegationShop" (12, 32, 11, 3, 0) := am_pfF rfl rfl (am_tw3 (i := 175) rfl rfl) rfl
def am_LT11_1 : List am_LE := [(1, 75, 9, 0, 0), (1, 83, 66, 0, 0), (1, 103, 104, 0, 0), (1, 106, 166, 0, 0), (1, 115, 67, 0, 0), (2, 121, 167, 0, 0), (3, 9, 8, 0, 0), (3, 18, 65, 0, 0), (4, 7, 1, 0, 0), (4, 16, 5, 0, 0), (10, 1, 903, 0, 0), (11, 52, 11, 7, 0), (11, 53, 7, 1, 1), (11, 82, 1, 1, 1), (11, 87, 11, 8, 0), (11, 98, 6, 6, 1), (12, 10, 11, 0, 0), (12, 19, 11, 1, 0), (12, 27, 11, 2, 0), (12, 32, 11, 3, 0)]
theorem am_LTo11_1 : ∀ x ∈ am_LT11_1, am_ltP am_P "DelegationShop" x := List.forall_mem_cons.mpr ⟨am_l11_1_0, List.forall_mem_cons.mpr ⟨am_l11_1_1, List.forall_mem_cons.mpr ⟨am_l11_1_2, List.forall_mem_cons.mpr ⟨am_l11_1_3, List.forall_mem_cons.mpr ⟨am_l11_1_4, List.forall_mem_cons.mpr ⟨am_l11_1_5, List.forall_mem_cons.mpr ⟨am_l11_1_6, List.forall_mem_cons.mpr ⟨am_l11_1_7, List.forall_mem_cons.mpr ⟨am_l11_1_8, List.forall_mem_cons.mpr ⟨am_l11_1_9, List.forall_mem_cons.mpr ⟨am_l11_1_10, List.forall_mem_cons.mpr ⟨am_l11_1_11, List.forall_mem_cons.mpr ⟨am_l11_1_12, List.forall_mem_cons.mpr ⟨am_l11_1_13, List.forall_mem_cons.mpr ⟨am_l11_1_14, List.forall_mem_cons.mpr ⟨am_l11_1_15, List.forall_mem_cons.mpr ⟨am_l11_1_16, List.forall_mem_cons.mpr ⟨am_l11_1_17, List.forall_mem_cons.mpr ⟨am_l11_1_18, List.forall_mem_cons.mpr ⟨am_l11_1_19, fun _ h => by cases h⟩⟩⟩⟩⟩⟩⟩⟩⟩⟩⟩⟩⟩⟩⟩⟩⟩⟩⟩⟩
theorem am_l11_2_0 : am_ltP am_P "DelegationShop" (12, 37, 11, 4, 0) := am_pfF rfl rfl (am_tw3 (i := 176) rfl rfl) rfl
theorem am_l11_2_1 : am_ltP am_P "DelegationShop" (12, 42, 11, 5, 0) := am_pfF rfl rfl (am_tw3 (i := 177) rfl rfl) rfl
theorem am_l11_2_2 : am_ltP am_P "DelegationShop" (12, 47, 11, 6, 0) := am_pfF rfl rfl (am_tw3 (i := 178) rfl rfl) rfl
def am_LT11_2 : List am_LE := [(12, 37, 11, 4, 0), (12, 42, 11, 5, 0), (12, 47, 11, 6, 0)]
theorem am_LTo11_2 : ∀ x ∈ am_LT11_2, am_ltP am_P "DelegationShop" x := List.forall_mem_cons.mpr ⟨am_l11_2_0, List.forall_mem_cons.mpr ⟨am_l11_2_1, List.forall_mem_cons.mpr ⟨am_l11_2_2, fun _ h => by cases h⟩⟩⟩
def am_LT11 : List am_LE := am_LT11_0 ++ (am_LT11_1 ++ (am_LT11_2))
theorem am_LTok11 : ∀ x ∈ am_LT11, am_ltP am_P "DelegationShop" x := fun x h => (List.mem_append.mp h).elim (fun h => am_LTo11_0 x h) (fun h => (List.mem_append.mp h).elim (fun h => am_LTo11_1 x h) (fun h => am_LTo11_2 x h))
