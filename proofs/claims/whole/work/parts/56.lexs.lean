/-! the one's signs -/
section LEXS
variable {e : ak_X3} {d : Nat} {ρ : List Nat} {h : ak_S} {n t : Nat}
theorem ak_sg_rd {X : Nat → Int} {j : Nat} : am_I0 X (am_SP + 21) j = ak_sgs.getD j 0 := by
  rw [congrFun (am_I21 (X := X)) j]
  rfl
theorem am_s361 {Q : Int → ak_S → Prop} {X : Nat → ak_S → Prop} {x : Int} (hx : 0 < x ∧ x < 128) (w1 : x ∈ ak_sgs → ∀ v, 0 ≤ v → Q v h) (w0 : x ∉ ak_sgs → Q (-1) h) : ak_MI e 0 (d + 1) ρ 361 [am_r (am_SP + 21), am_i x, am_i 0, am_i 19] h Q X := by
  have lp : ∀ (c j : Nat), j + c = 19 → (∀ k, k < j → ak_sgs.getD k 0 ≠ x) → ak_W0 e 0 d 361 ρ 7 [some (am_r (am_SP + 21)), none, none, some (am_i 19), some (am_i x), some (am_i (j : Int))] [] h (ak_qi Q X) := by
    intro c
    induction c with
    | zero =>
      intro j hj hno
      have : j = 19 := by omega
      subst this
      refine am_k361_7 ⟨fun _ => w0 (fun hm => ?_), fun z => absurd z (by decide)⟩
      obtain ⟨k, hk, he⟩ := List.mem_iff_getElem.mp hm
      refine hno k hk ?_
      rw [List.getD_eq_getElem?_getD, List.getElem?_eq_getElem hk]
      exact he
    | succ c ih =>
      intro j hj hno
      have hl : j < ak_sgs.length := by show j < 19; omega
      refine am_k361_7 ⟨fun z => absurd z (by omega), fun _ => ⟨⟨by omega, by omega⟩, fun z => ?_, fun z => ?_⟩⟩
      · rw [ak_natn, ak_sg_rd] at z
        rw [ak_wj (show j < 1000000 by omega)]
        refine ih (j + 1) (by omega) (fun k hk => ?_)
        by_cases hkj : k = j
        · subst hkj; exact z
        · exact hno k (by omega)
      · rw [ak_natn, ak_sg_rd] at z
        refine w1 ?_ _ (by omega)
        rw [List.getD_eq_getElem?_getD, List.getElem?_eq_getElem hl] at z
        rw [← z]
        exact List.getElem_mem hl
  have hw : am_w8 x = x := am_w8_id (by omega) (by omega)
  refine ak_MI_of (Nat.le_of_ble_eq_true rfl) (am_k361_0 ?_)
  rw [hw]
  exact lp 19 0 rfl (fun k hk => absurd hk (Nat.not_lt_zero _))
theorem am_s354 {Q : Int → ak_S → Prop} {X : Nat → ak_S → Prop} {x : Int} (hx : 0 < x ∧ x < 128) (w1 : x ∈ ak_sgs → ∀ v, 0 ≤ v → Q v h) (w0 : x ∉ ak_sgs → Q (-1) h) : ak_MI e 0 (d + 4) ρ 354 [am_r (am_SP + 11), am_i x] h Q X := by
  have e11 : am_I0 e.2 (am_SP + 11) 1 = 0 := am_I11
  refine ak_MI_of (Nat.le_of_ble_eq_true rfl) (am_k354_0 (ak_MI_of (Nat.le_of_ble_eq_true rfl) (am_k355_0 (ak_MI_of (Nat.le_of_ble_eq_true rfl) (am_k356_0 ⟨fun z => absurd z (by decide), fun _ => ⟨fun z => absurd e11 z, fun _ => ⟨Or.inr rfl, ⟨fun z => absurd z (by decide), fun _ => ?_⟩⟩⟩⟩)))))
  refine ak_MI_of (Nat.le_of_ble_eq_true rfl) (am_k357_0 (ak_MI_of (Nat.le_of_ble_eq_true rfl) (am_k353_0 ⟨fun z => absurd z (by decide), fun _ => ?_⟩)))
  rw [e11]
  refine ⟨by decide, ?_⟩
  have e19 : (Int32.ofInt 19 >>> (Int32.ofInt 0 &&& 31)).toInt = 19 := by decide +kernel
  rw [e19]
  refine ak_MI_of (Nat.le_of_ble_eq_true rfl) (am_k360_0 (ak_MI_of (Nat.le_of_ble_eq_true rfl) (am_k358_0 ⟨fun z => absurd z (by omega), fun _ => ⟨fun z => absurd z (by omega), fun _ => ⟨Or.inr rfl, ⟨fun _ => ⟨fun _ => ?_, fun z => absurd z (by decide)⟩, fun z => absurd z (by decide)⟩⟩⟩⟩)))
  rw [if_neg (by decide), if_neg (by decide)]
  exact am_s361 hx w1 w0
theorem ak_i2c {x : Int} (hx : 0 < x ∧ x < 128) : ((Int32.ofInt x).toUInt32 % 65536).toInt32.toInt = x := by
  have h1 : (Int32.ofInt x).toUInt32.toNat = x.toNat := by
    show (BitVec.ofInt 32 x).toNat = _
    rw [BitVec.toNat_ofInt]
    omega
  have h2 : ((Int32.ofInt x).toUInt32 % 65536).toNat = x.toNat := by
    rw [UInt32.toNat_mod, h1]
    show x.toNat % 65536 = _
    omega
  show ((Int32.ofInt x).toUInt32 % 65536).toBitVec.toInt = x
  have h3 : ((Int32.ofInt x).toUInt32 % 65536).toBitVec.toNat = x.toNat := h2
  rw [BitVec.toInt_eq_toNat_of_lt (by rw [h3]; omega), h3]
  omega
theorem am_s127 {Q : Int → ak_S → Prop} {X : Nat → ak_S → Prop} {i : Nat} (hn : h.1 3 1 = (n : Int)) (hn2 : n ≤ 6000) (hi : i < n) (hb : -128 ≤ h.1 4 i ∧ h.1 4 i < 128) (ht : h.1 3 6 = (t : Int)) (ht2 : t ≤ 6000)
    (w1 : h.1 4 i = 61 ∧ i + 1 < n ∧ h.1 4 (i + 1) = 61 → Q ((i + 2 : Nat) : Int) (ak_add h t 4 (i : Int) 0))
    (w0 : ¬ (h.1 4 i = 61 ∧ i + 1 < n ∧ h.1 4 (i + 1) = 61) → Q ((i + 1 : Nat) : Int) (ak_add h t (if ak_sgs.elem (h.1 4 i) = true then h.1 4 i else 1) (i : Int) 0)) : ak_MI e 0 (d + 5) ρ 127 [am_r 3, am_i (i : Int)] h Q X := by
  have bi : 0 ≤ (i : Int) ∧ (i : Int) < 6000 := by omega
  have e1 : am_w32 ((i : Int) + 1) = ((i + 1 : Nat) : Int) := ak_wj (show i < 1000000 by omega)
  have e2 : am_w32 ((i : Int) + 2) = ((i + 2 : Nat) : Int) := by rw [ak_w ((i : Int) + 2) (by omega)]; omega
  have l47 : ¬ (h.1 4 i = 61 ∧ i + 1 < n ∧ h.1 4 (i + 1) = 61) → ak_W0 e 0 (d + 4) 127 ρ 47 [some (am_r 3), some (am_i (i : Int)), some (am_i (h.1 4 i))] [] h (ak_qi Q X) := by
    intro hno
    have w2 := w0 hno
    refine am_k127_47 ⟨fun h0 => ?_, fun h0 => ?_⟩
    · rw [if_neg (fun z => ?_)] at w2
      · rw [e1]; exact am_s123 ht ht2 w2
      · have hm := List.elem_iff.mp z
        have : ∀ y ∈ ak_sgs, 0 < y := by decide
        have := this _ hm
        omega
    · rw [ak_i2c ⟨h0, hb.2⟩]
      refine am_s354 ⟨h0, hb.2⟩ (fun hm v hv => ⟨fun z => absurd z (by omega), fun _ => ?_⟩) (fun hm => ⟨fun _ => ?_, fun z => absurd z (by decide)⟩)
      · rw [if_pos (List.elem_iff.mpr hm)] at w2
        rw [e1]; exact am_s123 ht ht2 w2
      · rw [if_neg (fun z => hm (List.elem_iff.mp z))] at w2
        rw [e1]; exact am_s123 ht ht2 w2
  refine ak_MI_of (Nat.le_of_ble_eq_true rfl) (am_k127_0 ⟨bi, fun h0 => ?_, fun h0 => ?_⟩)
  · rw [ak_natn] at h0 ⊢
    exact l47 (fun z => h0 z.1)
  · rw [ak_natn] at h0
    rw [e1, hn, ak_natn, ak_natn]
    refine ⟨fun h1 => l47 (fun z => absurd z.2.1 (by omega)), fun h1 => ⟨by omega, fun h2 => l47 (fun z => h2 z.2.2), fun h2 => ?_⟩⟩
    rw [e2]
    exact am_s123 ht ht2 (w1 ⟨h0, by omega, h2⟩)
end LEXS
