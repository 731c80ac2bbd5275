/-! the run: a statement's end, what each side does -/
section DON1
variable {e : ak_X3} {d ρ1 ρ2 W y n T0 o : Nat} {ρ : List Nat} {c : ak_Cx} {g : ak_Gh} {fs : List ak_Fr} {f : ak_Fr} {hc hm : ak_S} {j : ak_Jb} {r : List ak_Jb} {v : Bool × Int × Int} {s x : Int}
theorem ak_t1 (hT : T0 + 1 ≤ 9060) : am_w32 (((T0 + 1 : Nat) : Int) - 1) = (T0 : Int) := by rw [ak_w _ (by omega)]; omega
theorem ak_p1 (hn : n < 2000000000) : am_w32 ((n : Int) + 1) = ((n + 1 : Nat) : Int) := by rw [ak_w _ (by omega)]; omega
theorem ak_293_20 {h : ak_S} {Q : ak_S → Prop} {X : Nat → ak_S → Prop} (y18 : y < 18000) (h114 : h.1 114 y = 20) (h127 : h.1 110 127 = ((T0 + 1 : Nat) : Int)) (hT : T0 + 1 ≤ 9060) (r4 : h.1 199 T0 = s) (r5 : h.2.1 200 T0 = x) (q : ak_MV e 1 d ρ 274 [am_r 110, am_i (h.1 110 102), am_i (h.1 116 y), am_i s, am_l x] (am_up h.1 110 127 (T0 : Int), h.2) Q (fun _ _ => False)) : ak_MV e 1 (d + 1) ρ 293 [am_r 110, am_i (y : Int)] h Q X := by
  refine ak_MV_of (Nat.le_of_ble_eq_true rfl) (am_k293_0 ?_)
  rw [ak_natn, h127, ak_t1 (show T0 + 1 ≤ 9060 from hT), ak_natn, r4, r5, h114]
  have yb : 0 ≤ (y : Int) ∧ (y : Int) < 18000 := by omega
  exact ⟨by omega, by omega, yb, trivial, fun z => absurd z (by decide), fun _ => ⟨yb, q⟩, fun z => absurd z (by decide), fun z => absurd z (by decide), fun z => absurd z (by decide), fun z => absurd z (by decide), fun z => absurd z (by decide), fun z => absurd z (by decide), fun z => absurd z (by decide), fun z => absurd z (by decide), fun z => absurd z (by decide), fun z => absurd z (by decide), fun z => absurd z (by decide), fun z => absurd z (by decide), fun z => absurd z (by decide), fun z => absurd z (by decide), trivial⟩
theorem ak_293_21 {h : ak_S} {Q : ak_S → Prop} {X : Nat → ak_S → Prop} (y18 : y < 18000) (h114 : h.1 114 y = 21) (h127 : h.1 110 127 = ((T0 + 1 : Nat) : Int)) (hT : T0 + 1 ≤ 9060) (r4 : h.1 199 T0 = s) (r5 : h.2.1 200 T0 = x) (q : ak_W0 e 1 d 293 ρ 152 [some (am_r 110), some (am_i (y : Int)), some (am_i s), some (am_l x), none, some (am_i (h.1 110 102)), some (am_i 0)] [] (am_up h.1 110 127 (T0 : Int), h.2) (ak_qv Q X)) : ak_MV e 1 (d + 1) ρ 293 [am_r 110, am_i (y : Int)] h Q X := by
  refine ak_MV_of (Nat.le_of_ble_eq_true rfl) (am_k293_0 ?_)
  rw [ak_natn, h127, ak_t1 (show T0 + 1 ≤ 9060 from hT), ak_natn, r4, r5, h114]
  have yb : 0 ≤ (y : Int) ∧ (y : Int) < 18000 := by omega
  exact ⟨by omega, by omega, yb, trivial, fun z => absurd z (by decide), fun z => absurd z (by decide), fun _ => q, fun z => absurd z (by decide), fun z => absurd z (by decide), fun z => absurd z (by decide), fun z => absurd z (by decide), fun z => absurd z (by decide), fun z => absurd z (by decide), fun z => absurd z (by decide), fun z => absurd z (by decide), fun z => absurd z (by decide), fun z => absurd z (by decide), fun z => absurd z (by decide), fun z => absurd z (by decide), fun z => absurd z (by decide), trivial⟩
theorem ak_293_29 {d0 : Nat} {h : ak_S} {Q : ak_S → Prop} {X : Nat → ak_S → Prop} (y18 : y < 18000) (h114 : h.1 114 y = 29) (h127 : h.1 110 127 = ((T0 + 1 : Nat) : Int)) (hT : T0 + 1 ≤ 9060) (r4 : h.1 199 T0 = s) (r5 : h.2.1 200 T0 = x) (q : (ak_tr s x = true → ak_MV e 1 (d0 + 1) ρ 266 [am_r 110, am_i 2, am_i (h.1 116 y), am_i 0, am_i 0] (am_up h.1 110 127 (T0 : Int), h.2) Q (fun _ _ => False)) ∧ (ak_tr s x ≠ true → ak_MV e 1 (d0 + 1) ρ 266 [am_r 110, am_i 2, am_i (h.1 117 y), am_i 0, am_i 0] (am_up h.1 110 127 (T0 : Int), h.2) Q (fun _ _ => False))) : ak_MV e 1 (d0 + 2) ρ 293 [am_r 110, am_i (y : Int)] h Q X := by
  refine ak_MV_of (Nat.le_of_ble_eq_true rfl) (am_k293_0 ?_)
  rw [ak_natn, h127, ak_t1 (show T0 + 1 ≤ 9060 from hT), ak_natn, r4, r5, h114]
  have yb : 0 ≤ (y : Int) ∧ (y : Int) < 18000 := by omega
  exact ⟨by omega, by omega, yb, trivial, fun z => absurd z (by decide), fun z => absurd z (by decide), fun z => absurd z (by decide), fun z => absurd z (by decide), fun z => absurd z (by decide), fun z => absurd z (by decide), fun z => absurd z (by decide), fun z => absurd z (by decide), fun z => absurd z (by decide), fun z => absurd z (by decide), fun _ => am_s292 (d := d0) (fun z => ⟨fun z2 => absurd z2 (by decide), fun _ => ⟨yb, q.1 z⟩⟩) (fun z => ⟨fun _ => ⟨yb, q.2 z⟩, fun z2 => absurd rfl z2⟩), fun z => absurd z (by decide), fun z => absurd z (by decide), fun z => absurd z (by decide), fun z => absurd z (by decide), fun z => absurd z (by decide), trivial⟩
theorem ak_293_32 {h : ak_S} {Q : ak_S → Prop} {X : Nat → ak_S → Prop} (y18 : y < 18000) (h114 : h.1 114 y = 32) (h127 : h.1 110 127 = ((T0 + 1 : Nat) : Int)) (hT : T0 + 1 ≤ 9060) (r4 : h.1 199 T0 = s) (r5 : h.2.1 200 T0 = x) (q : ak_MV e 1 d ρ 279 [am_r 110, am_i (h.1 110 102), am_i s, am_l x] (am_up h.1 110 127 (T0 : Int), h.2) Q (fun _ _ => False)) : ak_MV e 1 (d + 1) ρ 293 [am_r 110, am_i (y : Int)] h Q X := by
  refine ak_MV_of (Nat.le_of_ble_eq_true rfl) (am_k293_0 ?_)
  rw [ak_natn, h127, ak_t1 (show T0 + 1 ≤ 9060 from hT), ak_natn, r4, r5, h114]
  have yb : 0 ≤ (y : Int) ∧ (y : Int) < 18000 := by omega
  exact ⟨by omega, by omega, yb, trivial, fun z => absurd z (by decide), fun z => absurd z (by decide), fun z => absurd z (by decide), fun z => absurd z (by decide), fun z => absurd z (by decide), fun z => absurd z (by decide), fun z => absurd z (by decide), fun z => absurd z (by decide), fun z => absurd z (by decide), fun z => absurd z (by decide), fun z => absurd z (by decide), fun z => absurd z (by decide), fun z => absurd z (by decide), fun _ => q, fun z => absurd z (by decide), fun z => absurd z (by decide), trivial⟩
theorem ak_293_34 {h : ak_S} {Q : ak_S → Prop} {X : Nat → ak_S → Prop} (y18 : y < 18000) (h114 : h.1 114 y = 34) (h127 : h.1 110 127 = ((T0 + 1 : Nat) : Int)) (hT : T0 + 1 ≤ 9060) (r4 : h.1 199 T0 = s) (r5 : h.2.1 200 T0 = x) (q : ak_MV e 1 d ρ 269 [am_r 110, am_i (h.1 116 y), am_i s, am_l x] (am_up h.1 110 127 (T0 : Int), h.2) Q (fun _ _ => False)) : ak_MV e 1 (d + 1) ρ 293 [am_r 110, am_i (y : Int)] h Q X := by
  refine ak_MV_of (Nat.le_of_ble_eq_true rfl) (am_k293_0 ?_)
  rw [ak_natn, h127, ak_t1 (show T0 + 1 ≤ 9060 from hT), ak_natn, r4, r5, h114]
  have yb : 0 ≤ (y : Int) ∧ (y : Int) < 18000 := by omega
  exact ⟨by omega, by omega, yb, trivial, fun z => absurd z (by decide), fun z => absurd z (by decide), fun z => absurd z (by decide), fun z => absurd z (by decide), fun z => absurd z (by decide), fun z => absurd z (by decide), fun z => absurd z (by decide), fun z => absurd z (by decide), fun z => absurd z (by decide), fun z => absurd z (by decide), fun z => absurd z (by decide), fun z => absurd z (by decide), fun z => absurd z (by decide), fun z => absurd z (by decide), fun z => absurd z (by decide), fun _ => ⟨yb, q⟩, trivial⟩
theorem ak_293_31 {h : ak_S} {Q : ak_S → Prop} {X : Nat → ak_S → Prop} (y18 : y < 18000) (h114 : h.1 114 y = 31) (h127 : h.1 110 127 = ((T0 + 1 : Nat) : Int)) (hT : T0 + 1 ≤ 9060) (r4 : h.1 199 T0 = s) (r5 : h.2.1 200 T0 = x) (q : (0 ≤ h.1 110 102 ∧ h.1 110 102 < 564) ∧ (0 ≤ h.1 178 (h.1 110 102).toNat ∧ h.1 178 (h.1 110 102).toNat < 564) ∧ (h.1 175 (h.1 178 (h.1 110 102).toNat).toNat = 0 → ak_MV e 1 d ρ 270 [am_r 110, am_i 9] (am_up h.1 110 127 (T0 : Int), h.2) Q (fun _ _ => False)) ∧ (h.1 175 (h.1 178 (h.1 110 102).toNat).toNat ≠ 0 → (0 ≤ h.1 110 102 ∧ h.1 110 102 < 564) ∧ ak_MI e 1 d ρ 294 [am_r 110, am_i (h.1 178 (h.1 110 102).toNat)] (am_up h.1 110 127 (T0 : Int), h.2) (fun v17 h16 => (v17 = 0 → ak_MV e 1 d ρ 270 [am_r 110, am_i 9] h16 Q (fun _ _ => False)) ∧ (v17 ≠ 0 → (0 ≤ h16.1 110 102 ∧ h16.1 110 102 < 564) ∧ ak_MV e 1 d ρ 279 [am_r 110, am_i (h16.1 178 (h16.1 110 102).toNat), am_i s, am_l x] h16 Q (fun _ _ => False))) (fun _ _ => False))) : ak_MV e 1 (d + 1) ρ 293 [am_r 110, am_i (y : Int)] h Q X := by
  refine ak_MV_of (Nat.le_of_ble_eq_true rfl) (am_k293_0 ?_)
  rw [ak_natn, h127, ak_t1 (show T0 + 1 ≤ 9060 from hT), ak_natn, r4, r5, h114]
  have yb : 0 ≤ (y : Int) ∧ (y : Int) < 18000 := by omega
  exact ⟨by omega, by omega, yb, trivial, fun z => absurd z (by decide), fun z => absurd z (by decide), fun z => absurd z (by decide), fun z => absurd z (by decide), fun z => absurd z (by decide), fun z => absurd z (by decide), fun z => absurd z (by decide), fun z => absurd z (by decide), fun z => absurd z (by decide), fun z => absurd z (by decide), fun z => absurd z (by decide), fun z => absurd z (by decide), fun _ => q, fun z => absurd z (by decide), fun z => absurd z (by decide), fun z => absurd z (by decide), trivial⟩
theorem ak_293_33 {h : ak_S} {Q : ak_S → Prop} {X : Nat → ak_S → Prop} {n : Nat} (y18 : y < 18000) (h114 : h.1 114 y = 33) (h127 : h.1 110 127 = ((T0 + 1 : Nat) : Int)) (hT : T0 + 1 ≤ 9060) (r4 : h.1 199 T0 = s) (r5 : h.2.1 200 T0 = x) (hn : h.1 110 110 = (n : Int)) (hn2 : n < 2000000000) (q1 : 300 ≤ n → Q (am_up (am_up h.1 110 127 (T0 : Int)) 110 110 ((n + 1 : Nat) : Int), h.2)) (q0 : n < 300 → Q (am_up (am_up (am_up h.1 110 127 (T0 : Int)) 187 n s) 110 110 ((n + 1 : Nat) : Int), am_up h.2.1 188 n x, h.2.2)) : ak_MV e 1 (d + 1) ρ 293 [am_r 110, am_i (y : Int)] h Q X := by
  refine ak_MV_of (Nat.le_of_ble_eq_true rfl) (am_k293_0 ?_)
  rw [ak_natn, h127, ak_t1 (show T0 + 1 ≤ 9060 from hT), ak_natn, r4, r5, h114, hn, ak_natn, ak_p1 (show n < 2000000000 from hn2)]
  have yb : 0 ≤ (y : Int) ∧ (y : Int) < 18000 := by omega
  exact ⟨by omega, by omega, yb, trivial, fun z => absurd z (by decide), fun z => absurd z (by decide), fun z => absurd z (by decide), fun z => absurd z (by decide), fun z => absurd z (by decide), fun z => absurd z (by decide), fun z => absurd z (by decide), fun z => absurd z (by decide), fun z => absurd z (by decide), fun z => absurd z (by decide), fun z => absurd z (by decide), fun z => absurd z (by decide), fun z => absurd z (by decide), fun z => absurd z (by decide), fun _ => ⟨fun g => q1 (by omega), fun g => ⟨by omega, by omega, q0 (by omega)⟩⟩, fun z => absurd z (by decide), trivial⟩
theorem ak_293_23 {h : ak_S} {Q : ak_S → Prop} {X : Nat → ak_S → Prop} (y18 : y < 18000) (h114 : h.1 114 y = 23) (h127 : h.1 110 127 = ((T0 + 1 : Nat) : Int)) (hT : T0 + 1 ≤ 9060) (q : ak_MV e 1 d ρ 295 [am_r 110, am_i (y : Int)] h Q (fun _ _ => False)) : ak_MV e 1 (d + 1) ρ 293 [am_r 110, am_i (y : Int)] h Q X := by
  refine ak_MV_of (Nat.le_of_ble_eq_true rfl) (am_k293_0 ?_)
  rw [ak_natn, h127, ak_t1 (show T0 + 1 ≤ 9060 from hT), ak_natn, h114]
  have yb : 0 ≤ (y : Int) ∧ (y : Int) < 18000 := by omega
  exact ⟨by omega, by omega, yb, trivial, fun z => absurd z (by decide), fun z => absurd z (by decide), fun z => absurd z (by decide), fun z => absurd z (by decide), fun _ => q, fun z => absurd z (by decide), fun z => absurd z (by decide), fun z => absurd z (by decide), fun z => absurd z (by decide), fun z => absurd z (by decide), fun z => absurd z (by decide), fun z => absurd z (by decide), fun z => absurd z (by decide), fun z => absurd z (by decide), fun z => absurd z (by decide), fun z => absurd z (by decide), trivial⟩
theorem ak_293_24 {h : ak_S} {Q : ak_S → Prop} {X : Nat → ak_S → Prop} (y18 : y < 18000) (h114 : h.1 114 y = 24) (h127 : h.1 110 127 = ((T0 + 1 : Nat) : Int)) (hT : T0 + 1 ≤ 9060) (q : ak_MV e 1 d ρ 296 [am_r 110, am_i (y : Int)] h Q (fun _ _ => False)) : ak_MV e 1 (d + 1) ρ 293 [am_r 110, am_i (y : Int)] h Q X := by
  refine ak_MV_of (Nat.le_of_ble_eq_true rfl) (am_k293_0 ?_)
  rw [ak_natn, h127, ak_t1 (show T0 + 1 ≤ 9060 from hT), ak_natn, h114]
  have yb : 0 ≤ (y : Int) ∧ (y : Int) < 18000 := by omega
  exact ⟨by omega, by omega, yb, trivial, fun z => absurd z (by decide), fun z => absurd z (by decide), fun z => absurd z (by decide), fun z => absurd z (by decide), fun z => absurd z (by decide), fun _ => q, fun z => absurd z (by decide), fun z => absurd z (by decide), fun z => absurd z (by decide), fun z => absurd z (by decide), fun z => absurd z (by decide), fun z => absurd z (by decide), fun z => absurd z (by decide), fun z => absurd z (by decide), fun z => absurd z (by decide), fun z => absurd z (by decide), trivial⟩
theorem ak_293_25 {h : ak_S} {Q : ak_S → Prop} {X : Nat → ak_S → Prop} (y18 : y < 18000) (h114 : h.1 114 y = 25) (h127 : h.1 110 127 = ((T0 + 1 : Nat) : Int)) (hT : T0 + 1 ≤ 9060) (q : ak_MV e 1 d ρ 296 [am_r 110, am_i (y : Int)] h Q (fun _ _ => False)) : ak_MV e 1 (d + 1) ρ 293 [am_r 110, am_i (y : Int)] h Q X := by
  refine ak_MV_of (Nat.le_of_ble_eq_true rfl) (am_k293_0 ?_)
  rw [ak_natn, h127, ak_t1 (show T0 + 1 ≤ 9060 from hT), ak_natn, h114]
  have yb : 0 ≤ (y : Int) ∧ (y : Int) < 18000 := by omega
  exact ⟨by omega, by omega, yb, trivial, fun z => absurd z (by decide), fun z => absurd z (by decide), fun z => absurd z (by decide), fun z => absurd z (by decide), fun z => absurd z (by decide), fun z => absurd z (by decide), fun _ => q, fun z => absurd z (by decide), fun z => absurd z (by decide), fun z => absurd z (by decide), fun z => absurd z (by decide), fun z => absurd z (by decide), fun z => absurd z (by decide), fun z => absurd z (by decide), fun z => absurd z (by decide), fun z => absurd z (by decide), trivial⟩
theorem ak_293_26 {h : ak_S} {Q : ak_S → Prop} {X : Nat → ak_S → Prop} (y18 : y < 18000) (h114 : h.1 114 y = 26) (h127 : h.1 110 127 = ((T0 + 1 : Nat) : Int)) (hT : T0 + 1 ≤ 9060) (q : ak_MV e 1 d ρ 296 [am_r 110, am_i (y : Int)] h Q (fun _ _ => False)) : ak_MV e 1 (d + 1) ρ 293 [am_r 110, am_i (y : Int)] h Q X := by
  refine ak_MV_of (Nat.le_of_ble_eq_true rfl) (am_k293_0 ?_)
  rw [ak_natn, h127, ak_t1 (show T0 + 1 ≤ 9060 from hT), ak_natn, h114]
  have yb : 0 ≤ (y : Int) ∧ (y : Int) < 18000 := by omega
  exact ⟨by omega, by omega, yb, trivial, fun z => absurd z (by decide), fun z => absurd z (by decide), fun z => absurd z (by decide), fun z => absurd z (by decide), fun z => absurd z (by decide), fun z => absurd z (by decide), fun z => absurd z (by decide), fun _ => q, fun z => absurd z (by decide), fun z => absurd z (by decide), fun z => absurd z (by decide), fun z => absurd z (by decide), fun z => absurd z (by decide), fun z => absurd z (by decide), fun z => absurd z (by decide), fun z => absurd z (by decide), trivial⟩
theorem ak_293_27 {h : ak_S} {Q : ak_S → Prop} {X : Nat → ak_S → Prop} (y18 : y < 18000) (h114 : h.1 114 y = 27) (h127 : h.1 110 127 = ((T0 + 1 : Nat) : Int)) (hT : T0 + 1 ≤ 9060) (q : ak_MV e 1 d ρ 296 [am_r 110, am_i (y : Int)] h Q (fun _ _ => False)) : ak_MV e 1 (d + 1) ρ 293 [am_r 110, am_i (y : Int)] h Q X := by
  refine ak_MV_of (Nat.le_of_ble_eq_true rfl) (am_k293_0 ?_)
  rw [ak_natn, h127, ak_t1 (show T0 + 1 ≤ 9060 from hT), ak_natn, h114]
  have yb : 0 ≤ (y : Int) ∧ (y : Int) < 18000 := by omega
  exact ⟨by omega, by omega, yb, trivial, fun z => absurd z (by decide), fun z => absurd z (by decide), fun z => absurd z (by decide), fun z => absurd z (by decide), fun z => absurd z (by decide), fun z => absurd z (by decide), fun z => absurd z (by decide), fun z => absurd z (by decide), fun _ => q, fun z => absurd z (by decide), fun z => absurd z (by decide), fun z => absurd z (by decide), fun z => absurd z (by decide), fun z => absurd z (by decide), fun z => absurd z (by decide), fun z => absurd z (by decide), trivial⟩
theorem ak_293_28 {h : ak_S} {Q : ak_S → Prop} {X : Nat → ak_S → Prop} (y18 : y < 18000) (h114 : h.1 114 y = 28) (h127 : h.1 110 127 = ((T0 + 1 : Nat) : Int)) (hT : T0 + 1 ≤ 9060) (q : ak_MV e 1 d ρ 296 [am_r 110, am_i (y : Int)] h Q (fun _ _ => False)) : ak_MV e 1 (d + 1) ρ 293 [am_r 110, am_i (y : Int)] h Q X := by
  refine ak_MV_of (Nat.le_of_ble_eq_true rfl) (am_k293_0 ?_)
  rw [ak_natn, h127, ak_t1 (show T0 + 1 ≤ 9060 from hT), ak_natn, h114]
  have yb : 0 ≤ (y : Int) ∧ (y : Int) < 18000 := by omega
  exact ⟨by omega, by omega, yb, trivial, fun z => absurd z (by decide), fun z => absurd z (by decide), fun z => absurd z (by decide), fun z => absurd z (by decide), fun z => absurd z (by decide), fun z => absurd z (by decide), fun z => absurd z (by decide), fun z => absurd z (by decide), fun z => absurd z (by decide), fun _ => q, fun z => absurd z (by decide), fun z => absurd z (by decide), fun z => absurd z (by decide), fun z => absurd z (by decide), fun z => absurd z (by decide), fun z => absurd z (by decide), trivial⟩
/-- a statement of one expression: both behind its value -/
theorem ak_dn1 (w : ak_RN c g (f :: fs) hc hm) (fj : f.js = j :: r) (hk : j.k = 4) (fv : f.vs = [v]) (v1 : v.1 = true) (h2 : ak_mC c.s c.h0 (ak_T c.s + 2) f.pc = (o : Int)) (ho : 26 < o) : ∃ hcS hmS : ak_S, hmS = (am_up (ak_poM hm (ak_nJ fs + 1 + r.length)).1 110 127 (ak_nT fs : Int), (ak_poM hm (ak_nJ fs + 1 + r.length)).2) ∧
    ((∀ q k, ¬ (q = 32 ∧ (k = 10 ∨ k = 12)) → ¬ (q = 72 ∧ k = fs.length) → hcS.1 q k = hc.1 q k) ∧ hcS.1 32 12 = (fs.length : Int) ∧ hcS.1 72 fs.length = ((f.pc + 1 : Nat) : Int) ∧ hcS.1 32 10 = (ak_nV fs : Int) ∧ hcS.2 = hc.2) ∧ ((∀ q k, ¬ (q = 110 ∧ (k = 127 ∨ k = 132)) → hmS.1 q k = hm.1 q k) ∧ hmS.1 110 127 = (ak_nT fs : Int) ∧ hmS.1 110 132 = ((ak_nJ fs + 1 + r.length : Nat) : Int) ∧ hmS.2 = hm.2) ∧
    (ak_vok g.O g.B v.2.1 v.2.2 ∧ hcS.1 108 (ak_nV fs) = v.2.1 ∧ hcS.2.1 109 (ak_nV fs) = v.2.2 ∧ (ak_poM hm (ak_nJ fs + 1 + r.length)).1 199 (ak_nT fs) = v.2.1 ∧ (ak_poM hm (ak_nJ fs + 1 + r.length)).2.1 200 (ak_nT fs) = v.2.2 ∧ (ak_poM hm (ak_nJ fs + 1 + r.length)).1 110 127 = ((ak_nT fs + 1 : Nat) : Int) ∧ ak_nT fs + 1 ≤ 9060) ∧
    (∀ (Q : ak_S → Prop) (X : Nat → ak_S → Prop), o = 27 → ak_MV e 0 (d + 38) (ak_rc c.s ρ1 ρ2) 146 [am_r 49, am_i (f.r : Int), am_i (ak_mC c.s c.h0 (ak_T c.s + 3) f.pc), am_i v.2.1, am_l v.2.2] hcS Q (fun _ _ => False) → ak_MV e 0 (d + 40) (ak_rc c.s ρ1 ρ2) 72 [am_r 32] hc Q X) ∧
    (∀ (Q : ak_S → Prop) (X : Nat → ak_S → Prop), o = 29 → ak_MV e 0 (d + 38) (ak_rc c.s ρ1 ρ2) 65 [am_r 63, am_i v.2.1, am_l v.2.2] hcS Q (fun _ _ => False) → ak_MV e 0 (d + 40) (ak_rc c.s ρ1 ρ2) 72 [am_r 32] hc Q X) ∧
    (∀ (Q : ak_S → Prop) (X : Nat → ak_S → Prop), o = 31 → ((ak_tr v.2.1 v.2.2 = true → Q hcS) ∧ (ak_tr v.2.1 v.2.2 ≠ true → Q (am_up hcS.1 72 fs.length (ak_mC c.s c.h0 (ak_T c.s + 3) f.pc), hcS.2))) → ak_MV e 0 (d + 40) (ak_rc c.s ρ1 ρ2) 72 [am_r 32] hc Q X) ∧
    (∀ (Q : ak_S → Prop) (X : Nat → ak_S → Prop), o = 32 → ak_MV e 0 (d + 38) (ak_rc c.s ρ1 ρ2) 98 [am_r 32, am_i (ak_nV fs : Int)] hcS Q (fun _ _ => False) → ak_MV e 0 (d + 40) (ak_rc c.s ρ1 ρ2) 72 [am_r 32] hc Q X) ∧
    (∀ (Q : ak_S → Prop) (X : Nat → ak_S → Prop), o = 33 → ak_MV e 0 (d + 38) (ak_rc c.s ρ1 ρ2) 54 [am_r 77, am_i 2, am_i 0, am_i v.2.1, am_l v.2.2, am_i (fs.length : Int)] hcS Q (fun _ _ => False) → ak_MV e 0 (d + 40) (ak_rc c.s ρ1 ρ2) 72 [am_r 32] hc Q X) ∧
    (∀ (Q : ak_S → Prop) (X : Nat → ak_S → Prop), o = 35 → ak_MV e 0 (d + 38) (ak_rc c.s ρ1 ρ2) 77 [am_r 32, am_i (ak_mC c.s c.h0 (ak_T c.s + 3) f.pc), am_i v.2.1, am_l v.2.2] hcS Q (fun _ _ => False) → ak_MV e 0 (d + 40) (ak_rc c.s ρ1 ρ2) 72 [am_r 32] hc Q X) := by
  obtain ⟨hs, l60, fU, f5, φ5, sp0, F, L, J0, V, K0, ⟨l1, l2, l3⟩, ⟨d2, d3, d4, d5, o1, o2⟩, ⟨e1, e2, e3, e4, e5, o3⟩, ⟨x1, x2, x3, x4⟩, d72, lt1⟩ := ak_tp w
  have etc : ak_tc f.vs = 1 := by rw [fv]; show 0 + (if v.1 = true then 1 else 0) = 1; rw [if_pos v1]
  have elen : f.vs.length = 1 := by rw [fv]; rfl
  rw [etc] at e3 x2
  rw [elen] at d5 x1
  rw [fv] at V
  obtain ⟨⟨r1, r2, vk⟩, r3, _⟩ := V
  obtain ⟨r4, r5⟩ := r3 v1
  have r1 : hc.1 108 (ak_nV fs) = v.2.1 := r1
  have r2 : hc.2.1 109 (ak_nV fs) = v.2.2 := r2
  have r4 : hm.1 199 (ak_nT fs) = v.2.1 := r4
  have r5 : hm.2.1 200 (ak_nT fs) = v.2.2 := r5
  have f70 := F.1.2.1
  have A : ∀ q k, ¬ (q = 32 ∧ k = 12) → ¬ (q = 72 ∧ k = fs.length) → (ak_atC hc fs.length f.pc).1 q k = hc.1 q k := fun q k a b => ak_atC_o a b
  have SO : ∀ q k, ¬ (q = 32 ∧ (k = 10 ∨ k = 12)) → ¬ (q = 72 ∧ k = fs.length) → (ak_szC (ak_atC hc fs.length f.pc) (ak_nV fs)).1 q k = hc.1 q k := fun q k a b => (ak_szC_o (by omega)).trans (A q k (by omega) b)
  have S12 : (ak_szC (ak_atC hc fs.length f.pc) (ak_nV fs)).1 32 12 = (fs.length : Int) := (ak_szC_o (by omega)).trans ak_atC_12
  have S72 : (ak_szC (ak_atC hc fs.length f.pc) (ak_nV fs)).1 72 fs.length = ((f.pc + 1 : Nat) : Int) := (ak_szC_o (by omega)).trans ak_atC_72
  have S10 : (ak_szC (ak_atC hc fs.length f.pc) (ak_nV fs)).1 32 10 = (ak_nV fs : Int) := ak_szC_v
  have S2 : (ak_szC (ak_atC hc fs.length f.pc) (ak_nV fs)).2 = hc.2 := rfl
  have s1 : (ak_szC (ak_atC hc fs.length f.pc) (ak_nV fs)).1 108 (ak_nV fs) = v.2.1 := (SO _ _ (by omega) (by omega)).trans r1
  have s2 : (ak_szC (ak_atC hc fs.length f.pc) (ak_nV fs)).2.1 109 (ak_nV fs) = v.2.2 := by rw [S2]; exact r2
  have s70 : (ak_szC (ak_atC hc fs.length f.pc) (ak_nV fs)).1 70 fs.length = (f.r : Int) := (SO _ _ (by omega) (by omega)).trans f70
  have p74 : ∀ (Q : Int → ak_S → Prop) (X : Nat → ak_S → Prop), Q (ak_nV fs : Int) (ak_szC (ak_atC hc fs.length f.pc) (ak_nV fs)) → ak_MI e 0 (d + 38) (ak_rc c.s ρ1 ρ2) 74 [am_r 32] (ak_atC hc fs.length f.pc) Q X := fun Q X q => am_s74 (d := d + 37) (n := ak_nV fs) hs ((A _ _ (by omega) (by omega)).trans d5) (by omega) q
  have o96 := fun (Q : ak_S → Prop) (X : Nat → ak_S → Prop) (ho2 : o ≤ 31) (q : ak_MV e 0 (d + 39) (ak_rc c.s ρ1 ρ2) 96 [am_r 32, am_i (o : Int), am_i (ak_mC c.s c.h0 (ak_T c.s + 3) f.pc)] (ak_atC hc fs.length f.pc) Q (fun _ _ => False)) => ak_o72 (d := d + 39) (o := o) (X := X) w h2 (fun z => absurd z (by omega)) (fun _ z => absurd z (by omega)) (fun _ z => absurd z (by omega)) (fun _ z => absurd z (by omega)) (fun _ _ => q) (fun z => absurd z (by omega))
  have o97 := fun (Q : ak_S → Prop) (X : Nat → ak_S → Prop) (ho2 : 31 < o) (q : ak_MV e 0 (d + 39) (ak_rc c.s ρ1 ρ2) 97 [am_r 32, am_i (o : Int), am_i (ak_mC c.s c.h0 (ak_T c.s + 3) f.pc)] (ak_atC hc fs.length f.pc) Q (fun _ _ => False)) => ak_o72 (d := d + 39) (o := o) (X := X) w h2 (fun z => absurd z (by omega)) (fun _ z => absurd z (by omega)) (fun _ z => absurd z (by omega)) (fun _ z => absurd z (by omega)) (fun _ z => absurd z (by omega)) (fun _ => q)
  generalize ak_szC (ak_atC hc fs.length f.pc) (ak_nV fs) = hcS at SO S12 S72 S10 S2 s1 s2 s70 p74
  have tb : 0 ≤ (fs.length : Int) ∧ (fs.length : Int) < 60 := by omega
  have nb : 0 ≤ (ak_nV fs : Int) ∧ (ak_nV fs : Int) < 12600 := by omega
  clear A sp0 F L J0 K0
  refine ⟨hcS, _, rfl, ⟨SO, S12, S72, S10, S2⟩, ⟨fun q k a => (ak_up_out1 (by omega)).trans (ak_poM_o (by omega)), ak_up_at1, (ak_up_out1 (by omega)).trans ak_poM_v, rfl⟩, ⟨vk, s1, s2, (ak_poM_o (by omega)).trans r4, r5, (ak_poM_o (by omega)).trans e3, by omega⟩, fun Q X h q => o96 Q X (by omega) ?_, fun Q X h q => o96 Q X (by omega) ?_, fun Q X h q => o96 Q X (by omega) ?_, fun Q X h q => o97 Q X (by omega) ?_, fun Q X h q => o97 Q X (by omega) ?_, fun Q X h q => o97 Q X (by omega) ?_⟩
  · subst h
    refine ak_MV_of (Nat.le_of_ble_eq_true rfl) (am_k96_0 hs ⟨trivial, fun _ => p74 _ _ ?_, fun z => absurd z (by decide), fun z => absurd z (by decide), trivial⟩)
    rw [S12, ak_natn, ak_natn, s1, s2, s70]
    exact ⟨trivial, fun z => absurd z (by decide), fun _ => ⟨tb, nb, nb, q⟩, fun z => absurd z (by decide), fun z => absurd z (by decide), fun z => absurd z (by decide), fun z => absurd z (by decide), trivial⟩
  · subst h
    refine ak_MV_of (Nat.le_of_ble_eq_true rfl) (am_k96_0 hs ⟨trivial, fun _ => p74 _ _ ?_, fun z => absurd z (by decide), fun z => absurd z (by decide), trivial⟩)
    rw [S12, ak_natn, ak_natn, s1, s2]
    exact ⟨trivial, fun z => absurd z (by decide), fun z => absurd z (by decide), fun z => absurd z (by decide), fun _ => ⟨nb, nb, q⟩, fun z => absurd z (by decide), fun z => absurd z (by decide), trivial⟩
  · subst h
    refine ak_MV_of (Nat.le_of_ble_eq_true rfl) (am_k96_0 hs ⟨trivial, fun _ => p74 _ _ ⟨trivial, fun z => absurd z (by decide), fun z => absurd z (by decide), fun z => absurd z (by decide), fun z => absurd z (by decide), fun z => absurd z (by decide), fun _ => ?_, trivial⟩, fun z => absurd z (by decide), fun z => absurd z (by decide), trivial⟩)
    refine am_s75 (d := d + 37) hs (by omega) (by rw [s1]; exact vk.1.1) (fun z => ⟨fun _ => ?_, fun z2 => absurd z2 (by decide)⟩) (fun z => ⟨fun z2 => absurd rfl z2, fun _ => ?_⟩)
    · rw [s1, s2] at z
      exact q.1 z
    · rw [s1, s2] at z
      rw [S12, ak_natn]
      exact ⟨tb, q.2 z⟩
  · subst h
    exact ak_MV_of (Nat.le_of_ble_eq_true rfl) (am_k97_0 hs ⟨trivial, fun z => absurd z (by decide), fun _ => p74 _ _ q, fun z => absurd z (by decide), fun z => absurd z (by decide), fun z => absurd z (by decide), fun z => absurd z (by decide), fun z => absurd z (by decide), trivial⟩)
  · subst h
    refine ak_MV_of (Nat.le_of_ble_eq_true rfl) (am_k97_0 hs ⟨trivial, fun z => absurd z (by decide), fun z => absurd z (by decide), fun _ => p74 _ _ ?_, fun z => absurd z (by decide), fun z => absurd z (by decide), fun z => absurd z (by decide), fun z => absurd z (by decide), trivial⟩)
    rw [S12, ak_natn, s1, s2]
    exact ⟨nb, nb, q⟩
  · subst h
    refine ak_MV_of (Nat.le_of_ble_eq_true rfl) (am_k97_0 hs ⟨trivial, fun z => absurd z (by decide), fun z => absurd z (by decide), fun z => absurd z (by decide), fun z => absurd z (by decide), fun _ => p74 _ _ ?_, fun z => absurd z (by decide), fun z => absurd z (by decide), trivial⟩)
    rw [ak_natn, s1, s2]
    exact ⟨nb, nb, q⟩
end DON1
