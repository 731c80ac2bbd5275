/-! calls -/
section AMC
variable {ro : Nat → Option (Nat × Nat)} {d j pc len a b : Nat} {ls : am_L} {st : List am_V} {h : am_H} {Q R : am_R → Prop} {z : Int}
def am_K1 (ro : Nat → Option (Nat × Nat)) (d j pc len : Nat) (ls : am_L) (r : List am_V) (Q R : am_R → Prop) : Prop := ∀ v h', R (.inl (v, h')) → am_W ro d j (pc + len) ls (v.toList ++ r) h' Q
def am_K2 (ro : Nat → Option (Nat × Nat)) (d j pc : Nat) (ls : am_L) (Q R : am_R → Prop) : Prop := ∀ x h', R (.inr (x, h')) → (am_hdf (am_hl am_P j) pc x = some none ∧ Q (.inr (x, h'))) ∨ ∃ t i l, am_hdf (am_hl am_P j) pc x = some (some (t, i)) ∧ am_st ls i (.inr (.inr 0)) = some l ∧ am_W ro d j t (l.set i none) [] h' Q
theorem am_W_virt {i p n : Nat} {ar r : List am_V} (hC : am_co am_P j pc = some (len, .invokevirtual i, a, b, z)) (ha : am_args (am_na am_P a) st = some (.inr (.inr p) :: ar, r)) (hk : am_kind ro h p = some (am_rc am_P a, n)) (hr : am_cats r ≤ 8) (m : am_M ro d a (.inr (.inr p) :: ar) h R) (k1 : am_K1 ro d j pc len ls r Q R) (k2 : am_K2 ro d j pc ls Q R) : am_W ro d j pc ls st h Q := by
  obtain ⟨F, res, h1, h2⟩ := m
  refine am_W_aft hC (fun call k => ?_) h1 h2 k1 k2
  unfold am_one
  dsimp only
  rw [ha]
  dsimp only
  rw [hk]
  exact if_pos ⟨rfl, hr⟩
theorem am_W_spec {i p : Nat} {ar r : List am_V} (hC : am_co am_P j pc = some (len, .invokespecial i, a, b, z)) (h9 : a < 900) (ha : am_args (am_na am_P a) st = some (.inr (.inr p) :: ar, r)) (hp : p ≠ 0 ∧ p < am_SP) (hr : am_cats r ≤ 8) (m : am_M ro d a (.inr (.inr p) :: ar) h R) (k1 : am_K1 ro d j pc len ls r Q R) (k2 : am_K2 ro d j pc ls Q R) : am_W ro d j pc ls st h Q := by
  obtain ⟨F, res, h1, h2⟩ := m
  refine am_W_aft hC (fun call k => ?_) h1 h2 k1 k2
  unfold am_one
  dsimp only
  rw [if_neg (Nat.not_le.mpr h9), ha]
  exact if_pos ⟨hp.1, hp.2, hr⟩
theorem am_W_stat {i : Nat} {ar r : List am_V} (hC : am_co am_P j pc = some (len, .invokestatic i, a, b, z)) (h9 : a < 900) (ha : am_args (am_na am_P a) st = some (ar, r)) (hr : am_cats r ≤ 8) (m : am_M ro d a ar h R) (k1 : am_K1 ro d j pc len ls r Q R) (k2 : am_K2 ro d j pc ls Q R) : am_W ro d j pc ls st h Q := by
  obtain ⟨F, res, h1, h2⟩ := m
  refine am_W_aft hC (fun call k => ?_) h1 h2 k1 k2
  unfold am_one
  dsimp only
  rw [if_neg (Nat.not_le.mpr h9), ha]
  exact if_pos hr
theorem am_W_prim {i : Nat} {r : List am_V} {h' : am_H} (hC : am_co am_P j pc = some (len, .invokestatic i, a, b, z)) (h9 : 900 ≤ a) (hs : am_cats st ≤ 40) (hp : am_prim ro a st h = some (r, h')) (w : am_W ro d j (pc + len) ls r h' Q) : am_W ro d j pc ls st h Q := by
  refine am_W_one hC (fun call k => ?_) w
  unfold am_one
  dsimp only
  rw [if_pos h9, if_pos hs, hp]
  rfl
theorem am_W_primI {i : Nat} {r : List am_V} {h' : am_H} (hC : am_co am_P j pc = some (len, .invokespecial i, a, b, z)) (h9 : 900 ≤ a) (hs : am_cats st ≤ 40) (hp : am_prim ro a st h = some (r, h')) (w : am_W ro d j (pc + len) ls r h' Q) : am_W ro d j pc ls st h Q := by
  refine am_W_one hC (fun call k => ?_) w
  unfold am_one
  dsimp only
  rw [if_pos h9, if_pos hs, hp]
  rfl
theorem am_W_new {i : Nat} {st' : List am_V} {ls' : am_L} {h' : am_H} (hC : am_co am_P j pc = some (len, .new i, a, b, z)) (h5 : a < 50) (hn : am_norm ro am_fty am_nf (.new i) a b z ls st h = some (ls', st', h')) (w : am_W ro d j (pc + len) ls' st' h' Q) : am_W ro d j pc ls st h Q := by
  refine am_W_one hC (fun call k => ?_) w
  unfold am_one
  dsimp only
  rw [if_neg (Nat.not_le.mpr h5), hn]
  rfl
/-- a call that cannot throw -/
theorem am_K2_none {pc : Nat} (hR : ∀ x h', ¬ R (.inr (x, h'))) : am_K2 ro d j pc ls Q R := fun x h' q => absurd q (hR x h')
/-- out of a method without handlers -/
theorem am_K2_out {pc : Nat} (hh : am_hl am_P j = []) (hR : ∀ x h', R (.inr (x, h')) → Q (.inr (x, h'))) : am_K2 ro d j pc ls Q R := fun x h' q => Or.inl ⟨by rw [hh]; rfl, hR x h' q⟩
theorem am_W_tsw {dd lo hi : Int} {offs : Array Int} {x : Int} {r : List am_V} (hC : am_co am_P j pc = some (len, .tableswitch dd lo hi offs, a, b, z)) {t : Nat} (ht : am_tgt pc (if x < lo ∨ hi < x then dd else (offs[(x - lo).toNat]?).getD dd) = some t) (hin : ¬ (x < lo ∨ hi < x) → (x - lo).toNat < offs.size) (w : am_W ro d j t ls r h Q) : am_W ro d j pc ls (.inl x :: r) h Q := by
  refine am_W_one hC (fun call k => ?_) w
  unfold am_one
  dsimp only
  by_cases hx : x < lo ∨ hi < x
  · rw [if_pos hx] at ht ⊢
    rw [ht]; rfl
  · rw [if_neg hx] at ht ⊢
    have h1 := hin hx
    rw [Array.getElem?_eq_getElem h1] at ht ⊢
    dsimp only
    have ht2 : am_tgt pc offs[(x - lo).toNat] = some t := ht
    rw [ht2]; rfl
theorem am_W_lsw {dd : Int} {ps : Array (Int × Int)} {x : Int} {r : List am_V} (hC : am_co am_P j pc = some (len, .lookupswitch dd ps, a, b, z)) (hp : (ps.toList.zip (ps.toList.drop 1)).all (fun (u, v) => u.1 < v.1) = true) {t : Nat} (ht : am_tgt pc (Op.lookupswitch.offset ps.toList dd x) = some t) (w : am_W ro d j t ls r h Q) : am_W ro d j pc ls (.inl x :: r) h Q := by
  refine am_W_one hC (fun call k => ?_) w
  unfold am_one
  dsimp only
  rw [if_pos hp, ht]; rfl
end AMC
