/-! bytes of an int on both sides -/
theorem ak_ofInt {x : Int} (h1 : -2147483648 ≤ x) (h2 : x < 2147483648) : (Int32.ofInt x).toInt = x := by
  rw [Int32.toInt_ofInt]
  exact Int.bmod_eq_of_le (by show -((4294967296 : Nat) / 2 : Int) ≤ x; omega) (by show x < ((4294967296 : Nat) + 1) / 2; omega)
theorem ak_and255 (v : Int32) : (v &&& Int32.ofInt 255).toInt = ((v.toBitVec.toNat % 256 : Nat) : Int) := by
  have h1 : (v &&& Int32.ofInt 255).toBitVec.toNat = v.toBitVec.toNat % 256 := by
    show (v.toBitVec &&& (Int32.ofInt 255).toBitVec).toNat = _
    rw [BitVec.toNat_and]
    show v.toBitVec.toNat &&& 255 = _
    exact Nat.and_two_pow_sub_one_eq_mod _ 8
  show (v &&& Int32.ofInt 255).toBitVec.toInt = _
  rw [BitVec.toInt_eq_toNat_of_lt (by rw [h1]; omega), h1]
def ak_by (x : Int) (s : Nat) : Int := am_w8 (x / 2 ^ s)
theorem ak_sar {x : Int} (h1 : -2147483648 ≤ x) (h2 : x < 2147483648) {s : Int} {n : Nat} (hs : ((Int32.ofInt s &&& 31).toBitVec.smod 32).toNat = n) : (Int32.ofInt x >>> (Int32.ofInt s &&& 31)).toInt = x / 2 ^ n := by
  show ((Int32.ofInt x).toBitVec.sshiftRight' ((Int32.ofInt s &&& 31).toBitVec.smod 32)).toInt = _
  rw [BitVec.toInt_sshiftRight', hs]
  show (Int32.ofInt x).toInt >>> n = _
  rw [ak_ofInt h1 h2, Int.shiftRight_eq_div_pow]
  norm_cast
theorem ak_shr {x : Int} (h1 : -2147483648 ≤ x) (h2 : x < 2147483648) {s : Int} {n : Nat} (hs : ((Int32.ofInt s).toUInt32 &&& Int32.toUInt32 31).toNat % 32 = n) :
    (Int32.ofInt (((Int32.ofInt x).toUInt32 >>> ((Int32.ofInt s).toUInt32 &&& Int32.toUInt32 31)).toInt32.toInt) &&& Int32.ofInt 255).toInt = (((x % 4294967296).toNat / 2 ^ n % 256 : Nat) : Int) := by
  rw [Int32.ofInt_toInt, ak_and255]
  have e1 : ((Int32.ofInt x).toUInt32 >>> ((Int32.ofInt s).toUInt32 &&& Int32.toUInt32 31)).toInt32.toBitVec.toNat = ((Int32.ofInt x).toUInt32 >>> ((Int32.ofInt s).toUInt32 &&& Int32.toUInt32 31)).toNat := rfl
  rw [e1, UInt32.toNat_shiftRight, hs, Nat.shiftRight_eq_div_pow]
  have e2 : (Int32.ofInt x).toUInt32.toNat = (x % 4294967296).toNat := by
    show (BitVec.ofInt 32 x).toNat = _
    rw [BitVec.toNat_ofInt]
    rfl
  rw [e2]
theorem ak_by_mod {x : Int} {n : Nat} (hn : n = 24 ∨ n = 16 ∨ n = 8 ∨ n = 0) : (((x % 4294967296).toNat / 2 ^ n % 256 : Nat) : Int) = ak_by x n % 256 := by
  unfold ak_by am_w8
  rcases hn with rfl | rfl | rfl | rfl
  · rw [show (2 : Int) ^ 24 = 16777216 by decide, show (2 : Nat) ^ 24 = 16777216 by decide]; omega
  · rw [show (2 : Int) ^ 16 = 65536 by decide, show (2 : Nat) ^ 16 = 65536 by decide]; omega
  · rw [show (2 : Int) ^ 8 = 256 by decide, show (2 : Nat) ^ 8 = 256 by decide]; omega
  · rw [show (2 : Int) ^ 0 = 1 by decide, show (2 : Nat) ^ 0 = 1 by decide]; omega
/-! bytes put behind others: array q, its length at (a, b); n are there, m are put -/
def ak_pt (q a b : Nat) (h h' : ak_S) (n : Nat) (B : Nat → Int) (m : Nat) : Prop :=
  h'.1 a b = ((n + m : Nat) : Int) ∧ (∀ j, j < m → h'.1 q (n + j) = B j) ∧ (∀ p k, ¬ (p = q ∧ n ≤ k ∧ k < n + m) → ¬ (p = a ∧ k = b) → h'.1 p k = h.1 p k) ∧ h'.2 = h.2
theorem ak_pt_step {q a b : Nat} {h h' : ak_S} {n : Nat} {B : Nat → Int} {m : Nat} (hq : q ≠ a) (w : ak_pt q a b h h' n B m) {v z : Int} (hv : B m = v) (hz : z = ((n + m : Nat) : Int) + 1) {k0 : Nat} (hk : k0 = n + m) : ak_pt q a b h (am_up (am_up h'.1 q k0 v) a b z, h'.2) n B (m + 1) := by
  obtain ⟨w1, w2, w3, w4⟩ := w
  subst hk
  refine ⟨?_, fun j hj => ?_, fun p k h1 h2 => ?_, w4⟩
  · show am_up _ a b z a b = _
    unfold am_up
    rw [if_pos rfl, if_pos rfl, hz]; omega
  · show am_up (am_up h'.1 q (n + m) v) a b z q (n + j) = _
    unfold am_up
    rw [if_neg hq, if_pos rfl]
    by_cases hjm : j = m
    · subst hjm; rw [if_pos rfl, hv]
    · rw [if_neg (by omega)]; exact w2 j (by omega)
  · show am_up (am_up h'.1 q (n + m) v) a b z p k = _
    unfold am_up
    by_cases hp : p = a
    · rw [if_pos hp, if_neg (fun z => h2 ⟨hp, z⟩), if_neg (fun z => hq (z.symm.trans hp))]
      exact w3 p k (fun z => hq (z.1.symm.trans hp)) h2
    · rw [if_neg hp]
      by_cases hp2 : p = q
      · rw [if_pos hp2, if_neg (fun z => h1 ⟨hp2, by omega, by omega⟩)]
        exact w3 p k (fun z => h1 ⟨z.1, z.2.1, by omega⟩) h2
      · rw [if_neg hp2]
        exact w3 p k (fun z => hp2 z.1) h2
theorem ak_pt_0 {q a b : Nat} {h : ak_S} {n : Nat} {B : Nat → Int} (hn : h.1 a b = (n : Int)) : ak_pt q a b h h n B 0 := ⟨by rw [hn]; rfl, fun j hj => absurd hj (Nat.not_lt_zero _), fun _ _ _ _ => rfl, rfl⟩
theorem am_s121 {e : ak_X3} {d : Nat} {ρ : List Nat} {h h' : ak_S} {Q : ak_S → Prop} {X : Nat → ak_S → Prop} {x : Int} (hx1 : -2147483648 ≤ x) (hx2 : x < 2147483648) {n m : Nat} {B : Nat → Int} (hnm : n + m + 4 ≤ 6000)
    (hB : ∀ i, i < 4 → B (m + i) = ak_by x (24 - 8 * i)) (hp : ak_pt 4 3 1 h h' n B m) (w : ∀ h2, ak_pt 4 3 1 h h2 n B (m + 4) → Q h2) : ak_MV e 0 (d + 1) ρ 121 [am_r 3, am_i x] h' Q X := by
  have step : ∀ (i : Nat) (s s' : Int) (h2 : ak_S), i < 4 → 0 ≤ s → s' = am_w32 (s + (-8)) → ((Int32.ofInt s &&& 31).toBitVec.smod 32).toNat = 24 - 8 * i → ak_pt 4 3 1 h h2 n B (m + i) →
      (∀ h3, ak_pt 4 3 1 h h3 n B (m + (i + 1)) → ak_W0 e 0 d 121 ρ 3 [some (am_r 3), some (am_i x), some (am_i s')] [] h3 (ak_qv Q X)) → ak_W0 e 0 d 121 ρ 3 [some (am_r 3), some (am_i x), some (am_i s)] [] h2 (ak_qv Q X) := by
    intro i s s' h2 hi hs hs' hsn hp2 hw
    have hl := hp2.1
    refine am_k121_3 ⟨fun h0 => absurd h0 (by omega), fun _ => ⟨fun h0 => absurd h0 (by rw [hl]; omega), fun _ => ⟨⟨⟨by rw [hl]; omega, by rw [hl]; omega⟩, ?_⟩, ?_⟩⟩⟩
    · unfold am_w8; omega
    · rw [← hs']
      refine hw _ (ak_pt_step (m := m + i) (by decide) hp2 ?_ (by rw [hl]; exact am_w32_id (by omega) (by omega)) (by rw [hl]; omega))
      rw [hB i hi, ak_sar hx1 hx2 hsn]
      rfl
  refine ak_MV_of (Nat.le_of_ble_eq_true rfl) (am_k121_0 ?_)
  refine step 0 24 16 h' (by decide) (by decide) (by decide) (by decide) hp (fun h3 p3 => ?_)
  refine step 1 16 8 h3 (by decide) (by decide) (by decide) (by decide) p3 (fun h3 p3 => ?_)
  refine step 2 8 0 h3 (by decide) (by decide) (by decide) (by decide) p3 (fun h3 p3 => ?_)
  refine step 3 0 (-8) h3 (by decide) (by decide) (by decide) (by decide) p3 (fun h3 p3 => ?_)
  exact am_k121_3 ⟨fun _ => w _ p3, fun h0 => absurd h0 (by decide)⟩
