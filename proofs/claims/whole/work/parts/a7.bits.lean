/-! a bit for each object -/
def ak_sa (o : Int) : Int64 := (Int32.ofInt ((Int32.ofInt o &&& Int32.ofInt 63).toInt)).toInt64 &&& 63
def ak_bt (w o : Int) : Int := (Int64.ofInt ((Int64.ofInt w >>> ak_sa o).toInt) &&& Int64.ofInt 1).toInt
def ak_bs (w o : Int) : Int := (Int64.ofInt w ||| Int64.ofInt ((Int64.ofInt 1 <<< ak_sa o).toInt)).toInt
def ak_lb (w : Int) (i : Nat) : Bool := (Int64.ofInt w).toBitVec.getLsbD i
set_option maxRecDepth 100000 in
theorem ak_ix_all : ∀ o : Fin 200, (Int32.ofInt (o.1 : Int) >>> (Int32.ofInt 6 &&& 31)).toInt = ((o.1 / 64 : Nat) : Int) := by decide +kernel
set_option maxRecDepth 100000 in
theorem ak_sa_all : ∀ o : Fin 200, (ak_sa (o.1 : Int)).toBitVec.smod 64 = BitVec.ofNat 64 (o.1 % 64) := by decide +kernel
theorem ak_ix {o : Nat} (h : o < 200) : (Int32.ofInt (o : Int) >>> (Int32.ofInt 6 &&& 31)).toInt = ((o / 64 : Nat) : Int) := ak_ix_all ⟨o, h⟩
theorem ak_and1 (b : BitVec 64) : b &&& 1#64 = if b.getLsbD 0 = true then 1#64 else 0#64 := by
  refine BitVec.eq_of_getLsbD_eq (fun i hi => ?_)
  rw [BitVec.getLsbD_and, BitVec.getLsbD_one]
  by_cases h0 : i = 0
  · subst h0
    cases hb : b.getLsbD 0 <;> simp
  · cases hb : b.getLsbD 0 <;> simp [h0]
theorem ak_bt_eq {w : Int} {o : Nat} (h : o < 200) : ak_bt w (o : Int) = if ak_lb w (o % 64) = true then 1 else 0 := by
  unfold ak_bt ak_lb
  rw [Int64.ofInt_toInt]
  have h1 : ((Int64.ofInt w >>> ak_sa (o : Int)) &&& Int64.ofInt 1).toBitVec = if (Int64.ofInt w).toBitVec.getLsbD (o % 64) = true then 1#64 else 0#64 := by
    rw [Int64.toBitVec_and, Int64.toBitVec_shiftRight, ak_sa_all ⟨o, h⟩]
    show BitVec.sshiftRight' _ _ &&& 1#64 = _
    rw [ak_and1]
    have : (BitVec.sshiftRight' (Int64.ofInt w).toBitVec (BitVec.ofNat 64 (o % 64))).getLsbD 0 = (Int64.ofInt w).toBitVec.getLsbD (o % 64) := by
      unfold BitVec.sshiftRight'
      rw [BitVec.getLsbD_sshiftRight, BitVec.toNat_ofNat, Nat.mod_eq_of_lt (show o % 64 < 2 ^ 64 by omega)]
      simp
      omega
    rw [this]
  cases hb : (Int64.ofInt w).toBitVec.getLsbD (o % 64) with
  | true =>
    rw [hb, if_pos rfl] at h1
    rw [if_pos rfl]
    show BitVec.toInt _ = _
    rw [h1]
    rfl
  | false =>
    rw [hb, if_neg (by decide)] at h1
    rw [if_neg (by decide)]
    show BitVec.toInt _ = _
    rw [h1]
    rfl
theorem ak_lb_zero {i : Nat} : ak_lb 0 i = false := by
  unfold ak_lb
  show (0#64).getLsbD i = false
  simp
theorem ak_lb_bs {w : Int} {o i : Nat} (h : o < 200) (hi : i < 64) : ak_lb (ak_bs w (o : Int)) i = (ak_lb w i || decide (i = o % 64)) := by
  unfold ak_lb ak_bs
  rw [Int64.ofInt_toInt, Int64.ofInt_toInt, Int64.toBitVec_or, BitVec.getLsbD_or, Int64.toBitVec_shiftLeft, ak_sa_all ⟨o, h⟩]
  congr 1
  show (BitVec.shiftLeft 1#64 _).getLsbD i = _
  rw [BitVec.toNat_ofNat, Nat.mod_eq_of_lt (show o % 64 < 2 ^ 64 by omega)]
  show (1#64 <<< (o % 64)).getLsbD i = _
  rw [BitVec.getLsbD_shiftLeft, BitVec.getLsbD_one]
  by_cases hio : i = o % 64
  · subst hio
    simp
    omega
  · rw [decide_eq_false hio]
    by_cases h2 : i < o % 64
    · simp [h2]
    · have h3 : ¬ i - o % 64 = 0 := by omega
      simp [h3]
theorem ak_bs_rng {w : Int} {o : Int} : -9223372036854775808 ≤ ak_bs w o ∧ ak_bs w o < 9223372036854775808 := am_in64 _
