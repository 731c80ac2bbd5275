/-! the run: values taken, a value put; numbers -/
section VAL2
variable {e : ak_X3} {d ρ1 ρ2 P W y n : Nat} {ρ : List Nat} {c : ak_Cx} {g g' : ak_Gh} {fs fs' : List ak_Fr} {f : ak_Fr} {V : List Nat} {h hc hm hc' hm' hcS hmS hcX : ak_S} {j : ak_Jb} {l2 r js : List ak_Jb} {u l : List (Bool × Int × Int)} {aw : List Bool} {s x kd : Int}
theorem ak_szC_o {q k : Nat} (a : ¬ (q = 32 ∧ k = 10)) : (ak_szC h n).1 q k = h.1 q k := ak_up_out1 a
theorem ak_szC_v : (ak_szC h n).1 32 10 = (n : Int) := ak_up_at1
/-- a value is put above those that stay -/
theorem ak_val (w : ak_RN c g (f :: fs) hc hm) (fj : f.js = j :: r) (hk : j.k < 9) (pc9 : f.pc < 9100) (fv : f.vs = u ++ l) (sp : ak_SPP c g' (ak_rms (f :: fs)) hcS hm') (gl : ak_gle g g' (ak_rms (f :: fs))) (kc : ak_kpC g (ak_rms (f :: fs)) fs.length (ak_nV fs + l.length) hc hcS) (km : ak_kpM (ak_nJ fs + 1 + r.length) (ak_nT fs + ak_tc l) hm hm') (c72 : hcS.1 72 fs.length = ((f.pc + 1 : Nat) : Int)) (c11 : hcS.1 32 11 = -1) (c77 : hcS.1 77 10 = 0) (m105 : hm'.1 110 105 = -1)
    (m127 : hm'.1 110 127 = ((ak_nT fs + ak_tc l + 1 : Nat) : Int)) (m132 : hm'.1 110 132 = ((ak_nJ fs + 1 + r.length : Nat) : Int)) (m199 : hm'.1 199 (ak_nT fs + ak_tc l) = s ∧ hm'.2.1 200 (ak_nT fs + ak_tc l) = x) (vk : ak_vok g'.O g'.B s x) (K : ak_K (ak_mC c.s c.h0) (ak_mM c.us c.m0) (ak_T c.s) c.us (g.mt f.r + 40 * g.lv f.r) r (f.pc + 1) (true :: l.map (fun v => v.1))) (len : l.length + 1 ≤ 151)
    (gC : ak_cgo e (d + 40) c.s ρ1 ρ2 72 [am_r 32] hc (ak_psC hcS (ak_nV fs + l.length) s x)) (gM : ak_mgo e (d + 40) ρ hm hm') (h104 : hm.1 110 104 ≤ hm'.1 110 104) (hsm : ∀ q, 109 ≤ q → q ≤ 111 → hm'.1 110 q = hm.1 110 q) (h22 : hcS.2.2 = hc.2.2) : ak_OUT e d ρ1 ρ2 ρ c (ak_Phi hm (f :: fs)) W hc hm := by
  obtain ⟨q1, q2, q3, q4, q5, q6⟩ := ak_tj w fj
  obtain ⟨g1, g2, g3⟩ := ak_gc_of (j := j) (r := r) hk
  have V := (ak_tp w).2.2.2.2.2.2.2.2.2.1
  rw [fv] at V
  have w' := ak_RN_val (pc' := f.pc + 1) w (ak_VS_dn V) q6 (by rw [fj, g1]) (by rw [fj, g2]) sp gl kc km c72 c11 c77 m105 m127 m132 m199 vk K ⟨by omega, len⟩
  refine ak_OUT1 w w' (by simp) gC gM ?_ h104 (show hcS.2.2 = _ from h22) (fun q a b => by rw [hsm q a b]; omega)
  show ak_pcs fs + (9100 - (f.pc + 1)) + 9101 * ak_gw r + 1 ≤ ak_pcs fs + (9100 - f.pc) + 9101 * ak_gw f.js
  rw [fj, g3]
  omega
/-- values are taken, jobs put -/
theorem ak_red {pc' : Nat} (w : ak_RN c g (f :: fs) hc hm) (fj : f.js = j :: r) (hk : j.k < 9) (pc9 : f.pc < 9100) (fv : f.vs = u ++ l) (hp : f.pc < pc') (sp : ak_SPP c g' (ak_rms (f :: fs)) hc' hm') (gl : ak_gle g g' (ak_rms (f :: fs))) (kc : ak_kpC g (ak_rms (f :: fs)) fs.length (ak_nV fs + l.length) hc hc') (km : ak_kpM (ak_nJ fs + 1 + r.length) (ak_nT fs + ak_tc l) hm hm') (c72 : hc'.1 72 fs.length = (pc' : Int)) (c10 : hc'.1 32 10 = ((ak_nV fs + l.length : Nat) : Int)) (c11 : hc'.1 32 11 = -1) (c77 : hc'.1 77 10 = 0) (m105 : hm'.1 110 105 = -1)
    (m127 : hm'.1 110 127 = ((ak_nT fs + ak_tc l : Nat) : Int)) (m132 : hm'.1 110 132 = ((ak_nJ fs + 1 + js.length : Nat) : Int)) (J : ak_JS g'.O g'.B g'.φ (f.r :: ak_rms fs) fs.length (ak_nJ fs + 1) (ak_nG fs) (ak_nK fs) (ak_nT fs) hc' hm' js) (eg : ak_gc js = ak_gc r ∧ ak_kc js = ak_kc r ∧ ak_gw js = ak_gw r) (K : ak_K (ak_mC c.s c.h0) (ak_mM c.us c.m0) (ak_T c.s) c.us (g.mt f.r + 40 * g.lv f.r) js pc' (l.map (fun v => v.1))) (jl : js.length ≤ 6165)
    (gC : ak_cgo e (d + 40) c.s ρ1 ρ2 72 [am_r 32] hc hc') (gM : ak_mgo e (d + 40) ρ hm hm') (h104 : hm.1 110 104 ≤ hm'.1 110 104) (hsm : ∀ q, 109 ≤ q → q ≤ 111 → hm'.1 110 q ≤ hm.1 110 q + 1) (h22 : hc'.2.2 = hc.2.2) : ak_OUT e d ρ1 ρ2 ρ c (ak_Phi hm (f :: fs)) W hc hm := by
  obtain ⟨q1, q2, q3, q4, q5, q6⟩ := ak_tj w fj
  obtain ⟨g1, g2, g3⟩ := ak_gc_of (j := j) (r := r) hk
  obtain ⟨_, _, _, _, _, _, _, _, _, V, _, ⟨_, l2, _⟩, _⟩ := ak_tp w
  rw [fv] at V l2
  rw [List.length_append] at l2
  have w' := ak_RN_red (pc' := pc') (j := ak_nJ fs + 1 + r.length) w (ak_VS_dn V) J (by rw [fj, g1]; exact eg.1) (by rw [fj, g2]; exact eg.2.1) sp gl kc km (by omega) c72 c10 c11 c77 m105 m127 m132 K ⟨jl, by omega⟩
  refine ak_OUT1 w w' (by simp) gC gM ?_ h104 h22 hsm
  show ak_pcs fs + (9100 - pc') + 9101 * ak_gw js + 1 ≤ ak_pcs fs + (9100 - f.pc) + 9101 * ak_gw f.js
  rw [fj, g3, eg.2.2]
  omega
end VAL2
/-! numbers -/
theorem ak_i64n {a : Int} (h : -9223372036854775808 ≤ a ∧ a < 9223372036854775808) : (Int64.ofInt a).toInt = a := by
  rw [Int64.toInt_ofInt]
  have := am_w64_bmod a
  rw [show Int64.size = 18446744073709551616 from rfl, ← this]
  exact am_w64_id h.1 h.2
theorem ak_xor_neg (a b : Int64) : ((a ^^^ b).toInt < 0) ↔ ¬ ((a.toInt < 0) ↔ (b.toInt < 0)) := by
  have h : ∀ z : Int64, (z.toInt < 0) ↔ z.toBitVec.msb = true := fun z => by
    rw [BitVec.msb_eq_toInt, decide_eq_true_iff]; exact Iff.rfl
  rw [h, h, h, Int64.toBitVec_xor, BitVec.msb_xor]
  cases a.toBitVec.msb <;> cases b.toBitVec.msb <;> simp
theorem ak_and_neg (a b : Int64) : ((a &&& b).toInt < 0) ↔ ((a.toInt < 0) ∧ (b.toInt < 0)) := by
  have h : ∀ z : Int64, (z.toInt < 0) ↔ z.toBitVec.msb = true := fun z => by
    rw [BitVec.msb_eq_toInt, decide_eq_true_iff]; exact Iff.rfl
  rw [h, h, h, Int64.toBitVec_and, BitVec.msb_and]
  cases a.toBitVec.msb <;> cases b.toBitVec.msb <;> simp
theorem ak_xi {a b : Int} (ha : -9223372036854775808 ≤ a ∧ a < 9223372036854775808) (hb : -9223372036854775808 ≤ b ∧ b < 9223372036854775808) : ((Int64.ofInt a ^^^ Int64.ofInt b).toInt < 0) ↔ ¬ ((a < 0) ↔ (b < 0)) := by
  rw [ak_xor_neg, ak_i64n ha, ak_i64n hb]
theorem ak_ofi (z : Int64) : Int64.ofInt z.toInt = z := Int64.ofInt_toInt z
/-- a sum fits -/
theorem ak_sum_fits {a b : Int} (ha : -9223372036854775808 ≤ a ∧ a < 9223372036854775808) (hb : -9223372036854775808 ≤ b ∧ b < 9223372036854775808) :
    (am_lsign ((Int64.ofInt ((Int64.ofInt a ^^^ Int64.ofInt (am_w64 (a + b))).toInt) &&& Int64.ofInt ((Int64.ofInt b ^^^ Int64.ofInt (am_w64 (a + b))).toInt)).toInt) 0 < 0) ↔ ¬ (¬ ((a < 0) ↔ (b < 0)) ∨ ((am_w64 (a + b) < 0) ↔ (a < 0))) := by
  have hv := am_w64_in (a + b)
  rw [ak_lsign_lt.1, ak_ofi, ak_ofi, ak_and_neg, ak_xi ha hv, ak_xi hb hv]
  generalize am_w64 (a + b) = v
  by_cases h1 : a < 0 <;> by_cases h2 : b < 0 <;> by_cases h3 : v < 0 <;> simp [h1, h2, h3]
theorem ak_dif_fits {a b : Int} (ha : -9223372036854775808 ≤ a ∧ a < 9223372036854775808) (hb : -9223372036854775808 ≤ b ∧ b < 9223372036854775808) :
    (am_lsign ((Int64.ofInt ((Int64.ofInt a ^^^ Int64.ofInt b).toInt) &&& Int64.ofInt ((Int64.ofInt a ^^^ Int64.ofInt (am_w64 (a - b))).toInt)).toInt) 0 < 0) ↔ ¬ (((a < 0) ↔ (b < 0)) ∨ ((am_w64 (a - b) < 0) ↔ (a < 0))) := by
  have hv := am_w64_in (a - b)
  rw [ak_lsign_lt.1, ak_ofi, ak_ofi, ak_and_neg, ak_xi ha hb, ak_xi ha hv]
  generalize am_w64 (a - b) = v
  by_cases h1 : a < 0 <;> by_cases h2 : b < 0 <;> by_cases h3 : v < 0 <;> simp [h1, h2, h3]
/-- a product fits -/
theorem ak_w64_k (z : Int) : ∃ k : Int, am_w64 z = z - 18446744073709551616 * k := by
  refine ⟨(z + 9223372036854775808) / 18446744073709551616, ?_⟩
  unfold am_w64
  omega
theorem ak_mul_back {a b : Int} (ha : -9223372036854775808 ≤ a ∧ a < 9223372036854775808) (hb : -9223372036854775808 ≤ b ∧ b < 9223372036854775808) (h0 : b ≠ 0) (h1 : b ≠ -1) : am_w64 (Int.tdiv (am_w64 (a * b)) b) = a ↔ (-9223372036854775808 ≤ a * b ∧ a * b < 9223372036854775808) := by
  have hq : ∀ z : Int, -9223372036854775808 ≤ z → z < 9223372036854775808 → am_w64 (Int.tdiv z b) = Int.tdiv z b := fun z z1 z2 => by
    have h2 : (Int.tdiv z b).natAbs = z.natAbs / b.natAbs := Int.natAbs_tdiv z b
    have h5 : 2 ≤ b.natAbs ∨ b = 1 := by omega
    rcases h5 with h5 | h5
    · have h6 : z.natAbs / b.natAbs ≤ z.natAbs / 2 := Nat.div_le_div_left h5 (by omega)
      have h7 : (Int.tdiv z b).natAbs ≤ z.natAbs / 2 := by rw [h2]; exact h6
      exact am_w64_id (by omega) (by omega)
    · subst h5
      rw [Int.tdiv_one]
      exact am_w64_id z1 z2
  have hv := am_w64_in (a * b)
  rw [hq _ hv.1 hv.2]
  constructor
  · intro h
    obtain ⟨k, hk⟩ := ak_w64_k (a * b)
    have hm := Int.mul_tdiv_add_tmod (am_w64 (a * b)) b
    have hr : (Int.tmod (am_w64 (a * b)) b).natAbs < b.natAbs := by rw [Int.natAbs_tmod]; exact Nat.mod_lt _ (by omega)
    rw [h, Int.mul_comm b a] at hm
    have : k = 0 := by omega
    rw [this] at hk
    omega
  · intro h
    rw [am_w64_id h.1 h.2]
    exact Int.mul_tdiv_cancel a h0
