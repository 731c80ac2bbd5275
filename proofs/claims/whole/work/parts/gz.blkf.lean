/-! the run: a block is called, what fails -/
def ak_tkA (hc : ak_S) (t pc N : Nat) : ak_S := ((ak_atC hc t pc).1, am_up (ak_atC hc t pc).2.1 64 2 ((N + 1 : Nat) : Int), (ak_atC hc t pc).2.2)
def ak_tkB (hm : ak_S) (n N : Nat) : ak_S := (am_up (ak_poM hm n).1 110 104 ((N + 1 : Nat) : Int), (ak_poM hm n).2)
section BLKF
variable {e : ak_X3} {d ρ1 ρ2 P W y n N o : Nat} {ρ : List Nat} {c : ak_Cx} {g : ak_Gh} {fs : List ak_Fr} {f : ak_Fr} {h hc hm hm' : ak_S} {j : ak_Jb} {r : List ak_Jb} {u l : List (Bool × Int × Int)} {v : Bool × Int × Int} {s x kd : Int}
theorem ak_tkA_o {t pc q k : Nat} (a : ¬ (q = 32 ∧ k = 12)) (b : ¬ (q = 72 ∧ k = t)) : (ak_tkA hc t pc N).1 q k = hc.1 q k := ak_atC_o a b
theorem ak_tkA_J {t pc q k : Nat} (a : ¬ (q = 64 ∧ k = 2)) : (ak_tkA hc t pc N).2.1 q k = hc.2.1 q k := ak_up_out a
theorem ak_tkA_v {t pc : Nat} : (ak_tkA hc t pc N).2.1 64 2 = ((N + 1 : Nat) : Int) ∧ (ak_tkA hc t pc N).2.2 = hc.2.2 ∧ (ak_tkA hc t pc N).1 32 12 = (t : Int) ∧ (ak_tkA hc t pc N).1 72 t = ((pc + 1 : Nat) : Int) :=
  ⟨show am_up (ak_atC hc t pc).2.1 64 2 ((N + 1 : Nat) : Int) 64 2 = _ from ak_up_at, rfl, ak_atC_12 (hc := hc) (pc := pc), ak_atC_72 (hc := hc) (pc := pc)⟩
theorem ak_tkB_o {q k : Nat} (a : ¬ (q = 110 ∧ (k = 104 ∨ k = 132))) : (ak_tkB hm n N).1 q k = hm.1 q k := (ak_up_out1 (by omega)).trans (ak_poM_o (by omega))
theorem ak_tkB_v : (ak_tkB hm n N).1 110 104 = ((N + 1 : Nat) : Int) ∧ (ak_tkB hm n N).1 110 132 = (n : Int) ∧ (ak_tkB hm n N).2 = hm.2 :=
  ⟨show am_up (ak_poM hm n).1 110 104 ((N + 1 : Nat) : Int) 110 104 = _ from ak_up_at, (ak_up_out1 (by omega)).trans ak_poM_v, rfl⟩
theorem ak_tk_SP {V : List Nat} {t pc : Nat} (sp : ak_SPP c g V hc hm) (h104 : hm.1 110 104 = (N : Int)) (hN : N < 4000) : ak_SPP c g V (ak_tkA hc t pc N) (ak_tkB hm n N) :=
  ak_SP_re sp (ak_jn_s (n := N) sp.2.2.2.2.2.1 hN ak_tkA_v.1 ak_tkB_v.1 (fun q k a b z => ⟨ak_tkA_o (by omega) (by omega), ak_tkA_J z⟩) (fun q k z => ⟨ak_tkB_o (by omega), by rw [ak_tkB_v.2.2]⟩)) (fun q k a b => ⟨ak_tkA_o (by unfold ak_stC at a; omega) (by unfold ak_stC at a; omega), ak_tkA_J (by omega)⟩) (fun q k a b z => ⟨ak_tkB_o (by unfold ak_stM at a; omega), by rw [ak_tkB_v.2.2]⟩)
/-- a call fails -/
theorem ak_failT (w : ak_RN c g (f :: fs) hc hm) (fj : f.js = j :: r) (hk : j.k < 9) (pc9 : f.pc < 9100) (h104 : hm.1 110 104 = (N : Int)) (hN : N < 4000) (vk : ak_vok g.O g.B s x) (cnt : hm.1 110 109 < 1000000000)
    (gC : ∀ hcX, ak_cgo e (d + 30) c.s ρ1 ρ2 77 [am_r 32, am_i kd, am_i s, am_l x] (ak_tkA hc fs.length f.pc N) hcX → ak_cgo e (d + 40) c.s ρ1 ρ2 72 [am_r 32] hc hcX) (gM : ∀ hm', ak_goV e (d + 25) ρ 269 [am_r 110, am_i kd, am_i s, am_l x] (ak_tkB hm (ak_nJ fs + 1 + r.length) N) hm' → ak_mgo e (d + 40) ρ hm hm') : ak_OUT e d ρ1 ρ2 ρ c (ak_Phi hm (f :: fs)) W hc hm := by
  obtain ⟨hs, l60, fU, f5, φ5, sp0, F, L, J0, V, K0, ⟨l1, l2, l3⟩, ⟨d2, d3, d4, d5, o1, o2⟩, ⟨e1, e2, e3, e4, e5, o3⟩, ⟨x1, x2, x3, x4⟩, d72, lt1⟩ := ak_tp w
  exact ak_OUTf w fj hk pc9 (ak_tk_SP sp0 h104 hN) (ak_gle_refl w) ⟨fun q k h => ak_tkA_o (by omega) (by omega), fun q k h => ak_tkA_J (by omega), fun y hy => ⟨ak_tkA_o (by omega) (by omega), ak_tkA_o (by omega) (by omega), ak_tkA_J (by omega)⟩⟩ ⟨fun q k h => ak_tkB_o (by omega), fun q k h => by rw [ak_tkB_v.2.2]⟩ ((ak_tkA_o (by omega) (by omega)).trans o1) ak_tkA_v.2.2.1 ak_tkB_v.2.1 ((ak_tkB_o (by omega)).trans o3) vk cnt (by rw [ak_tkB_v.1, h104]; omega) (fun q a b => ak_tkB_o (by omega)) ak_tkA_v.2.1 gC gM
/-- what both read when a block is called -/
theorem ak_blk_go (w : ak_RN c g (f :: fs) hc hm) (fj : f.js = j :: r) (hk : j.k = 3) (hy : j.n = (y : Int)) (h114 : ak_mM c.us c.m0 114 y = 10) (h2 : ak_mC c.s c.h0 (ak_T c.s + 2) f.pc = 19) (h3 : ak_mC c.s c.h0 (ak_T c.s + 3) f.pc = (n : Int)) (h117 : ak_mM c.us c.m0 117 y = (n : Int)) (hn4 : n ≤ 4) (fv : f.vs = u ++ (v :: l)) (ul : u.length = n) (ut : ∀ z, z ∈ u → z.1 = true) (v1 : v.1 = true) (h104 : hm.1 110 104 = (N : Int)) (hN : N < 4000) :
    (hc.1 108 (ak_nV fs + l.length) = v.2.1 ∧ hc.2.1 109 (ak_nV fs + l.length) = v.2.2 ∧ ak_vok g.O g.B v.2.1 v.2.2 ∧ hm.1 199 (ak_nT fs + ak_tc l) = v.2.1 ∧ hm.2.1 200 (ak_nT fs + ak_tc l) = v.2.2) ∧ (hc.1 32 10 = ((ak_nV fs + l.length + n + 1 : Nat) : Int) ∧ ak_nV fs + l.length + n + 1 ≤ 9060 ∧ hm.1 110 127 = ((ak_nT fs + ak_tc l + n + 1 : Nat) : Int) ∧ ak_nT fs + ak_tc l + n + 1 ≤ 9060) ∧
    (∀ (Q : ak_S → Prop) (X : Nat → ak_S → Prop), ak_MV e 0 (d + 38) (ak_rc c.s ρ1 ρ2) 92 [am_r 32, am_i (n : Int)] (ak_tkA hc fs.length f.pc N) Q (fun _ _ => False) → ak_MV e 0 (d + 40) (ak_rc c.s ρ1 ρ2) 72 [am_r 32] hc Q X) ∧
    (∀ (Q : ak_S → Prop) (X : Nat → ak_S → Prop), ak_MV e 1 (d + 39) ρ 287 [am_r 110, am_i (n : Int)] (ak_poM hm (ak_nJ fs + 1 + r.length)) Q (fun _ _ => False) → ak_MV e 1 (d + 40) ρ 283 [am_r 110, am_i j.n] (ak_poM hm (ak_nJ fs + 1 + r.length)) Q X) := by
  obtain ⟨hs, l60, fU, f5, φ5, sp0, F, L, J0, V, K0, ⟨l1, l2, l3⟩, ⟨d2, d3, d4, d5, o1, o2⟩, ⟨e1, e2, e3, e4, e5, o3⟩, ⟨x1, x2, x3, x4⟩, d72, lt1⟩ := ak_tp w
  obtain ⟨y18, yq⟩ := ak_nde (q0 := 114) sp0 (by omega) (by rw [h114]; decide)
  have yO : ∀ q, 114 ≤ q → q ≤ 120 → (ak_poM hm (ak_nJ fs + 1 + r.length)).1 q y = ak_mM c.us c.m0 q y := fun q a b => (ak_poM_o (by omega)).trans (yq q a b)
  have yb : 0 ≤ (y : Int) ∧ (y : Int) < 18000 := by omega
  have j2 := sp0.2.2.2.2.2.1.1.2.2.1
  have etc : ak_tc f.vs = ak_tc l + n + 1 := by
    rw [fv, ak_tc_app ut, ul]
    show n + (ak_tc l + (if v.1 = true then 1 else 0)) = _
    rw [if_pos v1]; omega
  have elen : f.vs.length = l.length + n + 1 := by rw [fv, List.length_append, List.length_cons]; omega
  rw [fv] at V
  obtain ⟨⟨r1, r2, vk⟩, r3, _, _⟩ := ak_VS_dn V
  obtain ⟨r4, r5⟩ := r3 v1
  rw [elen] at d5 x1
  rw [etc] at e3 x2
  refine ⟨⟨r1, r2, vk, r4, r5⟩, ⟨by rw [d5]; omega, by omega, by rw [e3]; omega, by omega⟩, fun Q X q => ?_, fun Q X q => ?_⟩
  · refine ak_o72 (d := d + 39) (o := 19) w h2 (fun z => absurd z (by decide)) (fun _ z => absurd z (by decide)) (fun _ _ => ?_) (fun z => absurd z (by decide)) (fun z => absurd z (by decide)) (fun z => absurd z (by decide))
    rw [h3]
    refine ak_MV_of (Nat.le_of_ble_eq_true rfl) (am_k85_0 hs ?_)
    exact am_s76 (d := d + 37) (n := N) hs (j2.trans h104) (by omega) (fun _ => ⟨fun _ => ⟨fun _ => ⟨fun z => absurd rfl z, fun _ => q⟩, fun z => absurd z (by decide)⟩, fun z => absurd z (by decide)⟩) (fun z => absurd z (by omega))
  · rw [hy]
    refine ak_MV_of (Nat.le_of_ble_eq_true rfl) (am_k283_0 ?_)
    rw [ak_natn, yO 114 (by omega) (by omega), h114, yO 117 (by omega) (by omega), h117]
    exact ⟨yb, trivial, fun z => absurd z (by omega), fun z => absurd z (by omega), fun z => absurd z (by omega), fun z => absurd z (by omega), fun z => absurd z (by omega), fun _ => ⟨yb, q⟩, fun z => absurd z (by omega), fun z => absurd z (by omega), trivial⟩
end BLKF
