/-! the run: a loop goes on -/
section LPY
variable {e : ak_X3} {d ρ1 ρ2 P W y n N : Nat} {ρ : List Nat} {c : ak_Cx} {g : ak_Gh} {fs : List ak_Fr} {f : ak_Fr} {hc hm : ak_S} {j : ak_Jb} {r js : List ak_Jb} {v : Bool × Int × Int}
theorem ak_lp_yes (w : ak_RN c g (f :: fs) hc hm) (fj : f.js = j :: r) (hk : j.k = 6) (hy : j.n = (y : Int)) (h77 : ak_mM c.us c.m0 114 y ≠ -77) (h2 : ak_mC c.s c.h0 (ak_T c.s + 2) f.pc = 31) (nt : ak_tr v.2.1 v.2.2 = true) (fv : f.vs = [v]) (v1 : v.1 = true) (K : ak_K (ak_mC c.s c.h0) (ak_mM c.us c.m0) (ak_T c.s) c.us (g.mt f.r + 40 * g.lv f.r) (⟨2, ak_mM c.us c.m0 116 y, 0, 0, 0⟩ :: ⟨7, (y : Int), 0, 0, 0⟩ :: r) (f.pc + 1) []) (jl : r.length + 2 ≤ 6165) : ak_OUT e d ρ1 ρ2 ρ c (ak_Phi hm (f :: fs)) W hc hm := by
  obtain ⟨hs, l60, fU, f5, φ5, sp0, F, L, J0, V, K0, ⟨l1, l2, l3⟩, ⟨d2, d3, d4, d5, o1, o2⟩, ⟨e1, e2, e3, e4, e5, o3⟩, ⟨x1, x2, x3, x4⟩, d72, lt1⟩ := ak_tp w
  obtain ⟨t1, t2, t3, t4, t5, t6⟩ := ak_tj w fj
  obtain ⟨b1, b2, b3, b4⟩ := ak_cd sp0 h2 (by decide)
  have etc : ak_tc f.vs = 1 := by rw [fv]; show 0 + (if v.1 = true then 1 else 0) = 1; rw [if_pos v1]
  rw [etc] at e3 x2
  obtain ⟨y18, yq⟩ := ak_nde (q0 := 114) sp0 (by omega) h77
  rw [fv] at d5 x1 V
  obtain ⟨⟨r1, r2, vk⟩, r3, _⟩ := V
  obtain ⟨r4, r5⟩ := r3 v1
  have r1 : hc.1 108 (ak_nV fs) = v.2.1 := r1
  have r2 : hc.2.1 109 (ak_nV fs) = v.2.2 := r2
  have r4 : hm.1 199 (ak_nT fs) = v.2.1 := r4
  have r5 : hm.2.1 200 (ak_nT fs) = v.2.2 := r5
  have A : ∀ q k, ¬ (q = 32 ∧ k = 12) → ¬ (q = 72 ∧ k = fs.length) → (ak_atC hc fs.length f.pc).1 q k = hc.1 q k := fun q k a b => ak_atC_o a b
  have SO : ∀ q k, ¬ (q = 32 ∧ (k = 10 ∨ k = 12)) → ¬ (q = 72 ∧ k = fs.length) → (ak_szC (ak_atC hc fs.length f.pc) (ak_nV fs)).1 q k = hc.1 q k := fun q k a b => (ak_szC_o (by omega)).trans (A q k (by omega) b)
  have gC : ak_cgo e (d + 40) c.s ρ1 ρ2 72 [am_r 32] hc (ak_szC (ak_atC hc fs.length f.pc) (ak_nV fs)) := fun Q X q => by
    refine ak_o72 (d := d + 39) (o := 31) w h2 (fun z => absurd z (by decide)) (fun _ z => absurd z (by decide)) (fun _ z => absurd z (by decide)) (fun _ z => absurd z (by decide)) (fun _ _ => ?_) (fun z => absurd z (by decide))
    refine ak_MV_of (Nat.le_of_ble_eq_true rfl) (am_k96_0 hs ⟨trivial, fun _ => ?_, fun z => absurd z (by decide), fun z => absurd z (by decide), trivial⟩)
    refine am_s74 (d := d + 37) (n := ak_nV fs) hs ((A _ _ (by omega) (by omega)).trans d5) (by have : ([v] : List (Bool × Int × Int)).length = 1 := rfl; omega) ?_
    refine ⟨trivial, fun z => absurd z (by omega), fun z => absurd z (by decide), fun z => absurd z (by decide), fun z => absurd z (by decide), fun z => absurd z (by decide), fun _ => ?_, trivial⟩
    refine am_s75 (d := d + 37) hs (by omega) (by rw [SO 108 _ (by omega) (by omega), r1]; exact vk.1.1) (fun _ => ⟨fun _ => q, fun z => absurd z (by decide)⟩) (fun z => ?_)
    rw [SO 108 _ (by omega) (by omega), r1, show (ak_szC (ak_atC hc fs.length f.pc) (ak_nV fs)).2.1 109 (ak_nV fs) = hc.2.1 109 (ak_nV fs) from rfl, r2] at z
    exact absurd nt z
  have S72 : (ak_szC (ak_atC hc fs.length f.pc) (ak_nV fs)).1 72 fs.length = ((f.pc + 1 : Nat) : Int) := (ak_szC_o (by omega)).trans ak_atC_72
  have S10 : (ak_szC (ak_atC hc fs.length f.pc) (ak_nV fs)).1 32 10 = ((ak_nV fs : Nat) : Int) := ak_szC_v
  have S2 : (ak_szC (ak_atC hc fs.length f.pc) (ak_nV fs)).2 = hc.2 := rfl
  generalize ak_szC (ak_atC hc fs.length f.pc) (ak_nV fs) = hcF at gC SO S72 S10 S2
  have PO : ∀ q k, ¬ (q = 110 ∧ (k = 127 ∨ k = 132)) → ((am_up (am_up hm.1 110 132 ((ak_nJ fs + 1 + r.length : Nat) : Int)) 110 127 (ak_nT fs : Int), hm.2) : ak_S).1 q k = hm.1 q k := fun q k a => (ak_up_out1 (by omega)).trans (ak_up_out (by omega))
  have P127 : ((am_up (am_up hm.1 110 132 ((ak_nJ fs + 1 + r.length : Nat) : Int)) 110 127 (ak_nT fs : Int), hm.2) : ak_S).1 110 127 = (ak_nT fs : Int) := ak_up_at1
  have P132 : ((am_up (am_up hm.1 110 132 ((ak_nJ fs + 1 + r.length : Nat) : Int)) 110 127 (ak_nT fs : Int), hm.2) : ak_S).1 110 132 = ((ak_nJ fs + 1 + r.length : Nat) : Int) := (ak_up_out1 (by omega)).trans ak_up_at
  have P2 : ((am_up (am_up hm.1 110 132 ((ak_nJ fs + 1 + r.length : Nat) : Int)) 110 127 (ak_nT fs : Int), hm.2) : ak_S).2 = hm.2 := rfl
  have gM0 : ∀ (Q : ak_S → Prop) (X : Nat → ak_S → Prop), ak_MV e 1 (d + 40) ρ 266 [am_r 110, am_i 7, am_i (y : Int), am_i 0, am_i 0] ((am_up (am_up hm.1 110 132 ((ak_nJ fs + 1 + r.length : Nat) : Int)) 110 127 (ak_nT fs : Int), hm.2) : ak_S) (fun h8 => (0 ≤ (y : Int) ∧ (y : Int) < (18000 : Int)) ∧ ak_MV e 1 (d + 40) ρ 266 [am_r 110, am_i 2, am_i (h8.1 116 y), am_i 0, am_i 0] h8 (fun h9 => ak_W0 e 1 (d + 40) 298 ρ 0 [some (am_r 110), none, none] [] h9 (ak_qv Q X)) (fun _ _ => False)) (fun _ _ => False) → ak_W0 e 1 (d + 40) 298 ρ 0 [some (am_r 110), none, none] [] hm (ak_qv Q X) := fun Q X q => by
    refine am_k298_0 ?_
    rw [t1, show am_w32 (((ak_nJ fs + 1 + r.length + 1 : Nat) : Int) - 1) = ((ak_nJ fs + 1 + r.length : Nat) : Int) from by rw [ak_w _ (by omega)]; omega, ak_natn, t3, t4, hy, e3, show am_w32 (((ak_nT fs + 1 : Nat) : Int) - 1) = (ak_nT fs : Int) from by rw [ak_w _ (by omega)]; omega]
    have hb : 0 ≤ ((ak_nJ fs + 1 + r.length : Nat) : Int) ∧ ((ak_nJ fs + 1 + r.length : Nat) : Int) < 370000 := by omega
    refine ⟨fun z => absurd z (by omega), fun _ => ⟨fun z => absurd z (by omega), fun _ => ⟨hb, hb, trivial, fun z => absurd z (by omega), fun z => absurd z (by omega), fun z => absurd z (by omega), fun z => absurd z (by omega), fun z => absurd z (by omega), fun z => absurd z (by omega), fun _ => ?_, fun z => absurd z (by omega), fun z => absurd z (by omega), fun z => absurd z (by omega), fun z => absurd z (by omega), trivial⟩⟩⟩
    rw [ak_natn, r4, r5]
    exact ⟨by omega, by omega, am_s292 (d := d + 39) (fun _ => ⟨fun z => absurd z (by decide), fun _ => q⟩) (fun z => absurd nt z)⟩
  generalize ((am_up (am_up hm.1 110 132 ((ak_nJ fs + 1 + r.length : Nat) : Int)) 110 127 (ak_nT fs : Int), hm.2) : ak_S) = hP at PO P127 P132 P2 gM0
  have JA := ak_JS_jb (k := 7) (w := 0) (jn := (y : Int)) (ja := 0) (jb := 0) (ak_JS_fr (hc' := hcF) (hm' := hP) (Nat.le_refl _) (Nat.le_refl _) (fun _ _ => rfl) t6 (fun q k a b _ => ⟨SO q k (by omega) (by omega), by rw [S2]⟩) (fun q k a b _ => PO q k (by omega)) (fun q k a b _ => ⟨PO q k (by omega), by rw [P2]⟩)) (by decide)
  have JB := ak_JS_jb (k := 2) (w := 0) (jn := ak_mM c.us c.m0 116 y) (ja := 0) (jb := 0) JA (by decide)
  rw [List.length_cons] at JB
  have yb : 0 ≤ (y : Int) ∧ (y : Int) < 18000 := by omega
  have gM : ak_mgo e (d + 40) ρ hm (ak_jbM (ak_jbM hP (ak_nJ fs + 1 + r.length) 7 (y : Int) 0 0) (ak_nJ fs + 1 + (r.length + 1)) 2 (ak_mM c.us c.m0 116 y) 0 0) := fun Q X q => gM0 Q X (by
    refine am_s266 (d := d + 39) (n := ak_nJ fs + 1 + r.length) P132 (by omega) ⟨yb, ?_⟩
    rw [ak_jb_out (by omega) (by omega), PO 116 y (by omega), yq 116 (by omega) (by omega)]
    exact am_s266 (d := d + 39) (n := ak_nJ fs + 1 + (r.length + 1)) ak_jb_132 (by omega) q)
  have MO : ∀ q k, ¬ (q = 110 ∧ (k = 127 ∨ k = 132)) → ¬ (201 ≤ q ∧ q ≤ 204 ∧ ak_nJ fs + 1 + r.length ≤ k) → (ak_jbM (ak_jbM hP (ak_nJ fs + 1 + r.length) 7 (y : Int) 0 0) (ak_nJ fs + 1 + (r.length + 1)) 2 (ak_mM c.us c.m0 116 y) 0 0).1 q k = hm.1 q k := fun q k a b => (ak_jb_out (fun h => a ⟨h.1, Or.inr h.2⟩) (fun h => b ⟨h.1, h.2.1, by omega⟩)).trans ((ak_jb_out (fun h => a ⟨h.1, Or.inr h.2⟩) (fun h => b ⟨h.1, h.2.1, by omega⟩)).trans (PO q k a))
  have M127 : (ak_jbM (ak_jbM hP (ak_nJ fs + 1 + r.length) 7 (y : Int) 0 0) (ak_nJ fs + 1 + (r.length + 1)) 2 (ak_mM c.us c.m0 116 y) 0 0).1 110 127 = (ak_nT fs : Int) := (ak_jb_out (by omega) (by omega)).trans ((ak_jb_out (by omega) (by omega)).trans P127)
  have M132 : (ak_jbM (ak_jbM hP (ak_nJ fs + 1 + r.length) 7 (y : Int) 0 0) (ak_nJ fs + 1 + (r.length + 1)) 2 (ak_mM c.us c.m0 116 y) 0 0).1 110 132 = ((ak_nJ fs + 1 + (r.length + 1) + 1 : Nat) : Int) := ak_jb_132
  have M2 : (ak_jbM (ak_jbM hP (ak_nJ fs + 1 + r.length) 7 (y : Int) 0 0) (ak_nJ fs + 1 + (r.length + 1)) 2 (ak_mM c.us c.m0 116 y) 0 0).2 = hm.2 := P2
  generalize ak_jbM (ak_jbM hP (ak_nJ fs + 1 + r.length) 7 (y : Int) 0 0) (ak_nJ fs + 1 + (r.length + 1)) 2 (ak_mM c.us c.m0 116 y) 0 0 = hmF at MO M127 M132 M2 gM JB
  exact ak_red (u := [v]) (l := []) (js := ⟨2, ak_mM c.us c.m0 116 y, 0, 0, 0⟩ :: ⟨7, (y : Int), 0, 0, 0⟩ :: r) (pc' := f.pc + 1) w fj (by omega) (by omega) (by rw [fv]; rfl) (by omega) (ak_SP_fr sp0 (fun q k h => ⟨SO q k (by unfold ak_stC at h; omega) (by unfold ak_stC at h; omega), by rw [S2]⟩) (fun q k h => ⟨MO q k (fun z => h.1 ⟨z.1, by omega⟩) (by unfold ak_stM at h; omega), by rw [M2]⟩)) (ak_gle_refl w) ⟨fun q k h => SO q k (by omega) (by omega), fun q k h => by rw [S2], fun y _ => ⟨SO _ _ (by omega) (by omega), SO _ _ (by omega) (by omega), by rw [S2]⟩⟩ ⟨fun q k h => MO q k (by omega) (by omega), fun q k h => by rw [M2]⟩ S72 S10 ((SO _ _ (by omega) (by omega)).trans o1) ((SO _ _ (by omega) (by omega)).trans o2) ((MO _ _ (by omega) (by omega)).trans o3) M127 (M132.trans (by rw [List.length_cons, List.length_cons]; congr 1))
    JB ⟨rfl, rfl, rfl⟩ K (by rw [List.length_cons, List.length_cons]; omega) gC gM (by rw [MO _ _ (by omega) (by omega)]; exact Int.le_refl _) (fun q a b => by rw [MO 110 q (by omega) (by omega)]; omega) (by rw [S2])
end LPY
