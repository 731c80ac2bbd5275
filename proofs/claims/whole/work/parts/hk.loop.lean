/-! the run: a loop ends -/
section LPN
variable {e : ak_X3} {d ρ1 ρ2 P W y n N : Nat} {ρ : List Nat} {c : ak_Cx} {g : ak_Gh} {fs : List ak_Fr} {f : ak_Fr} {hc hm : ak_S} {j : ak_Jb} {r js : List ak_Jb} {v : Bool × Int × Int}
theorem ak_lp_no {b : Nat} (w : ak_RN c g (f :: fs) hc hm) (fj : f.js = j :: r) (hk : j.k = 6) (h2 : ak_mC c.s c.h0 (ak_T c.s + 2) f.pc = 31) (h3 : ak_mC c.s c.h0 (ak_T c.s + 3) f.pc = (b : Int)) (hb9 : f.pc < b) (nt : ak_tr v.2.1 v.2.2 ≠ true) (fv : f.vs = [v]) (v1 : v.1 = true) (K : ak_K (ak_mC c.s c.h0) (ak_mM c.us c.m0) (ak_T c.s) c.us (g.mt f.r + 40 * g.lv f.r) r b []) : ak_OUT e d ρ1 ρ2 ρ c (ak_Phi hm (f :: fs)) W hc hm := by
  obtain ⟨hs, l60, fU, f5, φ5, sp0, F, L, J0, V, K0, ⟨l1, l2, l3⟩, ⟨d2, d3, d4, d5, o1, o2⟩, ⟨e1, e2, e3, e4, e5, o3⟩, ⟨x1, x2, x3, x4⟩, d72, lt1⟩ := ak_tp w
  obtain ⟨t1, t2, t3, t4, t5, t6⟩ := ak_tj w fj
  obtain ⟨b1, b2, b3, b4⟩ := ak_cd sp0 h2 (by decide)
  have etc : ak_tc f.vs = 1 := by rw [fv]; show 0 + (if v.1 = true then 1 else 0) = 1; rw [if_pos v1]
  rw [etc] at e3 x2
  rw [fv] at d5 x1 V
  obtain ⟨⟨r1, r2, vk⟩, r3, _⟩ := V
  obtain ⟨r4, r5⟩ := r3 v1
  have r1 : hc.1 108 (ak_nV fs) = v.2.1 := r1
  have r2 : hc.2.1 109 (ak_nV fs) = v.2.2 := r2
  have r4 : hm.1 199 (ak_nT fs) = v.2.1 := r4
  have r5 : hm.2.1 200 (ak_nT fs) = v.2.2 := r5
  have A : ∀ q k, ¬ (q = 32 ∧ k = 12) → ¬ (q = 72 ∧ k = fs.length) → (ak_atC hc fs.length f.pc).1 q k = hc.1 q k := fun q k a b => ak_atC_o a b
  have SO0 : ∀ q k, ¬ (q = 32 ∧ (k = 10 ∨ k = 12)) → ¬ (q = 72 ∧ k = fs.length) → (ak_szC (ak_atC hc fs.length f.pc) (ak_nV fs)).1 q k = hc.1 q k := fun q k a b => (ak_szC_o (by omega)).trans (A q k (by omega) b)
  have S12 : (ak_szC (ak_atC hc fs.length f.pc) (ak_nV fs)).1 32 12 = (fs.length : Int) := (ak_szC_o (by omega)).trans ak_atC_12
  have S100 : (ak_szC (ak_atC hc fs.length f.pc) (ak_nV fs)).1 32 10 = ((ak_nV fs : Nat) : Int) := ak_szC_v
  have S20 : (ak_szC (ak_atC hc fs.length f.pc) (ak_nV fs)).2 = hc.2 := rfl
  have gC : ak_cgo e (d + 40) c.s ρ1 ρ2 72 [am_r 32] hc (am_up (ak_szC (ak_atC hc fs.length f.pc) (ak_nV fs)).1 72 fs.length (b : Int), (ak_szC (ak_atC hc fs.length f.pc) (ak_nV fs)).2) := fun Q X q => by
    refine ak_o72 (d := d + 39) (o := 31) w h2 (fun z => absurd z (by decide)) (fun _ z => absurd z (by decide)) (fun _ z => absurd z (by decide)) (fun _ z => absurd z (by decide)) (fun _ _ => ?_) (fun z => absurd z (by decide))
    rw [h3]
    refine ak_MV_of (Nat.le_of_ble_eq_true rfl) (am_k96_0 hs ⟨trivial, fun _ => ?_, fun z => absurd z (by decide), fun z => absurd z (by decide), trivial⟩)
    refine am_s74 (d := d + 37) (n := ak_nV fs) hs ((A _ _ (by omega) (by omega)).trans d5) (by have : ([v] : List (Bool × Int × Int)).length = 1 := rfl; omega) ?_
    refine ⟨trivial, fun z => absurd z (by omega), fun z => absurd z (by decide), fun z => absurd z (by decide), fun z => absurd z (by decide), fun z => absurd z (by decide), fun _ => ?_, trivial⟩
    refine am_s75 (d := d + 37) hs (by omega) (by rw [SO0 108 _ (by omega) (by omega), r1]; exact vk.1.1) (fun z => ?_) (fun _ => ⟨fun z => absurd rfl z, fun _ => ?_⟩)
    · rw [SO0 108 _ (by omega) (by omega), r1, S20, r2] at z
      exact absurd z nt
    · rw [S12, ak_natn]
      exact ⟨by omega, q⟩
  have SO : ∀ q k, ¬ (q = 32 ∧ (k = 10 ∨ k = 12)) → ¬ (q = 72 ∧ k = fs.length) → ((am_up (ak_szC (ak_atC hc fs.length f.pc) (ak_nV fs)).1 72 fs.length (b : Int), (ak_szC (ak_atC hc fs.length f.pc) (ak_nV fs)).2) : ak_S).1 q k = hc.1 q k := fun q k a b => (ak_up_out1 b).trans (SO0 q k a b)
  have S72 : ((am_up (ak_szC (ak_atC hc fs.length f.pc) (ak_nV fs)).1 72 fs.length (b : Int), (ak_szC (ak_atC hc fs.length f.pc) (ak_nV fs)).2) : ak_S).1 72 fs.length = (b : Int) := ak_up_at1
  have S10 : ((am_up (ak_szC (ak_atC hc fs.length f.pc) (ak_nV fs)).1 72 fs.length (b : Int), (ak_szC (ak_atC hc fs.length f.pc) (ak_nV fs)).2) : ak_S).1 32 10 = ((ak_nV fs : Nat) : Int) := (ak_up_out1 (by omega)).trans S100
  have S2 : ((am_up (ak_szC (ak_atC hc fs.length f.pc) (ak_nV fs)).1 72 fs.length (b : Int), (ak_szC (ak_atC hc fs.length f.pc) (ak_nV fs)).2) : ak_S).2 = hc.2 := S20
  generalize ((am_up (ak_szC (ak_atC hc fs.length f.pc) (ak_nV fs)).1 72 fs.length (b : Int), (ak_szC (ak_atC hc fs.length f.pc) (ak_nV fs)).2) : ak_S) = hcF at gC SO S72 S10 S2
  have MO : ∀ q k, ¬ (q = 110 ∧ (k = 127 ∨ k = 132)) → ((am_up (am_up hm.1 110 132 ((ak_nJ fs + 1 + r.length : Nat) : Int)) 110 127 (ak_nT fs : Int), hm.2) : ak_S).1 q k = hm.1 q k := fun q k a => (ak_up_out1 (by omega)).trans (ak_up_out (by omega))
  have M127 : ((am_up (am_up hm.1 110 132 ((ak_nJ fs + 1 + r.length : Nat) : Int)) 110 127 (ak_nT fs : Int), hm.2) : ak_S).1 110 127 = (ak_nT fs : Int) := ak_up_at1
  have M132 : ((am_up (am_up hm.1 110 132 ((ak_nJ fs + 1 + r.length : Nat) : Int)) 110 127 (ak_nT fs : Int), hm.2) : ak_S).1 110 132 = ((ak_nJ fs + 1 + r.length : Nat) : Int) := (ak_up_out1 (by omega)).trans ak_up_at
  have M2 : ((am_up (am_up hm.1 110 132 ((ak_nJ fs + 1 + r.length : Nat) : Int)) 110 127 (ak_nT fs : Int), hm.2) : ak_S).2 = hm.2 := rfl
  have gM : ak_mgo e (d + 40) ρ hm (am_up (am_up hm.1 110 132 ((ak_nJ fs + 1 + r.length : Nat) : Int)) 110 127 (ak_nT fs : Int), hm.2) := fun Q X q => by
    refine am_k298_0 ?_
    rw [t1, show am_w32 (((ak_nJ fs + 1 + r.length + 1 : Nat) : Int) - 1) = ((ak_nJ fs + 1 + r.length : Nat) : Int) from by rw [ak_w _ (by omega)]; omega, ak_natn, t3, t4, e3, show am_w32 (((ak_nT fs + 1 : Nat) : Int) - 1) = (ak_nT fs : Int) from by rw [ak_w _ (by omega)]; omega]
    have hb : 0 ≤ ((ak_nJ fs + 1 + r.length : Nat) : Int) ∧ ((ak_nJ fs + 1 + r.length : Nat) : Int) < 370000 := by omega
    refine ⟨fun z => absurd z (by omega), fun _ => ⟨fun z => absurd z (by omega), fun _ => ⟨hb, hb, trivial, fun z => absurd z (by omega), fun z => absurd z (by omega), fun z => absurd z (by omega), fun z => absurd z (by omega), fun z => absurd z (by omega), fun z => absurd z (by omega), fun _ => ?_, fun z => absurd z (by omega), fun z => absurd z (by omega), fun z => absurd z (by omega), fun z => absurd z (by omega), trivial⟩⟩⟩
    rw [ak_natn, r4, r5]
    exact ⟨by omega, by omega, am_s292 (d := d + 39) (fun z => absurd z nt) (fun _ => ⟨fun _ => q, fun z => absurd rfl z⟩)⟩
  generalize ((am_up (am_up hm.1 110 132 ((ak_nJ fs + 1 + r.length : Nat) : Int)) 110 127 (ak_nT fs : Int), hm.2) : ak_S) = hmF at MO M127 M132 M2 gM
  exact ak_red (u := [v]) (l := []) (js := r) (pc' := b) w fj (by omega) (by omega) (by rw [fv]; rfl) (by omega) (ak_SP_fr sp0 (fun q k h => ⟨SO q k (by unfold ak_stC at h; omega) (by unfold ak_stC at h; omega), by rw [S2]⟩) (fun q k h => ⟨MO q k (fun z => h.1 ⟨z.1, by omega⟩), by rw [M2]⟩)) (ak_gle_refl w) ⟨fun q k h => SO q k (by omega) (by omega), fun q k h => by rw [S2], fun y _ => ⟨SO _ _ (by omega) (by omega), SO _ _ (by omega) (by omega), by rw [S2]⟩⟩ ⟨fun q k h => MO q k (by omega), fun q k h => by rw [M2]⟩ S72 S10 ((SO _ _ (by omega) (by omega)).trans o1) ((SO _ _ (by omega) (by omega)).trans o2) ((MO _ _ (by omega)).trans o3) M127 M132
    (ak_JS_fr (Nat.le_refl _) (Nat.le_refl _) (fun _ _ => rfl) t6 (fun q k a b _ => ⟨SO q k (by omega) (by omega), by rw [S2]⟩) (fun q k a b _ => MO q k (by omega)) (fun q k a b _ => ⟨MO q k (by omega), by rw [M2]⟩)) ⟨rfl, rfl, rfl⟩ K (by omega) gC gM (by rw [MO _ _ (by omega)]; exact Int.le_refl _) (fun q a b => by rw [MO 110 q (by omega)]; omega) (by rw [S2])
end LPN
