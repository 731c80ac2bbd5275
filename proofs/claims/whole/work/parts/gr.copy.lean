/-! the run: two numbers; a copy -/
section AFT2
variable {e : ak_X3} {d ρ1 ρ2 P W y n o : Nat} {ρ : List Nat} {c : ak_Cx} {g g' : ak_Gh} {fs fs' : List ak_Fr} {f : ak_Fr} {h hc hm hc' hm' hcS hmS hcX : ak_S} {j : ak_Jb} {r js : List ak_Jb} {v v2 : Bool × Int × Int} {l : List (Bool × Int × Int)} {s x kd : Int}
/-- the one fails behind some values taken -/
theorem ak_failG (w : ak_RN c g (f :: fs) hc hm) (fj : f.js = j :: r) (hk : j.k < 9) (pc9 : f.pc < 9100) (B : ∀ q k, ¬ (q = 32 ∧ (k = 10 ∨ k = 12)) → ¬ (q = 72 ∧ k = fs.length) → hcS.1 q k = hc.1 q k) (B12 : hcS.1 32 12 = (fs.length : Int)) (B2 : hcS.2 = hc.2) (M : ∀ q i, ¬ (q = 110 ∧ (i = 127 ∨ i = 132)) → hmS.1 q i = hm.1 q i) (M132 : hmS.1 110 132 = ((ak_nJ fs + 1 + r.length : Nat) : Int)) (M2 : hmS.2 = hm.2) (vk : ak_vok g.O g.B s x) (cnt : hm.1 110 109 < 1000000000)
    (gC : ∀ hcX, ak_cgo e (d + 30) c.s ρ1 ρ2 77 [am_r 32, am_i kd, am_i s, am_l x] hcS hcX → ak_cgo e (d + 40) c.s ρ1 ρ2 72 [am_r 32] hc hcX) (gM : ∀ hm', ak_goV e (d + 25) ρ 269 [am_r 110, am_i kd, am_i s, am_l x] hmS hm' → ak_mgo e (d + 40) ρ hm hm') : ak_OUT e d ρ1 ρ2 ρ c (ak_Phi hm (f :: fs)) W hc hm := by
  obtain ⟨hs, l60, fU, f5, φ5, sp0, F, L, J0, V, K0, ⟨l1, l2, l3⟩, ⟨d2, d3, d4, d5, o1, o2⟩, ⟨e1, e2, e3, e4, e5, o3⟩, ⟨x1, x2, x3, x4⟩, d72, lt1⟩ := ak_tp w
  exact ak_OUTf w fj hk pc9 (ak_SP_fr sp0 (fun q k h => ⟨B q k (by unfold ak_stC at h; omega) (by unfold ak_stC at h; omega), by rw [B2]⟩) (fun q k h => ⟨M q k (fun z => h.1 ⟨z.1, by omega⟩), by rw [M2]⟩)) (ak_gle_refl w) ⟨fun q k h => B q k (by omega) (by omega), fun _ _ _ => by rw [B2], fun y hy => ⟨B _ _ (by omega) (by omega), B _ _ (by omega) (by omega), by rw [B2]⟩⟩ ⟨fun q k h => M q k (by omega), fun q k h => by rw [M2]⟩ ((B _ _ (by omega) (by omega)).trans o1) B12 M132 ((M _ _ (by omega)).trans o3) vk cnt (by rw [M _ _ (by omega)]; exact Int.le_refl _) (fun q a b => M 110 q (by omega)) (by rw [B2]) gC gM
theorem ak_af_two (w : ak_RN c g (f :: fs) hc hm) (fj : f.js = j :: r) (hk : j.k = 3) (hy : j.n = (y : Int)) (h114 : ak_mM c.us c.m0 114 y = 11) (h2 : ak_mC c.s c.h0 (ak_T c.s + 2) f.pc = (o : Int)) (hop : ak_opr (ak_mM c.us c.m0 117 y) (o : Int)) (fv : f.vs = v :: v2 :: l) (v1 : v.1 = true) (v21 : v2.1 = true) (K : ak_K (ak_mC c.s c.h0) (ak_mM c.us c.m0) (ak_T c.s) c.us (g.mt f.r + 40 * g.lv f.r) r (f.pc + 1) (true :: l.map (fun v => v.1))) (len : l.length + 1 ≤ 151) (cnt : hm.1 110 109 < 1000000000) : ak_OUT e d ρ1 ρ2 ρ c (ak_Phi hm (f :: fs)) W hc hm := by
  have ho : 9 ≤ o ∧ o ≤ 16 := by unfold ak_opr at hop; omega
  obtain ⟨hs, l60, fU, f5, φ5, sp0, F, L, J0, V, K0, ⟨l1, l2, l3⟩, ⟨d2, d3, d4, d5, o1, o2⟩, ⟨e1, e2, e3, e4, e5, o3⟩, ⟨x1, x2, x3, x4⟩, d72, lt1⟩ := ak_tp w
  obtain ⟨t1, t2, t3, t4, t5, t6⟩ := ak_tj w fj
  obtain ⟨b1, b2, b3, b4⟩ := ak_cd sp0 h2 (by omega)
  obtain ⟨y18, yq⟩ := ak_nde (q0 := 114) sp0 (by omega) (by rw [h114]; decide)
  have yO : ∀ q, 114 ≤ q → q ≤ 120 → (ak_poM hm (ak_nJ fs + 1 + r.length)).1 q y = ak_mM c.us c.m0 q y := fun q a b => (ak_poM_o (by omega)).trans (yq q a b)
  have yb : 0 ≤ (y : Int) ∧ (y : Int) < 18000 := by omega
  have tb : 0 ≤ (fs.length : Int) ∧ (fs.length : Int) < 60 := by omega
  have P : ∀ q i, ¬ (q = 110 ∧ i = 132) → (ak_poM hm (ak_nJ fs + 1 + r.length)).1 q i = hm.1 q i := fun q i a => ak_poM_o a
  have Pv : (ak_poM hm (ak_nJ fs + 1 + r.length)).1 110 132 = ((ak_nJ fs + 1 + r.length : Nat) : Int) := ak_poM_v
  have P2 : (ak_poM hm (ak_nJ fs + 1 + r.length)).2 = hm.2 := rfl
  have A : ∀ q k, ¬ (q = 32 ∧ k = 12) → ¬ (q = 72 ∧ k = fs.length) → (ak_atC hc fs.length f.pc).1 q k = hc.1 q k := fun q k a b => ak_atC_o a b
  have A2 : (ak_atC hc fs.length f.pc).2 = hc.2 := rfl
  rw [fv] at V d5 e3 x1 x2
  obtain ⟨⟨r1, r2, vk⟩, r3, _, ⟨p1, p2, vk2⟩, p3, _, Vl⟩ := V
  obtain ⟨r4, r5⟩ := r3 v1
  obtain ⟨p4, p5⟩ := p3 v21
  have etc : ak_tc (v2 :: l) = ak_tc l + 1 := by show ak_tc l + (if v2.1 = true then 1 else 0) = _; rw [if_pos v21]
  have etc2 : ak_tc (v :: v2 :: l) = ak_tc l + 1 + 1 := by show ak_tc (v2 :: l) + (if v.1 = true then 1 else 0) = _; rw [if_pos v1, etc]
  rw [etc2] at e3 x2
  rw [etc] at r4 r5
  rw [List.length_cons, List.length_cons] at d5 x1
  rw [List.length_cons] at r1 r2
  obtain ⟨k, vv, R, vr, hk4⟩ := ak_rs2_tot (o := o) (s := v2.2.1) (t := v.2.1) (w := v2.2.2) (z := v.2.2) ho vk2.2.2.2 vk.2.2.2
  have SO : ∀ q k, ¬ (q = 32 ∧ (k = 10 ∨ k = 12)) → ¬ (q = 72 ∧ k = fs.length) → (ak_szC (ak_szC (ak_atC hc fs.length f.pc) (ak_nV fs + l.length + 1)) (ak_nV fs + l.length)).1 q k = hc.1 q k := fun q k a b => (ak_szC_o (by omega)).trans ((ak_szC_o (by omega)).trans (A q k (by omega) b))
  have gC0 : ∀ (Q : ak_S → Prop) (X : Nat → ak_S → Prop), ((k = 0 → ak_MV e 0 (d + 30) (ak_rc c.s ρ1 ρ2) 73 [am_r 32, am_i 1, am_l vv] (ak_szC (ak_szC (ak_atC hc fs.length f.pc) (ak_nV fs + l.length + 1)) (ak_nV fs + l.length)) Q (fun _ _ => False)) ∧ (k ≠ 0 → ak_MV e 0 (d + 30) (ak_rc c.s ρ1 ρ2) 77 [am_r 32, am_i k, am_i 0, am_l 0] (ak_szC (ak_szC (ak_atC hc fs.length f.pc) (ak_nV fs + l.length + 1)) (ak_nV fs + l.length)) Q (fun _ _ => False))) → ak_MV e 0 (d + 40) (ak_rc c.s ρ1 ρ2) 72 [am_r 32] hc Q X := fun Q X q => by
    refine ak_o72 (d := d + 39) (o := o) w h2 (fun z => absurd z (by omega)) (fun _ _ => ?_) (fun z => absurd z (by omega)) (fun z => absurd z (by omega)) (fun z => absurd z (by omega)) (fun z => absurd z (by omega))
    exact ak_80t (n := ak_nV fs + l.length) hs ho (by omega) ((A _ _ (by omega) (by omega)).trans d5) ((A _ _ (by omega) (by omega)).trans p1) p2 ((A _ _ (by omega) (by omega)).trans r1) r2 vk2.2.2.2 vk.2.2.2 R q
  have gM0 : ∀ (Q : ak_S → Prop) (X : Nat → ak_S → Prop), ((k = 0 → ak_MV e 1 (d + 38) ρ 286 [am_r 110, am_l vv] (ak_poM hm (ak_nJ fs + 1 + r.length)) Q (fun _ _ => False)) ∧ (k ≠ 0 → ak_MV e 1 (d + 38) ρ 270 [am_r 110, am_i k] (ak_poM hm (ak_nJ fs + 1 + r.length)) Q (fun _ _ => False))) → ak_MV e 1 (d + 40) ρ 283 [am_r 110, am_i j.n] (ak_poM hm (ak_nJ fs + 1 + r.length)) Q X := fun Q X q => by
    rw [hy]
    refine ak_MV_of (Nat.le_of_ble_eq_true rfl) (am_k283_0 ?_)
    rw [ak_natn, yO 114 (by omega) (by omega), h114, yO 117 (by omega) (by omega)]
    refine ⟨yb, trivial, fun z => absurd z (by omega), fun z => absurd z (by omega), fun z => absurd z (by omega), fun z => absurd z (by omega), fun z => absurd z (by omega), fun z => absurd z (by omega), fun _ => ?_, fun z => absurd z (by omega), trivial⟩
    exact ⟨yb, ak_285 (n := ak_nT fs + ak_tc l) hop (by omega) ((P _ _ (by omega)).trans e3) ((P _ _ (by omega)).trans p4) p5 ((P _ _ (by omega)).trans r4) r5 vk2.2.2.2 vk.2.2.2 R q⟩
  have job : ∀ hm', ak_goV e (d + 40) ρ 283 [am_r 110, am_i j.n] (ak_poM hm (ak_nJ fs + 1 + r.length)) hm' → ak_mgo e (d + 40) ρ hm hm' := fun hm' h => ak_job t1 (by omega) (by omega) t3 t4 (fun z => absurd z (by omega)) (fun z => absurd z (by omega)) (fun _ => h) (fun z => absurd z (by omega)) (by omega)
  by_cases hk0 : k = 0
  · refine ak_val (u := [v, v2]) (l := l) (s := 1) (x := vv) (hcS := ak_szC (ak_szC (ak_atC hc fs.length f.pc) (ak_nV fs + l.length + 1)) (ak_nV fs + l.length)) (hm' := (am_up (am_up (ak_poM hm (ak_nJ fs + 1 + r.length)).1 110 127 ((ak_nT fs + ak_tc l + 1 : Nat) : Int)) 199 (ak_nT fs + ak_tc l) 1, am_up (ak_poM hm (ak_nJ fs + 1 + r.length)).2.1 200 (ak_nT fs + ak_tc l) vv, (ak_poM hm (ak_nJ fs + 1 + r.length)).2.2)) w fj (by omega) (by omega) fv
      (ak_SP_fr sp0 (fun q k h => ⟨SO q k (by unfold ak_stC at h; omega) (by unfold ak_stC at h; omega), rfl⟩) (fun q k h => ⟨(ak_up_out1 (fun z => h.2.2.2 (by omega))).trans ((ak_up_out (fun z => h.1 ⟨z.1, by omega⟩)).trans (P q k (fun z => h.1 ⟨z.1, by omega⟩))), ak_up_out (fun z => h.2.2.2 (by omega))⟩)) (ak_gle_refl w) ⟨fun q k h => SO q k (by omega) (by omega), fun _ _ _ => rfl, fun y hy => ⟨SO _ _ (by omega) (by omega), SO _ _ (by omega) (by omega), rfl⟩⟩
      ⟨fun q k h => (ak_up_out1 (by omega)).trans ((ak_up_out (by omega)).trans (P q k (by omega))), fun q k h => ak_up_out (by omega)⟩ ((ak_szC_o (by omega)).trans ((ak_szC_o (by omega)).trans ak_atC_72)) ((SO _ _ (by omega) (by omega)).trans o1) ((SO _ _ (by omega) (by omega)).trans o2) ((ak_up_out1 (by omega)).trans ((ak_up_out (by omega)).trans ((P _ _ (by omega)).trans o3))) ((ak_up_out1 (by omega)).trans ak_up_at) ((ak_up_out1 (by omega)).trans ((ak_up_out (by omega)).trans Pv)) ⟨ak_up_at1, show am_up (ak_poM hm (ak_nJ fs + 1 + r.length)).2.1 200 (ak_nT fs + ak_tc l) vv 200 (ak_nT fs + ak_tc l) = _ from ak_up_at⟩ (ak_vkn vr) K len
      (fun Q X q => gC0 Q X ⟨fun _ => am_s73 (d := d + 29) hs ak_szC_v (by omega) q, fun z => absurd hk0 z⟩) (job _ (fun Q X q => gM0 Q X ⟨fun _ => am_s286 (d := d + 37) (n := ak_nT fs + ak_tc l) ((P _ _ (by omega)).trans e3) (by omega) q, fun z => absurd hk0 z⟩)) (by
        rw [show ((am_up (am_up (ak_poM hm (ak_nJ fs + 1 + r.length)).1 110 127 ((ak_nT fs + ak_tc l + 1 : Nat) : Int)) 199 (ak_nT fs + ak_tc l) 1, am_up (ak_poM hm (ak_nJ fs + 1 + r.length)).2.1 200 (ak_nT fs + ak_tc l) vv, (ak_poM hm (ak_nJ fs + 1 + r.length)).2.2) : ak_S).1 110 104 = hm.1 110 104 from (ak_up_out1 (by omega)).trans ((ak_up_out (by omega)).trans (P _ _ (by omega)))]
        exact Int.le_refl _) (fun q a b => (ak_up_out1 (by omega)).trans ((ak_up_out (by omega)).trans (P 110 q (by omega)))) rfl
  · exact ak_failG (kd := k) (s := 0) (x := 0) w fj (by omega) (by omega) SO ((ak_szC_o (by omega)).trans ((ak_szC_o (by omega)).trans ak_atC_12)) rfl (fun q i a => P q i (by omega)) Pv P2 ak_vk0 cnt (fun hcX h Q X q => gC0 Q X ⟨fun z => absurd z hk0, fun _ => h _ _ q⟩) (fun hm' h => job hm' (fun Q X q => gM0 Q X ⟨fun z => absurd z hk0, fun _ => ak_MV_of (Nat.le_of_ble_eq_true rfl) (am_k270_0 (ak_MV_deep (show d + 25 ≤ d + 37 by omega) (h _ _ q)))⟩))
/-- the one's objectOf -/
theorem am_s151 {Q : Int → ak_S → Prop} {X : Nat → ak_S → Prop} {O B : Nat} {d ρ0} (hO : h.1 33 0 = (O : Int)) (hO2 : O ≤ 200) (vk : ak_vok O B s x) (q1 : s = 2 → Q x h) (q0 : s ≠ 2 → Q (-1) h) : ak_MI e 0 (d + 1) ρ0 151 [am_r 33, am_i s, am_l x] h Q X := by
  refine ak_MI_of (Nat.le_of_ble_eq_true rfl) (am_k151_0 ⟨fun z => q0 z, fun z => ?_⟩)
  have := vk.2.1 z
  rw [hO]
  refine ⟨fun l => absurd (ak_lsign_lt.1.mp l) (by omega), fun _ => ⟨fun l => absurd (ak_lsign_lt.2.mp l) (by omega), fun _ => ?_⟩⟩
  rw [ak_w x (by omega)]
  exact q1 z
theorem ak_af_cl (w : ak_RN c g (f :: fs) hc hm) (fj : f.js = j :: r) (hk : j.k = 3) (hy : j.n = (y : Int)) (h114 : ak_mM c.us c.m0 114 y = 6) (h2 : ak_mC c.s c.h0 (ak_T c.s + 2) f.pc = 5) (fv : f.vs = v :: l) (v1 : v.1 = true) (K : ak_K (ak_mC c.s c.h0) (ak_mM c.us c.m0) (ak_T c.s) c.us (g.mt f.r + 40 * g.lv f.r) r (f.pc + 1) (true :: l.map (fun v => v.1))) (len : l.length + 1 ≤ 151) (cnt : hm.1 110 109 < 1000000000) : ak_OUT e d ρ1 ρ2 ρ c (ak_Phi hm (f :: fs)) W hc hm := by
  obtain ⟨hs, l60, fU, f5, φ5, sp0, F, L, J0, V, K0, ⟨l1, l2, l3⟩, ⟨d2, d3, d4, d5, o1, o2⟩, ⟨e1, e2, e3, e4, e5, o3⟩, ⟨x1, x2, x3, x4⟩, d72, lt1⟩ := ak_tp w
  obtain ⟨t1, t2, t3, t4, t5, t6⟩ := ak_tj w fj
  obtain ⟨b1, b2, b3, b4⟩ := ak_cd sp0 h2 (by omega)
  obtain ⟨y18, yq⟩ := ak_nde (q0 := 114) sp0 (by omega) (by rw [h114]; decide)
  have yO : ∀ q, 114 ≤ q → q ≤ 120 → (ak_poM hm (ak_nJ fs + 1 + r.length)).1 q y = ak_mM c.us c.m0 q y := fun q a b => (ak_poM_o (by omega)).trans (yq q a b)
  have yb : 0 ≤ (y : Int) ∧ (y : Int) < 18000 := by omega
  have tb : 0 ≤ (fs.length : Int) ∧ (fs.length : Int) < 60 := by omega
  have P : ∀ q i, ¬ (q = 110 ∧ i = 132) → (ak_poM hm (ak_nJ fs + 1 + r.length)).1 q i = hm.1 q i := fun q i a => ak_poM_o a
  have Pv : (ak_poM hm (ak_nJ fs + 1 + r.length)).1 110 132 = ((ak_nJ fs + 1 + r.length : Nat) : Int) := ak_poM_v
  have P2 : (ak_poM hm (ak_nJ fs + 1 + r.length)).2 = hm.2 := rfl
  have A : ∀ q k, ¬ (q = 32 ∧ k = 12) → ¬ (q = 72 ∧ k = fs.length) → (ak_atC hc fs.length f.pc).1 q k = hc.1 q k := fun q k a b => ak_atC_o a b
  have A2 : (ak_atC hc fs.length f.pc).2 = hc.2 := rfl
  rw [fv] at V d5 e3 x1 x2
  obtain ⟨⟨r1, r2, vk⟩, r3, _, Vl⟩ := V
  obtain ⟨r4, r5⟩ := r3 v1
  have etc : ak_tc (v :: l) = ak_tc l + 1 := by show ak_tc l + (if v.1 = true then 1 else 0) = _; rw [if_pos v1]
  rw [etc] at e3 x2
  rw [List.length_cons] at d5 x1
  have SO : ∀ q k, ¬ (q = 32 ∧ (k = 10 ∨ k = 12)) → ¬ (q = 72 ∧ k = fs.length) → (ak_szC (ak_atC hc fs.length f.pc) (ak_nV fs + l.length)).1 q k = hc.1 q k := fun q k a b => (ak_szC_o (by omega)).trans (A q k (by omega) b)
  have S12 : (ak_szC (ak_atC hc fs.length f.pc) (ak_nV fs + l.length)).1 32 12 = (fs.length : Int) := (ak_szC_o (by omega)).trans ak_atC_12
  have S72 : (ak_szC (ak_atC hc fs.length f.pc) (ak_nV fs + l.length)).1 72 fs.length = ((f.pc + 1 : Nat) : Int) := (ak_szC_o (by omega)).trans ak_atC_72
  have S10 : (ak_szC (ak_atC hc fs.length f.pc) (ak_nV fs + l.length)).1 32 10 = ((ak_nV fs + l.length : Nat) : Int) := ak_szC_v
  have S2 : (ak_szC (ak_atC hc fs.length f.pc) (ak_nV fs + l.length)).2 = hc.2 := rfl
  have nb : 0 ≤ ((ak_nV fs + l.length : Nat) : Int) ∧ ((ak_nV fs + l.length : Nat) : Int) < 12600 := by omega
  have gC0 : ∀ (Q : ak_S → Prop) (X : Nat → ak_S → Prop), ak_MI e 0 (d + 38) (ak_rc c.s ρ1 ρ2) 151 [am_r 33, am_i v.2.1, am_l v.2.2] (ak_szC (ak_atC hc fs.length f.pc) (ak_nV fs + l.length)) (fun v14 h13 => (0 ≤ v14 → ak_MI e 0 (d + 38) (ak_rc c.s ρ1 ρ2) 150 [am_r 33, am_i v14] h13 (fun v16 h15 => ak_MV e 0 (d + 38) (ak_rc c.s ρ1 ρ2) 79 [am_r 32, am_i 2, am_i v16] h15 (fun h17 => Q h17) (fun _ _ => False)) (fun _ _ => False)) ∧ (v14 < 0 → ak_MV e 0 (d + 38) (ak_rc c.s ρ1 ρ2) 77 [am_r 32, am_i 6, am_i 0, am_l 0] h13 (fun h18 => Q h18) (fun _ _ => False))) (fun _ _ => False) → ak_MV e 0 (d + 40) (ak_rc c.s ρ1 ρ2) 72 [am_r 32] hc Q X := fun Q X q => by
    refine ak_o72 (d := d + 39) (o := 5) w h2 (fun _ => ?_) (fun z => absurd z (by decide)) (fun z => absurd z (by decide)) (fun z => absurd z (by decide)) (fun z => absurd z (by decide)) (fun z => absurd z (by decide))
    refine ak_MV_of (Nat.le_of_ble_eq_true rfl) (am_k78_0 hs ?_)
    rw [ak_atC_12, ak_natn]
    refine ⟨tb, trivial, fun z => absurd z (by omega), fun z => absurd z (by omega), fun z => absurd z (by omega), fun z => absurd z (by omega), fun z => absurd z (by omega), fun z => absurd z (by omega), fun _ => ?_, fun z => absurd z (by omega), trivial⟩
    refine am_s74 (d := d + 37) (n := ak_nV fs + l.length) hs ((A _ _ (by omega) (by omega)).trans d5) (by omega) ⟨nb, nb, ?_⟩
    rw [ak_natn, SO 108 _ (by omega) (by omega), r1, S2, r2]
    exact q
  generalize ak_szC (ak_atC hc fs.length f.pc) (ak_nV fs + l.length) = hcS at SO S12 S72 S10 S2 gC0
  have spS : ak_SPP c g (ak_rms (f :: fs)) hcS (ak_poM hm (ak_nJ fs + 1 + r.length)) := ak_SP_fr sp0 (fun q k h => ⟨SO q k (by unfold ak_stC at h; omega) (by unfold ak_stC at h; omega), by rw [S2]⟩) (fun q k h => ⟨P q k (fun z => h.1 ⟨z.1, by omega⟩), rfl⟩)
  obtain ⟨hO1, hO2, hO3⟩ := spS.2.2.1.2.2.2.2.1
  have hob := spS.2.2.1.2.2.2.2.2
  have Tl := spS.2.2.1.2.1.2.1
  have job : ∀ hm', ak_goV e (d + 40) ρ 283 [am_r 110, am_i j.n] (ak_poM hm (ak_nJ fs + 1 + r.length)) hm' → ak_mgo e (d + 40) ρ hm hm' := fun hm' h => ak_job t1 (by omega) (by omega) t3 t4 (fun z => absurd z (by omega)) (fun z => absurd z (by omega)) (fun _ => h) (fun z => absurd z (by omega)) (by omega)
  have gM0 : ∀ (Q : ak_S → Prop) (X : Nat → ak_S → Prop), ak_MV e 1 (d + 39) ρ 284 [am_r 110] (ak_poM hm (ak_nJ fs + 1 + r.length)) Q (fun _ _ => False) → ak_MV e 1 (d + 40) ρ 283 [am_r 110, am_i j.n] (ak_poM hm (ak_nJ fs + 1 + r.length)) Q X := fun Q X q => by
    rw [hy]
    refine ak_MV_of (Nat.le_of_ble_eq_true rfl) (am_k283_0 ?_)
    rw [ak_natn, yO 114 (by omega) (by omega), h114]
    exact ⟨yb, trivial, fun z => absurd z (by omega), fun _ => q, fun z => absurd z (by omega), fun z => absurd z (by omega), fun z => absurd z (by omega), fun z => absurd z (by omega), fun z => absurd z (by omega), fun z => absurd z (by omega), trivial⟩
  have m199 : (ak_poM hm (ak_nJ fs + 1 + r.length)).1 199 (ak_nT fs + ak_tc l) = v.2.1 := (P _ _ (by omega)).trans r4
  have m127 : (ak_poM hm (ak_nJ fs + 1 + r.length)).1 110 127 = ((ak_nT fs + ak_tc l + 1 : Nat) : Int) := (P _ _ (by omega)).trans e3
  have failR : ∀ kd : Int, (∀ (Q : ak_S → Prop) (X : Nat → ak_S → Prop), ak_MV e 0 (d + 36) (ak_rc c.s ρ1 ρ2) 77 [am_r 32, am_i kd, am_i 0, am_l 0] hcS Q (fun _ _ => False) → ak_MV e 0 (d + 40) (ak_rc c.s ρ1 ρ2) 72 [am_r 32] hc Q X) → (∀ (Q : ak_S → Prop) (X : Nat → ak_S → Prop), ak_MV e 1 (d + 38) ρ 270 [am_r 110, am_i kd] (ak_poM hm (ak_nJ fs + 1 + r.length)) Q (fun _ _ => False) → ak_MV e 1 (d + 39) ρ 284 [am_r 110] (ak_poM hm (ak_nJ fs + 1 + r.length)) Q X) → ak_OUT e d ρ1 ρ2 ρ c (ak_Phi hm (f :: fs)) W hc hm := fun kd gC gM =>
    ak_failG (kd := kd) (s := 0) (x := 0) w fj (by omega) (by omega) SO S12 S2 (fun q i a => P q i (by omega)) Pv P2 ak_vk0 cnt (fun hcX h Q X q => gC Q X (ak_MV_deep (show d + 30 ≤ d + 36 by omega) (h _ _ q))) (fun hm' h => job hm' (fun Q X q => gM0 Q X (gM _ _ (ak_MV_of (Nat.le_of_ble_eq_true rfl) (am_k270_0 (ak_MV_deep (show d + 25 ≤ d + 37 by omega) (h _ _ q)))))))
  by_cases hs2 : v.2.1 = 2
  · have hw := vk.2.1 hs2
    obtain ⟨ob, eob⟩ : ∃ ob : Nat, v.2.2 = (ob : Int) := ⟨v.2.2.toNat, by omega⟩
    have ho : ob < g.O := by omega
    have ob2 := hob ob ho
    by_cases h200 : g.O < 200
    · obtain ⟨v16, hc1, ⟨rfl, cl⟩, go150⟩ := ak_MI_get (e := e) (r := 0) (d := d + 38) (ρ := ak_rc c.s ρ1 ρ2) (am_s150 (d := d + 36) (h := hcS) (O := g.O) (o := ob) (X := ak_F) (Q := fun v' h' => v' = (g.O : Int) ∧ ak_clC g.O ob hcS h') ho hO2 hO1 (fun _ h' k => ⟨rfl, k⟩) (fun z => absurd z (by omega)))
      obtain ⟨hm1, clm, go284⟩ := ak_MV_get (e := e) (r := 1) (d := d + 39) (ρ := ρ) (am_s284 (d := d + 37) (h := ak_poM hm (ak_nJ fs + 1 + r.length)) (O := g.O) (o := ob) (n := (g.T (g.sh ob)).length) (t := ak_nT fs + ak_tc l) (X := ak_F) (Q := fun h' => ak_clM g.O ob (g.T (g.sh ob)).length (ak_nT fs + ak_tc l) (ak_poM hm (ak_nJ fs + 1 + r.length)) h') m127 (by omega) hO3 hO1 (Tl _ ob2.1).1 (fun _ _ => ⟨⟨ho, r5.trans eob, ob2.2.2.2.1.1⟩, fun h' k => k⟩) (fun _ z => absurd z (by omega)) (fun z => absurd (m199.trans hs2) z))
      have wd := ak_WD_clone spS.2.2.1.2 h200 ho cl clm
      obtain ⟨c1, c2, c3, c4, c5, c6⟩ := cl
      obtain ⟨k1, k2, k3, k4, k5, k6, k7, k8⟩ := clm
      have spN : ak_SPP c (ak_gO g (g.sh ob)) (ak_rms (f :: fs)) hc1 hm1 := ak_SP_obj spS ob2.1 wd (fun q k a b => ⟨c4 q k (by omega) (by omega) (by omega), c5 q k (by omega)⟩) (fun q k a b b2 => ⟨k6 q k b (by omega) (by omega), k7 q k (by omega) (fun z => a.2.2.2 (by omega))⟩)
      have C : ∀ q k, ¬ (33 ≤ q ∧ q ≤ 36) → hc1.1 q k = hcS.1 q k := fun q k a => c4 q k (by omega) (by omega) (by omega)
      have CJ : ∀ q k, q ≠ 36 → hc1.2.1 q k = hc.2.1 q k := fun q k a => (c5 q k (by omega)).trans (by rw [S2])
      have M : ∀ q k, ¬ (q = 110 ∧ (k = 46 ∨ k = 132)) → ¬ (141 ≤ q ∧ q ≤ 145) → hm1.1 q k = hm.1 q k := fun q k a b => (k6 q k (by omega) (by omega) (by omega)).trans (P q k (by omega))
      exact ak_val (g' := ak_gO g (g.sh ob)) (u := [v]) (l := l) (s := 2) (x := (g.O : Int)) (hcS := hc1) (hm' := hm1) w fj (by omega) (by omega) fv spN (ak_gO_le (ak_gle_refl w)) ⟨fun q k h => (C q k (by omega)).trans (SO q k (by omega) (by omega)), fun q k h => CJ q k (by omega), fun y hy => ⟨(C _ _ (by omega)).trans (SO _ _ (by omega) (by omega)), (C _ _ (by omega)).trans (SO _ _ (by omega) (by omega)), CJ _ _ (by omega)⟩⟩
        ⟨fun q k h => M q k (by omega) (by omega), fun q k h => (k7 q k (by omega) (by omega)).trans rfl⟩ ((C _ _ (by omega)).trans S72) ((C _ _ (by omega)).trans ((SO _ _ (by omega) (by omega)).trans o1)) ((C _ _ (by omega)).trans ((SO _ _ (by omega) (by omega)).trans o2)) ((M _ _ (by omega) (by omega)).trans o3) ((M _ _ (by omega) (by omega)).trans e3) ((k6 _ _ (by omega) (by omega) (by omega)).trans Pv) ⟨(M _ _ (by omega) (by omega)).trans (r4.trans hs2), k5⟩
        ⟨by decide, fun _ => ⟨by omega, by show (g.O : Int) < ((g.O + 1 : Nat) : Int); omega⟩, fun h => absurd h (by decide), by omega, by omega⟩ K len (fun Q X q => gC0 Q X (am_s151 (d := d + 37) hO2 hO1 vk (fun _ => ⟨fun _ => by rw [eob]; exact go150 _ _ (ak_MV_of (Nat.le_of_ble_eq_true rfl) (am_k79_0 hs ⟨fun _ => am_s73 (d := d + 36) hs ((C _ _ (by omega)).trans S10) (by omega) q, fun z => absurd z (by omega)⟩)), fun z => absurd z (by omega)⟩) (fun z => absurd hs2 z)))
        (job _ (fun Q X q => gM0 Q X (go284 _ _ q))) (by rw [M _ _ (by omega) (by omega)]; exact Int.le_refl _) (fun q a b => M 110 q (by omega) (by omega)) (c6.trans (by rw [S2]))
    · have e200 : g.O = 200 := by omega
      exact failR 8 (fun Q X q => gC0 Q X (am_s151 (d := d + 37) hO2 hO1 vk (fun _ => ⟨fun _ => by rw [eob]; exact am_s150 (d := d + 36) ho hO2 hO1 (fun z => absurd z (by omega)) (fun _ => ak_MV_of (Nat.le_of_ble_eq_true rfl) (am_k79_0 hs ⟨fun z => absurd z (by decide), fun _ => ak_MV_deep (show d + 36 ≤ d + 37 by omega) q⟩)), fun z => absurd z (by omega)⟩) (fun z => absurd hs2 z)))
        (fun Q X q => am_s284 (d := d + 37) (n := 0) (o := 0) m127 (by omega) hO3 hO1 (by decide) (fun _ z => absurd z (by omega)) (fun _ _ => q) (fun z => absurd (m199.trans hs2) z))
  · exact failR 6 (fun Q X q => gC0 Q X (am_s151 (d := d + 37) hO2 hO1 vk (fun z => absurd z hs2) (fun _ => ⟨fun z => absurd z (by decide), fun _ => ak_MV_deep (show d + 36 ≤ d + 38 by omega) q⟩)))
      (fun Q X q => am_s284 (d := d + 37) (n := 0) (o := 0) m127 (by omega) hO3 hO1 (by decide) (fun z => absurd (m199.symm.trans z) hs2) (fun z => absurd (m199.symm.trans z) hs2) (fun _ => q))
end AFT2
