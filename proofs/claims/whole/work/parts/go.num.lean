/-! the run: one number, two numbers -/
section AFT1
variable {e : ak_X3} {d ρ1 ρ2 P W y n : Nat} {ρ : List Nat} {c : ak_Cx} {g g' : ak_Gh} {fs fs' : List ak_Fr} {f : ak_Fr} {h hc hm hc' hm' hcS hmS hcX : ak_S} {j : ak_Jb} {r js : List ak_Jb} {v v2 : Bool × Int × Int} {l : List (Bool × Int × Int)} {s x kd : Int}
/-- the one fails behind some values taken -/
theorem ak_failS {u : List (Bool × Int × Int)} (w : ak_RN c g (f :: fs) hc hm) (fj : f.js = j :: r) (hk : j.k < 9) (pc9 : f.pc < 9100) (kv : ak_nV fs ≤ n) (vk : ak_vok g.O g.B s x) (cnt : hm.1 110 109 < 1000000000)
    (gC : ∀ hcX, ak_cgo e (d + 30) c.s ρ1 ρ2 77 [am_r 32, am_i kd, am_i s, am_l x] (ak_szC (ak_atC hc fs.length f.pc) n) hcX → ak_cgo e (d + 40) c.s ρ1 ρ2 72 [am_r 32] hc hcX) (gM : ∀ hm', ak_goV e (d + 25) ρ 269 [am_r 110, am_i kd, am_i s, am_l x] (ak_poM hm (ak_nJ fs + 1 + r.length)) hm' → ak_mgo e (d + 40) ρ hm hm') : ak_OUT e d ρ1 ρ2 ρ c (ak_Phi hm (f :: fs)) W hc hm := by
  obtain ⟨hs, l60, fU, f5, φ5, sp0, F, L, J0, V, K0, ⟨l1, l2, l3⟩, ⟨d2, d3, d4, d5, o1, o2⟩, ⟨e1, e2, e3, e4, e5, o3⟩, ⟨x1, x2, x3, x4⟩, d72, lt1⟩ := ak_tp w
  have B : ∀ q k, ¬ (q = 32 ∧ (k = 10 ∨ k = 12)) → ¬ (q = 72 ∧ k = fs.length) → (ak_szC (ak_atC hc fs.length f.pc) n).1 q k = hc.1 q k := fun q k a b => (ak_szC_o (by omega)).trans (ak_atC_o (by omega) b)
  refine ak_OUTf w fj hk pc9 (ak_SP_fr sp0 (fun q k h => ⟨B q k (by unfold ak_stC at h; omega) (by unfold ak_stC at h; omega), rfl⟩) (fun q k h => ⟨ak_poM_o (fun z => h.1 ⟨z.1, by omega⟩), rfl⟩)) (ak_gle_refl w) ⟨fun q k h => B q k (by omega) (by omega), fun _ _ _ => rfl, fun y hy => ⟨B _ _ (by omega) (by omega), B _ _ (by omega) (by omega), rfl⟩⟩ ak_kpM_po ((B _ _ (by omega) (by omega)).trans o1) ((ak_szC_o (by omega)).trans ak_atC_12) ak_poM_v ((ak_poM_o (by omega)).trans o3) vk cnt (by rw [ak_poM_o (by omega)]; exact Int.le_refl _) (fun q a b => ak_poM_o (by omega)) rfl gC gM
theorem ak_vk0 : ak_vok g.O g.B 0 0 := ⟨by decide, fun h => absurd h (by decide), fun h => absurd h (by decide), by decide, by decide⟩
theorem ak_vkn (h : -9223372036854775808 ≤ x ∧ x < 9223372036854775808) : ak_vok g.O g.B 1 x := ⟨by decide, fun h => absurd h (by decide), fun h => absurd h (by decide), h.1, h.2⟩
theorem ak_af_min (w : ak_RN c g (f :: fs) hc hm) (fj : f.js = j :: r) (hk : j.k = 3) (hy : j.n = (y : Int)) (h114 : ak_mM c.us c.m0 114 y = 12) (h2 : ak_mC c.s c.h0 (ak_T c.s + 2) f.pc = 8) (fv : f.vs = v :: l) (v1 : v.1 = true) (K : ak_K (ak_mC c.s c.h0) (ak_mM c.us c.m0) (ak_T c.s) c.us (g.mt f.r + 40 * g.lv f.r) r (f.pc + 1) (true :: l.map (fun v => v.1))) (len : l.length + 1 ≤ 151) (cnt : hm.1 110 109 < 1000000000) : ak_OUT e d ρ1 ρ2 ρ c (ak_Phi hm (f :: fs)) W hc hm := by
  obtain ⟨hs, l60, fU, f5, φ5, sp0, F, L, J0, V, K0, ⟨l1, l2, l3⟩, ⟨d2, d3, d4, d5, o1, o2⟩, ⟨e1, e2, e3, e4, e5, o3⟩, ⟨x1, x2, x3, x4⟩, d72, lt1⟩ := ak_tp w
  obtain ⟨t1, t2, t3, t4, t5, t6⟩ := ak_tj w fj
  obtain ⟨b1, b2, b3, b4⟩ := ak_cd sp0 h2 (by decide)
  obtain ⟨y18, yq⟩ := ak_nde (q0 := 114) sp0 (by omega) (by rw [h114]; decide)
  have yO : ∀ q, 114 ≤ q → q ≤ 120 → (ak_poM hm (ak_nJ fs + 1 + r.length)).1 q y = ak_mM c.us c.m0 q y := fun q a b => (ak_poM_o (by omega)).trans (yq q a b)
  have yb : 0 ≤ (y : Int) ∧ (y : Int) < 18000 := by omega
  have tb : 0 ≤ (fs.length : Int) ∧ (fs.length : Int) < 60 := by omega
  have P : ∀ q i, ¬ (q = 110 ∧ i = 132) → (ak_poM hm (ak_nJ fs + 1 + r.length)).1 q i = hm.1 q i := fun q i a => ak_poM_o a
  have Pv : (ak_poM hm (ak_nJ fs + 1 + r.length)).1 110 132 = ((ak_nJ fs + 1 + r.length : Nat) : Int) := ak_poM_v
  have P2 : (ak_poM hm (ak_nJ fs + 1 + r.length)).2 = hm.2 := rfl
  have A : ∀ q k, ¬ (q = 32 ∧ k = 12) → ¬ (q = 72 ∧ k = fs.length) → (ak_atC hc fs.length f.pc).1 q k = hc.1 q k := fun q k a b => ak_atC_o a b
  have A2 : (ak_atC hc fs.length f.pc).2 = hc.2 := rfl
  rw [fv] at V d5 e3 x1 x2
  obtain ⟨⟨r1, r2, vk⟩, r3, _, Vl⟩ := V
  obtain ⟨r4, r5⟩ := r3 v1
  have etc : ak_tc (v :: l) = ak_tc l + 1 := by show ak_tc l + (if v.1 = true then 1 else 0) = _; rw [if_pos v1]
  rw [etc] at e3 x2
  rw [List.length_cons] at d5 x1
  have SO : ∀ q k, ¬ (q = 32 ∧ (k = 10 ∨ k = 12)) → ¬ (q = 72 ∧ k = fs.length) → (ak_szC (ak_atC hc fs.length f.pc) (ak_nV fs + l.length)).1 q k = hc.1 q k := fun q k a b => (ak_szC_o (by omega)).trans (A q k (by omega) b)
  have nb : 0 ≤ ((ak_nV fs + l.length : Nat) : Int) ∧ ((ak_nV fs + l.length : Nat) : Int) < 12600 := by omega
  have mb : 0 ≤ ((ak_nT fs + ak_tc l : Nat) : Int) ∧ ((ak_nT fs + ak_tc l : Nat) : Int) < 20000 := by omega
  have gC0 : ∀ (Q : ak_S → Prop) (X : Nat → ak_S → Prop), ak_MV e 0 (d + 38) (ak_rc c.s ρ1 ρ2) 81 [am_r 32, am_i ((ak_nV fs + l.length : Nat) : Int)] (ak_szC (ak_atC hc fs.length f.pc) (ak_nV fs + l.length)) (fun h8 => Q h8) (fun _ _ => False) → ak_MV e 0 (d + 40) (ak_rc c.s ρ1 ρ2) 72 [am_r 32] hc Q X := fun Q X q => by
    refine ak_o72 (d := d + 39) (o := 8) w h2 (fun z => absurd z (by decide)) (fun _ _ => ?_) (fun z => absurd z (by decide)) (fun z => absurd z (by decide)) (fun z => absurd z (by decide)) (fun z => absurd z (by decide))
    exact ak_MV_of (Nat.le_of_ble_eq_true rfl) (am_k80_0 hs (am_s74 (d := d + 37) (n := ak_nV fs + l.length) hs ((A _ _ (by omega) (by omega)).trans d5) (by omega) ⟨fun z => absurd rfl z, fun _ => q⟩))
  have e108 : (ak_szC (ak_atC hc fs.length f.pc) (ak_nV fs + l.length)).1 108 (ak_nV fs + l.length) = v.2.1 := (SO _ _ (by omega) (by omega)).trans r1
  have e109 : (ak_szC (ak_atC hc fs.length f.pc) (ak_nV fs + l.length)).2.1 109 (ak_nV fs + l.length) = v.2.2 := r2
  have gM0 : ∀ (Q : ak_S → Prop) (X : Nat → ak_S → Prop), ((v.2.1 = 1 → (am_lsign v.2.2 (-9223372036854775808) ≠ 0 → Q ((ak_poM hm (ak_nJ fs + 1 + r.length)).1, am_up hm.2.1 200 (ak_nT fs + ak_tc l) (am_w64 (-v.2.2)), hm.2.2)) ∧ (am_lsign v.2.2 (-9223372036854775808) = 0 → ak_MV e 1 (d + 39) ρ 270 [am_r 110, am_i 4] (ak_poM hm (ak_nJ fs + 1 + r.length)) Q (fun _ _ => False))) ∧ (v.2.1 ≠ 1 → ak_MV e 1 (d + 39) ρ 270 [am_r 110, am_i 3] (ak_poM hm (ak_nJ fs + 1 + r.length)) Q (fun _ _ => False))) → ak_MV e 1 (d + 40) ρ 283 [am_r 110, am_i j.n] (ak_poM hm (ak_nJ fs + 1 + r.length)) Q X := fun Q X q => by
    rw [hy]
    refine ak_MV_of (Nat.le_of_ble_eq_true rfl) (am_k283_0 ?_)
    rw [ak_natn, yO 114 (by omega) (by omega), h114, P 110 127 (by omega), e3, show am_w32 (((ak_nT fs + (ak_tc l + 1) : Nat) : Int) - 1) = ((ak_nT fs + ak_tc l : Nat) : Int) from by rw [ak_w _ (by omega)]; omega, ak_natn, P 199 _ (by omega), r4, P2, r5]
    refine ⟨yb, trivial, fun z => absurd z (by omega), fun z => absurd z (by omega), fun z => absurd z (by omega), fun z => absurd z (by omega), fun z => absurd z (by omega), fun z => absurd z (by omega), fun z => absurd z (by omega), fun _ => ?_, trivial⟩
    exact ⟨mb, mb, fun z => ⟨fun z2 => ⟨mb, (q.1 z).1 z2⟩, fun z2 => (q.1 z).2 z2⟩, fun z => q.2 z⟩
  have job : ∀ hm', ak_goV e (d + 40) ρ 283 [am_r 110, am_i j.n] (ak_poM hm (ak_nJ fs + 1 + r.length)) hm' → ak_mgo e (d + 40) ρ hm hm' := fun hm' h => ak_job t1 (by omega) (by omega) t3 t4 (fun z => absurd z (by omega)) (fun z => absurd z (by omega)) (fun _ => h) (fun z => absurd z (by omega)) (by omega)
  by_cases h1 : v.2.1 = 1
  · by_cases hm2 : v.2.2 = -9223372036854775808
    · exact ak_failS (u := []) (kd := 4) (s := 0) (x := 0) (n := ak_nV fs + l.length) w fj (by omega) (by omega) (by omega) ak_vk0 cnt (fun hcX h Q X q => gC0 Q X (ak_MV_of (Nat.le_of_ble_eq_true rfl) (am_k81_0 hs (by
        rw [ak_natn, e108, e109]
        exact ⟨nb, fun _ => ⟨nb, nb, fun _ => ak_MV_of (Nat.le_of_ble_eq_true rfl) (am_k83_0 hs ⟨fun _ => ak_MV_deep (show d + 30 ≤ d + 36 by omega) (h _ _ q), fun z => absurd rfl z⟩), fun z => absurd (ak_lsign0.mpr hm2) z⟩, fun z => absurd h1 z⟩))))
        (fun hm' h => job hm' (fun Q X q => gM0 Q X ⟨fun _ => ⟨fun z => absurd (ak_lsign0.mpr hm2) z, fun _ => ak_MV_of (Nat.le_of_ble_eq_true rfl) (am_k270_0 (ak_MV_deep (show d + 25 ≤ d + 38 by omega) (h _ _ q)))⟩, fun z => absurd h1 z⟩))
    · have hz : am_lsign v.2.2 (-9223372036854775808) ≠ 0 := fun z => hm2 (ak_lsign0.mp z)
      refine ak_val (u := [v]) (l := l) (s := 1) (x := am_w64 (-v.2.2)) (hcS := ak_szC (ak_atC hc fs.length f.pc) (ak_nV fs + l.length)) (hm' := ((ak_poM hm (ak_nJ fs + 1 + r.length)).1, am_up hm.2.1 200 (ak_nT fs + ak_tc l) (am_w64 (-v.2.2)), hm.2.2)) w fj (by omega) (by omega) fv (ak_SP_fr sp0 (fun q k h => ⟨SO q k (by unfold ak_stC at h; omega) (by unfold ak_stC at h; omega), rfl⟩) (fun q k h => ⟨P q k (fun z => h.1 ⟨z.1, by omega⟩), ak_up_out (fun z => h.2.2.2 (by omega))⟩)) (ak_gle_refl w) ⟨fun q k h => SO q k (by omega) (by omega), fun _ _ _ => rfl, fun y hy => ⟨SO _ _ (by omega) (by omega), SO _ _ (by omega) (by omega), rfl⟩⟩ ⟨fun q k h => P q k (by omega), fun q k h => ak_up_out (by omega)⟩
        ((ak_szC_o (by omega)).trans ak_atC_72) ((SO _ _ (by omega) (by omega)).trans o1) ((SO _ _ (by omega) (by omega)).trans o2) ((P _ _ (by omega)).trans o3) ((P _ _ (by omega)).trans e3) Pv ⟨(P _ _ (by omega)).trans (r4.trans h1), show am_up hm.2.1 200 (ak_nT fs + ak_tc l) (am_w64 (-v.2.2)) 200 (ak_nT fs + ak_tc l) = _ from ak_up_at⟩ (ak_vkn (am_w64_in _)) K len (fun Q X q => gC0 Q X (ak_MV_of (Nat.le_of_ble_eq_true rfl) (am_k81_0 hs (by
          rw [ak_natn, e108, e109]
          exact ⟨nb, fun _ => ⟨nb, nb, fun z => absurd z hz, fun _ => ak_MV_of (Nat.le_of_ble_eq_true rfl) (am_k83_0 hs ⟨fun z => absurd z (by decide), fun _ => am_s73 (d := d + 35) hs ak_szC_v (by omega) q⟩)⟩, fun z => absurd h1 z⟩))))
        (job _ (fun Q X q => gM0 Q X ⟨fun _ => ⟨fun _ => q, fun z => absurd z hz⟩, fun z => absurd h1 z⟩)) (by rw [show (ak_poM hm (ak_nJ fs + 1 + r.length)).1 110 104 = hm.1 110 104 from P _ _ (by omega)]; exact Int.le_refl _) (fun q a b => P 110 q (by omega)) rfl
  · exact ak_failS (u := []) (kd := 3) (s := 0) (x := 0) (n := ak_nV fs + l.length) w fj (by omega) (by omega) (by omega) ak_vk0 cnt (fun hcX h Q X q => gC0 Q X (ak_MV_of (Nat.le_of_ble_eq_true rfl) (am_k81_0 hs (by
      rw [ak_natn, e108, e109]
      exact ⟨nb, fun z => absurd z h1, fun _ => ak_MV_deep (show d + 30 ≤ d + 37 by omega) (h _ _ q)⟩))))
      (fun hm' h => job hm' (fun Q X q => gM0 Q X ⟨fun z => absurd z h1, fun _ => ak_MV_of (Nat.le_of_ble_eq_true rfl) (am_k270_0 (ak_MV_deep (show d + 25 ≤ d + 38 by omega) (h _ _ q)))⟩))
end AFT1
