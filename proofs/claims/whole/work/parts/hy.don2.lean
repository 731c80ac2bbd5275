/-! the run: a statement's end: words, what is written, a failure, a value given -/
section DON2
variable {e : ak_X3} {d ρ1 ρ2 W y n T0 o slot hops r' kd : Nat} {ρ : List Nat} {c : ak_Cx} {g : ak_Gh} {fs : List ak_Fr} {f : ak_Fr} {hc hm hcS hmS : ak_S} {j : ak_Jb} {r : List ak_Jb} {v : Bool × Int × Int} {s x : Int}
/-- a word is set -/
theorem ak_dn_word (w : ak_RN c g (f :: fs) hc hm) (fj : f.js = j :: r) (hk : j.k = 4) (fv : f.vs = [v]) (v1 : v.1 = true) (pc9 : f.pc < 9100) (SO : ∀ q k, ¬ (q = 32 ∧ (k = 10 ∨ k = 12)) → ¬ (q = 72 ∧ k = fs.length) → hcS.1 q k = hc.1 q k) (S72 : hcS.1 72 fs.length = ((f.pc + 1 : Nat) : Int)) (S10 : hcS.1 32 10 = (ak_nV fs : Int)) (S2 : hcS.2 = hc.2) (MO : ∀ q k, ¬ (q = 110 ∧ (k = 127 ∨ k = 132)) → hmS.1 q k = hm.1 q k) (M127 : hmS.1 110 127 = (ak_nT fs : Int)) (M132 : hmS.1 110 132 = ((ak_nJ fs + 1 + r.length : Nat) : Int)) (M2 : hmS.2 = hm.2) (spS : ak_SPP c g (ak_rms (f :: fs)) hcS hmS) (vk : ak_vok g.O g.B s x) (hr : r' ∈ g.Us) (hsl : slot < 12) (K : ak_K (ak_mC c.s c.h0) (ak_mM c.us c.m0) (ak_T c.s) c.us (g.mt f.r + 40 * g.lv f.r) r (f.pc + 1) [])
    (gC : ak_cgo e (d + 40) c.s ρ1 ρ2 72 [am_r 32] hc (ak_kwC hcS (12 * r' + slot) s x)) (gM : ak_mgo e (d + 40) ρ hm (ak_kwM hmS (12 * g.φ r' + slot) s x)) : ak_OUT e d ρ1 ρ2 ρ c (ak_Phi hm (f :: fs)) W hc hm := by
  obtain ⟨hs, l60, fU, f5, φ5, sp0, F, L, J0, V, K0, ⟨l1, l2, l3⟩, ⟨d2, d3, d4, d5, o1, o2⟩, ⟨e1, e2, e3, e4, e5, o3⟩, ⟨x1, x2, x3, x4⟩, d72, lt1⟩ := ak_tp w
  obtain ⟨t1, t2, t3, t4, t5, t6⟩ := ak_tj w fj
  have spF := ak_SP_word spS hr hsl vk
  have CO : ∀ q k, q ≠ 50 → (ak_kwC hcS (12 * r' + slot) s x).1 q k = hcS.1 q k := fun q k a => ak_kwC_o (by omega)
  have CJ : ∀ q k, q ≠ 51 → (ak_kwC hcS (12 * r' + slot) s x).2.1 q k = hc.2.1 q k := fun q k a => (ak_kwC_J (by omega)).trans (by rw [S2])
  have C22 : (ak_kwC hcS (12 * r' + slot) s x).2.2 = hc.2.2 := by show hcS.2.2 = _; rw [S2]
  generalize ak_kwC hcS (12 * r' + slot) s x = hcF at spF CO CJ C22 gC
  have NO : ∀ q k, q ≠ 184 → (ak_kwM hmS (12 * g.φ r' + slot) s x).1 q k = hmS.1 q k := fun q k a => ak_up_out1 (by omega)
  have NJ : ∀ q k, q ≠ 185 → (ak_kwM hmS (12 * g.φ r' + slot) s x).2.1 q k = hm.2.1 q k := fun q k a => (ak_up_out (by omega)).trans (by rw [M2])
  generalize ak_kwM hmS (12 * g.φ r' + slot) s x = hmF at spF NO NJ gM
  have C : ∀ q k, q ≠ 50 → ¬ (q = 32 ∧ (k = 10 ∨ k = 12)) → ¬ (q = 72 ∧ k = fs.length) → hcF.1 q k = hc.1 q k := fun q k a b c' => (CO q k a).trans (SO q k b c')
  have M : ∀ q k, q ≠ 184 → ¬ (q = 110 ∧ (k = 127 ∨ k = 132)) → hmF.1 q k = hm.1 q k := fun q k a b => (NO q k a).trans (MO q k b)
  exact ak_red (u := [v]) (l := []) (js := r) (pc' := f.pc + 1) w fj (by omega) pc9 (by rw [fv]; rfl) (by omega) spF (ak_gle_refl w) ⟨fun q k h => C q k (by omega) (by omega) (by omega), fun q k h => CJ q k (by omega), fun y _ => ⟨C _ _ (by omega) (by omega) (by omega), C _ _ (by omega) (by omega) (by omega), CJ _ _ (by omega)⟩⟩ ⟨fun q k h => M q k (by omega) (by omega), fun q k h => NJ q k (by omega)⟩ ((CO _ _ (by omega)).trans S72) ((CO _ _ (by omega)).trans S10) ((C _ _ (by omega) (by omega) (by omega)).trans o1) ((C _ _ (by omega) (by omega) (by omega)).trans o2) ((M _ _ (by omega) (by omega)).trans o3) ((NO _ _ (by omega)).trans M127) ((NO _ _ (by omega)).trans M132)
    (ak_JS_fr (Nat.le_refl _) (Nat.le_refl _) (fun _ _ => rfl) t6 (fun q k a b _ => ⟨C q k (by omega) (by omega) (by omega), CJ q k (by omega)⟩) (fun q k a b _ => M q k (by omega) (by omega)) (fun q k a b _ => ⟨M q k (by omega) (by omega), NJ q k (by omega)⟩)) ⟨rfl, rfl, rfl⟩ K (by omega) gC gM (by rw [M _ _ (by omega) (by omega)]; exact Int.le_refl _) (fun q a b => by rw [M 110 q (by omega) (by omega)]; omega) C22
/-- an own word -/
theorem ak_dn_20 (w : ak_RN c g (f :: fs) hc hm) (fj : f.js = j :: r) (hk : j.k = 4) (hy : j.n = (y : Int)) (fv : f.vs = [v]) (v1 : v.1 = true) (h114 : ak_mM c.us c.m0 114 y = 20) (h2 : ak_mC c.s c.h0 (ak_T c.s + 2) f.pc = ((27 : Nat) : Int)) (h3 : ak_mC c.s c.h0 (ak_T c.s + 3) f.pc = (slot : Int)) (h116 : ak_mM c.us c.m0 116 y = (slot : Int)) (hsl : slot < 12) (K : ak_K (ak_mC c.s c.h0) (ak_mM c.us c.m0) (ak_T c.s) c.us (g.mt f.r + 40 * g.lv f.r) r (f.pc + 1) []) : ak_OUT e d ρ1 ρ2 ρ c (ak_Phi hm (f :: fs)) W hc hm := by
  obtain ⟨hs, l60, fU, f5, φ5, sp0, F, L, J0, V, K0, ⟨l1, l2, l3⟩, ⟨d2, d3, d4, d5, o1, o2⟩, ⟨e1, e2, e3, e4, e5, o3⟩, ⟨x1, x2, x3, x4⟩, d72, lt1⟩ := ak_tp w
  obtain ⟨t1, t2, t3, t4, t5, t6⟩ := ak_tj w fj
  obtain ⟨b1, b2, b3, b4⟩ := ak_cd sp0 h2 (by decide)
  obtain ⟨y18, yq⟩ := ak_nde (q0 := 114) (y := y) sp0 (by omega) (by rw [h114]; decide)
  have yO : ∀ q, 114 ≤ q → q ≤ 120 → (ak_poM hm (ak_nJ fs + 1 + r.length)).1 q y = ak_mM c.us c.m0 q y := fun q a b => (ak_poM_o (by omega)).trans (yq q a b)
  obtain ⟨hcS, hmS, eM, ⟨SO, S12, S72, S10, S2⟩, ⟨MO, M127, M132, M2⟩, ⟨vk, s1, s2, p4, p5, p127, pT⟩, C27, C29, C31, C32, C33, C35⟩ := ak_dn1 (e := e) (d := d) (ρ1 := ρ1) (ρ2 := ρ2) w fj hk fv v1 h2 (by decide)
  have job : ∀ hm', ak_goV e (d + 40) ρ 293 [am_r 110, am_i j.n] (ak_poM hm (ak_nJ fs + 1 + r.length)) hm' → ak_mgo e (d + 40) ρ hm hm' := fun hm' h => ak_job t1 (by omega) (by omega) t3 t4 (fun z => absurd z (by omega)) (fun z => absurd z (by omega)) (fun z => absurd z (by omega)) (fun _ => h) (by omega)
  have spS : ak_SPP c g (ak_rms (f :: fs)) hcS hmS := ak_SP_fr sp0 (fun q k h => ⟨SO q k (by unfold ak_stC at h; omega) (by unfold ak_stC at h; omega), by rw [S2]⟩) (fun q k h => ⟨MO q k (fun z => h.1 ⟨z.1, by omega⟩), by rw [M2]⟩)
  have P102 : (ak_poM hm (ak_nJ fs + 1 + r.length)).1 110 102 = (g.φ f.r : Int) := (ak_poM_o (by omega)).trans e1
  refine ak_dn_word (slot := slot) (r' := f.r) w fj hk fv v1 (by omega) SO S72 S10 S2 MO M127 M132 M2 spS vk fU hsl K (fun Q X q => C27 Q X rfl ?_) (job _ (fun Q X q => ?_))
  · rw [h3, show (slot : Int) = ((16 * 0 + slot : Nat) : Int) by omega]
    exact am_s146 (d := d + 36) (hops := 0) f5 (by decide) hsl (fun k hk => absurd hk (Nat.not_lt_zero _)) f5 q
  · rw [hy]
    refine ak_293_20 (d := d + 39) (T0 := ak_nT fs) (s := v.2.1) (x := v.2.2) y18 ((yO 114 (by omega) (by omega)).trans h114) p127 pT p4 p5 ?_
    rw [P102, yO 116 (by omega) (by omega), h116, ← eM]
    exact am_s274 (d := d + 38) φ5 hsl q
/-- a word further out -/
theorem ak_dn_21 (w : ak_RN c g (f :: fs) hc hm) (fj : f.js = j :: r) (hk : j.k = 4) (hy : j.n = (y : Int)) (fv : f.vs = [v]) (v1 : v.1 = true) (h114 : ak_mM c.us c.m0 114 y = 21) (h2 : ak_mC c.s c.h0 (ak_T c.s + 2) f.pc = ((27 : Nat) : Int)) (h3 : ak_mC c.s c.h0 (ak_T c.s + 3) f.pc = (hops : Int) * 16 + (slot : Int)) (h116 : ak_mM c.us c.m0 116 y = (hops : Int)) (h117 : ak_mM c.us c.m0 117 y = (slot : Int)) (hsl : slot < 12) (hh : hops ≤ g.lv f.r) (K : ak_K (ak_mC c.s c.h0) (ak_mM c.us c.m0) (ak_T c.s) c.us (g.mt f.r + 40 * g.lv f.r) r (f.pc + 1) []) : ak_OUT e d ρ1 ρ2 ρ c (ak_Phi hm (f :: fs)) W hc hm := by
  obtain ⟨hs, l60, fU, f5, φ5, sp0, F, L, J0, V, K0, ⟨l1, l2, l3⟩, ⟨d2, d3, d4, d5, o1, o2⟩, ⟨e1, e2, e3, e4, e5, o3⟩, ⟨x1, x2, x3, x4⟩, d72, lt1⟩ := ak_tp w
  obtain ⟨t1, t2, t3, t4, t5, t6⟩ := ak_tj w fj
  obtain ⟨b1, b2, b3, b4⟩ := ak_cd sp0 h2 (by decide)
  obtain ⟨y18, yq⟩ := ak_nde (q0 := 114) (y := y) sp0 (by omega) (by rw [h114]; decide)
  have yO : ∀ q, 114 ≤ q → q ≤ 120 → (ak_poM hm (ak_nJ fs + 1 + r.length)).1 q y = ak_mM c.us c.m0 q y := fun q a b => (ak_poM_o (by omega)).trans (yq q a b)
  obtain ⟨hcS, hmS, eM, ⟨SO, S12, S72, S10, S2⟩, ⟨MO, M127, M132, M2⟩, ⟨vk, s1, s2, p4, p5, p127, pT⟩, C27, C29, C31, C32, C33, C35⟩ := ak_dn1 (e := e) (d := d) (ρ1 := ρ1) (ρ2 := ρ2) w fj hk fv v1 h2 (by decide)
  have job : ∀ hm', ak_goV e (d + 40) ρ 293 [am_r 110, am_i j.n] (ak_poM hm (ak_nJ fs + 1 + r.length)) hm' → ak_mgo e (d + 40) ρ hm hm' := fun hm' h => ak_job t1 (by omega) (by omega) t3 t4 (fun z => absurd z (by omega)) (fun z => absurd z (by omega)) (fun z => absurd z (by omega)) (fun _ => h) (by omega)
  have spS : ak_SPP c g (ak_rms (f :: fs)) hcS hmS := ak_SP_fr sp0 (fun q k h => ⟨SO q k (by unfold ak_stC at h; omega) (by unfold ak_stC at h; omega), by rw [S2]⟩) (fun q k h => ⟨MO q k (fun z => h.1 ⟨z.1, by omega⟩), by rw [M2]⟩)
  have P102 : (ak_poM hm (ak_nJ fs + 1 + r.length)).1 110 102 = (g.φ f.r : Int) := (ak_poM_o (by omega)).trans e1
  obtain ⟨q1, q2, q3⟩ := ak_hops sp0 hops f.r fU hh
  have fre := sp0.2.2.2.2.1.1
  have lv25 : hops < 25 := by omega
  have r5' : ak_out hc hops f.r < 560 := (fre.2.2.2.1 _).mp (List.mem_append_right _ q1)
  have φ5' : g.φ (ak_out hc hops f.r) < 564 := fre.2.2.2.2.1 _ q1
  have eo : ∀ k, ak_out hcS k f.r = ak_out hc k f.r := fun k => ak_out_fr (fun i => SO _ _ (by omega) (by omega)) k f.r
  have g116 : hmS.1 116 y = (hops : Int) := (MO _ _ (by omega)).trans ((yq 116 (by omega) (by omega)).trans h116)
  have g117 : hmS.1 117 y = (slot : Int) := (MO _ _ (by omega)).trans ((yq 117 (by omega) (by omega)).trans h117)
  refine ak_dn_word (slot := slot) (r' := ak_out hc hops f.r) w fj hk fv v1 (by omega) SO S72 S10 S2 MO M127 M132 M2 spS vk q1 hsl K (fun Q X q => C27 Q X rfl ?_) (job _ (fun Q X q => ?_))
  · rw [h3, show (hops : Int) * 16 + (slot : Int) = ((16 * hops + slot : Nat) : Int) by omega]
    refine am_s146 (d := d + 36) (hops := hops) f5 lv25 hsl (fun k hk => ?_) (by rw [eo]; exact r5') (by rw [eo]; exact q)
    obtain ⟨a1, a2, _⟩ := q3 k hk
    rw [eo, SO 52 _ (by omega) (by omega)]
    exact ⟨a1, a2⟩
  · rw [hy]
    refine ak_293_21 (d := d + 39) (T0 := ak_nT fs) (s := v.2.1) (x := v.2.2) y18 ((yO 114 (by omega) (by omega)).trans h114) p127 pT p4 p5 ?_
    rw [P102, ← eM]
    have yb : 0 ≤ (y : Int) ∧ (y : Int) < 18000 := by omega
    have lp : ∀ (b k : Nat), k + b = hops → ak_W0 e 1 (d + 39) 293 ρ 152 [some (am_r 110), some (am_i (y : Int)), some (am_i v.2.1), some (am_l v.2.2), none, some (am_i (g.φ (ak_out hc k f.r) : Int)), some (am_i (k : Int))] [] hmS (ak_qv Q X) := by
      intro b
      induction b with
      | zero =>
        intro k hk
        have : k = hops := by omega
        subst this
        refine am_k293_152 ?_
        rw [ak_natn, g116, g117]
        exact ⟨yb, fun _ => ⟨yb, am_s274 (d := d + 38) φ5' hsl q⟩, fun z => absurd z (by omega)⟩
      | succ b ih =>
        intro k hk
        obtain ⟨a1, a2, a3, a4⟩ := q3 k (by omega)
        refine am_k293_152 ?_
        rw [ak_natn, g116, ak_natn, MO 177 _ (by omega), a4, ak_wj (show k < 1000000 by omega)]
        exact ⟨yb, fun z => absurd z (by omega), fun _ => ⟨by omega, ih (k + 1) (by omega)⟩⟩
    exact lp hops 0 (by omega)
/-- a value is written -/
theorem ak_dn_33 (w : ak_RN c g (f :: fs) hc hm) (fj : f.js = j :: r) (hk : j.k = 4) (hy : j.n = (y : Int)) (fv : f.vs = [v]) (v1 : v.1 = true) (h114 : ak_mM c.us c.m0 114 y = 33) (h2 : ak_mC c.s c.h0 (ak_T c.s + 2) f.pc = ((29 : Nat) : Int)) (cnt3 : hm.1 110 110 < 1000000000) (K : ak_K (ak_mC c.s c.h0) (ak_mM c.us c.m0) (ak_T c.s) c.us (g.mt f.r + 40 * g.lv f.r) r (f.pc + 1) []) : ak_OUT e d ρ1 ρ2 ρ c (ak_Phi hm (f :: fs)) W hc hm := by
  obtain ⟨hs, l60, fU, f5, φ5, sp0, F, L, J0, V, K0, ⟨l1, l2, l3⟩, ⟨d2, d3, d4, d5, o1, o2⟩, ⟨e1, e2, e3, e4, e5, o3⟩, ⟨x1, x2, x3, x4⟩, d72, lt1⟩ := ak_tp w
  obtain ⟨t1, t2, t3, t4, t5, t6⟩ := ak_tj w fj
  obtain ⟨b1, b2, b3, b4⟩ := ak_cd sp0 h2 (by decide)
  obtain ⟨y18, yq⟩ := ak_nde (q0 := 114) (y := y) sp0 (by omega) (by rw [h114]; decide)
  have yO : ∀ q, 114 ≤ q → q ≤ 120 → (ak_poM hm (ak_nJ fs + 1 + r.length)).1 q y = ak_mM c.us c.m0 q y := fun q a b => (ak_poM_o (by omega)).trans (yq q a b)
  obtain ⟨hcS, hmS, eM, ⟨SO, S12, S72, S10, S2⟩, ⟨MO, M127, M132, M2⟩, ⟨vk, s1, s2, p4, p5, p127, pT⟩, C27, C29, C31, C32, C33, C35⟩ := ak_dn1 (e := e) (d := d) (ρ1 := ρ1) (ρ2 := ρ2) w fj hk fv v1 h2 (by decide)
  have job : ∀ hm', ak_goV e (d + 40) ρ 293 [am_r 110, am_i j.n] (ak_poM hm (ak_nJ fs + 1 + r.length)) hm' → ak_mgo e (d + 40) ρ hm hm' := fun hm' h => ak_job t1 (by omega) (by omega) t3 t4 (fun z => absurd z (by omega)) (fun z => absurd z (by omega)) (fun z => absurd z (by omega)) (fun _ => h) (by omega)
  have spS : ak_SPP c g (ak_rms (f :: fs)) hcS hmS := ak_SP_fr sp0 (fun q k h => ⟨SO q k (by unfold ak_stC at h; omega) (by unfold ak_stC at h; omega), by rw [S2]⟩) (fun q k h => ⟨MO q k (fun z => h.1 ⟨z.1, by omega⟩), by rw [M2]⟩)
  have P102 : (ak_poM hm (ak_nJ fs + 1 + r.length)).1 110 102 = (g.φ f.r : Int) := (ak_poM_o (by omega)).trans e1
  have jn := spS.2.2.2.2.2.1
  have jn0 := sp0.2.2.2.2.2.1
  obtain ⟨n, en⟩ := Int.eq_ofNat_of_zero_le jn0.2.1.2.2.1.1
  have enS : hmS.1 110 110 = (n : Int) := (MO _ _ (by omega)).trans en
  have enC : hcS.2.1 64 5 = (n : Int) := jn.1.2.2.2.2.2.1.trans enS
  obtain ⟨hmF, NO, NJ, N22, n110, nv, go⟩ : ∃ hmF : ak_S, (∀ q k, ¬ (q = 110 ∧ k = 110) → q ≠ 187 ∨ k ≠ n → hmF.1 q k = hmS.1 q k) ∧ (∀ q k, ¬ (q = 188 ∧ k = n) → hmF.2.1 q k = hmS.2.1 q k) ∧ hmF.2.2 = hmS.2.2 ∧ hmF.1 110 110 = ((n + 1 : Nat) : Int) ∧ (n < 300 → hmF.1 187 n = v.2.1 ∧ hmF.2.1 188 n = v.2.2) ∧ ∀ (Q : ak_S → Prop) (X : Nat → ak_S → Prop), Q hmF → ak_MV e 1 (d + 40) ρ 293 [am_r 110, am_i (y : Int)] (ak_poM hm (ak_nJ fs + 1 + r.length)) Q X := by
    by_cases h3 : 300 ≤ n
    · exact ⟨(am_up hmS.1 110 110 ((n + 1 : Nat) : Int), hmS.2), fun q k a _ => ak_up_out1 a, fun _ _ _ => rfl, rfl, ak_up_at1, fun z => absurd z (by omega), fun Q X q => ak_293_33 (d := d + 39) (T0 := ak_nT fs) (s := v.2.1) (x := v.2.2) (n := n) y18 ((yO 114 (by omega) (by omega)).trans h114) p127 pT p4 p5 ((ak_poM_o (by omega)).trans en) (by omega) (fun _ => by rw [eM] at q; exact q) (fun z => absurd z (by omega))⟩
    · refine ⟨(am_up (am_up hmS.1 187 n v.2.1) 110 110 ((n + 1 : Nat) : Int), am_up hmS.2.1 188 n v.2.2, hmS.2.2), fun q k a b => (ak_up_out1 a).trans (ak_up_out (by omega)), fun q k a => ak_up_out a, rfl, ak_up_at1, fun _ => ⟨(ak_up_out1 (by omega)).trans ak_up_at, show am_up hmS.2.1 188 n v.2.2 188 n = _ from ak_up_at⟩, fun Q X q => ak_293_33 (d := d + 39) (T0 := ak_nT fs) (s := v.2.1) (x := v.2.2) (n := n) y18 ((yO 114 (by omega) (by omega)).trans h114) p127 pT p4 p5 ((ak_poM_o (by omega)).trans en) (by omega) (fun z => absurd z (by omega)) (fun _ => by rw [eM] at q; exact q)⟩
  have CO : ∀ q k, (ak_nwr hcS n v.2.1 v.2.2).1 q k = hcS.1 q k := fun _ _ => rfl
  have CJ : ∀ q k, ¬ (q = 64 ∧ k = 5) → q ≠ 65 → (ak_nwr hcS n v.2.1 v.2.2).2.1 q k = hcS.2.1 q k := fun q k a b => by
    unfold ak_nwr
    refine (ak_up_out a).trans ?_
    split
    · exact (ak_up_out (by omega)).trans (ak_up_out (by omega))
    · rfl
  have C22 : (ak_nwr hcS n v.2.1 v.2.2).2.2 = hcS.2.2 := rfl
  have jnF : ak_jn (ak_nwr hcS n v.2.1 v.2.2) hmF := ak_jn_w jn enS (by omega) n110 nv (fun q k a b => ⟨NO q k (by omega) (by omega), NJ q k (by omega)⟩)
  have go65 : ∀ (Q : ak_S → Prop) (X : Nat → ak_S → Prop), Q (ak_nwr hcS n v.2.1 v.2.2) → ak_MV e 0 (d + 38) (ak_rc c.s ρ1 ρ2) 65 [am_r 63, am_i v.2.1, am_l v.2.2] hcS Q X := fun Q X q => am_s65 (d := d + 37) (n := n) enC (by omega) q
  generalize ak_nwr hcS n v.2.1 v.2.2 = hcF at CO CJ C22 jnF go65
  have C : ∀ q k, ¬ (q = 32 ∧ (k = 10 ∨ k = 12)) → ¬ (q = 72 ∧ k = fs.length) → hcF.1 q k = hc.1 q k := fun q k a b => (CO q k).trans (SO q k a b)
  have CJ2 : ∀ q k, ¬ (q = 64 ∧ k = 5) → q ≠ 65 → hcF.2.1 q k = hc.2.1 q k := fun q k a b => (CJ q k a b).trans (by rw [S2])
  have M : ∀ q k, ¬ (q = 110 ∧ (k = 110 ∨ k = 127 ∨ k = 132)) → q ≠ 187 → hmF.1 q k = hm.1 q k := fun q k a b => (NO q k (by omega) (Or.inl b)).trans (MO q k (by omega))
  have MJ : ∀ q k, q ≠ 188 → hmF.2.1 q k = hm.2.1 q k := fun q k a => (NJ q k (by omega)).trans (by rw [M2])
  have spF : ak_SPP c g (ak_rms (f :: fs)) hcF hmF := ak_SP_re spS jnF (fun q k a b => ⟨CO q k, CJ q k (by omega) (by omega)⟩) (fun q k a b c' => ⟨NO q k (by omega) (Or.inl (by omega)), NJ q k (by omega)⟩)
  refine ak_red (u := [v]) (l := []) (js := r) (pc' := f.pc + 1) w fj (by omega) (by omega) (by rw [fv]; rfl) (by omega) spF (ak_gle_refl w) ⟨fun q k h => C q k (by omega) (by omega), fun q k h => CJ2 q k (by omega) (by omega), fun y _ => ⟨C _ _ (by omega) (by omega), C _ _ (by omega) (by omega), CJ2 _ _ (by omega) (by omega)⟩⟩ ⟨fun q k h => M q k (by omega) (by omega), fun q k h => MJ q k (by omega)⟩ ((CO _ _).trans S72) ((CO _ _).trans S10) ((C _ _ (by omega) (by omega)).trans o1) ((C _ _ (by omega) (by omega)).trans o2) ((M _ _ (by omega) (by omega)).trans o3) ((NO _ _ (by omega) (by omega)).trans M127) ((NO _ _ (by omega) (by omega)).trans M132)
    (ak_JS_fr (Nat.le_refl _) (Nat.le_refl _) (fun _ _ => rfl) t6 (fun q k a b _ => ⟨C q k (by omega) (by omega), CJ2 q k (by omega) (by omega)⟩) (fun q k a b _ => M q k (by omega) (by omega)) (fun q k a b _ => ⟨M q k (by omega) (by omega), MJ q k (by omega)⟩)) ⟨rfl, rfl, rfl⟩ K (by omega) (fun Q X q => C29 Q X rfl (go65 _ _ q)) (job _ (fun Q X q => by rw [hy]; exact go Q X q)) (by rw [M _ _ (by omega) (by omega)]; exact Int.le_refl _) (fun q a b => ?_) (C22.trans (by rw [S2]))
  rcases (show q = 109 ∨ q = 110 ∨ q = 111 by omega) with rfl | rfl | rfl
  · rw [M _ _ (by omega) (by omega)]; omega
  · rw [n110, en]; omega
  · rw [M _ _ (by omega) (by omega)]; omega
/-- it fails with its own kind -/
theorem ak_dn_34 (w : ak_RN c g (f :: fs) hc hm) (fj : f.js = j :: r) (hk : j.k = 4) (hy : j.n = (y : Int)) (fv : f.vs = [v]) (v1 : v.1 = true) (h114 : ak_mM c.us c.m0 114 y = 34) (h2 : ak_mC c.s c.h0 (ak_T c.s + 2) f.pc = ((35 : Nat) : Int)) (h3 : ak_mC c.s c.h0 (ak_T c.s + 3) f.pc = ak_mM c.us c.m0 116 y) (cnt : hm.1 110 109 < 1000000000) : ak_OUT e d ρ1 ρ2 ρ c (ak_Phi hm (f :: fs)) W hc hm := by
  obtain ⟨hs, l60, fU, f5, φ5, sp0, F, L, J0, V, K0, ⟨l1, l2, l3⟩, ⟨d2, d3, d4, d5, o1, o2⟩, ⟨e1, e2, e3, e4, e5, o3⟩, ⟨x1, x2, x3, x4⟩, d72, lt1⟩ := ak_tp w
  obtain ⟨t1, t2, t3, t4, t5, t6⟩ := ak_tj w fj
  obtain ⟨b1, b2, b3, b4⟩ := ak_cd sp0 h2 (by decide)
  obtain ⟨y18, yq⟩ := ak_nde (q0 := 114) (y := y) sp0 (by omega) (by rw [h114]; decide)
  have yO : ∀ q, 114 ≤ q → q ≤ 120 → (ak_poM hm (ak_nJ fs + 1 + r.length)).1 q y = ak_mM c.us c.m0 q y := fun q a b => (ak_poM_o (by omega)).trans (yq q a b)
  obtain ⟨hcS, hmS, eM, ⟨SO, S12, S72, S10, S2⟩, ⟨MO, M127, M132, M2⟩, ⟨vk, s1, s2, p4, p5, p127, pT⟩, C27, C29, C31, C32, C33, C35⟩ := ak_dn1 (e := e) (d := d) (ρ1 := ρ1) (ρ2 := ρ2) w fj hk fv v1 h2 (by decide)
  have job : ∀ hm', ak_goV e (d + 40) ρ 293 [am_r 110, am_i j.n] (ak_poM hm (ak_nJ fs + 1 + r.length)) hm' → ak_mgo e (d + 40) ρ hm hm' := fun hm' h => ak_job t1 (by omega) (by omega) t3 t4 (fun z => absurd z (by omega)) (fun z => absurd z (by omega)) (fun z => absurd z (by omega)) (fun _ => h) (by omega)
  have spS : ak_SPP c g (ak_rms (f :: fs)) hcS hmS := ak_SP_fr sp0 (fun q k h => ⟨SO q k (by unfold ak_stC at h; omega) (by unfold ak_stC at h; omega), by rw [S2]⟩) (fun q k h => ⟨MO q k (fun z => h.1 ⟨z.1, by omega⟩), by rw [M2]⟩)
  have P102 : (ak_poM hm (ak_nJ fs + 1 + r.length)).1 110 102 = (g.φ f.r : Int) := (ak_poM_o (by omega)).trans e1
  exact ak_OUTf (kd := ak_mM c.us c.m0 116 y) (s := v.2.1) (x := v.2.2) w fj (by omega) (by omega) spS (ak_gle_refl w) ⟨fun q k h => SO q k (by omega) (by omega), fun _ _ _ => by rw [S2], fun y hy => ⟨SO _ _ (by omega) (by omega), SO _ _ (by omega) (by omega), by rw [S2]⟩⟩ ⟨fun q k h => MO q k (by omega), fun q k h => by rw [M2]⟩ ((SO _ _ (by omega) (by omega)).trans o1) S12 M132 ((MO _ _ (by omega)).trans o3) vk cnt (by rw [MO _ _ (by omega)]; exact Int.le_refl _) (fun q a b => MO 110 q (by omega)) (by rw [S2])
    (fun hcX h Q X q => C35 Q X rfl (by rw [h3]; exact ak_MV_deep (show d + 30 ≤ d + 38 by omega) (h _ _ q))) (fun hm' h => job _ (fun Q X q => by
      rw [hy]
      refine ak_293_34 (d := d + 39) (T0 := ak_nT fs) (s := v.2.1) (x := v.2.2) y18 ((yO 114 (by omega) (by omega)).trans h114) p127 pT p4 p5 ?_
      rw [yO 116 (by omega) (by omega), ← eM]
      exact ak_MV_deep (show d + 25 ≤ d + 39 by omega) (h _ _ q)))
end DON2
