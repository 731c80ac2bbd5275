/-! the run: a message to what is above -/
section ABV
variable {e : ak_X3} {d ρ1 ρ2 P W y : Nat} {ρ : List Nat} {c : ak_Cx} {g g' : ak_Gh} {fs fs' : List ak_Fr} {f : ak_Fr} {V : List Nat} {h hc hm hc' hm' hcS hmS hcX : ak_S} {j : ak_Jb} {l r js : List ak_Jb} {aw : List Bool} {s x kd : Int}
theorem ak_ex_abv {c1 n H H2 J j2 : Nat} (w : ak_RN c g (f :: fs) hc hm) (fj : f.js = j :: r) (hk : j.k = 1) (hy : j.n = (y : Int)) (hw : j.w = 2 * J) (h114 : ak_mM c.us c.m0 114 y = 8) (hj : j2 + 1 ≤ J) (h2 : n = 0 ∨ H2 + 4 ≤ H) (ho : ak_mC c.s c.h0 (ak_T c.s + 2) f.pc = 2) (h117 : ak_mM c.us c.m0 117 y = (n : Int)) (hn4 : n ≤ 4) (tt2 : ak_T3 (ak_mC c.s c.h0) (ak_mM c.us c.m0) (ak_T c.s) c.us 1 (ak_mM c.us c.m0 116 y) n ((g.mt f.r + 40 * g.lv f.r) + 1000 * H2) j2 (f.pc + 1) c1)
    (AF : ak_AF (ak_mC c.s c.h0) (ak_mM c.us c.m0) (ak_T c.s) c.us (ak_K (ak_mC c.s c.h0) (ak_mM c.us c.m0) (ak_T c.s) c.us (g.mt f.r + 40 * g.lv f.r) r) y c1 (List.replicate n true ++ false :: f.vs.map (fun v => v.1))) (hH0 : 1 ≤ H) (hH : f.vs.length + H ≤ 151) (hJ : r.length + J ≤ 6165) : ak_OUT e d ρ1 ρ2 ρ c (ak_Phi hm (f :: fs)) W hc hm := by
  have h77 : ak_mM c.us c.m0 114 y ≠ -77 := by omega
  obtain ⟨hs, l60, fU, f5, φ5, sp0, F, L, J0, V, K0, ⟨l1, l2, l3⟩, ⟨d2, d3, d4, d5, o1, o2⟩, ⟨e1, e2, e3, e4, e5, o3⟩, ⟨x1, x2, x3, x4⟩, d72, lt1⟩ := ak_tp w
  obtain ⟨t1, t2, t3, t4, t5, t6⟩ := ak_tj w fj
  obtain ⟨g1, g2, g3⟩ := ak_gc_of (j := j) (r := r) (by omega)
  obtain ⟨b1', b2', b3', b4'⟩ := ak_cd sp0 ho (by decide)
  obtain ⟨y18, yq⟩ := ak_nde (q0 := 114) sp0 (by omega) h77
  have tb : 0 ≤ (fs.length : Int) ∧ (fs.length : Int) < 60 := by omega
  obtain ⟨_, ⟨hU, h53, h178, hlv⟩, _⟩ := sp0.2.2.2.2.1.2.1 _ fU
  obtain ⟨hv1, hv2, hv3, _⟩ := (sp0.2.2.2.2.1.2.1 _ hU).2.2.2.2.2.2 hlv
  have h5 : g.hr f.r < 560 := (sp0.2.2.2.2.1.1.2.2.2.1 _).mp (List.mem_append_right _ hU)
  have yO : ∀ q, 114 ≤ q → q ≤ 120 → (ak_poM hm (ak_nJ fs + 1 + r.length)).1 q y = ak_mM c.us c.m0 q y := fun q a b => (ak_poM_o (by omega)).trans (yq q a b)
  have yb : 0 ≤ (y : Int) ∧ (y : Int) < 18000 := by omega
  have P : ∀ q i, ¬ (q = 110 ∧ i = 132) → (ak_poM hm (ak_nJ fs + 1 + r.length)).1 q i = hm.1 q i := fun q i a => ak_poM_o a
  have Pv : (ak_poM hm (ak_nJ fs + 1 + r.length)).1 110 132 = ((ak_nJ fs + 1 + r.length : Nat) : Int) := ak_poM_v
  have P2 : (ak_poM hm (ak_nJ fs + 1 + r.length)).2 = hm.2 := rfl
  obtain ⟨l, a1, a2, a3, a4, a5, a6⟩ : ∃ l : List ak_Jb, l.length = n ∧ l.length ≤ j2 ∧ ak_chn (ak_mM c.us c.m0) (ak_mM c.us c.m0 116 y) l ∧ (∀ jb, jb ∈ l → jb.k = 1 ∧ jb.a = 0 ∧ jb.b = 0) ∧ ak_wgt (l ++ (⟨3, (y : Int), 0, 0, 0⟩ :: r)) ≤ 2 * j2 + ak_wgt ((⟨3, (y : Int), 0, 0, 0⟩ : ak_Jb) :: r) ∧ ak_K (ak_mC c.s c.h0) (ak_mM c.us c.m0) (ak_T c.s) c.us (g.mt f.r + 40 * g.lv f.r) (l ++ (⟨3, (y : Int), 0, 0, 0⟩ :: r)) (f.pc + 1) (false :: f.vs.map (fun v => v.1)) := by
    rcases h2 with h0 | h2
    · subst h0
      rcases ak_T3_open tt2 with ⟨_, _, hac⟩ | ⟨_, k', _, _, _, _, hk', _⟩
      · subst hac
        exact ⟨[], rfl, Nat.zero_le _, fun i jb h => (by cases h), fun jb h => (by cases h), Nat.le_add_left _ _, ak_K_mk (j := ⟨3, (y : Int), 0, 0, 0⟩) ⟨y, rfl, AF⟩⟩
      · omega
    · exact ak_args (rest := ⟨3, (y : Int), 0, 0, 0⟩ :: r) lt1 n _ j2 (f.pc + 1) c1 _ tt2 (ak_K_mk (j := ⟨3, (y : Int), 0, 0, 0⟩) ⟨y, rfl, AF⟩) (by rw [List.length_cons, List.length_map]; omega) (by rw [List.length_cons]; omega)
  obtain ⟨b1, b2, b3⟩ := ak_gc_app (r := ⟨3, (y : Int), 0, 0, 0⟩ :: r) (fun jb h => (a4 jb h).1)
  have JA := ak_JS_jb (k := 3) (w := 0) (jn := (y : Int)) (ja := 0) (jb := 0) (ak_JS_fr (Nat.le_refl _) (Nat.le_refl _) (fun _ _ => rfl) t6 (fun _ _ _ _ _ => ⟨rfl, rfl⟩) (fun q k a b _ => P q k (by omega)) (fun q k a b _ => ⟨P q k (by omega), by rw [P2]⟩)) (by decide)
  have JL := ak_JS_ls JA a4
  rw [List.length_cons] at JL
  have LO := fun q i a b => ak_lsM_o (h := ak_jbM (ak_poM hm (ak_nJ fs + 1 + r.length)) (ak_nJ fs + 1 + r.length) 3 (y : Int) 0 0) (n := ak_nJ fs + 1 + (r.length + 1)) (l := l) (q := q) (i := i) a b
  have Lv := ak_lsM_v (h := ak_jbM (ak_poM hm (ak_nJ fs + 1 + r.length)) (ak_nJ fs + 1 + r.length) 3 (y : Int) 0 0) (n := ak_nJ fs + 1 + (r.length + 1)) ak_jb_132 (l := l)
  have L2 : (ak_lsM (ak_jbM (ak_poM hm (ak_nJ fs + 1 + r.length)) (ak_nJ fs + 1 + r.length) 3 (y : Int) 0 0) (ak_nJ fs + 1 + (r.length + 1)) l).2 = hm.2 := ak_lsM_2
  have gM : ak_goV e (d + 40) ρ 282 [am_r 110, am_i j.n] (ak_poM hm (ak_nJ fs + 1 + r.length)) (ak_lsM (ak_jbM (ak_poM hm (ak_nJ fs + 1 + r.length)) (ak_nJ fs + 1 + r.length) 3 (y : Int) 0 0) (ak_nJ fs + 1 + (r.length + 1)) l) := fun Q X q => by
    rw [hy]
    refine ak_MV_of (Nat.le_of_ble_eq_true rfl) (am_k282_0 ?_)
    rw [ak_natn, yO 114 (by omega) (by omega), h114]
    refine ⟨yb, trivial, fun z => absurd z (by omega), fun z => absurd z (by omega), fun z => absurd z (by omega), fun z => absurd z (by omega), fun z => absurd z (by omega), fun z => absurd z (by omega), fun z => absurd z (by omega), fun z => absurd z (by omega), fun _ => ?_, fun z => absurd z (by omega), fun z => absurd z (by omega), fun z => absurd z (by omega), fun z => absurd z (by omega), fun z => absurd z (by omega), trivial⟩
    refine am_s266 (d := d + 38) (n := ak_nJ fs + 1 + r.length) Pv (by omega) ⟨yb, yb, ?_⟩
    rw [ak_jb_out (by omega) (by omega), yO 116 (by omega) (by omega), ak_jb_out (by omega) (by omega), yO 117 (by omega) (by omega)]
    refine am_s281 (d := d + 37) (l := l) (us := c.us) (m0 := c.m0) (n := ak_nJ fs + 1 + (r.length + 1)) ak_jb_132 (by omega) (h117.trans (by rw [a1])) (by omega) a3 (fun y' h => ?_) q
    obtain ⟨z1, z2⟩ := ak_nde (q0 := 115) sp0 (by omega) h
    exact ⟨z1, fun q a b => (ak_jb_out (by omega) (by omega)).trans ((P _ _ (by omega)).trans (z2 q a b))⟩
  have MO : ∀ q i, ¬ (q = 110 ∧ i = 132) → ¬ (201 ≤ q ∧ q ≤ 204 ∧ ak_nJ fs + 1 + r.length ≤ i) → (ak_lsM (ak_jbM (ak_poM hm (ak_nJ fs + 1 + r.length)) (ak_nJ fs + 1 + r.length) 3 (y : Int) 0 0) (ak_nJ fs + 1 + (r.length + 1)) l).1 q i = hm.1 q i := fun q i a b => (LO q i a (by omega)).trans ((ak_jb_out a (by omega)).trans (P q i a))
  have el : ak_nJ fs + 1 + (l ++ (⟨3, (y : Int), 0, 0, 0⟩ :: r)).length = ak_nJ fs + 1 + (r.length + 1) + l.length := by rw [List.length_append, List.length_cons]; omega
  generalize ak_lsM (ak_jbM (ak_poM hm (ak_nJ fs + 1 + r.length)) (ak_nJ fs + 1 + r.length) 3 (y : Int) 0 0) (ak_nJ fs + 1 + (r.length + 1)) l = hmF at JL Lv L2 gM MO
  -- the one pushes itself
  have A : ∀ q k, ¬ (q = 32 ∧ k = 12) → ¬ (q = 72 ∧ k = fs.length) → (ak_atC hc fs.length f.pc).1 q k = hc.1 q k := fun q k a b => ak_atC_o a b
  have gC : ak_cgo e (d + 40) c.s ρ1 ρ2 72 [am_r 32] hc (ak_psC (ak_atC hc fs.length f.pc) (ak_nV fs + f.vs.length) (hc.1 56 (g.hr f.r)) (hc.2.1 57 (g.hr f.r))) := fun Q X q => by
    refine ak_o72 (d := d + 39) (o := 2) w ho (fun _ => ?_) (fun z => absurd z (by decide)) (fun z => absurd z (by decide)) (fun z => absurd z (by decide)) (fun z => absurd z (by decide)) (fun z => absurd z (by decide))
    refine ak_MV_of (Nat.le_of_ble_eq_true rfl) (am_k78_0 hs ?_)
    rw [ak_atC_12, ak_natn]
    refine ⟨tb, trivial, fun z => absurd z (by omega), fun z => absurd z (by omega), fun z => absurd z (by omega), fun _ => ?_, fun z => absurd z (by omega), fun z => absurd z (by omega), fun z => absurd z (by omega), fun z => absurd z (by omega), trivial⟩
    rw [ak_atC_o (q := 70) (by omega) (by omega), F.1.2.1, ak_natn, ak_atC_o (q := 53) (by omega) (by omega), h53, ak_natn, ak_atC_o (q := 56) (by omega) (by omega), show (ak_atC hc fs.length f.pc).2.1 57 (g.hr f.r) = hc.2.1 57 (g.hr f.r) from rfl]
    exact ⟨by omega, by omega, by omega, by omega, am_s73 (d := d + 37) hs ((A _ _ (by omega) (by omega)).trans d5) (by omega) q⟩
  have PO : ∀ q k, ¬ (q = 32 ∧ (k = 10 ∨ k = 12)) → ¬ (q = 72 ∧ k = fs.length) → ¬ (q = 108 ∧ k = ak_nV fs + f.vs.length) → (ak_psC (ak_atC hc fs.length f.pc) (ak_nV fs + f.vs.length) (hc.1 56 (g.hr f.r)) (hc.2.1 57 (g.hr f.r))).1 q k = hc.1 q k := fun q k a b z => (ak_psC_o z (by omega)).trans (A q k (by omega) b)
  have P72 : (ak_psC (ak_atC hc fs.length f.pc) (ak_nV fs + f.vs.length) (hc.1 56 (g.hr f.r)) (hc.2.1 57 (g.hr f.r))).1 72 fs.length = ((f.pc + 1 : Nat) : Int) := (ak_psC_o (by omega) (by omega)).trans ak_atC_72
  have PJ : ∀ q k, ¬ (q = 109 ∧ k = ak_nV fs + f.vs.length) → (ak_psC (ak_atC hc fs.length f.pc) (ak_nV fs + f.vs.length) (hc.1 56 (g.hr f.r)) (hc.2.1 57 (g.hr f.r))).2.1 q k = hc.2.1 q k := fun q k z => ak_psC_J z
  have P22 : (ak_psC (ak_atC hc fs.length f.pc) (ak_nV fs + f.vs.length) (hc.1 56 (g.hr f.r)) (hc.2.1 57 (g.hr f.r))).2.2 = hc.2.2 := rfl
  obtain ⟨p1, p2, p3⟩ := ak_psC_v (hc := ak_atC hc fs.length f.pc) (n := ak_nV fs + f.vs.length) (s := hc.1 56 (g.hr f.r)) (x := hc.2.1 57 (g.hr f.r))
  generalize ak_psC (ak_atC hc fs.length f.pc) (ak_nV fs + f.vs.length) (hc.1 56 (g.hr f.r)) (hc.2.1 57 (g.hr f.r)) = hcF at gC PO P72 PJ P22 p1 p2 p3
  have w' : ak_RN c g (⟨f.r, f.pc + 1, l ++ (⟨3, (y : Int), 0, 0, 0⟩ :: r), (false, hc.1 56 (g.hr f.r), hc.2.1 57 (g.hr f.r)) :: f.vs⟩ :: fs) hcF hmF := by
    refine ak_RN_top (a := ak_nV fs + f.vs.length) (j := ak_nJ fs + 1 + r.length) (v := ak_nT fs + ak_tc f.vs) w (ak_SP_fr sp0 (fun q k h => ⟨PO q k (by unfold ak_stC at h; omega) (by unfold ak_stC at h; omega) (by unfold ak_stC at h; omega), PJ q k (by unfold ak_stC at h; omega)⟩) (fun q k h => ⟨MO q k (fun z => h.1 ⟨z.1, by omega⟩) (by unfold ak_stM at h; omega), by rw [L2]⟩)) (ak_gle_refl w)
      ⟨fun q k h => PO q k (by omega) (by omega) (by omega), fun q k h => PJ q k (by omega), fun y _ => ⟨PO _ _ (by omega) (by omega) (by omega), PO _ _ (by omega) (by omega) (by omega), PJ _ _ (by omega)⟩⟩ ⟨fun q k h => MO q k (by omega) (by omega), fun q k h => by rw [L2]⟩ (Nat.le_add_right _ _) (Nat.le_add_right _ _) (Nat.le_add_right _ _) P72 (p3.trans ?_) ((PO _ _ (by omega) (by omega) (by omega)).trans o1) ((PO _ _ (by omega) (by omega) (by omega)).trans o2) ((MO _ _ (by omega) (by omega)).trans o3) ((MO _ _ (by omega) (by omega)).trans e3) (Lv.trans ?_) ?_ ?_ ?_ ?_ a6 ⟨?_, ?_⟩
    · rw [List.length_cons]; congr 1
    · rw [el]
    · rw [fj, g1, b1]; rfl
    · rw [fj, g2, b2]; rfl
    · exact ak_JS_fr (Nat.le_refl _) (Nat.le_refl _) (fun _ _ => rfl) JL (fun q k a b _ => ⟨PO q k (by omega) (by omega) (by omega), PJ q k (by omega)⟩) (fun _ _ _ _ _ => rfl) (fun _ _ _ _ _ => ⟨rfl, rfl⟩)
    · refine ⟨⟨p1, p2, hv3⟩, fun z => (by cases z), fun _ => ⟨(PO _ _ (by omega) (by omega) (by omega)).symm, (PJ _ _ (by omega)).symm⟩, ak_VS_fr (Nat.le_refl _) (Nat.le_refl _) ⟨PO _ _ (by omega) (by omega) (by omega), PJ _ _ (by omega)⟩ V (fun k h => ⟨PO 108 k (by omega) (by omega) (by omega), PJ 109 k (by omega)⟩) (fun k h => ⟨MO 199 k (by omega) (by omega), by rw [L2]⟩)⟩
    · rw [List.length_append, List.length_cons]; omega
    · rw [List.length_cons]; omega
  refine ak_OUT1 w w' (by simp) gC (ak_job t1 (by omega) (by omega) t3 t4 (fun _ => gM) (fun z => absurd z (by omega)) (fun z => absurd z (by omega)) (fun z => absurd z (by omega)) (by omega)) ?_ (by rw [MO 110 104 (by omega) (by omega)]; exact Int.le_refl _) P22 (fun q a b => by rw [MO 110 q (by omega) (by omega)]; omega)
  show ak_pcs fs + (9100 - (f.pc + 1)) + 9101 * ak_gw (l ++ (⟨3, (y : Int), 0, 0, 0⟩ :: r)) + 1 ≤ ak_pcs fs + (9100 - f.pc) + 9101 * ak_gw f.js
  rw [fj, g3, b3]
  show ak_pcs fs + (9100 - (f.pc + 1)) + 9101 * ak_gw r + 1 ≤ ak_pcs fs + (9100 - f.pc) + 9101 * ak_gw r
  omega
end ABV
