/-! the run: an expression is taken apart -/
/-- the nodes of a list -/
def ak_nn (M : Nat → Nat → Int) (x : Int) : Nat → Int
  | 0 => x
  | i + 1 => M 119 (ak_nn M x i).toNat
def ak_chn (M : Nat → Nat → Int) (x : Int) (l : List ak_Jb) : Prop := ∀ (i : Nat) (jb : ak_Jb), l[i]? = some jb → ∃ y : Nat, ak_nn M x i = (y : Int) ∧ M 115 y = jb.n ∧ M 115 y ≠ -77
/-- a list of jobs put, the last first -/
def ak_lsM (h : ak_S) (n : Nat) : List ak_Jb → ak_S
  | [] => h
  | jb :: l => ak_jbM (ak_lsM h n l) (n + l.length) 1 jb.n 0 0
section EXPN
variable {e : ak_X3} {d ρ1 ρ2 P W y n : Nat} {ρ : List Nat} {c : ak_Cx} {g g' : ak_Gh} {fs fs' : List ak_Fr} {f : ak_Fr} {V : List Nat} {h hc hm hc' hm' hcS hmS hcX : ak_S} {j : ak_Jb} {l r js : List ak_Jb} {aw : List Bool} {s x kd : Int} {C M : Nat → Nat → Int} {T p : Nat}
theorem ak_nn_s : ∀ (i : Nat) (x : Int), ak_nn M x (i + 1) = ak_nn M (M 119 x.toNat) i := by
  intro i
  induction i with
  | zero => intro x; rfl
  | succ i ih =>
    intro x
    show M 119 (ak_nn M x (i + 1)).toNat = M 119 (ak_nn M (M 119 x.toNat) i).toNat
    rw [ih]
theorem ak_lsM_o {q i : Nat} : ∀ {l : List ak_Jb}, ¬ (q = 110 ∧ i = 132) → ¬ (201 ≤ q ∧ q ≤ 204 ∧ n ≤ i) → (ak_lsM h n l).1 q i = h.1 q i := by
  intro l
  induction l with
  | nil => intro _ _; rfl
  | cons jb l ih => intro a b; exact (ak_jb_out a (by omega)).trans (ih a b)
theorem ak_lsM_2 : ∀ {l : List ak_Jb}, (ak_lsM h n l).2 = h.2 := by
  intro l
  induction l with
  | nil => rfl
  | cons jb l ih => exact ih
theorem ak_lsM_v (hn : h.1 110 132 = (n : Int)) : ∀ {l : List ak_Jb}, (ak_lsM h n l).1 110 132 = ((n + l.length : Nat) : Int) := by
  intro l
  cases l with
  | nil => exact hn
  | cons jb l => rw [List.length_cons]; exact ak_jb_132
theorem ak_gc_app : ∀ {l : List ak_Jb}, (∀ jb, jb ∈ l → jb.k = 1) → ak_gc (l ++ r) = ak_gc r ∧ ak_kc (l ++ r) = ak_kc r ∧ ak_gw (l ++ r) = ak_gw r := by
  intro l
  induction l with
  | nil => intro _; exact ⟨rfl, rfl, rfl⟩
  | cons jb l ih =>
    intro h
    have h1 := h jb List.mem_cons_self
    obtain ⟨a1, a2, a3⟩ := ak_gc_of (j := jb) (r := l ++ r) (by omega)
    obtain ⟨b1, b2, b3⟩ := ih (fun x hx => h x (List.mem_cons_of_mem _ hx))
    exact ⟨a1.trans b1, a2.trans b2, a3.trans b3⟩
theorem ak_JS_ls {O B : Nat} {φ : Nat → Nat} {rs : List Nat} {F J Gp Kp Tp : Nat} {r : List ak_Jb} (W : ak_JS O B φ rs F J Gp Kp Tp hc hm r) : ∀ {l : List ak_Jb}, (∀ jb, jb ∈ l → jb.k = 1 ∧ jb.a = 0 ∧ jb.b = 0) → ak_JS O B φ rs F J Gp Kp Tp hc (ak_lsM hm (J + r.length) l) (l ++ r) := by
  intro l
  induction l with
  | nil => intro _; exact W
  | cons jb l ih =>
    intro h
    have i := ih (fun x hx => h x (List.mem_cons_of_mem _ hx))
    obtain ⟨h1, h2, h3⟩ := h jb List.mem_cons_self
    have q := ak_JS_jb (k := 1) (w := jb.w) (jn := jb.n) (ja := 0) (jb := 0) i (by decide)
    have e : J + (l ++ r).length = J + r.length + l.length := by rw [List.length_append]; omega
    rw [e] at q
    obtain ⟨jk, jn, ja, jbb, jw⟩ := jb
    have h1' : jk = 1 := h1
    have h2' : ja = 0 := h2
    have h3' : jbb = 0 := h3
    subst h1' h2' h3'
    exact q
/-- the other puts a list -/
theorem am_s281 {Q : ak_S → Prop} {X : Nat → ak_S → Prop} {us : Nat} {m0 : ak_S} {k : Int} (hn : h.1 110 132 = (n : Int)) (hn2 : n + l.length < 370000) (hk : k = (l.length : Int)) (hl : l.length ≤ 4) (ch : ak_chn (ak_mM us m0) x l) (yM : ∀ y : Nat, ak_mM us m0 115 y ≠ -77 → y < 18000 ∧ ∀ q, 114 ≤ q → q ≤ 120 → h.1 q y = ak_mM us m0 q y) (q : Q (ak_lsM h n l)) : ak_MV e 1 (d + 2) ρ 281 [am_r 110, am_i x, am_i k] h Q X := by
  have rd : ∀ (l2 : List ak_Jb) (y : Nat), ak_mM us m0 115 y ≠ -77 → ∀ q, 114 ≤ q → q ≤ 120 → (ak_lsM h n l2).1 q y = ak_mM us m0 q y := fun l2 y hy q a b => (ak_lsM_o (by omega) (by omega)).trans ((yM y hy).2 q a b)
  have lp : ∀ (m : Nat) (l1 l2 : List ak_Jb), l1.length = m → l = l1 ++ l2 → ak_W0 e 1 (d + 1) 281 ρ 4 [some (am_r 110), some (am_i x), none, some (am_i ((m : Int) - 1)), none, none] [] (ak_lsM h n l2) (ak_qv Q X) := by
    intro m
    induction m with
    | zero =>
      intro l1 l2 h1 h2
      have : l1 = [] := List.length_eq_zero_iff.mp h1
      subst this
      rw [List.nil_append] at h2
      subst h2
      exact am_k281_4 ⟨fun _ => q, fun z => absurd z (by decide)⟩
    | succ m ih =>
      intro l1 l2 h1 h2
      rw [show (((m + 1 : Nat) : Int) - 1) = (m : Int) by omega]
      obtain ⟨l0, jb, rfl⟩ : ∃ l0 jb, l1 = l0 ++ [jb] := by
        rcases List.eq_nil_or_concat l1 with h | ⟨l0, jb, h⟩
        · rw [h] at h1; cases h1
        · exact ⟨l0, jb, by rw [h]; simp⟩
      have hm0 : l0.length = m := by rw [List.length_append] at h1; have : ([jb] : List ak_Jb).length = 1 := rfl; omega
      have hl2 : l = l0 ++ (jb :: l2) := by rw [h2]; simp
      have hm4 : m < 4 := by rw [hl2, List.length_append, List.length_cons] at hl; omega
      have inn : ∀ (b i : Nat), i + b = m → ak_W0 e 1 (d + 1) 281 ρ 14 [some (am_r 110), some (am_i x), none, some (am_i (m : Int)), some (am_i (ak_nn (ak_mM us m0) x i)), some (am_i (i : Int))] [] (ak_lsM h n l2) (ak_qv Q X) := by
        intro b
        induction b with
        | zero =>
          intro i hi
          have : i = m := by omega
          subst this
          obtain ⟨y, y1, y2, y3⟩ := ch i jb (by rw [hl2, ← hm0, List.getElem?_append_right (Nat.le_refl _)]; simp)
          have y18 := (yM y y3).1
          refine am_k281_14 ⟨fun _ => ?_, fun z => absurd z (by omega)⟩
          rw [y1, ak_natn, rd l2 y y3 115 (by omega) (by omega), y2]
          refine ⟨by omega, am_s266 (d := d) (n := n + l2.length) (ak_lsM_v hn) (by rw [hl2, List.length_append, List.length_cons] at hn2; omega) ?_⟩
          rw [show am_w32 ((i : Int) + (-1)) = (i : Int) - 1 from by rw [ak_w _ (by omega)]; omega]
          exact ih l0 (jb :: l2) hm0 hl2
        | succ b ihb =>
          intro i hi
          have hil : i < l.length := by rw [hl2, List.length_append]; omega
          obtain ⟨y, y1, y2, y3⟩ := ch i l[i] (List.getElem?_eq_getElem hil)
          have y18 := (yM y y3).1
          refine am_k281_14 ⟨fun z => absurd z (by omega), fun _ => ?_⟩
          have e2 : ak_nn (ak_mM us m0) x (i + 1) = ak_mM us m0 119 y := by
            show ak_mM us m0 119 (ak_nn (ak_mM us m0) x i).toNat = _
            rw [y1, Int.toNat_natCast]
          rw [y1, ak_natn, rd l2 y y3 119 (by omega) (by omega), ← e2, show am_w32 ((i : Int) + 1) = ((i + 1 : Nat) : Int) from by rw [ak_w _ (by omega)]; omega]
          exact ⟨by omega, ihb (i + 1) (by omega)⟩
      exact am_k281_4 ⟨fun z => absurd z (by omega), fun _ => inn m 0 (by omega)⟩
  refine ak_MV_of (Nat.le_of_ble_eq_true rfl) (am_k281_0 ?_)
  rw [hk, ak_w _ (by omega)]
  exact lp l.length l [] rfl (by simp)
/-- a list of arguments, as jobs -/
theorem ak_args {lt H : Nat} {rest : List ak_Jb} (hlt : lt < 1000) : ∀ (n : Nat) (x : Int) (i a cc : Nat) (sh : List Bool), ak_T3 C M T p 1 x n (lt + 1000 * H) i a cc → ak_K C M T p lt rest cc (List.replicate n true ++ sh) → sh.length + n + H ≤ 152 → rest.length + i ≤ 6165 →
    ∃ l : List ak_Jb, l.length = n ∧ l.length ≤ i ∧ ak_chn M x l ∧ (∀ jb, jb ∈ l → jb.k = 1 ∧ jb.a = 0 ∧ jb.b = 0) ∧ ak_wgt (l ++ rest) ≤ 2 * i + ak_wgt rest ∧ ak_K C M T p lt (l ++ rest) a sh := by
  intro n
  induction n with
  | zero =>
    intro x i a cc sh t K hH hi
    rcases ak_T3_open t with ⟨_, _, hac⟩ | ⟨_, k', _, _, _, _, hk', _⟩
    · subst hac
      exact ⟨[], rfl, Nat.zero_le _, fun i jb h => (by cases h), fun jb h => (by cases h), Nat.le_add_left _ _, K⟩
    · omega
  | succ n ih =>
    intro x i a cc sh t K hH hi
    rcases ak_T3_open t with ⟨h0, _⟩ | ⟨y, k', c1, j1, j2, hx, hk', ⟨hj, t1⟩, t2⟩
    · omega
    · have ek : k' = n := by omega
      subst ek
      rw [show (lt + 1000 * H) / 1000 = H by omega, show (lt + 1000 * H) % 1000 = lt by omega] at t1
      have K2 : ak_K C M T p lt rest cc (List.replicate k' true ++ (true :: sh)) := by
        have e1 : List.replicate (k' + 1) true ++ sh = List.replicate k' true ++ (true :: sh) := by
          rw [List.replicate_succ', List.append_assoc]; rfl
        rw [← e1]; exact K
      obtain ⟨l, a1, a2, a3, a4, a5, a6⟩ := ih (M 119 y) j2 c1 cc (true :: sh) t2 K2 (by rw [List.length_cons]; omega) (by omega)
      obtain ⟨y', hx', ⟨hH1, hj1⟩, t3⟩ := ak_T3_open t1
      refine ⟨⟨1, M 115 y, 0, 0, 2 * j1⟩ :: l, by rw [List.length_cons, a1], by rw [List.length_cons]; omega, fun i jb h => ?_, fun jb h => ?_, ?_, ?_⟩
      · cases i with
        | zero =>
          cases h
          refine ⟨y, hx, rfl, fun z => ?_⟩
          rw [z] at hx'
          omega
        | succ i =>
          have h2 : l[i]? = some jb := h
          obtain ⟨y2, b1, b2, b3⟩ := a3 i jb h2
          refine ⟨y2, ?_, b2, b3⟩
          rw [ak_nn_s, hx, Int.toNat_natCast]
          exact b1
      · rcases List.mem_cons.mp h with rfl | h
        · exact ⟨rfl, rfl, rfl⟩
        · exact a4 jb h
      · show ak_wgt (l ++ rest) + 2 * j1 ≤ _
        omega
      · show ak_K C M T p lt ((⟨1, M 115 y, 0, 0, 2 * j1⟩ : ak_Jb) :: (l ++ rest)) a sh
        exact ak_K_mk (j := ⟨1, M 115 y, 0, 0, 2 * j1⟩) ⟨c1, H, j1, rfl, by omega, by rw [List.length_append]; omega, t1, a6⟩
/-- jobs put by the other, nothing done by the one -/
theorem ak_put0 {js' : List ak_Jb} {n : Nat} (w : ak_RN c g (f :: fs) hc hm) (fj : f.js = j :: r) (hk : j.k = 1) (ho : hm'.1 110 132 = ((ak_nJ fs + 1 + js'.length : Nat) : Int)) (mo : ∀ q i, ¬ (q = 110 ∧ i = 132) → ¬ (201 ≤ q ∧ q ≤ 204 ∧ ak_nJ fs + 1 + r.length ≤ i) → hm'.1 q i = hm.1 q i) (mJ : hm'.2 = hm.2)
    (J : ak_JS g.O g.B g.φ (f.r :: ak_rms fs) fs.length (ak_nJ fs + 1) (ak_nG fs) (ak_nK fs) (ak_nT fs) hc hm' js') (eg : ak_gc js' = ak_gc r ∧ ak_kc js' = ak_kc r ∧ ak_gw js' = ak_gw r) (K : ak_K (ak_mC c.s c.h0) (ak_mM c.us c.m0) (ak_T c.s) c.us (g.mt f.r + 40 * g.lv f.r) js' f.pc (f.vs.map (fun v => v.1))) (jl : js'.length ≤ 6165) (wt : ak_wgt js' < ak_wgt f.js)
    (gM : ak_goV e (d + 40) ρ 282 [am_r 110, am_i j.n] (ak_poM hm (ak_nJ fs + 1 + r.length)) hm') : ak_OUT e d ρ1 ρ2 ρ c (ak_Phi hm (f :: fs)) (ak_wtop (f :: fs)) hc hm := by
  obtain ⟨hs, l60, fU, f5, φ5, sp0, F, L, J0, V, K0, ⟨l1, l2, l3⟩, ⟨d2, d3, d4, d5, o1, o2⟩, ⟨e1, e2, e3, e4, e5, o3⟩, ⟨x1, x2, x3, x4⟩, d72, _⟩ := ak_tp w
  obtain ⟨t1, t2, t3, t4, t5, t6⟩ := ak_tj w fj
  obtain ⟨g1, g2, g3⟩ := ak_gc_of (j := j) (r := r) (by omega)
  have w' : ak_RN c g (⟨f.r, f.pc, js', f.vs⟩ :: fs) hc hm' := ak_RN_red (j := ak_nJ fs + 1 + r.length) w V J (by rw [fj, g1]; exact eg.1) (by rw [fj, g2]; exact eg.2.1) (ak_SP_fr sp0 (fun _ _ _ => ⟨rfl, rfl⟩) (fun q k h => ⟨mo q k (fun z => h.1 ⟨z.1, by omega⟩) (by unfold ak_stM at h; omega), by rw [mJ]⟩)) (ak_gle_refl w) ak_kpC_refl ⟨fun q k h => mo q k (by omega) (by omega), fun q k h => by rw [mJ]⟩ (by omega) d72 d5 o1 o2 ((mo _ _ (by omega) (by omega)).trans o3) ((mo _ _ (by omega) (by omega)).trans e3) ho K ⟨jl, l2⟩
  refine ak_OUT0 w w' (by simp) (ak_job t1 (by omega) (by omega) t3 t4 (fun _ => gM) (fun z => absurd z (by omega)) (fun z => absurd z (by omega)) (fun z => absurd z (by omega)) (by omega)) ?_ (fun q hq => mo _ _ (by omega) (by omega)) wt
  show ak_pcs fs + (9100 - f.pc) + 9101 * ak_gw js' ≤ ak_pcs fs + (9100 - f.pc) + 9101 * ak_gw f.js
  rw [fj, g3, eg.2.2]
  exact Nat.le_refl _
theorem ak_K_len {lt cc H J : Nat} {x : Int} {a : Nat} (t : ak_T3 C M T p 0 x H lt J a cc) : 1 ≤ H ∧ 1 ≤ J := by
  obtain ⟨_, _, h, _⟩ := ak_T3_open t
  exact h
theorem ak_ex_cl {c1 H J j1 : Nat} (w : ak_RN c g (f :: fs) hc hm) (fj : f.js = j :: r) (hk : j.k = 1) (hy : j.n = (y : Int)) (hw : j.w = 2 * J) (h114 : ak_mM c.us c.m0 114 y = 6) (hj : j1 + 1 ≤ J) (tt : ak_T3 (ak_mC c.s c.h0) (ak_mM c.us c.m0) (ak_T c.s) c.us 0 (ak_mM c.us c.m0 115 y) H (g.mt f.r + 40 * g.lv f.r) j1 f.pc c1) (ho : ak_mC c.s c.h0 (ak_T c.s + 2) c1 = 5) (hH : f.vs.length + H ≤ 151) (hJ : r.length + J ≤ 6165)
    (K : ak_K (ak_mC c.s c.h0) (ak_mM c.us c.m0) (ak_T c.s) c.us (g.mt f.r + 40 * g.lv f.r) r (c1 + 1) (true :: f.vs.map (fun v => v.1))) : ak_OUT e d ρ1 ρ2 ρ c (ak_Phi hm (f :: fs)) (ak_wtop (f :: fs)) hc hm := by
  obtain ⟨hs, l60, fU, f5, φ5, sp0, F, L, J0, V, K0, ⟨l1, l2, l3⟩, ⟨d2, d3, d4, d5, o1, o2⟩, ⟨e1, e2, e3, e4, e5, o3⟩, ⟨x1, x2, x3, x4⟩, _, lt1⟩ := ak_tp w
  obtain ⟨t1, t2, t3, t4, t5, t6⟩ := ak_tj w fj
  obtain ⟨y18, yq⟩ := ak_nde (q0 := 114) sp0 (by omega) (by rw [h114]; decide)
  have yO : ∀ q, 114 ≤ q → q ≤ 120 → (ak_poM hm (ak_nJ fs + 1 + r.length)).1 q y = ak_mM c.us c.m0 q y := fun q a b => (ak_poM_o (by omega)).trans (yq q a b)
  have yb : 0 ≤ (y : Int) ∧ (y : Int) < 18000 := by omega
  have P : ∀ q i, ¬ (q = 110 ∧ i = 132) → (ak_poM hm (ak_nJ fs + 1 + r.length)).1 q i = hm.1 q i := fun q i a => ak_poM_o a
  have Pv : (ak_poM hm (ak_nJ fs + 1 + r.length)).1 110 132 = ((ak_nJ fs + 1 + r.length : Nat) : Int) := ak_poM_v
  have P2 : (ak_poM hm (ak_nJ fs + 1 + r.length)).2 = hm.2 := rfl
  have kl := ak_K_len tt
  refine ak_put0 (js' := ⟨1, ak_mM c.us c.m0 115 y, 0, 0, 2 * j1⟩ :: ⟨3, (y : Int), 0, 0, 0⟩ :: r) (hm' := ak_jbM (ak_jbM (ak_poM hm (ak_nJ fs + 1 + r.length)) (ak_nJ fs + 1 + r.length) 3 (y : Int) 0 0) (ak_nJ fs + 1 + r.length + 1) 1 (ak_mM c.us c.m0 115 y) 0 0) (n := 0) w fj hk ?_ (fun q i a b => (ak_jb_out a (by omega)).trans ((ak_jb_out a (by omega)).trans (P q i a))) rfl ?_ ⟨rfl, rfl, rfl⟩ ?_ ?_ ?_ (fun Q X q => ?_)
  · rw [ak_jb_132, List.length_cons, List.length_cons]; congr 1
  · exact ak_JS_jb (k := 1) (ak_JS_jb (k := 3) (ak_JS_fr (Nat.le_refl _) (Nat.le_refl _) (fun _ _ => rfl) t6 (fun _ _ _ _ _ => ⟨rfl, rfl⟩) (fun q k a b _ => P q k (by omega)) (fun q k a b _ => ⟨P q k (by omega), by rw [P2]⟩)) (by decide)) (by decide)
  · refine ak_K_mk ⟨c1, H, j1, rfl, by rw [List.length_map]; exact hH, by rw [List.length_cons]; omega, tt, ak_K_mk ⟨y, rfl, f.vs.map (fun v => v.1), by rw [List.length_map]; omega, K, Or.inl ⟨h114, ho, rfl⟩⟩⟩
  · rw [List.length_cons, List.length_cons]; omega
  · rw [fj]
    show ak_wgt r + 1 + 2 * j1 < ak_wgt r + (if j.k = 1 then j.w else 1)
    rw [if_pos hk, hw]; omega
  · rw [hy]
    refine ak_MV_of (Nat.le_of_ble_eq_true rfl) (am_k282_0 ?_)
    rw [ak_natn, yO 114 (by omega) (by omega), h114]
    refine ⟨yb, trivial, fun z => absurd z (by omega), fun z => absurd z (by omega), fun z => absurd z (by omega), fun z => absurd z (by omega), fun z => absurd z (by omega), fun z => absurd z (by omega), fun _ => ?_, fun z => absurd z (by omega), fun z => absurd z (by omega), fun z => absurd z (by omega), fun z => absurd z (by omega), fun z => absurd z (by omega), fun z => absurd z (by omega), fun z => absurd z (by omega), trivial⟩
    refine am_k282_321 (am_s266 (d := d + 38) (n := ak_nJ fs + 1 + r.length) Pv (by omega) ⟨yb, ?_⟩)
    rw [ak_natn, ak_jb_out (by omega) (by omega), yO 115 (by omega) (by omega)]
    exact am_s266 (d := d + 38) (n := ak_nJ fs + 1 + r.length + 1) ak_jb_132 (by omega) q
theorem ak_ex_mi {c1 H J j1 : Nat} (w : ak_RN c g (f :: fs) hc hm) (fj : f.js = j :: r) (hk : j.k = 1) (hy : j.n = (y : Int)) (hw : j.w = 2 * J) (h114 : ak_mM c.us c.m0 114 y = 12) (hj : j1 + 1 ≤ J) (tt : ak_T3 (ak_mC c.s c.h0) (ak_mM c.us c.m0) (ak_T c.s) c.us 0 (ak_mM c.us c.m0 115 y) H (g.mt f.r + 40 * g.lv f.r) j1 f.pc c1) (ho : ak_mC c.s c.h0 (ak_T c.s + 2) c1 = 8) (hH : f.vs.length + H ≤ 151) (hJ : r.length + J ≤ 6165)
    (K : ak_K (ak_mC c.s c.h0) (ak_mM c.us c.m0) (ak_T c.s) c.us (g.mt f.r + 40 * g.lv f.r) r (c1 + 1) (true :: f.vs.map (fun v => v.1))) : ak_OUT e d ρ1 ρ2 ρ c (ak_Phi hm (f :: fs)) (ak_wtop (f :: fs)) hc hm := by
  obtain ⟨hs, l60, fU, f5, φ5, sp0, F, L, J0, V, K0, ⟨l1, l2, l3⟩, ⟨d2, d3, d4, d5, o1, o2⟩, ⟨e1, e2, e3, e4, e5, o3⟩, ⟨x1, x2, x3, x4⟩, _, lt1⟩ := ak_tp w
  obtain ⟨t1, t2, t3, t4, t5, t6⟩ := ak_tj w fj
  obtain ⟨y18, yq⟩ := ak_nde (q0 := 114) sp0 (by omega) (by rw [h114]; decide)
  have yO : ∀ q, 114 ≤ q → q ≤ 120 → (ak_poM hm (ak_nJ fs + 1 + r.length)).1 q y = ak_mM c.us c.m0 q y := fun q a b => (ak_poM_o (by omega)).trans (yq q a b)
  have yb : 0 ≤ (y : Int) ∧ (y : Int) < 18000 := by omega
  have P : ∀ q i, ¬ (q = 110 ∧ i = 132) → (ak_poM hm (ak_nJ fs + 1 + r.length)).1 q i = hm.1 q i := fun q i a => ak_poM_o a
  have Pv : (ak_poM hm (ak_nJ fs + 1 + r.length)).1 110 132 = ((ak_nJ fs + 1 + r.length : Nat) : Int) := ak_poM_v
  have P2 : (ak_poM hm (ak_nJ fs + 1 + r.length)).2 = hm.2 := rfl
  have kl := ak_K_len tt
  refine ak_put0 (js' := ⟨1, ak_mM c.us c.m0 115 y, 0, 0, 2 * j1⟩ :: ⟨3, (y : Int), 0, 0, 0⟩ :: r) (hm' := ak_jbM (ak_jbM (ak_poM hm (ak_nJ fs + 1 + r.length)) (ak_nJ fs + 1 + r.length) 3 (y : Int) 0 0) (ak_nJ fs + 1 + r.length + 1) 1 (ak_mM c.us c.m0 115 y) 0 0) (n := 0) w fj hk ?_ (fun q i a b => (ak_jb_out a (by omega)).trans ((ak_jb_out a (by omega)).trans (P q i a))) rfl ?_ ⟨rfl, rfl, rfl⟩ ?_ ?_ ?_ (fun Q X q => ?_)
  · rw [ak_jb_132, List.length_cons, List.length_cons]; congr 1
  · exact ak_JS_jb (k := 1) (ak_JS_jb (k := 3) (ak_JS_fr (Nat.le_refl _) (Nat.le_refl _) (fun _ _ => rfl) t6 (fun _ _ _ _ _ => ⟨rfl, rfl⟩) (fun q k a b _ => P q k (by omega)) (fun q k a b _ => ⟨P q k (by omega), by rw [P2]⟩)) (by decide)) (by decide)
  · refine ak_K_mk ⟨c1, H, j1, rfl, by rw [List.length_map]; exact hH, by rw [List.length_cons]; omega, tt, ak_K_mk ⟨y, rfl, f.vs.map (fun v => v.1), by rw [List.length_map]; omega, K, Or.inr (Or.inl ⟨h114, ho, rfl⟩)⟩⟩
  · rw [List.length_cons, List.length_cons]; omega
  · rw [fj]
    show ak_wgt r + 1 + 2 * j1 < ak_wgt r + (if j.k = 1 then j.w else 1)
    rw [if_pos hk, hw]; omega
  · rw [hy]
    refine ak_MV_of (Nat.le_of_ble_eq_true rfl) (am_k282_0 ?_)
    rw [ak_natn, yO 114 (by omega) (by omega), h114]
    refine ⟨yb, trivial, fun z => absurd z (by omega), fun z => absurd z (by omega), fun z => absurd z (by omega), fun z => absurd z (by omega), fun z => absurd z (by omega), fun z => absurd z (by omega), fun z => absurd z (by omega), fun z => absurd z (by omega), fun z => absurd z (by omega), fun z => absurd z (by omega), fun z => absurd z (by omega), fun z => absurd z (by omega), fun _ => ?_, fun z => absurd z (by omega), trivial⟩
    refine am_k282_321 (am_s266 (d := d + 38) (n := ak_nJ fs + 1 + r.length) Pv (by omega) ⟨yb, ?_⟩)
    rw [ak_natn, ak_jb_out (by omega) (by omega), yO 115 (by omega) (by omega)]
    exact am_s266 (d := d + 38) (n := ak_nJ fs + 1 + r.length + 1) ak_jb_132 (by omega) q
theorem ak_ex_two {c0 c1 H H2 J j1 j2 : Nat} (w : ak_RN c g (f :: fs) hc hm) (fj : f.js = j :: r) (hk : j.k = 1) (hy : j.n = (y : Int)) (hw : j.w = 2 * J) (h114 : ak_mM c.us c.m0 114 y = 11) (hj : j1 + j2 + 1 ≤ J) (h2 : H2 + 1 ≤ H) (tt : ak_T3 (ak_mC c.s c.h0) (ak_mM c.us c.m0) (ak_T c.s) c.us 0 (ak_mM c.us c.m0 115 y) H (g.mt f.r + 40 * g.lv f.r) j1 f.pc c0) (tt2 : ak_T3 (ak_mC c.s c.h0) (ak_mM c.us c.m0) (ak_T c.s) c.us 0 (ak_mM c.us c.m0 116 y) H2 (g.mt f.r + 40 * g.lv f.r) j2 c0 c1) (ho : ak_opr (ak_mM c.us c.m0 117 y) (ak_mC c.s c.h0 (ak_T c.s + 2) c1)) (hH : f.vs.length + H ≤ 151) (hJ : r.length + J ≤ 6165)
    (K : ak_K (ak_mC c.s c.h0) (ak_mM c.us c.m0) (ak_T c.s) c.us (g.mt f.r + 40 * g.lv f.r) r (c1 + 1) (true :: f.vs.map (fun v => v.1))) : ak_OUT e d ρ1 ρ2 ρ c (ak_Phi hm (f :: fs)) (ak_wtop (f :: fs)) hc hm := by
  obtain ⟨hs, l60, fU, f5, φ5, sp0, F, L, J0, V, K0, ⟨l1, l2, l3⟩, ⟨d2, d3, d4, d5, o1, o2⟩, ⟨e1, e2, e3, e4, e5, o3⟩, ⟨x1, x2, x3, x4⟩, _, lt1⟩ := ak_tp w
  obtain ⟨t1, t2, t3, t4, t5, t6⟩ := ak_tj w fj
  obtain ⟨y18, yq⟩ := ak_nde (q0 := 114) sp0 (by omega) (by rw [h114]; decide)
  have yO : ∀ q, 114 ≤ q → q ≤ 120 → (ak_poM hm (ak_nJ fs + 1 + r.length)).1 q y = ak_mM c.us c.m0 q y := fun q a b => (ak_poM_o (by omega)).trans (yq q a b)
  have yb : 0 ≤ (y : Int) ∧ (y : Int) < 18000 := by omega
  have P : ∀ q i, ¬ (q = 110 ∧ i = 132) → (ak_poM hm (ak_nJ fs + 1 + r.length)).1 q i = hm.1 q i := fun q i a => ak_poM_o a
  have Pv : (ak_poM hm (ak_nJ fs + 1 + r.length)).1 110 132 = ((ak_nJ fs + 1 + r.length : Nat) : Int) := ak_poM_v
  have P2 : (ak_poM hm (ak_nJ fs + 1 + r.length)).2 = hm.2 := rfl
  have kl := ak_K_len tt
  have kl2 := ak_K_len tt2
  refine ak_put0 (js' := ⟨1, ak_mM c.us c.m0 115 y, 0, 0, 2 * j1⟩ :: ⟨1, ak_mM c.us c.m0 116 y, 0, 0, 2 * j2⟩ :: ⟨3, (y : Int), 0, 0, 0⟩ :: r) (hm' := ak_jbM (ak_jbM (ak_jbM (ak_poM hm (ak_nJ fs + 1 + r.length)) (ak_nJ fs + 1 + r.length) 3 (y : Int) 0 0) (ak_nJ fs + 1 + r.length + 1) 1 (ak_mM c.us c.m0 116 y) 0 0) (ak_nJ fs + 1 + r.length + 1 + 1) 1 (ak_mM c.us c.m0 115 y) 0 0) (n := 0) w fj hk ?_ (fun q i a b => (ak_jb_out a (by omega)).trans ((ak_jb_out a (by omega)).trans ((ak_jb_out a (by omega)).trans (P q i a)))) rfl ?_ ⟨rfl, rfl, rfl⟩ ?_ ?_ ?_ (fun Q X q => ?_)
  · rw [ak_jb_132, List.length_cons, List.length_cons, List.length_cons]; congr 1
  · exact ak_JS_jb (k := 1) (ak_JS_jb (k := 1) (ak_JS_jb (k := 3) (ak_JS_fr (Nat.le_refl _) (Nat.le_refl _) (fun _ _ => rfl) t6 (fun _ _ _ _ _ => ⟨rfl, rfl⟩) (fun q k a b _ => P q k (by omega)) (fun q k a b _ => ⟨P q k (by omega), by rw [P2]⟩)) (by decide)) (by decide)) (by decide)
  · refine ak_K_mk ⟨c0, H, j1, rfl, by rw [List.length_map]; exact hH, by rw [List.length_cons, List.length_cons]; omega, tt, ak_K_mk ⟨c1, H2, j2, rfl, by rw [List.length_cons, List.length_map]; omega, by rw [List.length_cons]; omega, tt2, ak_K_mk ⟨y, rfl, f.vs.map (fun v => v.1), by rw [List.length_map]; omega, K, Or.inr (Or.inr (Or.inl ⟨h114, ho, rfl⟩))⟩⟩⟩
  · rw [List.length_cons, List.length_cons, List.length_cons]; omega
  · rw [fj]
    show ak_wgt r + 1 + 2 * j2 + 2 * j1 < ak_wgt r + (if j.k = 1 then j.w else 1)
    rw [if_pos hk, hw]; omega
  · rw [hy]
    refine ak_MV_of (Nat.le_of_ble_eq_true rfl) (am_k282_0 ?_)
    rw [ak_natn, yO 114 (by omega) (by omega), h114]
    refine ⟨yb, trivial, fun z => absurd z (by omega), fun z => absurd z (by omega), fun z => absurd z (by omega), fun z => absurd z (by omega), fun z => absurd z (by omega), fun z => absurd z (by omega), fun z => absurd z (by omega), fun z => absurd z (by omega), fun z => absurd z (by omega), fun z => absurd z (by omega), fun z => absurd z (by omega), fun _ => ?_, fun z => absurd z (by omega), fun z => absurd z (by omega), trivial⟩
    refine am_s266 (d := d + 38) (n := ak_nJ fs + 1 + r.length) Pv (by omega) ⟨yb, ?_⟩
    rw [ak_jb_out (by omega) (by omega), yO 116 (by omega) (by omega)]
    refine am_s266 (d := d + 38) (n := ak_nJ fs + 1 + r.length + 1) ak_jb_132 (by omega) ⟨yb, ?_⟩
    rw [ak_jb_out (by omega) (by omega), ak_jb_out (by omega) (by omega), yO 115 (by omega) (by omega)]
    exact am_s266 (d := d + 38) (n := ak_nJ fs + 1 + r.length + 1 + 1) ak_jb_132 (by omega) q
theorem ak_ex_msg {c0 c1 n H H2 J j1 j2 : Nat} (w : ak_RN c g (f :: fs) hc hm) (fj : f.js = j :: r) (hk : j.k = 1) (hy : j.n = (y : Int)) (hw : j.w = 2 * J) (h114 : ak_mM c.us c.m0 114 y = 9 ∨ ak_mM c.us c.m0 114 y = 10) (hj : j1 + j2 + 1 ≤ J) (h2 : n = 0 ∨ H2 + 4 ≤ H) (tt : ak_T3 (ak_mC c.s c.h0) (ak_mM c.us c.m0) (ak_T c.s) c.us 0 (ak_mM c.us c.m0 115 y) H (g.mt f.r + 40 * g.lv f.r) j1 f.pc c0) (h117 : ak_mM c.us c.m0 117 y = (n : Int)) (hn4 : n ≤ 4) (tt2 : ak_T3 (ak_mC c.s c.h0) (ak_mM c.us c.m0) (ak_T c.s) c.us 1 (ak_mM c.us c.m0 116 y) n ((g.mt f.r + 40 * g.lv f.r) + 1000 * H2) j2 c0 c1)
    (AF : ak_AF (ak_mC c.s c.h0) (ak_mM c.us c.m0) (ak_T c.s) c.us (ak_K (ak_mC c.s c.h0) (ak_mM c.us c.m0) (ak_T c.s) c.us (g.mt f.r + 40 * g.lv f.r) r) y c1 (List.replicate n true ++ true :: f.vs.map (fun v => v.1))) (hH : f.vs.length + H ≤ 151) (hJ : r.length + J ≤ 6165) : ak_OUT e d ρ1 ρ2 ρ c (ak_Phi hm (f :: fs)) (ak_wtop (f :: fs)) hc hm := by
  have h77 : ak_mM c.us c.m0 114 y ≠ -77 := by omega
  obtain ⟨hs, l60, fU, f5, φ5, sp0, F, L, J0, V, K0, ⟨l1, l2, l3⟩, ⟨d2, d3, d4, d5, o1, o2⟩, ⟨e1, e2, e3, e4, e5, o3⟩, ⟨x1, x2, x3, x4⟩, _, lt1⟩ := ak_tp w
  obtain ⟨t1, t2, t3, t4, t5, t6⟩ := ak_tj w fj
  obtain ⟨y18, yq⟩ := ak_nde (q0 := 114) sp0 (by omega) h77
  have yO : ∀ q, 114 ≤ q → q ≤ 120 → (ak_poM hm (ak_nJ fs + 1 + r.length)).1 q y = ak_mM c.us c.m0 q y := fun q a b => (ak_poM_o (by omega)).trans (yq q a b)
  have yb : 0 ≤ (y : Int) ∧ (y : Int) < 18000 := by omega
  have P : ∀ q i, ¬ (q = 110 ∧ i = 132) → (ak_poM hm (ak_nJ fs + 1 + r.length)).1 q i = hm.1 q i := fun q i a => ak_poM_o a
  have Pv : (ak_poM hm (ak_nJ fs + 1 + r.length)).1 110 132 = ((ak_nJ fs + 1 + r.length : Nat) : Int) := ak_poM_v
  have P2 : (ak_poM hm (ak_nJ fs + 1 + r.length)).2 = hm.2 := rfl
  have kl := ak_K_len tt
  obtain ⟨l, a1, a2, a3, a4, a5, a6⟩ : ∃ l : List ak_Jb, l.length = n ∧ l.length ≤ j2 ∧ ak_chn (ak_mM c.us c.m0) (ak_mM c.us c.m0 116 y) l ∧ (∀ jb, jb ∈ l → jb.k = 1 ∧ jb.a = 0 ∧ jb.b = 0) ∧ ak_wgt (l ++ (⟨3, (y : Int), 0, 0, 0⟩ :: r)) ≤ 2 * j2 + ak_wgt ((⟨3, (y : Int), 0, 0, 0⟩ : ak_Jb) :: r) ∧ ak_K (ak_mC c.s c.h0) (ak_mM c.us c.m0) (ak_T c.s) c.us (g.mt f.r + 40 * g.lv f.r) (l ++ (⟨3, (y : Int), 0, 0, 0⟩ :: r)) c0 (true :: f.vs.map (fun v => v.1)) := by
    rcases h2 with h0 | h2
    · subst h0
      rcases ak_T3_open tt2 with ⟨_, _, hac⟩ | ⟨_, k', _, _, _, _, hk', _⟩
      · subst hac
        exact ⟨[], rfl, Nat.zero_le _, fun i jb h => (by cases h), fun jb h => (by cases h), Nat.le_add_left _ _, ak_K_mk (j := ⟨3, (y : Int), 0, 0, 0⟩) ⟨y, rfl, AF⟩⟩
      · omega
    · exact ak_args (rest := ⟨3, (y : Int), 0, 0, 0⟩ :: r) lt1 n _ j2 c0 c1 _ tt2 (ak_K_mk (j := ⟨3, (y : Int), 0, 0, 0⟩) ⟨y, rfl, AF⟩) (by rw [List.length_cons, List.length_map]; omega) (by rw [List.length_cons]; omega)
  obtain ⟨b1, b2, b3⟩ := ak_gc_app (r := ⟨3, (y : Int), 0, 0, 0⟩ :: r) (fun jb h => (a4 jb h).1)
  have wr : ak_wgt ((⟨3, (y : Int), 0, 0, 0⟩ : ak_Jb) :: r) = ak_wgt r + 1 := rfl
  have JA := ak_JS_jb (k := 3) (w := 0) (jn := (y : Int)) (ja := 0) (jb := 0) (ak_JS_fr (Nat.le_refl _) (Nat.le_refl _) (fun _ _ => rfl) t6 (fun _ _ _ _ _ => ⟨rfl, rfl⟩) (fun q k a b _ => P q k (by omega)) (fun q k a b _ => ⟨P q k (by omega), by rw [P2]⟩)) (by decide)
  have JL := ak_JS_ls JA a4
  rw [List.length_cons] at JL
  have JE := ak_JS_jb (k := 1) (w := 2 * j1) (jn := ak_mM c.us c.m0 115 y) (ja := 0) (jb := 0) JL (by decide)
  have el : ak_nJ fs + 1 + (l ++ (⟨3, (y : Int), 0, 0, 0⟩ :: r)).length = ak_nJ fs + 1 + (r.length + 1) + l.length := by rw [List.length_append, List.length_cons]; omega
  rw [el] at JE
  have LO := fun q i a b => ak_lsM_o (h := ak_jbM (ak_poM hm (ak_nJ fs + 1 + r.length)) (ak_nJ fs + 1 + r.length) 3 (y : Int) 0 0) (n := ak_nJ fs + 1 + (r.length + 1)) (l := l) (q := q) (i := i) a b
  have Lv := ak_lsM_v (h := ak_jbM (ak_poM hm (ak_nJ fs + 1 + r.length)) (ak_nJ fs + 1 + r.length) 3 (y : Int) 0 0) (n := ak_nJ fs + 1 + (r.length + 1)) ak_jb_132 (l := l)
  have L2 : (ak_lsM (ak_jbM (ak_poM hm (ak_nJ fs + 1 + r.length)) (ak_nJ fs + 1 + r.length) 3 (y : Int) 0 0) (ak_nJ fs + 1 + (r.length + 1)) l).2 = hm.2 := ak_lsM_2
  refine ak_put0 (js' := ⟨1, ak_mM c.us c.m0 115 y, 0, 0, 2 * j1⟩ :: (l ++ (⟨3, (y : Int), 0, 0, 0⟩ :: r))) (hm' := ak_jbM (ak_lsM (ak_jbM (ak_poM hm (ak_nJ fs + 1 + r.length)) (ak_nJ fs + 1 + r.length) 3 (y : Int) 0 0) (ak_nJ fs + 1 + (r.length + 1)) l) (ak_nJ fs + 1 + (r.length + 1) + l.length) 1 (ak_mM c.us c.m0 115 y) 0 0) (n := 0) w fj hk ?_ (fun q i a b => (ak_jb_out a (by omega)).trans ((LO q i a (by omega)).trans ((ak_jb_out a (by omega)).trans (P q i a)))) ?_ JE ⟨?_, ?_, ?_⟩ ?_ ?_ ?_ (fun Q X q => ?_)
  · rw [ak_jb_132, List.length_cons]
    congr 1
    omega
  · exact L2
  · exact b1
  · exact b2
  · exact b3
  · refine ak_K_mk ⟨c0, H, j1, rfl, by rw [List.length_map]; exact hH, ?_, tt, a6⟩
    rw [List.length_append, List.length_cons]; omega
  · rw [List.length_cons, List.length_append, List.length_cons]; omega
  · rw [fj]
    show ak_wgt (l ++ (⟨3, (y : Int), 0, 0, 0⟩ :: r)) + 2 * j1 < ak_wgt r + (if j.k = 1 then j.w else 1)
    rw [if_pos hk, hw]; omega
  · rw [hy]
    refine ak_MV_of (Nat.le_of_ble_eq_true rfl) (am_k282_0 ?_)
    rw [ak_natn, yO 114 (by omega) (by omega)]
    have fin : ak_W0 e 1 (d + 39) 282 ρ 409 [some (am_r 110), some (am_i (y : Int)), none, none] [] (ak_poM hm (ak_nJ fs + 1 + r.length)) (ak_qv Q X) := by
      refine am_k282_409 (am_s266 (d := d + 38) (n := ak_nJ fs + 1 + r.length) Pv (by omega) ⟨yb, yb, ?_⟩)
      rw [ak_natn, ak_jb_out (by omega) (by omega), yO 116 (by omega) (by omega), ak_jb_out (by omega) (by omega), yO 117 (by omega) (by omega)]
      refine am_s281 (d := d + 37) (l := l) (us := c.us) (m0 := c.m0) (n := ak_nJ fs + 1 + (r.length + 1)) ak_jb_132 (by omega) (h117.trans (by rw [a1])) (by omega) a3 (fun y' h => ?_) ⟨yb, ?_⟩
      · obtain ⟨z1, z2⟩ := ak_nde (q0 := 115) sp0 (by omega) h
        exact ⟨z1, fun q a b => (ak_jb_out (by omega) (by omega)).trans ((P _ _ (by omega)).trans (z2 q a b))⟩
      · rw [LO 115 y (by omega) (by omega), ak_jb_out (by omega) (by omega), yO 115 (by omega) (by omega)]
        exact am_s266 (d := d + 38) (n := ak_nJ fs + 1 + (r.length + 1) + l.length) Lv (by omega) q
    rcases h114 with h | h
    · rw [h]
      exact ⟨yb, trivial, fun z => absurd z (by omega), fun z => absurd z (by omega), fun z => absurd z (by omega), fun z => absurd z (by omega), fun z => absurd z (by omega), fun z => absurd z (by omega), fun z => absurd z (by omega), fun z => absurd z (by omega), fun z => absurd z (by omega), fun _ => fin, fun z => absurd z (by omega), fun z => absurd z (by omega), fun z => absurd z (by omega), fun z => absurd z (by omega), trivial⟩
    · rw [h]
      exact ⟨yb, trivial, fun z => absurd z (by omega), fun z => absurd z (by omega), fun z => absurd z (by omega), fun z => absurd z (by omega), fun z => absurd z (by omega), fun z => absurd z (by omega), fun z => absurd z (by omega), fun z => absurd z (by omega), fun z => absurd z (by omega), fun z => absurd z (by omega), fun _ => fin, fun z => absurd z (by omega), fun z => absurd z (by omega), fun z => absurd z (by omega), trivial⟩
end EXPN
