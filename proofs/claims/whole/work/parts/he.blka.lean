/-! the run: a block is called -/
section BLKA
variable {e : ak_X3} {d ρ1 ρ2 P W y n : Nat} {ρ : List Nat} {c : ak_Cx} {g : ak_Gh} {fs : List ak_Fr} {f : ak_Fr} {hc hm : ak_S} {j : ak_Jb} {r : List ak_Jb} {u l : List (Bool × Int × Int)} {v : Bool × Int × Int}
theorem ak_hX_o {t pc N q k : Nat} (a : ¬ (q = 32 ∧ (k = 12 ∨ k = 13 ∨ k = 16))) (b : ¬ (q = 72 ∧ k = t)) : ((am_up (am_up (ak_tkA hc t pc N).1 32 13 (n : Int)) 32 16 0, (ak_tkA hc t pc N).2) : ak_S).1 q k = hc.1 q k := (ak_up_out1 (by omega)).trans ((ak_up_out (by omega)).trans (ak_tkA_o (by omega) b))
theorem ak_blk_94d {A N rb mt a : Nat} (w : ak_RN c g (f :: fs) hc hm) (l6 : fs.length + 1 = 60) (t10 : hc.1 32 10 = ((A + n + 1 : Nat) : Int)) (hA : A + n + 1 ≤ 9060) (hn4 : n ≤ 4) (rb5 : rb < 560) (Q : ak_S → Prop) (X : Nat → ak_S → Prop) (q : Q (am_up (am_up (am_up (ak_tkA hc fs.length f.pc N).1 32 13 (n : Int)) 32 16 0) 32 11 3, (ak_tkA hc fs.length f.pc N).2)) : ak_MI e 0 (d + 37) (ak_rc c.s ρ1 ρ2) 94 [am_r 32, am_i (rb : Int), am_i (mt : Int), am_i (a : Int)] (am_up (am_up (ak_tkA hc fs.length f.pc N).1 32 13 (n : Int)) 32 16 0, (ak_tkA hc fs.length f.pc N).2) (fun _ h3 => Q h3) X := by
  obtain ⟨d1, d2, d3, _⟩ := w.2.1.1
  have bH := ak_nH_bd (ak_LO_row w.2.1.2.2).2.1
  have hl : (f :: fs).length = fs.length + 1 := rfl
  rw [hl] at bH
  exact am_s94 (d := d + 32) (n := 0) (r := 0) (many := fs.length + 1) (at' := A) (na := n) (hd := 0) (H := ak_nH hc (f :: fs)) w.1.1.1 ((ak_hX_o (by omega) (by omega)).trans d2) (by omega) ((ak_up_out1 (by omega)).trans ak_up_at) hn4 ((ak_hX_o (by omega) (by omega)).trans t10) (by omega) (by omega) ((ak_hX_o (by omega) (by omega)).trans d3) (by omega) ak_up_at1 (Or.inl rfl) (fun z => absurd l6 (by omega)) (fun z => absurd l6 (by omega)) (fun _ => q)
theorem ak_blk_94 {A N rb mt a : Nat} (w : ak_RN c g (f :: fs) hc hm) (l6 : fs.length + 1 < 60) (t10 : hc.1 32 10 = ((A + n + 1 : Nat) : Int)) (hA : A + n + 1 ≤ 9060) (hn4 : n ≤ 4) (rb5 : rb < 560) (h53 : hc.1 53 rb = (g.hr rb : Int)) : ∃ (rN : Nat) (FR : List Nat) (hcF : ak_S), g.FR = FR ++ [rN] ∧ rN ∉ g.Us ∧ ak_bgC FR.length rN (fs.length + 1) A n (rb : Int) (g.hr rb : Int) (mt : Int) (a : Int) (hc.1 77 4) 0 (am_up (am_up (ak_tkA hc fs.length f.pc N).1 32 13 (n : Int)) 32 16 0, (ak_tkA hc fs.length f.pc N).2) hcF ∧
    ∀ (Q : ak_S → Prop) (X : Nat → ak_S → Prop), Q hcF → ak_MI e 0 (d + 37) (ak_rc c.s ρ1 ρ2) 94 [am_r 32, am_i (rb : Int), am_i (mt : Int), am_i (a : Int)] (am_up (am_up (ak_tkA hc fs.length f.pc N).1 32 13 (n : Int)) 32 16 0, (ak_tkA hc fs.length f.pc N).2) (fun _ h3 => Q h3) X := by
  obtain ⟨d1, d2, d3, _⟩ := w.2.1.1
  have bH := ak_nH_bd (ak_LO_row w.2.1.2.2).2.1
  have hl : (f :: fs).length = fs.length + 1 := rfl
  rw [hl] at bH
  have rm := w.1.2.2.2.2.1
  have fU := (ak_tp w).2.2.1
  have hF := ak_fre_C rm (by simp [ak_rms]; omega)
  obtain ⟨w1, w2, w3, w4, _⟩ := rm.1
  have n1 := List.nodup_append.mp w3
  obtain ⟨FR, rN, eFR⟩ : ∃ FR rN, g.FR = FR ++ [rN] := by
    rcases List.eq_nil_or_concat g.FR with h | ⟨l0, z, h⟩
    · rw [h] at hF; cases hF
    · exact ⟨l0, z, by rw [h]; simp⟩
  have nU : rN ∉ g.Us := fun z => n1.2.2 rN (by rw [eFR]; simp) rN z rfl
  have hr5 : rN < 560 := (w4 rN).mp (List.mem_append_left _ (by rw [eFR]; simp))
  have hFR : g.FR.length < 560 := by
    have := ak_sub_len (l := f.r :: g.FR) (l' := List.range 560) (List.nodup_cons.mpr ⟨fun h => n1.2.2 f.r h f.r fU rfl, n1.1⟩) (fun y hy => List.mem_range.mpr (by
      rcases List.mem_cons.mp hy with rfl | hy
      · exact (w4 _).mp (List.mem_append_right _ fU)
      · exact (w4 y).mp (List.mem_append_left _ hy)))
    rw [List.length_range, List.length_cons] at this
    omega
  have el : g.FR.length = FR.length + 1 := by rw [eFR, List.length_append]; rfl
  obtain ⟨v0, hcF, bg, go⟩ := ak_MI_ex (am_s94 (e := e) (d := d + 32) (ρ1 := ρ1) (ρ2 := ρ2) (X := fun _ _ => False) (Q := fun _ h' => ak_bgC FR.length rN (fs.length + 1) A n (rb : Int) (g.hr rb : Int) (mt : Int) (a : Int) (hc.1 77 4) 0 (am_up (am_up (ak_tkA hc fs.length f.pc N).1 32 13 (n : Int)) 32 16 0, (ak_tkA hc fs.length f.pc N).2) h') (n := FR.length) (r := rN) (many := fs.length + 1) (at' := A) (na := n) (ar := (rb : Int)) (mt := (mt : Int)) (st := (a : Int)) (hd := 0) (H := ak_nH hc (f :: fs)) (h := (am_up (am_up (ak_tkA hc fs.length f.pc N).1 32 13 (n : Int)) 32 16 0, (ak_tkA hc fs.length f.pc N).2)) w.1.1.1 ((ak_hX_o (by omega) (by omega)).trans d2) (by omega) ((ak_up_out1 (by omega)).trans ak_up_at) hn4 ((ak_hX_o (by omega) (by omega)).trans t10) (by omega) (by omega) ((ak_hX_o (by omega) (by omega)).trans d3) (by omega) ak_up_at1 (Or.inl rfl)
    (fun _ => ⟨(ak_hX_o (by omega) (by omega)).trans (w1.trans (by rw [el])), by omega, (ak_hX_o (by omega) (by omega)).trans (w2 _ _ (by rw [eFR]; simp)), hr5⟩) (fun _ h' bg => by
      rw [if_neg (by omega), ak_natn, ak_hX_o (q := 53) (by omega) (by omega), h53, ak_hX_o (q := 77) (by omega) (by omega)] at bg
      exact bg) (fun z => absurd z (by omega)))
  exact ⟨rN, FR, hcF, eFR, nU, bg, fun Q X q => go _ _ q⟩
theorem ak_tk_ag {V : List Nat} {t pc q k N : Nat} (sp : ak_SPP c g V hc hm) (a : ak_T c.s + 18 ≤ q) (b : q ≤ ak_T c.s + 20) : (ak_tkA hc t pc N).1 q k = c.h0.1 q k := by
  have hT := ak_T_bd sp.1.1
  exact (ak_tkA_o (by omega) (by omega)).trans (sp.2.1.1 q k (by omega) (by omega)).1
theorem ak_af_blk (w : ak_RN c g (f :: fs) hc hm) (fj : f.js = j :: r) (hk : j.k = 3) (hy : j.n = (y : Int)) (h114 : ak_mM c.us c.m0 114 y = 10) (h2 : ak_mC c.s c.h0 (ak_T c.s + 2) f.pc = 19) (h3 : ak_mC c.s c.h0 (ak_T c.s + 3) f.pc = (n : Int)) (h117 : ak_mM c.us c.m0 117 y = (n : Int)) (hn4 : n ≤ 4) (fv : f.vs = u ++ (v :: l)) (ul : u.length = n) (ut : ∀ z, z ∈ u → z.1 = true) (v1 : v.1 = true) (K : ak_K (ak_mC c.s c.h0) (ak_mM c.us c.m0) (ak_T c.s) c.us (g.mt f.r + 40 * g.lv f.r) r (f.pc + 1) (true :: l.map (fun v => v.1))) (len : l.length + 1 ≤ 151) (cnt : hm.1 110 109 < 1000000000) : ak_OUT e d ρ1 ρ2 ρ c (ak_Phi hm (f :: fs)) W hc hm := by
  obtain ⟨hs, l60, fU, f5, φ5, sp0, F, L, J0, V, K0, ⟨l1, l2, l3⟩, ⟨d2, d3, d4, d5, o1, o2⟩, ⟨e1, e2, e3, e4, e5, o3⟩, ⟨x1, x2, x3, x4⟩, d72, lt1⟩ := ak_tp w
  obtain ⟨t1, t2, t3, t4, t5, t6⟩ := ak_tj w fj
  obtain ⟨g1, g2, g3⟩ := ak_gc_of (j := j) (r := r) (by omega)
  obtain ⟨b1, b2, b3, b4⟩ := ak_cd sp0 h2 (by decide)
  obtain ⟨y18, yq⟩ := ak_nde (q0 := 114) sp0 (by omega) (by rw [h114]; decide)
  have yO : ∀ q, 114 ≤ q → q ≤ 120 → (ak_poM hm (ak_nJ fs + 1 + r.length)).1 q y = ak_mM c.us c.m0 q y := fun q a b => (ak_poM_o (by omega)).trans (yq q a b)
  have yb : 0 ≤ (y : Int) ∧ (y : Int) < 18000 := by omega
  have jb := sp0.2.2.2.2.2.1.2.1.1
  obtain ⟨N, h104⟩ := Int.eq_ofNat_of_zero_le jb.1
  have hN4 : N ≤ 4000 := by omega
  by_cases hN : N = 4000
  · subst hN
    refine ak_spent (o := 19) w fj hk h2 (by decide) h104 (fun Q X q => ?_)
    rw [hy]
    refine ak_MV_of (Nat.le_of_ble_eq_true rfl) (am_k283_0 ?_)
    rw [ak_natn, yO 114 (by omega) (by omega), h114, yO 117 (by omega) (by omega), h117]
    refine ⟨yb, trivial, fun z => absurd z (by omega), fun z => absurd z (by omega), fun z => absurd z (by omega), fun z => absurd z (by omega), fun z => absurd z (by omega), fun _ => ⟨yb, ?_⟩, fun z => absurd z (by omega), fun z => absurd z (by omega), trivial⟩
    refine ak_MV_of (Nat.le_of_ble_eq_true rfl) (am_k287_0 (am_s267 (d := d + 37) (n := 4000) ((ak_poM_o (by omega)).trans h104) (Nat.le_refl _) (fun z => absurd z (by omega)) (fun _ => ⟨fun z => ?_, fun _ => q⟩)))
    have : ((am_up (ak_poM hm (ak_nJ fs + 1 + r.length)).1 110 105 2, (ak_poM hm (ak_nJ fs + 1 + r.length)).2) : ak_S).1 110 105 = 2 := ak_up_at1
    omega
  have hN : N < 4000 := by omega
  obtain ⟨⟨r1, r2, vk, r4, r5⟩, ⟨t10, y1, t127, y2⟩, gC, gM⟩ := ak_blk_go (e := e) (d := d) (ρ1 := ρ1) (ρ2 := ρ2) (ρ := ρ) w fj hk hy h114 h2 h3 h117 hn4 fv ul ut v1 h104 hN
  have spA := ak_tk_SP (t := fs.length) (pc := f.pc) (n := ak_nJ fs + 1 + r.length) sp0 h104 hN
  have AO : ∀ q k, ¬ (q = 32 ∧ k = 12) → ¬ (q = 72 ∧ k = fs.length) → (ak_tkA hc fs.length f.pc N).1 q k = hc.1 q k := fun q k a b => ak_tkA_o a b
  have AJ : ∀ q k, ¬ (q = 64 ∧ k = 2) → (ak_tkA hc fs.length f.pc N).2.1 q k = hc.2.1 q k := fun q k a => ak_tkA_J a
  have Av := ak_tkA_v (hc := hc) (t := fs.length) (pc := f.pc) (N := N)
  have BO : ∀ q k, ¬ (q = 110 ∧ (k = 104 ∨ k = 132)) → (ak_tkB hm (ak_nJ fs + 1 + r.length) N).1 q k = hm.1 q k := fun q k a => ak_tkB_o a
  have Bv := ak_tkB_v (hm := hm) (n := ak_nJ fs + 1 + r.length) (N := N)
  obtain ⟨fre, rooms, ⟨k1, k2, k3, k4, k5⟩⟩ := sp0.2.2.2.2.1
  have hus := sp0.2.2.2.2.2.2.1.2.1
  have hus2 := sp0.2.2.2.2.2.2.1.1
  -- the one, up to what it finds
  have c92 : ∀ (Q : ak_S → Prop), (v.2.1 ≠ 3 → ak_MV e 0 (d + 37) (ak_rc c.s ρ1 ρ2) 77 [am_r 32, am_i 10, am_i 0, am_l 0] (ak_tkA hc fs.length f.pc N) Q (fun _ _ => False)) → (v.2.1 = 3 → (0 ≤ v.2.2 ∧ v.2.2 < (500 : Int)) ∧ (0 ≤ (ak_tkA hc fs.length f.pc N).1 61 v.2.2.toNat ∧ (ak_tkA hc fs.length f.pc N).1 61 v.2.2.toNat < (60 : Int)) ∧ ((ak_tkA hc fs.length f.pc N).1 (ak_T c.s + 18) ((ak_tkA hc fs.length f.pc N).1 61 v.2.2.toNat).toNat = (n : Int) →
        ((0 : Int) = 0 ∨ (0 : Int) = 1) ∧ (0 ≤ v.2.2 ∧ v.2.2 < (500 : Int)) ∧ (0 ≤ (ak_tkA hc fs.length f.pc N).1 61 v.2.2.toNat ∧ (ak_tkA hc fs.length f.pc N).1 61 v.2.2.toNat < (60 : Int)) ∧ (0 ≤ (ak_tkA hc fs.length f.pc N).1 61 v.2.2.toNat ∧ (ak_tkA hc fs.length f.pc N).1 61 v.2.2.toNat < (60 : Int)) ∧ ak_MI e 0 (d + 37) (ak_rc c.s ρ1 ρ2) 94 [am_r 32, am_i ((ak_tkA hc fs.length f.pc N).1 62 v.2.2.toNat), am_i ((ak_tkA hc fs.length f.pc N).1 (ak_T c.s + 20) ((ak_tkA hc fs.length f.pc N).1 61 v.2.2.toNat).toNat), am_i ((ak_tkA hc fs.length f.pc N).1 (ak_T c.s + 19) ((ak_tkA hc fs.length f.pc N).1 61 v.2.2.toNat).toNat)] ((am_up (am_up (ak_tkA hc fs.length f.pc N).1 32 13 (n : Int)) 32 16 0), (ak_tkA hc fs.length f.pc N).2) (fun v4 h3 => Q h3) (fun _ _ => False))
      ∧ ((ak_tkA hc fs.length f.pc N).1 (ak_T c.s + 18) ((ak_tkA hc fs.length f.pc N).1 61 v.2.2.toNat).toNat ≠ (n : Int) → ak_MV e 0 (d + 37) (ak_rc c.s ρ1 ρ2) 77 [am_r 32, am_i 2, am_i 0, am_l 0] (ak_tkA hc fs.length f.pc N) Q (fun _ _ => False))) → ak_MV e 0 (d + 38) (ak_rc c.s ρ1 ρ2) 92 [am_r 32, am_i (n : Int)] (ak_tkA hc fs.length f.pc N) Q (fun _ _ => False) := fun Q qn qy => by
    refine ak_MV_of (Nat.le_of_ble_eq_true rfl) (am_k92_0 hs ?_)
    rw [AO 32 10 (by omega) (by omega), t10, show am_w32 (am_w32 (((ak_nV fs + l.length + n + 1 : Nat) : Int) - (n : Int)) - 1) = ((ak_nV fs + l.length : Nat) : Int) from by
      rw [ak_w (((ak_nV fs + l.length + n + 1 : Nat) : Int) - (n : Int)) (by omega), ak_w _ (by omega)]
      omega, show (if 0 < ((ak_nV fs + l.length : Nat) : Int) then ((ak_nV fs + l.length : Nat) : Int) else 0) = ((ak_nV fs + l.length : Nat) : Int) from by split <;> omega, ak_natn, AO 108 _ (by omega) (by omega), r1, AJ 109 _ (by omega), r2]
    exact ⟨by omega, by omega, am_s144 (d := d + 36) (b := g.B) ((AO _ _ (by omega) (by omega)).trans k1) k3 (fun g3 _ _ => ⟨fun _ => qy g3, fun z => absurd z (by have := vk.2.2.1 g3; omega)⟩) (fun g3 => ⟨fun z => absurd z (by decide), fun _ => qn g3⟩) vk.2.2.1⟩
  have job : ∀ hm', ak_goV e (d + 40) ρ 283 [am_r 110, am_i j.n] (ak_poM hm (ak_nJ fs + 1 + r.length)) hm' → ak_mgo e (d + 40) ρ hm hm' := fun hm' h => ak_job t1 (by omega) (by omega) t3 t4 (fun z => absurd z (by omega)) (fun z => absurd z (by omega)) (fun _ => h) (fun z => absurd z (by omega)) (by omega)
  -- the other, up to what it finds
  have m287 := fun (Q : ak_S → Prop) (lb fr fh mv : Nat) => am_s287 (e := e) (d := d + 35) (ρ := ρ) (X := fun _ _ => False) (h := ak_poM hm (ak_nJ fs + 1 + r.length)) (Q := Q) (N := N) (T0 := ak_nT fs + ak_tc l) (na := n) (us := c.us) (n := fs.length + 1) (m := ak_nJ fs + 1 + r.length) (s := v.2.1) (w := v.2.2) (lb := lb) (fr := fr) (fh := fh) (mv := mv) (h1 := ak_tkB hm (ak_nJ fs + 1 + r.length) N) rfl ((ak_poM_o (by omega)).trans h104) hN ((ak_poM_o (by omega)).trans o3) ((ak_poM_o (by omega)).trans t127) (by omega) hn4 ((ak_poM_o (by omega)).trans hus) hus2 ((ak_poM_o (by omega)).trans e2) (by omega) ak_poM_v (by omega) ((ak_poM_o (by omega)).trans r4) r5 (by
    obtain ⟨z, z1, z2⟩ := ak_fre_M fre
    exact ⟨z, z1, (ak_poM_o (by omega)).trans z2⟩)
  by_cases s3 : v.2.1 ≠ 3
  · exact ak_failT (kd := 10) (s := 0) (x := 0) w fj (by omega) (by omega) h104 hN ak_vk0 cnt (fun hcX h Q X q => gC Q X (c92 Q (fun _ => ak_MV_deep (show d + 30 ≤ d + 37 by omega) (h _ _ q)) (fun z => absurd z s3))) (fun hm' h => job hm' (fun Q X q => gM Q X (m287 Q 0 0 0 0 (fun z => absurd z s3) (fun _ => ak_MV_of (Nat.le_of_ble_eq_true rfl) (am_k270_0 (ak_MV_deep (show d + 25 ≤ d + 37 by omega) (h _ _ q)))) (fun z => absurd z s3) (fun z => absurd z s3) (fun z => absurd z s3))))
  have s3 : v.2.1 = 3 := by omega
  obtain ⟨i, hi⟩ := Int.eq_ofNat_of_zero_le (vk.2.2.1 s3).1
  have iB : i < g.B := by have := (vk.2.2.1 s3).2; omega
  obtain ⟨lb, rb, w1, w2, w3, w4, w5, w6, w7, ⟨a, cc, G, p1, p2, p3, p4, p5, p6, p7⟩⟩ := k4 i iB
  obtain ⟨rW, ⟨hU, h53, h178, hlv⟩, alt, ⟨h55, _⟩, _, ⟨h179, mMt, _⟩, _⟩ := rooms rb w5
  have rb5 : rb < 560 := (fre.2.2.2.1 _).mp (List.mem_append_right _ w5)
  have φb : g.φ rb < 564 := fre.2.2.2.2.1 _ w5
  have i5 : i < 500 := by omega
  have agC : ∀ q k, ak_T c.s + 18 ≤ q → q ≤ ak_T c.s + 20 → (ak_tkA hc fs.length f.pc N).1 q k = c.h0.1 q k := fun q k => ak_tk_ag sp0
  have agM : ∀ q, q = 135 ∨ q = 136 → (ak_poM hm (ak_nJ fs + 1 + r.length)).1 q (60 * c.us + lb) = c.m0.1 q (60 * c.us + lb) := fun q a => (ak_poM_o (by omega)).trans (sp0.2.1.2 q _ (by unfold ak_tmI; omega))
  have bfacts : v.2.1 = 3 → ∃ i : Nat, v.2.2 = (i : Int) ∧ i < 500 ∧ (ak_poM hm (ak_nJ fs + 1 + r.length)).1 150 i = (lb : Int) ∧ lb < 60 ∧ (ak_poM hm (ak_nJ fs + 1 + r.length)).1 151 i = (g.φ rb : Int) ∧ g.φ rb < 564 ∧ (ak_poM hm (ak_nJ fs + 1 + r.length)).1 178 (g.φ rb) = (g.φ (g.hr rb) : Int) ∧ (ak_poM hm (ak_nJ fs + 1 + r.length)).1 179 (g.φ rb) = (g.mt rb : Int) ∧ (ak_poM hm (ak_nJ fs + 1 + r.length)).1 173 (g.φ rb) ≠ 0 := fun _ => ⟨i, hi, i5, (ak_poM_o (by omega)).trans w2, w3, (ak_poM_o (by omega)).trans w6, φb, (ak_poM_o (by omega)).trans h178, (ak_poM_o (by omega)).trans h179, by
    rw [ak_poM_o (by omega), (fre.2.2.2.2.2.2 _ φb).1 (List.mem_map.mpr ⟨rb, w5, rfl⟩)]; decide⟩
  have m2 := fun Q => m287 Q lb (g.φ rb) (g.φ (g.hr rb)) (g.mt rb) bfacts
  rw [agM 136 (Or.inr rfl), agM 135 (Or.inl rfl), ← p2] at m2
  have c2 := fun Q => c92 Q (fun z => absurd s3 z)
  rw [hi, ak_natn, AO 61 i (by omega) (by omega), w1, ak_natn, agC (ak_T c.s + 18) lb (by omega) (by omega), AO 62 i (by omega) (by omega), w4, agC (ak_T c.s + 20) lb (by omega) (by omega), p3, agC (ak_T c.s + 19) lb (by omega) (by omega), p1] at c2
  clear c92 m287 bfacts
  have bi : 0 ≤ (i : Int) ∧ (i : Int) < 500 := by omega
  have bl : 0 ≤ (lb : Int) ∧ (lb : Int) < 60 := by omega
  by_cases hn' : c.h0.1 (ak_T c.s + 18) lb ≠ (n : Int)
  · exact ak_failT (kd := 2) (s := 0) (x := 0) w fj (by omega) (by omega) h104 hN ak_vk0 cnt (fun hcX h Q X q => gC Q X (c2 Q (fun _ => ⟨bi, bl, fun z => absurd z hn', fun _ => ak_MV_deep (show d + 30 ≤ d + 37 by omega) (h _ _ q)⟩))) (fun hm' h => job hm' (fun Q X q => gM Q X (m2 Q (fun z => absurd s3 z) (fun _ _ => ak_MV_of (Nat.le_of_ble_eq_true rfl) (am_k270_0 (ak_MV_deep (show d + 25 ≤ d + 37 by omega) (h _ _ q)))) (fun _ z => absurd z hn') (fun _ z => absurd z hn'))))
  have hn' : c.h0.1 (ak_T c.s + 18) lb = (n : Int) := by omega
  by_cases l6 : fs.length + 1 = 60
  · exact ak_blk_deep (n := n) (T0 := ak_nT fs + ak_tc l) w fj h104 hN (by omega) (fun Q X q => gC Q X (c2 Q (fun _ => ⟨bi, bl, fun _ => ⟨Or.inl rfl, bi, bl, bl, ak_blk_94d w l6 t10 y1 hn4 rb5 Q _ q⟩, fun z => absurd hn' z⟩))) (job _ (fun Q X q => gM Q X (m2 Q (fun z => absurd s3 z) (fun _ z => absurd hn' z) (fun _ _ _ => q) (fun _ _ z => absurd l6 (by omega)))))
  · obtain ⟨rN, FR, hcF, eFR, nU, bg, go⟩ := ak_blk_94 (e := e) (d := d) (ρ1 := ρ1) (ρ2 := ρ2) (N := N) (mt := g.mt rb) (a := a) w (by omega) t10 y1 hn4 rb5 h53
    obtain ⟨hmF, ⟨f', hf, hz, blM⟩, go2⟩ := ak_MV_ex (m2 (fun h' => ∃ f', f' < 564 ∧ hm.1 173 f' = 0 ∧ ak_blM (fs.length + 1) (ak_nJ fs + 1 + r.length) f' (ak_nT fs + ak_tc l) n (g.φ rb : Int) (g.φ (g.hr rb) : Int) (g.mt rb : Int) (c.m0.1 135 (60 * c.us + lb)) (ak_tkB hm (ak_nJ fs + 1 + r.length) N) h') (fun z => absurd s3 z) (fun _ z => absurd hn' z) (fun _ _ z => absurd z l6) (fun _ _ _ f' h' hf hz bl => ⟨f', hf, (ak_poM_o (by omega)).symm.trans hz, bl⟩))
    rw [fv] at V
    have etc : ak_tc (v :: l) = ak_tc l + 1 := by show ak_tc l + (if v.1 = true then 1 else 0) = _; rw [if_pos v1]
    refine ak_blk_beg (u := u ++ [v]) (l := l) w fj (by omega) (by rw [fv]; simp) K len h104 hN (by omega) (by omega) (fun k hk' => ?_) w5 w7 p4 p5 p6 p7 eFR nU hf hz bg blM (fun Q X q => gC Q X (c2 Q (fun _ => ⟨bi, bl, fun _ => ⟨Or.inl rfl, bi, bl, bl, go Q _ q⟩, fun z => absurd hn' z⟩))) (job _ (fun Q X q => gM Q X (go2 _ _ q)))
    have := ak_VS_at V ut k (by omega)
    rw [etc, List.length_cons, ← Nat.add_assoc, ← Nat.add_assoc] at this
    exact this
end BLKA
