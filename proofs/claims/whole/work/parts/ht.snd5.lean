/-! the run: a send, what it needs -/
/-- is there one that takes what is not found -/
def ak_hdP (hm : ak_S) (m : Nat) (H : Int) : Prop := (∀ x, x < m → hm.1 201 x = 8 → 0 ≤ hm.1 202 x ∧ hm.1 202 x < 564) ∧ 0 ≤ H ∧ ((∃ x, x < m ∧ hm.1 201 x = 8 ∧ hm.1 176 (hm.1 202 x).toNat ≠ 0) → 0 < H) ∧ ((∀ x, x < m → hm.1 201 x = 8 → hm.1 176 (hm.1 202 x).toNat = 0) → H ≤ 0)
section SND5
variable {e : ak_X3} {d ρ1 ρ2 P W n N A na mth m f' : Nat} {ρ FR : List Nat} {c : ak_Cx} {g : ak_Gh} {fs : List ak_Fr} {f : ak_Fr} {hc hm hS mS hX hcF hmF : ak_S} {E : Nat → List ak_E} {Et : List ak_E} {j : ak_Jb} {r : List ak_Jb} {u l : List (Bool × Int × Int)} {s w0 pl ho hd H v : Int} {va vj : Nat → Int}
theorem ak_hd_st (w : ak_hdP hm m H) (h1 : hm.1 201 m = 8) (h2 : hm.1 202 m = (f' : Int)) (hf : f' < 564) (hv : v = hm.1 176 f') (v01 : v = 0 ∨ v = 1) (hn : ∀ x, m < x → x < m + 1 + n → hm.1 201 x ≠ 8) : ak_hdP hm (m + 1 + n) (H + v) := by
  obtain ⟨w1, w2, w3, w4⟩ := w
  refine ⟨fun x hx h8 => ?_, by omega, fun ⟨x, hx, h8, hz⟩ => ?_, fun hall => ?_⟩
  · by_cases g1 : x < m
    · exact w1 x g1 h8
    · by_cases g2 : x = m
      · subst g2; rw [h2]; omega
      · exact absurd h8 (hn x (by omega) hx)
  · by_cases g1 : x < m
    · have := w3 ⟨x, g1, h8, hz⟩
      omega
    · by_cases g2 : x = m
      · subst g2
        rw [h2, Int.toNat_natCast, ← hv] at hz
        omega
      · exact absurd h8 (hn x (by omega) hx)
  · have a1 := w4 (fun x hx h8 => hall x (by omega) h8)
    have a2 := hall m (by omega) h1
    rw [h2, Int.toNat_natCast, ← hv] at a2
    omega
theorem ak_K_ne8 {C M : Nat → Nat → Int} {T p lt : Nat} : ∀ {js : List ak_Jb} {pc : Nat} {sh : List Bool}, ak_K C M T p lt js pc sh → ∀ x, x ∈ js → x.k ≠ 8 := by
  intro js
  induction js with
  | nil => intro _ _ _ x hx; cases hx
  | cons j r ih =>
    intro pc sh w x hx
    rcases List.mem_cons.mp hx with rfl | hx
    · intro h8
      obtain ⟨_, _, _, w0⟩ := w
      unfold ak_K0 at w0
      rw [h8] at w0
      exact w0
    · obtain ⟨pc', sh', w'⟩ := ak_K_tl w
      exact ih w' x hx
theorem ak_js_ne8 {O B : Nat} {φ : Nat → Nat} {rs : List Nat} {F J Gp Kp Tp : Nat} : ∀ {l : List ak_Jb}, ak_JS O B φ rs F J Gp Kp Tp hc hm l → (∀ x, x ∈ l → x.k ≠ 8) → ∀ x, J ≤ x → x < J + l.length → hm.1 201 x ≠ 8 := by
  intro l
  induction l with
  | nil => intro _ _ x a b; exact absurd b (by rw [List.length_nil]; omega)
  | cons j r ih =>
    intro w hk x a b
    obtain ⟨⟨w1, _⟩, _, _, w4⟩ := w
    rw [List.length_cons] at b
    by_cases g1 : x = J + r.length
    · subst g1
      rw [w1]
      have := hk j List.mem_cons_self
      omega
    · exact ih w4 (fun x hx => hk x (List.mem_cons_of_mem _ hx)) x a (by omega)
theorem ak_hd_lo (hφ : ∀ y, y ∈ g.Us → g.φ y < 564) : ∀ {fs : List ak_Fr} {aw : List Bool}, ak_LO c g hc hm aw fs → ak_hdP hm (ak_nJ fs) (ak_nH hc fs) := by
  intro fs
  induction fs with
  | nil => intro _ _; exact ⟨fun x hx => absurd hx (Nat.not_lt_zero _), Int.le_refl _, fun ⟨x, hx, _⟩ => absurd hx (Nat.not_lt_zero _), fun _ => Int.le_refl _⟩
  | cons f fs ih =>
    intro aw w
    obtain ⟨⟨⟨a1, _, _, _, _, _, _, a8, a9, _⟩, ⟨b1, b2, _⟩, J, _, K, _⟩, lo⟩ := w
    exact ak_hd_st (ih lo) b1 b2 (hφ _ a1) a8 a9 (fun x g1 g2 => ak_js_ne8 J (ak_K_ne8 K) x (by omega) (by omega))
theorem ak_hnd (w : ak_RN c g (f :: fs) hc hm) (fj : f.js = j :: r) : ak_hdP hm (ak_nJ fs + 1 + r.length) (hc.1 69 8) := by
  have fre := w.1.2.2.2.2.1.1
  obtain ⟨_, ⟨⟨_, _, d3, _⟩, _, ⟨⟨a1, _, _, _, _, _, _, a8, a9, _⟩, ⟨b1, b2, _⟩, J, _, K, _⟩, lo⟩, _⟩ := w
  rw [fj] at J K
  rw [d3]
  obtain ⟨_, _, K'⟩ := ak_K_tl K
  exact ak_hd_st (ak_hd_lo fre.2.2.2.2.1 lo) b1 b2 (fre.2.2.2.2.1 _ a1) a8 a9 (fun x g1 g2 => ak_js_ne8 J.2.2.2 (ak_K_ne8 K') x (by omega) (by omega))
theorem ak_free (w : ak_RN c g (f :: fs) hc hm) (l6 : fs.length + 1 < 60) : ∃ (rN : Nat) (FR : List Nat), g.FR = FR ++ [rN] ∧ rN ∉ g.Us ∧ FR.length < 560 ∧ rN < 560 ∧ hc.1 49 11 = ((FR.length + 1 : Nat) : Int) ∧ hc.1 60 FR.length = (rN : Int) := by
  have rm := w.1.2.2.2.2.1
  have fU := (ak_tp w).2.2.1
  have hF := ak_fre_C rm (by simp [ak_rms]; omega)
  obtain ⟨w1, w2, w3, w4, _⟩ := rm.1
  have n1 := List.nodup_append.mp w3
  obtain ⟨FR, rN, eFR⟩ : ∃ FR rN, g.FR = FR ++ [rN] := by
    rcases List.eq_nil_or_concat g.FR with h | ⟨l0, z, h⟩
    · rw [h] at hF; cases hF
    · exact ⟨l0, z, by rw [h]; simp⟩
  have nU : rN ∉ g.Us := fun z => n1.2.2 rN (by rw [eFR]; simp) rN z rfl
  have hr5 : rN < 560 := (w4 rN).mp (List.mem_append_left _ (by rw [eFR]; simp))
  have hFR : g.FR.length < 560 := by
    have := ak_sub_len (l := f.r :: g.FR) (l' := List.range 560) (List.nodup_cons.mpr ⟨fun h => n1.2.2 f.r h f.r fU rfl, n1.1⟩) (fun y hy => List.mem_range.mpr (by
      rcases List.mem_cons.mp hy with rfl | hy
      · exact (w4 _).mp (List.mem_append_right _ fU)
      · exact (w4 y).mp (List.mem_append_left _ hy)))
    rw [List.length_range, List.length_cons] at this
    omega
  have el : g.FR.length = FR.length + 1 := by rw [eFR, List.length_append]; rfl
  exact ⟨rN, FR, eFR, nU, by omega, hr5, w1.trans (by rw [el]), w2 _ _ (by rw [eFR]; simp)⟩
/-- too deep -/
theorem ak_snd_deep {T0 : Nat} (w : ak_RN c g (f :: fs) hc hm) (fj : f.js = j :: r) (h104 : hm.1 110 104 = (N : Int)) (hN : N < 4000) (pc9 : f.pc < 9100) (U : ak_US c g fs f (ak_nJ fs + 1 + r.length) N E Et hc hm hS mS) (X : ∀ q k, q ≠ 32 → ¬ (q = 108 ∧ A + 1 ≤ k) → hX.1 q k = hS.1 q k) (XJ : ∀ q k, ¬ (q = 109 ∧ A + 1 ≤ k) → hX.2.1 q k = hS.2.1 q k) (X22 : hX.2.2 = hS.2.2)
    (gC : ak_cgo e (d + 40) c.s ρ1 ρ2 72 [am_r 32] hc (am_up hX.1 32 11 3, hX.2)) (gM : ak_mgo e (d + 40) ρ hm (am_up (am_up mS.1 110 127 (T0 : Int)) 110 105 3, mS.2)) : ak_OUT e d ρ1 ρ2 ρ c (ak_Phi hm (f :: fs)) W hc hm := by
  have w2 := ak_US_RN w U
  obtain ⟨sp, u1, u2, ⟨u3, u4, u5⟩, u6, u7, u8, u9⟩ := U
  have CO : ∀ q k, q ≠ 32 → ¬ (q = 108 ∧ A + 1 ≤ k) → ((am_up hX.1 32 11 3, hX.2) : ak_S).1 q k = hS.1 q k := fun q k a b => (ak_up_out1 (by omega)).trans (X q k a b)
  have C11 : ((am_up hX.1 32 11 3, hX.2) : ak_S).1 32 11 = 3 := ak_up_at1
  have CJ : ∀ q k, ¬ (q = 109 ∧ A + 1 ≤ k) → ((am_up hX.1 32 11 3, hX.2) : ak_S).2.1 q k = hS.2.1 q k := fun q k a => XJ q k a
  have C22 : ((am_up hX.1 32 11 3, hX.2) : ak_S).2.2 = hS.2.2 := X22
  generalize ((am_up hX.1 32 11 3, hX.2) : ak_S) = hcE at gC CO C11 CJ C22
  have MO : ∀ q k, ¬ (q = 110 ∧ (k = 105 ∨ k = 127)) → ((am_up (am_up mS.1 110 127 (T0 : Int)) 110 105 3, mS.2) : ak_S).1 q k = mS.1 q k := fun q k a => (ak_up_out1 (by omega)).trans (ak_up_out (by omega))
  have M105 : ((am_up (am_up mS.1 110 127 (T0 : Int)) 110 105 3, mS.2) : ak_S).1 110 105 = 3 := ak_up_at1
  have M2 : ((am_up (am_up mS.1 110 127 (T0 : Int)) 110 105 3, mS.2) : ak_S).2 = mS.2 := rfl
  generalize ((am_up (am_up mS.1 110 127 (T0 : Int)) 110 105 3, mS.2) : ak_S) = hmE at gM MO M105 M2
  have o2 := w.2.2.2.1
  refine Or.inr ⟨1, hcE, hmE, 3, ak_fend_f w2 (Or.inr rfl) (ak_SP_fr sp (fun q k h => ⟨CO q k (by unfold ak_stC at h; omega) (by unfold ak_stC at h; omega), CJ q k (by unfold ak_stC at h; omega)⟩) (fun q k h => ⟨MO q k (fun z => h.1 ⟨z.1, by omega⟩), by rw [M2]⟩)) (fun q k a b z => (CO q k (by omega) (by omega)).trans (ak_up_out1 z).symm) C11 M105, ?_, ak_turn1 w.1.1.1 (by rw [w.2.2.1]; decide) gC ((CO _ _ (by omega) (by omega)).trans ((u1 _ _ (by omega) (by omega) (by omega) (by omega) (by omega) (by omega)).trans o2)), gM, C22.trans u5⟩
  unfold ak_Phi
  show 1 ≤ _ + (ak_pcs fs + (9100 - f.pc) + 9101 * ak_gw f.js)
  omega
/-- it begins -/
theorem ak_snd_bg (w : ak_RN c g (f :: fs) hc hm) (fj : f.js = j :: r) (hk : j.k < 9) (fv : f.vs = u ++ l) (K : ak_K (ak_mC c.s c.h0) (ak_mM c.us c.m0) (ak_T c.s) c.us (g.mt f.r + 40 * g.lv f.r) r (f.pc + 1) (true :: l.map (fun v => v.1))) (len : l.length + 1 ≤ 151) (h104 : hm.1 110 104 = (N : Int)) (hN : N < 4000) (pc9 : f.pc < 9100)
    (U : ak_US c g fs f (ak_nJ fs + 1 + r.length) N E Et hc hm hS mS) (hna : na ≤ 4) (hmt : mth < c.Mt) (eA : A = ak_nV fs + l.length) (hA : A + na + 1 ≤ 12000)
    (X : ∀ q k, q ≠ 32 → ¬ (q = 108 ∧ A + 1 ≤ k) → hX.1 q k = hS.1 q k) (X11 : hX.1 32 11 = -1) (XJ : ∀ q k, ¬ (q = 109 ∧ A + 1 ≤ k) → hX.2.1 q k = hS.2.1 q k) (X22 : hX.2.2 = hS.2.2) (x10 : hX.1 32 10 = ((A + na + 1 : Nat) : Int)) (x13 : hX.1 32 13 = (na : Int)) (x14 : hX.1 32 14 = pl) (x15 : hX.1 32 15 = ho) (x16 : hX.1 32 16 = hd) (vals : ∀ k, k < na → hX.1 108 (A + 1 + k) = va k ∧ hX.2.1 109 (A + 1 + k) = vj k ∧ ak_vok g.O g.B (va k) (vj k)) (r1 : hc.1 108 A = s) (r2 : hc.2.1 109 A = w0) (vk : ak_vok g.O g.B s w0) (bho : -1 ≤ ho ∧ ho < 200) (hhd : hd = 0 ∨ hd = 1) (cnt : hm.1 110 111 < 1000000000)
    (GC : ∀ (Q : ak_S → Prop) (X : Nat → ak_S → Prop), ak_MV e 0 (d + 38) (ak_rc c.s ρ1 ρ2) 93 [am_r 32, am_i (mth : Int)] hX Q (fun _ _ => False) → ak_MV e 0 (d + 40) (ak_rc c.s ρ1 ρ2) 72 [am_r 32] hc Q X) (GMd : fs.length + 1 = 60 → ak_mgo e (d + 40) ρ hm (am_up (am_up mS.1 110 127 ((ak_nT fs + ak_tc l : Nat) : Int)) 110 105 3, mS.2))
    (GM : ∀ nb : Nat, hm.1 110 111 = (nb : Int) → fs.length + 1 < 60 → ∃ (f' : Nat) (hmF : ak_S), f' < 564 ∧ hm.1 173 f' = 0 ∧ ak_mtM c.us (fs.length + 1) (ak_nJ fs + 1 + r.length) f' nb (ak_nT fs + ak_tc l) na mth s w0 pl ho hd va vj mS hmF ∧ ak_mgo e (d + 40) ρ hm hmF) : ak_OUT e d ρ1 ρ2 ρ c (ak_Phi hm (f :: fs)) W hc hm := by
  obtain ⟨d1, d2, d3, _⟩ := w.2.1.1
  have bH := ak_nH_bd (ak_LO_row w.2.1.2.2).2.1
  have hl : (f :: fs).length = fs.length + 1 := rfl
  rw [hl] at bH d1 d2
  have hMt : c.Mt ≤ 40 := (ak_tx_z w.1.1.2).2.2.2.2.2.2.2
  obtain ⟨a, cc, p1, p4, _, _, p7⟩ := ak_tx_prg w.1.1.2 hmt
  have hT := ak_T_bd w.1.1.1
  have hst : hc.1 (ak_T c.s + 13) mth = (a : Int) := ((w.1.2.1.1 _ _ (by omega) (by omega)).1).trans p1
  have jn := w.1.2.2.2.2.2.1
  obtain ⟨nb, enb⟩ := Int.eq_ofNat_of_zero_le jn.2.1.2.2.2.1
  have h64 : hc.2.1 64 6 = (nb : Int) := jn.1.2.2.2.2.2.2.trans enb
  have U' := U
  obtain ⟨_, u1, u2, ⟨u3, u4, u5⟩, _⟩ := U'
  have XC : ∀ q k, q ≠ 32 → ¬ (q = 72 ∧ k = fs.length) → ¬ (q = 33 ∧ (k = 9 ∨ k = 10 ∨ k = 14)) → ¬ (42 ≤ q ∧ q ≤ 47) → ¬ (q = 108 ∧ A + 1 ≤ k) → hX.1 q k = hc.1 q k := fun q k a1 a2 a3 a4 a5 => (X q k a1 a5).trans (u1 q k (by omega) a2 a3 (by omega) (by omega) (by omega))
  have XCJ : ∀ q k, q ≠ 41 → q ≠ 46 → ¬ (q = 64 ∧ k = 2) → ¬ (q = 109 ∧ A + 1 ≤ k) → hX.2.1 q k = hc.2.1 q k := fun q k a1 a2 a3 a4 => (XJ q k a4).trans (u2 q k a1 a2 a3)
  by_cases l6 : fs.length + 1 = 60
  · exact ak_snd_deep (A := A) w fj h104 hN pc9 U X XJ X22 (fun Q X0 q => GC Q X0 (am_c93 (d := d + 32) (n := 0) (r := 0) (A := A) (na := na) w.1.1.1 ((XC _ _ (by omega) (by omega) (by omega) (by omega) (by omega)).trans d2) (by omega) x13 hna x10 (by omega) ((XC _ _ (by omega) (by omega) (by omega) (by omega) (by omega)).trans d3) (by omega) x14 x15 x16 hhd ((XC _ _ (by omega) (by omega) (by omega) (by omega) (by omega)).trans r1) ((XCJ _ _ (by omega) (by omega) (by omega) (by omega)).trans r2) ((XCJ _ _ (by omega) (by omega) (by omega) (by omega)).trans h64) (by omega) (by omega) ((XC _ _ (by omega) (by omega) (by omega) (by omega) (by omega)).trans hst) (fun z => absurd z (by omega)) (fun z => absurd z (by omega)) (fun _ => q))) (GMd l6)
  · obtain ⟨rN, FR, eFR, nU, F5, r5, h49, h60⟩ := ak_free w (by omega)
    obtain ⟨f', hmF, hf, hz, mm, gM⟩ := GM nb enb (by omega)
    obtain ⟨hcF, mc, go⟩ := ak_MV_ex (am_c93 (e := e) (d := d + 32) (ρ1 := ρ1) (ρ2 := ρ2) (X := fun _ _ => False) (Q := fun h' => ak_mtC FR.length rN (fs.length + 1) A na mth a nb s w0 pl ho (hc.1 77 4) hd hX h') (n := FR.length) (r := rN) (A := A) (na := na) w.1.1.1 ((XC _ _ (by omega) (by omega) (by omega) (by omega) (by omega)).trans d2) (by omega) x13 hna x10 (by omega) ((XC _ _ (by omega) (by omega) (by omega) (by omega) (by omega)).trans d3) (by omega) x14 x15 x16 hhd ((XC _ _ (by omega) (by omega) (by omega) (by omega) (by omega)).trans r1) ((XCJ _ _ (by omega) (by omega) (by omega) (by omega)).trans r2) ((XCJ _ _ (by omega) (by omega) (by omega) (by omega)).trans h64) (by omega) (by omega) ((XC _ _ (by omega) (by omega) (by omega) (by omega) (by omega)).trans hst)
      (fun _ => ⟨(XC _ _ (by omega) (by omega) (by omega) (by omega) (by omega)).trans h49, F5, (XC _ _ (by omega) (by omega) (by omega) (by omega) (by omega)).trans h60, r5⟩) (fun _ h' q => by rw [XC 77 4 (by omega) (by omega) (by omega) (by omega) (by omega)] at q; exact q) (fun z => absurd z (by omega)))
    exact ak_snd_beg (G := 21) w fj hk fv K len h104 hN pc9 (by omega) U hna hmt hMt eA X X11 XJ X22 vals vk bho hhd eFR nU hf hz enb (by omega) mc mm p4 (Nat.le_refl _) (p7 6160 (Nat.le_refl _)) (fun Q X0 q => GC Q X0 (go _ _ q)) gM
end SND5
