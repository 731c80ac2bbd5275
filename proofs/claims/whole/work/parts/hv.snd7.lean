/-! the run: a send that is not understood; every send -/
section SND7
variable {e : ak_X3} {d ρ1 ρ2 P W y n N i o T1 A : Nat} {ρ : List Nat} {c : ak_Cx} {g : ak_Gh} {fs : List ak_Fr} {f : ak_Fr} {hc hm hS mS : ak_S} {E : Nat → List ak_E} {Et : List ak_E} {j : ak_Jb} {r : List ak_Jb} {u l : List (Bool × Int × Int)} {v : Bool × Int × Int} {stt nm pl ho : Int} {kk : Bool}
theorem ak_nuX (h : ak_S) (A n : Nat) (nm pl ho : Int) : ∃ hX : ak_S, hX = (am_up (am_up (am_up (am_up (ak_psC (ak_psC (am_up h.1 32 10 ((A + 1 : Nat) : Int), h.2) (A + 1) 1 nm) (A + 2) 1 (n : Int)).1 32 13 2) 32 14 pl) 32 15 ho) 32 16 1, (ak_psC (ak_psC (am_up h.1 32 10 ((A + 1 : Nat) : Int), h.2) (A + 1) 1 nm) (A + 2) 1 (n : Int)).2) ∧
    (∀ q k, q ≠ 32 → ¬ (q = 108 ∧ A + 1 ≤ k) → hX.1 q k = h.1 q k) ∧ (∀ q k, ¬ (q = 109 ∧ A + 1 ≤ k) → hX.2.1 q k = h.2.1 q k) ∧ hX.2.2 = h.2.2 ∧ (hX.1 32 11 = h.1 32 11 ∧ hX.1 32 10 = ((A + 2 + 1 : Nat) : Int) ∧ hX.1 32 13 = 2 ∧ hX.1 32 14 = pl ∧ hX.1 32 15 = ho ∧ hX.1 32 16 = 1) ∧ (hX.1 108 (A + 1) = 1 ∧ hX.2.1 109 (A + 1) = nm ∧ hX.1 108 (A + 2) = 1 ∧ hX.2.1 109 (A + 2) = (n : Int)) := by
  refine ⟨_, rfl, fun q k a b => ?_, fun q k a => (ak_psC_J (s := 1) (by omega)).trans (ak_psC_J (s := 1) (by omega)), rfl, ?_, ?_⟩
  · exact (ak_up_out1 (by omega)).trans ((ak_up_out (by omega)).trans ((ak_up_out (by omega)).trans ((ak_up_out (by omega)).trans ((ak_psC_o (by omega) (by omega)).trans ((ak_psC_o (by omega) (by omega)).trans (ak_up_out1 (by omega)))))))
  · unfold ak_psC
    simp [am_up]
  · unfold ak_psC
    simp [am_up]
theorem ak_snd_nf (w : ak_RN c g (f :: fs) hc hm) (fj : f.js = j :: r) (hk : j.k = 3) (fv : f.vs = u ++ (v :: l)) (ul : u.length = n) (hn4 : n ≤ 4) (K : ak_K (ak_mC c.s c.h0) (ak_mM c.us c.m0) (ak_T c.s) c.us (g.mt f.r + 40 * g.lv f.r) r (f.pc + 1) (true :: l.map (fun v => v.1))) (len : l.length + 1 ≤ 151) (pc9 : f.pc < 9100) (h104 : hm.1 110 104 = (N : Int)) (hN : N < 4000) (cnt : hm.1 110 109 < 1000000000) (cnt2 : hm.1 110 111 < 1000000000)
    (vk : ak_vok g.O g.B v.2.1 v.2.2) (oO : o < g.O) (nmb : 0 ≤ nm ∧ nm < 100) (r1 : hc.1 108 (ak_nV fs + l.length) = v.2.1) (r2 : hc.2.1 109 (ak_nV fs + l.length) = v.2.2) (x10 : hc.1 32 10 = ((ak_nV fs + l.length + n + 1 : Nat) : Int)) (x10' : ak_nV fs + l.length + n + 1 ≤ 9060) (hnm : hm.1 129 (150 * c.us + i) = nm) (hi : i < 150) (y18 : y < 18000) (h118 : hm.1 118 y = (i : Int))
    (U : ak_US c g fs f (ak_nJ fs + 1 + r.length) N E Et hc hm hS mS) (RC : ak_SXc e d ρ1 ρ2 c n o (ak_nV fs + l.length) nm (ak_lu g.T g.sh g.O (g.sh o) nm stt).1 (ak_lu g.T g.sh g.O (g.sh o) nm stt).2 hc hS) (RM : ak_SXm e d ρ c n o y (ak_nT fs + ak_tc l) T1 nm (ak_lu g.T g.sh g.O (g.sh o) nm stt).1 (ak_lu g.T g.sh g.O (g.sh o) nm stt).2 v.2.1 v.2.2 j.n (ak_poM hm (ak_nJ fs + 1 + r.length)) mS)
    (job : ∀ hm', ak_goV e (d + 40) ρ 283 [am_r 110, am_i j.n] (ak_poM hm (ak_nJ fs + 1 + r.length)) hm' → ak_mgo e (d + 40) ρ hm hm') (g0 : (ak_lu g.T g.sh g.O (g.sh o) nm stt).1 < 0) : ak_OUT e d ρ1 ρ2 ρ c (ak_Phi hm (f :: fs)) W hc hm := by
  have hs := w.1.1.1
  have o11 := w.2.2.1
  have wd : ak_WD g.S g.O g.B c.Mt g.T g.sh hS mS := U.1.2.2.1.2
  have st := U.1.2.2.2.1
  have hO := wd.2.2.2.1.1
  have ob := wd.2.2.2.2
  obtain ⟨hS', ⟨a9, a10, aF⟩, goL⟩ := ak_MV_ex (am_s164 (e := e) (d := d + 33) (ρ := ak_rc c.s ρ1 ρ2) (h := hS) (s := g.sh o) (nm := 0) (start := 0) (X := fun _ _ => False) (Q := fun h' => h'.1 33 9 = (ak_lu g.T g.sh g.O (g.sh o) 0 0).1 ∧ h'.1 33 10 = (ak_lu g.T g.sh g.O (g.sh o) 0 0).2 ∧ ak_luF hS h') wd.1 wd.2.1 hO (fun o ho => ⟨(ob o ho).1, (ob o ho).2.1⟩) (ob o oO).1 (by decide) (fun h' x1 x2 _ x4 => ⟨x1, x2, x4⟩))
  obtain ⟨mS', ⟨b9, b10, bL, bF⟩, goR⟩ := ak_MV_ex (am_s251 (e := e) (d := d + 33) (ρ := ρ) (h := mS) (s := g.sh o) (nm := 0) (start := 0) (X := fun _ _ => False) (Q := fun h' => h'.1 110 69 = (ak_lu g.T g.sh g.O (g.sh o) 0 0).1 ∧ h'.1 110 70 = (ak_lu g.T g.sh g.O (g.sh o) 0 0).2 ∧ ak_ly g.S g.O g.T g.sh h' ∧ ak_luM mS h') wd.1 hO wd.2.2.1 (fun o ho => ⟨(ob o ho).1, (ob o ho).2.2.2.1⟩) st.2.2.2.2.2 (ob o oO).1 (by decide) (fun h' x1 x2 x3 x4 => ⟨x1, x2, x3, x4⟩))
  have U' := ak_US_lu U aF bF bL
  have wd' : ak_WD g.S g.O g.B c.Mt g.T g.sh hS' mS' := U'.1.2.2.1.2
  have o34 := (ob o oO).2.1
  have o142 := (ob o oO).2.2.1
  have c1 := U'.2.1
  have m1 := U'.2.2.2.2.1
  have m7 := U'.2.2.2.2.2.1
  have u9 := U'.2.2.2.2.2.2.2
  have hT := ak_T_bd hs
  have M4 : hS'.1 (ak_T c.s) 4 = (c.Mt : Int) := ((U'.1.2.1.1 _ _ (by omega) (by omega)).1).trans U'.1.1.2.1.2.2.2.2.2.2.1.2.1
  have M40 : c.Mt ≤ 40 := (ak_tx_z w.1.1.2).2.2.2.2.2.2.2
  have us2 := w.1.2.2.2.2.2.2.1.1
  have us3 := w.1.2.2.2.2.2.2.1.2.1
  have h10 : hS'.1 32 10 = ((ak_nV fs + l.length + n + 1 : Nat) : Int) := (c1 _ _ (by omega) (by omega) (by omega) (by omega) (by omega) (by omega)).trans x10
  have u6 := U.2.2.2.2.1
  have s118 : mS.1 118 y = (i : Int) := (u6 _ _ (by omega) (by omega)).trans h118
  have s3 : mS.1 110 3 = (c.us : Int) := (u6 _ _ (by omega) (by omega)).trans us3
  have s3' : mS'.1 110 3 = (c.us : Int) := (m1 _ _ (by omega) (by omega)).trans us3
  have s129 : mS.1 129 (150 * c.us + i) = nm := (u6 _ _ (by omega) (by omega)).trans hnm
  have HD : ak_hdP mS' (ak_nJ fs + 1 + r.length) (hc.1 69 8) := by
    obtain ⟨h1, h2, h3, h4⟩ := ak_hnd w fj
    refine ⟨fun x hx h8 => ?_, h2, fun ⟨x, hx, h8, hz⟩ => h3 ⟨x, hx, ?_, ?_⟩, fun hall => h4 (fun x hx h8 => ?_)⟩
    · rw [m1 201 _ (by omega) (by omega)] at h8
      rw [m1 202 _ (by omega) (by omega)]
      exact h1 x hx h8
    · rw [m1 201 _ (by omega) (by omega)] at h8; exact h8
    · rw [m1 202 _ (by omega) (by omega), m1 176 _ (by omega) (by omega)] at hz; exact hz
    · have := hall x hx (by rw [m1 201 _ (by omega) (by omega)]; exact h8)
      rw [m1 202 _ (by omega) (by omega), m1 176 _ (by omega) (by omega)] at this
      exact this
  obtain ⟨hd1, _, hd3, hd4⟩ := HD
  have o698 : hS'.1 69 8 = hc.1 69 8 := c1 _ _ (by omega) (by omega) (by omega) (by omega) (by omega) (by omega)
  have t2 := (ak_tj w fj).2.1
  -- what each needs
  have RC2 := fun (Q : ak_S → Prop) (X : Nat → ak_S → Prop) D => RC Q X (fun _ => am_s90 (d := d + 34) (ρ1 := ρ1) (ρ2 := ρ2) (Q := fun v h3 => (v < 0 → Q h3) ∧ (0 ≤ v → ak_MV e 0 (d + 38) (ak_rc c.s ρ1 ρ2) 93 [am_r 32, am_i v] h3 Q (fun _ _ => False))) (nm := nm) hs (by omega) o34 goL a9 a10 M4 M40 hn4 h10 x10' D) (fun y => absurd g0 (by omega))
  have RM2 := fun (Q : ak_S → Prop) (X : Nat → ak_S → Prop) D => RM Q X (fun _ => am_s290 (d := d + 34) (T0 := ak_nT fs + ak_tc l) (s := v.2.1) (w := v.2.2) (n := n) (Q := Q) (by omega) y18 hi s118 s3 us2 s129 o142 goR b9 b10 s3' D) (fun y => absurd g0 (by omega))
  have cv : ∀ Q : ak_S → Prop, ak_MV e 0 (d + 36) (ak_rc c.s ρ1 ρ2) 77 [am_r 32, am_i 1, am_i 1, am_l nm] hS' Q (fun _ _ => False) → ak_MV e 0 (d + 36) (ak_rc c.s ρ1 ρ2) 77 [am_r 32, am_i 1, am_i 1, am_l nm] hS' (fun h3 => ((-1 : Int) < 0 → Q h3) ∧ (0 ≤ (-1 : Int) → ak_MV e 0 (d + 38) (ak_rc c.s ρ1 ρ2) 93 [am_r 32, am_i (-1)] h3 Q (fun _ _ => False))) (fun _ _ => False) := fun Q q => ak_MV_imp q (fun h' q => ⟨fun _ => q, fun z => absurd z (by decide)⟩) (fun _ _ q => q)
  have FAIL : (∀ (Q : ak_S → Prop) (X : Nat → ak_S → Prop), ak_MV e 0 (d + 36) (ak_rc c.s ρ1 ρ2) 77 [am_r 32, am_i 1, am_i 1, am_l nm] hS' Q (fun _ _ => False) → ak_MV e 0 (d + 40) (ak_rc c.s ρ1 ρ2) 72 [am_r 32] hc Q X) → (∀ (Q : ak_S → Prop) (X : Nat → ak_S → Prop), ak_MV e 1 (d + 37) ρ 269 [am_r 110, am_i 1, am_i 1, am_l nm] mS' Q (fun _ _ => False) → ak_MV e 1 (d + 40) ρ 283 [am_r 110, am_i j.n] (ak_poM hm (ak_nJ fs + 1 + r.length)) Q X) → ak_OUT e d ρ1 ρ2 ρ c (ak_Phi hm (f :: fs)) W hc hm := fun gC gM =>
    ak_US_fail (kd := 1) (s := 1) (x := nm) w fj (by omega) pc9 h104 U' (ak_vkn (by omega)) cnt (fun hcX h Q X q => gC Q X (ak_MV_deep (show d + 30 ≤ d + 36 by omega) (h _ _ q))) (fun hm' h => job _ (fun Q X q => gM Q X (ak_MV_deep (show d + 25 ≤ d + 37 by omega) (h _ _ q))))
  by_cases p0 : (ak_lu g.T g.sh g.O (g.sh o) 0 0).1 < 0
  · exact FAIL (fun Q X q => RC2 Q X (Or.inl ⟨p0, cv Q q⟩)) (fun Q X q => RM2 Q X (Or.inl ⟨p0, q⟩))
  have p0 : 0 ≤ (ak_lu g.T g.sh g.O (g.sh o) 0 0).1 := by omega
  obtain ⟨i', iO, ei, lk, b1, b2⟩ := ak_lu_at wd' oO p0
  obtain ⟨k, k12, kz, r153, h34, r238, D⟩ := ak_slot wd' iO lk
  have r88 : ∀ (Q : Int → ak_S → Prop) (X : Nat → ak_S → Prop), Q ((12 * i' + k : Nat) : Int) hS' → ak_MI e 0 (d + 36) (ak_rc c.s ρ1 ρ2) 88 [am_r 32, am_i (o : Int), am_i 0, am_i (ak_lu g.T g.sh g.O (g.sh o) 0 0).1, am_i (ak_lu g.T g.sh g.O (g.sh o) 0 0).2] hS' Q X := fun Q X q => am_s88 (d := d + 34) hs ei (by omega) k12 h34 (fun Q X q => r153 e (d + 34) _ Q X q) q
  have r238' := fun Q X q => r238 e (d + 36) ρ Q X q
  clear r153 r238 h34 lk wd' goL goR ob st wd RC RM
  generalize 12 * i' + k = z at kz r238' r88 D
  rcases D with ⟨m3, n4, _, _, _⟩ | ⟨m3, e4, m, mM, e6, e7⟩
  · exact FAIL (fun Q X q => RC2 Q X (Or.inr ⟨p0, z, kz, r88, Or.inl ⟨n4, cv Q q⟩⟩)) (fun Q X q => RM2 Q X (Or.inr ⟨p0, i', z, ei, kz, r238', Or.inl ⟨m3, q⟩⟩))
  obtain ⟨ar, m40⟩ := ak_US_tx U' mM
  by_cases hh : 0 < hc.1 69 8 ∨ mS'.1 126 (40 * c.us + m) ≠ 2
  · refine FAIL (fun Q X q => RC2 Q X (Or.inr ⟨p0, z, kz, r88, Or.inr ⟨e4, m, mM, e6, fun _ => cv Q q, fun a b => absurd hh (by omega)⟩⟩)) (fun Q X q => RM2 Q X (Or.inr ⟨p0, i', z, ei, kz, r238', Or.inr ⟨m3, m, m40, e7, fun _ => q, fun a => ?_⟩⟩))
    exact am_s289 (d := d + 36) u9 (by omega) hd1 (fun _ => ⟨fun _ => q, fun z => absurd z (by decide)⟩) (fun hall => absurd hh (by have := hd4 hall; omega))
  · obtain ⟨hX, eX, X, XJ, X22, ⟨x11, x10X, x13, x14, x15, x16⟩, v1, v2, v3, v4⟩ := ak_nuX hS' (ak_nV fs + l.length) n nm (ak_lu g.T g.sh g.O (g.sh o) 0 0).1 (ak_lu g.T g.sh g.O (g.sh o) 0 0).2
    have d2 := (ak_tp w).2.2.2.2.2.2.2.2.2.2.2.2.2.1.2.1
    have l60 := (ak_tp w).2.1
    have fr := ak_fre_M w.1.2.2.2.2.1.1
    have jn := w.1.2.2.2.2.2.1.2.1.2.2.2.1
    have G : ∀ q k, ¬ (q = 110 ∧ k = 127) → ((am_up mS'.1 110 127 ((ak_nT fs + ak_tc l : Nat) : Int), mS'.2) : ak_S).1 q k = mS'.1 q k := fun q k a => ak_up_out1 a
    have ex : ∃ f0, f0 < 564 ∧ ((am_up mS'.1 110 127 ((ak_nT fs + ak_tc l : Nat) : Int), mS'.2) : ak_S).1 173 f0 = 0 := by
      obtain ⟨f0, f1, f2⟩ := fr
      exact ⟨f0, f1, (G _ _ (by omega)).trans ((m1 _ _ (by omega) (by omega)).trans f2)⟩
    have nh : hc.1 69 8 ≤ 0 := by omega
    have ar2 : mS'.1 126 (40 * c.us + m) = 2 := by omega
    refine ak_snd_bg (u := u ++ [v]) (A := ak_nV fs + l.length) (na := 2) (mth := m) (pl := (ak_lu g.T g.sh g.O (g.sh o) 0 0).1) (ho := (ak_lu g.T g.sh g.O (g.sh o) 0 0).2) (hd := 1) (s := v.2.1) (w0 := v.2.2) (va := fun _ => 1) (vj := fun k => if k = 0 then nm else (n : Int)) (hX := hX) w fj (by omega) (by rw [fv]; simp) K len h104 hN pc9 U' (by decide) mM rfl (by omega) X
      (x11.trans ((c1 _ _ (by omega) (by omega) (by omega) (by omega) (by omega) (by omega)).trans o11)) XJ X22 x10X x13 x14 x15 x16 (fun k' hk' => ?_) r1 r2 vk ⟨b1, b2⟩ (Or.inr rfl) cnt2 (fun Q X q => RC2 Q X (Or.inr ⟨p0, z, kz, r88, Or.inr ⟨e4, m, mM, e6, fun a => absurd a (by omega), fun _ _ => ?_⟩⟩))
      (fun l6 => job _ (fun Q X q => RM2 Q X (Or.inr ⟨p0, i', z, ei, kz, r238', Or.inr ⟨m3, m, m40, e7, fun a => absurd ar2 a, fun _ => ?_⟩⟩))) (fun nb enb l6 => ?_)
    · rcases (show k' = 0 ∨ k' = 1 by omega) with rfl | rfl
      · exact ⟨v1, v2, ak_vkn (by show -9223372036854775808 ≤ nm ∧ nm < 9223372036854775808; omega)⟩
      · exact ⟨v3, v4, ak_vkn (by show -9223372036854775808 ≤ (n : Int) ∧ (n : Int) < 9223372036854775808; omega)⟩
    · rw [← eX]
      exact ⟨fun y => absurd y (by omega), fun _ => q⟩
    · obtain ⟨nb, enb⟩ := Int.eq_ofNat_of_zero_le jn
      refine am_s289 (d := d + 36) u9 (by omega) hd1 (fun hx => absurd (hd3 hx) (by omega)) (fun _ => ⟨fun z => absurd rfl z, fun _ => ⟨rfl, ?_⟩⟩)
      exact am_s275 (d := d + 34) (n := fs.length + 1) (m := ak_nJ fs + 1 + r.length) (nb := nb) (us := c.us) ((G _ _ (by omega)).trans ((m1 _ _ (by omega) (by omega)).trans d2)) (by omega) ((G _ _ (by omega)).trans u9) (by omega) ((G _ _ (by omega)).trans ((m1 _ _ (by omega) (by omega)).trans enb)) (by omega) m40 ((G _ _ (by omega)).trans s3') us2 ⟨b1, b2⟩ ex (fun z => absurd z (by omega)) (fun _ => ⟨fun z => absurd z (by decide), fun _ => q⟩)
    · have key : ak_MV e 1 (d + 40) ρ 283 [am_r 110, am_i j.n] (ak_poM hm (ak_nJ fs + 1 + r.length)) (fun h' => ∃ f', f' < 564 ∧ hm.1 173 f' = 0 ∧ ak_mtM c.us (fs.length + 1) (ak_nJ fs + 1 + r.length) f' nb (ak_nT fs + ak_tc l) 2 m v.2.1 v.2.2 (ak_lu g.T g.sh g.O (g.sh o) 0 0).1 (ak_lu g.T g.sh g.O (g.sh o) 0 0).2 1 (fun _ => 1) (fun k => if k = 0 then nm else (n : Int)) mS' h') (fun _ _ => False) := by
        refine RM2 _ _ (Or.inr ⟨p0, i', z, ei, kz, r238', Or.inr ⟨m3, m, m40, e7, fun a => absurd ar2 a, fun _ => am_s289 (d := d + 36) u9 (by omega) hd1 (fun hx => absurd (hd3 hx) (by omega)) (fun _ => ⟨fun z => absurd rfl z, fun _ => ⟨rfl, ?_⟩⟩)⟩⟩)
        refine am_s275 (d := d + 34) (n := fs.length + 1) (m := ak_nJ fs + 1 + r.length) (nb := nb) (us := c.us) ((G _ _ (by omega)).trans ((m1 _ _ (by omega) (by omega)).trans d2)) (by omega) ((G _ _ (by omega)).trans u9) (by omega) ((G _ _ (by omega)).trans ((m1 _ _ (by omega) (by omega)).trans enb)) (by omega) m40 ((G _ _ (by omega)).trans s3') us2 ⟨b1, b2⟩ ex (fun _ f' h1 hf hz bm => ?_) (fun z => absurd z (by omega))
        refine ⟨fun _ => ⟨by omega, ?_⟩, fun z => absurd z (by omega)⟩
        rw [ak_natn]
        refine am_s274 (d := d + 36) (slot := 0) hf (by decide) (am_s274 (d := d + 36) (slot := 1) hf (by decide) ⟨f', hf, (m1 _ _ (by omega) (by omega)).symm.trans ((G _ _ (by omega)).symm.trans hz), ak_mtM_of bm (fun k' hk' => ?_) ?_ (fun q k' a1 a2 => ?_) (fun q k' a1 => ?_) rfl (by decide)⟩)
        · rcases (show k' = 0 ∨ k' = 1 by omega) with rfl | rfl
          · unfold ak_kwM
            simp [am_up]
          · unfold ak_kwM
            simp [am_up]
        · unfold ak_kwM
          simp [am_up]
        · exact (ak_up_out1 (by omega)).trans ((ak_up_out1 (by omega)).trans (ak_up_out1 (by omega)))
        · exact (ak_up_out (by omega)).trans (ak_up_out (by omega))
      obtain ⟨hmF, ⟨f', hf, hz, mm⟩, go⟩ := ak_MV_ex key
      exact ⟨f', hmF, hf, hz, mm, job _ (fun Q X q => go Q X q)⟩
/-- EVERY SEND -/
theorem ak_af_snd (w : ak_RN c g (f :: fs) hc hm) (fj : f.js = j :: r) (hk : j.k = 3) (hy : j.n = (y : Int)) (h114 : ak_mM c.us c.m0 114 y = (if kk = true then 8 else 9)) (h2 : ak_mC c.s c.h0 (ak_T c.s + 2) f.pc = (if kk = true then 18 else 17)) (h3 : ak_mC c.s c.h0 (ak_T c.s + 3) f.pc = (i : Int) * 8 + (n : Int)) (h117 : ak_mM c.us c.m0 117 y = (n : Int)) (h118 : ak_mM c.us c.m0 118 y = (i : Int)) (hi : i < c.z 7) (hn4 : n ≤ 4) (fv : f.vs = u ++ (v :: l)) (ul : u.length = n) (ut : ∀ z, z ∈ u → z.1 = true) (v1 : v.1 = !kk)
    (K : ak_K (ak_mC c.s c.h0) (ak_mM c.us c.m0) (ak_T c.s) c.us (g.mt f.r + 40 * g.lv f.r) r (f.pc + 1) (true :: l.map (fun v => v.1))) (len : l.length + 1 ≤ 151) (cnt : hm.1 110 109 < 1000000000) (cnt2 : hm.1 110 111 < 1000000000) : ak_OUT e d ρ1 ρ2 ρ c (ak_Phi hm (f :: fs)) W hc hm := by
  obtain ⟨t1, t2, t3, t4, t5, t6⟩ := ak_tj w fj
  have sp0 := w.1
  have o3 := w.2.2.2.2
  have pc9 : f.pc < 9100 := by
    have := (ak_cd sp0 h2 (by split <;> decide)).2.2.1
    omega
  have y114 : ak_mM c.us c.m0 114 y = 8 ∨ ak_mM c.us c.m0 114 y = 9 := by
    rw [h114]; cases kk <;> simp
  obtain ⟨y18, yq⟩ := ak_nde (q0 := 114) (y := y) sp0 (by omega) (by rcases y114 with h | h <;> rw [h] <;> decide)
  have jb := sp0.2.2.2.2.2.1.2.1.1
  obtain ⟨N, h104⟩ := Int.eq_ofNat_of_zero_le jb.1
  have job : ∀ hm', ak_goV e (d + 40) ρ 283 [am_r 110, am_i j.n] (ak_poM hm (ak_nJ fs + 1 + r.length)) hm' → ak_mgo e (d + 40) ρ hm hm' := fun hm' h => ak_job t1 (by omega) (by omega) t3 t4 (fun z => absurd z (by omega)) (fun z => absurd z (by omega)) (fun _ => h) (fun z => absurd z (by omega)) (by omega)
  by_cases hN : N = 4000
  · subst hN
    have h2' : ak_mC c.s c.h0 (ak_T c.s + 2) f.pc = (((if kk = true then 18 else 17 : Nat)) : Int) := by rw [h2]; cases kk <;> rfl
    refine ak_spent (o := if kk = true then 18 else 17) w fj hk h2' (by cases kk <;> decide) h104 (fun Q X q => ?_)
    rw [hy]
    refine ak_283s y18 (by rw [ak_poM_o (by omega), yq 114 (by omega) (by omega)]; exact y114) ?_
    refine ak_MV_of (Nat.le_of_ble_eq_true rfl) (am_k288_0 (am_s267 (d := d + 37) (n := 4000) ((ak_poM_o (by omega)).trans h104) (Nat.le_refl _) (fun z => absurd z (by omega)) (fun _ => ⟨fun z => ?_, fun _ => q⟩)))
    have : ((am_up (ak_poM hm (ak_nJ fs + 1 + r.length)).1 110 105 2, (ak_poM hm (ak_nJ fs + 1 + r.length)).2) : ak_S).1 110 105 = 2 := ak_up_at1
    omega
  have hN : N < 4000 := by omega
  obtain ⟨stt, nm, o, T1, E, Et, hS, mS, vk, oO, nmb, ⟨r1, r2⟩, ⟨x10, x10'⟩, ⟨eT, _, eT'⟩, ⟨hnm, i150⟩, ⟨_, g118⟩, U, RC, RM⟩ := ak_snd_ctx (e := e) (d := d) (ρ1 := ρ1) (ρ2 := ρ2) (ρ := ρ) w fj hk hy h114 h2 h3 h117 h118 hi hn4 fv ul ut v1 h104 hN
  by_cases g0 : (ak_lu g.T g.sh g.O (g.sh o) nm stt).1 < 0
  · exact ak_snd_nf w fj hk fv ul hn4 K len pc9 h104 hN cnt cnt2 vk oO nmb r1 r2 x10 x10' hnm i150 y18 g118 U RC RM job g0
  · exact ak_snd_found w fj hk fv ul ut v1 hn4 K len pc9 h104 hN cnt cnt2 vk oO r1 r2 x10 x10' eT eT' U RC RM job (by omega)
end SND7
