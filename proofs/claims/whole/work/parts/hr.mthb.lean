/-! the run: a method has begun -/
section MTHB
variable {e : ak_X3} {d ρ1 ρ2 P W n N A na mth a nb rN f' many G cc : Nat} {ρ FR : List Nat} {c : ak_Cx} {g : ak_Gh} {fs : List ak_Fr} {f : ak_Fr} {hc hm hS mS hX hcF hmF : ak_S} {E : Nat → List ak_E} {Et : List ak_E} {j : ak_Jb} {r : List ak_Jb} {u l : List (Bool × Int × Int)} {s w0 pl ho hd : Int} {va vj : Nat → Int}
theorem ak_mth_rom {O B Mt : Nat} {φ hr lv mt : Nat → Nat} {Us V : List Nat} (words : ∀ k, k < 12 → hcF.1 50 (12 * rN + k) = hmF.1 184 (12 * f' + k) ∧ hcF.2.1 51 (12 * rN + k) = hmF.2.1 185 (12 * f' + k) ∧ ak_vok O B (hcF.1 50 (12 * rN + k)) (hcF.2.1 51 (12 * rN + k)))
    (c5 : hcF.1 52 rN = -1 ∧ hcF.1 53 rN = (rN : Int) ∧ hcF.1 54 rN = (many : Int) ∧ hcF.1 55 rN = 0) (c6 : hcF.1 56 rN = s ∧ hcF.2.1 57 rN = w0 ∧ hcF.1 58 rN = pl ∧ hcF.1 59 rN = ho) (m5 : hmF.1 174 f' = 0 ∧ hmF.1 175 f' = 1 ∧ hmF.1 177 f' = -1 ∧ hmF.1 178 f' = (f' : Int) ∧ hmF.1 179 f' = (mth : Int) ∧ hmF.1 180 f' = s ∧ hmF.2.1 181 f' = w0 ∧ hmF.1 182 f' = (if pl = 0 then -1 else ho + 1)) (vk : ak_vok O B s w0) (bho : -1 ≤ ho ∧ ho < 200) (hmt : mth < Mt) (hMt : Mt ≤ 40) :
    ak_rom O B Mt (ak_ud φ rN f') (ak_ud hr rN rN) (ak_ud lv rN 0) (ak_ud mt rN mth) (rN :: Us) (rN :: V) hcF hmF rN := by
  have at' : ∀ (p : Nat → Nat) (v : Nat), ak_ud p rN v rN = v := fun p v => if_pos rfl
  obtain ⟨c52, c53, c54, c55⟩ := c5
  obtain ⟨c56, c57, c58, c59⟩ := c6
  obtain ⟨m174, m175, m177, m178, m179, m180, m181, m182⟩ := m5
  refine ⟨fun k hk => ?_, ⟨?_, ?_, ?_, ?_⟩, Or.inl ⟨at' _ _, at' _ _, c52, ?_⟩, ⟨?_, Or.inl c55⟩, Or.inl ⟨List.mem_cons_self, ?_, by rw [c54]; omega⟩, ⟨?_, ?_, ?_⟩, fun _ => ⟨?_, ?_, ?_, ?_, ?_, ?_⟩⟩
  · rw [at']; exact words k hk
  · rw [at']; exact List.mem_cons_self
  · rw [at']; exact c53
  · rw [at', at', at']; exact m178
  · rw [at', at']
  · rw [at']; exact m177
  · rw [at', m174, c55]
  · rw [at']; exact m175
  · rw [at', at']; exact m179
  · rw [at']; exact hmt
  · rw [at', at']; omega
  · rw [at', m180]; exact c56
  · rw [at', m181]; exact c57
  · rw [c56, c57]; exact vk
  · rw [at', m182, c58, c59]
  · rw [c59]; exact bho.1
  · rw [c59]; exact bho.2
theorem ak_snd_beg (w : ak_RN c g (f :: fs) hc hm) (fj : f.js = j :: r) (hk : j.k < 9) (fv : f.vs = u ++ l) (K : ak_K (ak_mC c.s c.h0) (ak_mM c.us c.m0) (ak_T c.s) c.us (g.mt f.r + 40 * g.lv f.r) r (f.pc + 1) (true :: l.map (fun v => v.1))) (len : l.length + 1 ≤ 151) (h104 : hm.1 110 104 = (N : Int)) (hN : N < 4000) (pc9 : f.pc < 9100) (l60 : fs.length + 2 ≤ 60)
    (U : ak_US c g fs f (ak_nJ fs + 1 + r.length) N E Et hc hm hS mS) (hna : na ≤ 4) (hmt : mth < c.Mt) (hMt : c.Mt ≤ 40) (eA : A = ak_nV fs + l.length)
    (X : ∀ q k, q ≠ 32 → ¬ (q = 108 ∧ A + 1 ≤ k) → hX.1 q k = hS.1 q k) (X11 : hX.1 32 11 = -1) (XJ : ∀ q k, ¬ (q = 109 ∧ A + 1 ≤ k) → hX.2.1 q k = hS.2.1 q k) (X22 : hX.2.2 = hS.2.2) (vals : ∀ k, k < na → hX.1 108 (A + 1 + k) = va k ∧ hX.2.1 109 (A + 1 + k) = vj k ∧ ak_vok g.O g.B (va k) (vj k)) (vk : ak_vok g.O g.B s w0) (bho : -1 ≤ ho ∧ ho < 200) (hhd : hd = 0 ∨ hd = 1)
    (eFR : g.FR = FR ++ [rN]) (nU : rN ∉ g.Us) (hf : f' < 564) (hz : hm.1 173 f' = 0) (hnb : hm.1 110 111 = (nb : Int)) (nb2 : nb + 1 < 2000000000)
    (mc : ak_mtC FR.length rN (fs.length + 1) A na mth a nb s w0 pl ho (hc.1 77 4) hd hX hcF) (mm : ak_mtM c.us (fs.length + 1) (ak_nJ fs + 1 + r.length) f' nb (ak_nT fs + ak_tc l) na mth s w0 pl ho hd va vj mS hmF)
    (p4 : ak_mC c.s c.h0 (ak_T c.s + 2) cc = 34) (p5 : G ≤ 21) (p7 : ak_T3 (ak_mC c.s c.h0) (ak_mM c.us c.m0) (ak_T c.s) c.us 2 (c.m0.1 125 (40 * c.us + mth)) 0 (mth + 40 * 0 + 1000 * G) 6160 a cc)
    (gC : ak_cgo e (d + 40) c.s ρ1 ρ2 72 [am_r 32] hc hcF) (gM : ak_mgo e (d + 40) ρ hm hmF) : ak_OUT e d ρ1 ρ2 ρ c (ak_Phi hm (f :: fs)) W hc hm := by
  have w2 := ak_US_RN w U
  obtain ⟨sp, u1, u2, ⟨u3, u4, u5⟩, u6, u7, u8, u9⟩ := U
  have o11 := w.2.2.1
  have o2 := w.2.2.2.1
  have o3 := w.2.2.2.2
  have e1 := (ak_tp w).2.2.2.2.2.2.2.2.2.2.2.2.2.1.1
  obtain ⟨g1, g2, g3⟩ := ak_gc_of (j := j) (r := r) hk
  have gl := (ak_gle_refl w).2.2
  have fre := w.1.2.2.2.2.1.1
  have hus2 := w.1.2.2.2.2.2.2.1.1
  have hr5 : rN < 560 := (fre.2.2.2.1 rN).mp (List.mem_append_left _ (by rw [eFR]; simp))
  have m125 : mS.1 125 (40 * c.us + mth) = c.m0.1 125 (40 * c.us + mth) := sp.2.1.2 125 _ (by unfold ak_tmI; omega)
  obtain ⟨⟨⟨c49, c52, c53, c54, c55⟩, c56, c57, c58, c59⟩, cw, ⟨c7, c8, c10⟩, ⟨q70, q71, q72, q73, q74, q75, q76⟩, cj, cO, cJ, c22⟩ := mc
  obtain ⟨⟨⟨m173, m174, m175, m176⟩, m177, m178, m179, m180, m181, m182, m183⟩, mw, ⟨m103, m132, m102, m127⟩, ⟨⟨j1, j2, j3, j4⟩, j5, j6, j7, j8⟩, ⟨k1, k2, k3⟩, mO, mJ, m22⟩ := mm
  -- against the states behind the use
  have CS : ∀ q k, ¬ (q = 49 ∧ k = 11) → ¬ (52 ≤ q ∧ q ≤ 59 ∧ k = rN) → ¬ (q = 50 ∧ 12 * rN ≤ k ∧ k < 12 * rN + 12) → ¬ (q = 69 ∧ (k = 7 ∨ k = 8)) → ¬ (70 ≤ q ∧ q ≤ 76 ∧ k = fs.length + 1) → q ≠ 32 → q ≠ 68 → ¬ (q = 108 ∧ A + 1 ≤ k) → hcF.1 q k = hS.1 q k := fun q k a1 a2 a3 a4 a5 a6 a7 a8 => (cO q k a1 a2 a3 a4 a5 (by omega) a7).trans (X q k a6 a8)
  have CSJ : ∀ q k, ¬ (q = 51 ∧ 12 * rN ≤ k ∧ k < 12 * rN + 12) → ¬ (q = 57 ∧ k = rN) → ¬ (q = 64 ∧ k = 6) → q ≠ 66 → ¬ (q = 109 ∧ A + 1 ≤ k) → hcF.2.1 q k = hS.2.1 q k := fun q k a1 a2 a3 a4 a5 => (cJ q k a1 a2 a3 a4).trans (XJ q k a5)
  have sJn := sp.2.2.2.2.2.1
  have h111 : mS.1 110 111 = (nb : Int) := (u6 _ _ (by omega) (by omega)).trans hnb
  have jnF : ak_jn hcF hmF := by
    obtain ⟨h3, e3, f3⟩ := cj
    rw [e3]
    exact ak_jn_b (hm := mS) (ak_jn_fr sJn (fun q k b1 b2 => ⟨(f3 q k b1 b2).1.trans (X q k (by omega) (by omega)), (f3 q k b1 b2).2.trans (XJ q k (by omega))⟩) (fun _ _ _ => ⟨rfl, rfl⟩)) (by omega) h111 nb2 k1 k2 k3 (fun q k b1 b2 b3 => ⟨mO q k (by omega) (by omega) (by omega) (by omega) (by omega) b3, mJ q k (by omega) (by omega) (by omega)⟩)
  have words : ∀ k, k < 12 → hcF.1 50 (12 * rN + k) = hmF.1 184 (12 * f' + k) ∧ hcF.2.1 51 (12 * rN + k) = hmF.2.1 185 (12 * f' + k) ∧ ak_vok g.O g.B (hcF.1 50 (12 * rN + k)) (hcF.2.1 51 (12 * rN + k)) := fun k hk => by
    by_cases hkn : k < na
    · obtain ⟨z1, z2⟩ := (cw k hk).1 hkn
      obtain ⟨z3, z4⟩ := (mw k hk).1 hkn
      obtain ⟨z5, z6, z7⟩ := vals k hkn
      rw [z1, z2, z3, z4, z5, z6]
      exact ⟨rfl, rfl, z7⟩
    · obtain ⟨z1, z2⟩ := (cw k hk).2 (by omega)
      obtain ⟨z3, z4⟩ := (mw k hk).2 (by omega)
      rw [z1, z2, z3, z4]
      exact ⟨rfl, rfl, ak_vk0⟩
  have new := ak_mth_rom (φ := g.φ) (hr := g.hr) (lv := g.lv) (mt := g.mt) (Us := g.Us) (V := ak_rms (f :: fs)) words ⟨c52, c53, c54, c55⟩ ⟨c56, c57, c58, c59⟩ ⟨m174, m175, m177, m178, m179, m180, m181, m182⟩ vk bho hmt hMt
  have hzS : mS.1 173 f' = 0 := (u6 _ _ (by omega) (by omega)).trans hz
  have spF := ak_SP_beg (g := ak_gE g E Et) (l' := 0) (ho := rN) (mm := mth) sp eFR hf hzS c49 m173 (fun q k s1 s2 s3 s4 s5 => ⟨CS q k s3 s5 (by omega) (by unfold ak_stC at s1; omega) (by unfold ak_stC at s1; omega) s1.1 (by omega) (by unfold ak_stC at s1; omega), CSJ q k (by omega) (by omega) (by omega) (by omega) (by unfold ak_stC at s1; omega)⟩) (fun q k s1 s2 s3 s4 s5 => ⟨mO q k s5 (by omega) (by unfold ak_stM at s1; omega) (by unfold ak_stM at s1; omega) (by omega) (by omega), mJ q k (by omega) (by omega) (by omega)⟩) c55 jnF new
  clear new words jnF cj sJn cw mw vals k2
  have I : ∀ q k, ¬ (q = 72 ∧ k = fs.length) → ((am_up hS.1 72 fs.length (f.pc : Int), hS.2) : ak_S).1 q k = hS.1 q k := fun q k b => ak_up_out1 b
  have I2 : ((am_up hS.1 72 fs.length (f.pc : Int), hS.2) : ak_S).2 = hS.2 := rfl
  have I4 : hc.1 77 4 = ((am_up hS.1 72 fs.length (f.pc : Int), hS.2) : ak_S).1 77 4 := ((I _ _ (by omega)).trans (u1 _ _ (by omega) (by omega) (by omega) (by omega) (by omega) (by omega))).symm
  generalize ((am_up hS.1 72 fs.length (f.pc : Int), hS.2) : ak_S) = hI at w2 I I2 I4
  have Y : ∀ q k, ¬ (q = 110 ∧ k = 132) → ((am_up mS.1 110 132 ((ak_nJ fs + 1 + f.js.length : Nat) : Int), mS.2) : ak_S).1 q k = mS.1 q k := fun q k b => ak_up_out1 b
  have Y2 : ((am_up mS.1 110 132 ((ak_nJ fs + 1 + f.js.length : Nat) : Int), mS.2) : ak_S).2 = mS.2 := rfl
  generalize ((am_up mS.1 110 132 ((ak_nJ fs + 1 + f.js.length : Nat) : Int), mS.2) : ak_S) = mI at w2 Y Y2
  have ne : ∀ y, y ∈ g.Us → y ≠ rN := fun y hy z => nU (by rw [← z]; exact hy)
  have φne : ∀ y, y ∈ g.Us → g.φ y ≠ f' := fun y hy z => by
    have := (fre.2.2.2.2.2.2 _ (fre.2.2.2.2.1 y hy)).1 (List.mem_map.mpr ⟨y, hy, rfl⟩)
    rw [z, hz] at this
    cases this
  have hrU : ∀ y, y ∈ g.Us → g.hr y ∈ g.Us := fun y hy => (w.1.2.2.2.2.1.2.1 y hy).2.1.1
  have C : ∀ q k, ¬ (q = 49 ∧ k = 11) → ¬ (52 ≤ q ∧ q ≤ 59 ∧ k = rN) → ¬ (q = 50 ∧ 12 * rN ≤ k ∧ k < 12 * rN + 12) → ¬ (q = 69 ∧ (k = 7 ∨ k = 8)) → ¬ (70 ≤ q ∧ q ≤ 76 ∧ k = fs.length + 1) → ¬ (q = 72 ∧ k = fs.length) → q ≠ 32 → q ≠ 68 → ¬ (q = 108 ∧ A + 1 ≤ k) → hcF.1 q k = hI.1 q k := fun q k a1 a2 a3 a4 a5 a6 a7 a8 a9 => (CS q k a1 a2 a3 a4 a5 a7 a8 a9).trans (I q k a6).symm
  have CJ : ∀ q k, ¬ (q = 51 ∧ 12 * rN ≤ k ∧ k < 12 * rN + 12) → ¬ (q = 57 ∧ k = rN) → ¬ (q = 64 ∧ k = 6) → q ≠ 66 → ¬ (q = 109 ∧ A + 1 ≤ k) → hcF.2.1 q k = hI.2.1 q k := fun q k a1 a2 a3 a4 a5 => (CSJ q k a1 a2 a3 a4 a5).trans (by rw [I2])
  have M : ∀ q k, ¬ (173 ≤ q ∧ q ≤ 183 ∧ k = f') → ¬ (q = 184 ∧ 12 * f' ≤ k ∧ k < 12 * f' + 12) → q ≠ 110 → ¬ (201 ≤ q ∧ q ≤ 204 ∧ (k = ak_nJ fs + 1 + r.length ∨ k = ak_nJ fs + 1 + r.length + 1)) → ¬ (186 ≤ q ∧ q ≤ 192) → hmF.1 q k = mI.1 q k := fun q k a1 a2 a3 a4 a5 => (mO q k a1 a2 (by omega) a4 (by omega) (by omega)).trans (Y q k (by omega)).symm
  have MJ : ∀ q k, ¬ (q = 185 ∧ 12 * f' ≤ k ∧ k < 12 * f' + 12) → ¬ (q = 181 ∧ k = f') → q ≠ 191 → hmF.2.1 q k = mI.2.1 q k := fun q k a1 a2 a3 => (mJ q k a1 a2 (by omega)).trans (by rw [Y2])
  have w' := ak_RN_beg (a0 := a) (body := c.m0.1 125 (40 * c.us + mth)) (cc := cc) (G := G) (FR := FR) (l' := 0) (ho := rN) (mm := mth) w2 fj hk fv K len l60 spF nU (fun y hy => φne y (gl y hy).1)
    (fun q k h => C q k (by omega) (by omega) (by omega) (by omega) (by omega) (by omega) (by omega) (by omega) (by omega)) (fun q k h => CJ q k (by omega) (by omega) (by omega) (by omega) (by omega)) (fun y hy => ⟨C _ _ (by omega) (fun z => ne y (gl y hy).1 z.2.2) (by omega) (by omega) (by omega) (by omega) (by omega) (by omega) (by omega), C _ _ (by omega) (fun z => ne _ (hrU y (gl y hy).1) z.2.2) (by omega) (by omega) (by omega) (by omega) (by omega) (by omega) (by omega), CJ _ _ (by omega) (fun z => ne _ (hrU y (gl y hy).1) z.2) (by omega) (by omega) (by omega)⟩)
    (fun q k h => M q k (by omega) (by omega) (by omega) (by omega) (by omega)) (fun q k h => MJ q k (by omega) (by omega) (by omega)) ((CS _ _ (by omega) (by omega) (by omega) (by omega) (by omega) (by omega) (by omega) (by omega)).trans u4) c7 ?_ (C _ _ (by omega) (by omega) (by omega) (by omega) (by omega) (by omega) (by omega) (by omega) (by omega)) (by rw [← eA]; exact c10) ((cO _ _ (by omega) (by omega) (by omega) (by omega) (by omega) (by omega) (by omega)).trans X11) ((CS _ _ (by omega) (by omega) (by omega) (by omega) (by omega) (by omega) (by omega) (by omega)).trans ((u1 _ _ (by omega) (by omega) (by omega) (by omega) (by omega) (by omega)).trans o2)) ⟨q70, q71, q72, q73, by rw [← eA]; exact q74, q75.trans I4, q76.trans m176.symm, by rw [q76]; exact hhd⟩ c54 m183
    ⟨j1, j2, j3.trans ((u6 _ _ (by omega) (by omega)).trans e1), j4⟩ ⟨j5, j6.trans m125, j7, j8⟩ m102 m103 m127 m132 ((mO _ _ (by omega) (by omega) (by omega) (by omega) (by omega) (by omega)).trans (Y _ _ (by omega)).symm) ((mO _ _ (by omega) (by omega) (by omega) (by omega) (by omega) (by omega)).trans ((u6 _ _ (by omega) (by omega)).trans o3)) p5 p7 p4
  rotate_left
  · rw [c8, q76, X _ _ (by omega) (by omega), I _ _ (by omega)]
  have h104' : hmF.1 110 104 = ((N + 1 : Nat) : Int) := (mO _ _ (by omega) (by omega) (by omega) (by omega) (by omega) (by omega)).trans u8
  have hm9 : hmF.1 110 109 = hm.1 110 109 := (mO _ _ (by omega) (by omega) (by omega) (by omega) (by omega) (by omega)).trans (u6 _ _ (by omega) (by omega))
  have hm10 : hmF.1 110 110 = hm.1 110 110 := (mO _ _ (by omega) (by omega) (by omega) (by omega) (by omega) (by omega)).trans (u6 _ _ (by omega) (by omega))
  refine Or.inl ⟨1, _, _, hcF, hmF, w', by simp, ak_turn1 w.1.1.1 (by omega) gC w'.2.2.2.1, gM, ?_, fun h => absurd h (by decide), c22.trans (X22.trans u5), fun q s1 s2 => ?_⟩
  · unfold ak_Phi
    rw [h104', h104, Int.toNat_natCast, Int.toNat_natCast]
    show 18300 * (4000 - (N + 1)) + (ak_pcs fs + (9100 - (f.pc + 1)) + 9101 * ak_gw r + (9100 - a) + 9101 * 0) + 1 ≤ 18300 * (4000 - N) + (ak_pcs fs + (9100 - f.pc) + 9101 * ak_gw f.js)
    rw [fj, g3]
    omega
  · rcases (show q = 109 ∨ q = 110 ∨ q = 111 by omega) with rfl | rfl | rfl
    · rw [hm9]; omega
    · rw [hm10]; omega
    · rw [k1, hnb]; omega
end MTHB
