/-! the run: behind a use -/
def ak_gE (g : ak_Gh) (E : Nat → List ak_E) (Et : List ak_E) : ak_Gh := ⟨g.S, g.O, g.B, g.T, g.sh, E, Et, g.G, g.φ, g.hr, g.lv, g.mt, g.Us, g.FR⟩
/-- the states behind a step and a use -/
def ak_US (c : ak_Cx) (g : ak_Gh) (fs : List ak_Fr) (f : ak_Fr) (m N : Nat) (E : Nat → List ak_E) (Et : List ak_E) (hc hm hS mS : ak_S) : Prop := ak_SPP c (ak_gE g E Et) (ak_rms (f :: fs)) hS mS ∧
  (∀ q k, ¬ (q = 32 ∧ k = 12) → ¬ (q = 72 ∧ k = fs.length) → ¬ (q = 33 ∧ (k = 9 ∨ k = 10 ∨ k = 14)) → ¬ (42 ≤ q ∧ q ≤ 43) → ¬ (q = 44 ∧ (k = 4 ∨ k = 7 ∨ k = 8)) → ¬ (q = 45 ∨ q = 47) → hS.1 q k = hc.1 q k) ∧
  (∀ q k, q ≠ 41 → q ≠ 46 → ¬ (q = 64 ∧ k = 2) → hS.2.1 q k = hc.2.1 q k) ∧ (hS.1 32 12 = (fs.length : Int) ∧ hS.1 72 fs.length = ((f.pc + 1 : Nat) : Int) ∧ hS.2.2 = hc.2.2) ∧
  (∀ q k, ¬ (q = 110 ∧ (k = 64 ∨ k = 67 ∨ k = 69 ∨ k = 70 ∨ k = 78 ∨ k = 104 ∨ k = 132)) → ¬ (154 ≤ q ∧ q ≤ 168) → mS.1 q k = hm.1 q k) ∧ mS.2 = hm.2 ∧ mS.1 110 104 = ((N + 1 : Nat) : Int) ∧ mS.1 110 132 = (m : Int)
section SND4
variable {e : ak_X3} {d ρ1 ρ2 P W n N m : Nat} {ρ : List Nat} {c : ak_Cx} {g : ak_Gh} {fs : List ak_Fr} {f : ak_Fr} {V : List Nat} {hc hm hc2 hm2 hS mS hS' mS' : ak_S} {E : Nat → List ak_E} {Et : List ak_E} {j : ak_Jb} {r : List ak_Jb} {u l : List (Bool × Int × Int)} {s x kd : Int}
theorem ak_SP_use (sp : ak_SPP c g V hc hm) (wd : ak_WD g.S g.O g.B c.Mt g.T g.sh hc2 hm2) (st : ak_ST g.S g.O (c.z 7) c.us g.T g.sh E Et g.G hc2 hm2) (fc : ak_uC hc hc2) (fm : ak_uM hm hm2) : ak_SPP c (ak_gE g E Et) V hc2 hm2 := by
  obtain ⟨⟨hs, tx⟩, ag, ⟨hO, w0⟩, _, rm, jn, al, k1, k2⟩ := sp
  have hT := ak_T_bd hs
  have hwy : ∃ wy, ak_wyS hm2 wy := st.2.2.2.2.2.elim (fun wy h => ⟨wy, h.1⟩)
  have M2 : ∀ q k, hm2.2.1 q k = hm.2.1 q k := fun q k => by rw [fm.2]
  exact ⟨⟨hs, tx⟩, ak_agT_fr ag (fun q k a b => ⟨fc.1 q k (by omega) (by omega) (by omega) (by omega), fc.2.1 q k (by omega) (by omega)⟩) (fun q k a => fm.1 q k (by unfold ak_tmI at a; omega) (by unfold ak_tmI at a; omega)), ⟨hO, wd⟩, st,
    ak_RM_fr rm (fun q k a b => ⟨fc.1 q k (by omega) (by omega) (by omega) (by omega), fc.2.1 q k (by omega) (by omega)⟩) (fun q k h => ⟨fm.1 q k (by omega) (by omega), M2 q k⟩), ak_jn_fr jn (fun q k a b => ⟨fc.1 q k (by omega) (by omega) (by omega) (by omega), fc.2.1 q k (by omega) (by omega)⟩) (fun q k h => ⟨fm.1 q k (by omega) (by omega), M2 q k⟩),
    ak_all_fr al (fun q k h => fc.1 q k (by omega) (by omega) (by omega) (by omega)) (fun k => fc.2.1 5 k (by omega) (by omega)) (fun q k h => fm.1 q k (by omega) (by omega)) hwy, (fc.1 1 8 (by omega) (by omega) (by omega) (by omega)).trans k1, (fm.1 110 4 (by omega) (by omega)).trans k2.1, (fm.1 110 0 (by omega) (by omega)).trans k2.2⟩
theorem ak_US_use (spA : ak_SPP c g (ak_rms (f :: fs)) (ak_tkA hc fs.length f.pc N) (ak_tkB hm m N)) (wd : ak_WD g.S g.O g.B c.Mt g.T g.sh hS mS) (st : ak_ST g.S g.O (c.z 7) c.us g.T g.sh E Et g.G hS mS) (fc : ak_uC (ak_tkA hc fs.length f.pc N) hS) (fm : ak_uM (ak_tkB hm m N) mS) : ak_US c g fs f m N E Et hc hm hS mS := by
  obtain ⟨v1, v2, v3, v4⟩ := ak_tkA_v (hc := hc) (t := fs.length) (pc := f.pc) (N := N)
  obtain ⟨b1, b2, b3⟩ := ak_tkB_v (hm := hm) (n := m) (N := N)
  exact ⟨ak_SP_use spA wd st fc fm, fun q k a1 a2 a3 a4 a5 a6 => (fc.1 q k a3 a4 a5 a6).trans (ak_tkA_o a1 a2), fun q k a1 a2 a3 => (fc.2.1 q k a1 a2).trans (ak_tkA_J a3), ⟨(fc.1 _ _ (by omega) (by omega) (by omega) (by omega)).trans v3, (fc.1 _ _ (by omega) (by omega) (by omega) (by omega)).trans v4, fc.2.2.trans v2⟩,
    fun q k a1 a2 => (fm.1 q k (by omega) a2).trans (ak_tkB_o (by omega)), fm.2.trans b3, (fm.1 _ _ (by omega) (by omega)).trans b1, (fm.1 _ _ (by omega) (by omega)).trans b2⟩
theorem ak_US_lu (U : ak_US c g fs f m N E Et hc hm hS mS) (f1 : ak_luF hS hS') (f2 : ak_luM mS mS') (ly : ak_ly g.S g.O g.T g.sh mS') : ak_US c g fs f m N E Et hc hm hS' mS' := by
  obtain ⟨sp, u1, u2, ⟨u3, u4, u5⟩, u6, u7, u8, u9⟩ := U
  have fc : ak_uC hS hS' := ⟨fun q k a b _ _ => f1.1 q k a b, fun q k a _ => f1.2.1 q k a, f1.2.2⟩
  have fm : ak_uM mS mS' := ⟨fun q k a b => f2.1 q k (by omega) (by omega), f2.2⟩
  have wd : ak_WD g.S g.O g.B c.Mt g.T g.sh hS' mS' := ak_WD_fr sp.2.2.1.2 ⟨fun q k h => f1.1 q k (by omega) (by omega), fun k => f1.2.1 36 k (by omega)⟩ ⟨fun q k h => f2.1 q k (by omega) (by omega), fun k => by rw [f2.2]⟩
  have st : ak_ST g.S g.O (c.z 7) c.us g.T g.sh E Et g.G hS' mS' := ak_ST_luM (ak_ST_luF sp.2.2.2.1 f1) f2 ly
  exact ⟨ak_SP_use (g := ak_gE g E Et) sp wd st fc fm, fun q k a1 a2 a3 a4 a5 a6 => (f1.1 q k a3 a4).trans (u1 q k a1 a2 a3 a4 a5 a6), fun q k a1 a2 a3 => (f1.2.1 q k a1).trans (u2 q k a1 a2 a3), ⟨(f1.1 _ _ (by omega) (by omega)).trans u3, (f1.1 _ _ (by omega) (by omega)).trans u4, f1.2.2.trans u5⟩,
    fun q k a1 a2 => (f2.1 q k (by omega) (by omega)).trans (u6 q k a1 a2), f2.2.trans u7, (f2.1 _ _ (by omega) (by omega)).trans u8, (f2.1 _ _ (by omega) (by omega)).trans u9⟩
/-- it fails there -/
theorem ak_US_fail (w : ak_RN c g (f :: fs) hc hm) (fj : f.js = j :: r) (hk : j.k < 9) (pc9 : f.pc < 9100) (h104 : hm.1 110 104 = (N : Int)) (U : ak_US c g fs f (ak_nJ fs + 1 + r.length) N E Et hc hm hS mS) (vk : ak_vok g.O g.B s x) (cnt : hm.1 110 109 < 1000000000)
    (gC : ∀ hcX, ak_cgo e (d + 30) c.s ρ1 ρ2 77 [am_r 32, am_i kd, am_i s, am_l x] hS hcX → ak_cgo e (d + 40) c.s ρ1 ρ2 72 [am_r 32] hc hcX) (gM : ∀ hm', ak_goV e (d + 25) ρ 269 [am_r 110, am_i kd, am_i s, am_l x] mS hm' → ak_mgo e (d + 40) ρ hm hm') : ak_OUT e d ρ1 ρ2 ρ c (ak_Phi hm (f :: fs)) W hc hm := by
  obtain ⟨sp, u1, u2, ⟨u3, u4, u5⟩, u6, u7, u8, u9⟩ := U
  obtain ⟨hs, l60, fU, f5, φ5, sp0, F, L, J0, V, K0, ⟨l1, l2, l3⟩, ⟨d2, d3, d4, d5, o1, o2⟩, ⟨e1, e2, e3, e4, e5, o3⟩, ⟨x1, x2, x3, x4⟩, d72, lt1⟩ := ak_tp w
  exact ak_OUTf (g' := ak_gE g E Et) w fj hk pc9 sp (ak_gle_refl w) ⟨fun q k h => u1 q k (by omega) (by omega) (by omega) (by omega) (by omega) (by omega), fun q k h => u2 q k (by omega) (by omega) (by omega), fun y hy => ⟨u1 _ _ (by omega) (by omega) (by omega) (by omega) (by omega) (by omega), u1 _ _ (by omega) (by omega) (by omega) (by omega) (by omega) (by omega), u2 _ _ (by omega) (by omega) (by omega)⟩⟩ ⟨fun q k h => u6 q k (by omega) (by omega), fun q k h => by rw [u7]⟩
    ((u1 _ _ (by omega) (by omega) (by omega) (by omega) (by omega) (by omega)).trans o1) u3 u9 ((u6 _ _ (by omega) (by omega)).trans o3) vk cnt (by rw [u8, h104]; omega) (fun q a b => u6 110 q (by omega) (by omega)) u5 gC gM
/-- a value was found -/
theorem ak_US_val (w : ak_RN c g (f :: fs) hc hm) (fj : f.js = j :: r) (hk : j.k < 9) (pc9 : f.pc < 9100) (h104 : hm.1 110 104 = (N : Int)) (U : ak_US c g fs f (ak_nJ fs + 1 + r.length) N E Et hc hm hS mS) (fv : f.vs = u ++ l) (vk : ak_vok g.O g.B s x) (K : ak_K (ak_mC c.s c.h0) (ak_mM c.us c.m0) (ak_T c.s) c.us (g.mt f.r + 40 * g.lv f.r) r (f.pc + 1) (true :: l.map (fun v => v.1))) (len : l.length + 1 ≤ 151)
    (gC : ak_cgo e (d + 40) c.s ρ1 ρ2 72 [am_r 32] hc (ak_psC (am_up hS.1 32 10 ((ak_nV fs + l.length : Nat) : Int), hS.2) (ak_nV fs + l.length) s x)) (gM : ak_mgo e (d + 40) ρ hm (ak_psM (am_up mS.1 110 127 ((ak_nT fs + ak_tc l : Nat) : Int), mS.2) (ak_nT fs + ak_tc l) s x)) : ak_OUT e d ρ1 ρ2 ρ c (ak_Phi hm (f :: fs)) W hc hm := by
  obtain ⟨sp, u1, u2, ⟨u3, u4, u5⟩, u6, u7, u8, u9⟩ := U
  obtain ⟨hs, l60, fU, f5, φ5, sp0, F, L, J0, V, K0, ⟨l1, l2, l3⟩, ⟨d2, d3, d4, d5, o1, o2⟩, ⟨e1, e2, e3, e4, e5, o3⟩, ⟨x1, x2, x3, x4⟩, d72, lt1⟩ := ak_tp w
  have C : ∀ q k, ¬ (q = 32 ∧ k = 10) → ((am_up hS.1 32 10 ((ak_nV fs + l.length : Nat) : Int), hS.2) : ak_S).1 q k = hS.1 q k := fun q k a => ak_up_out1 a
  have C2 : ((am_up hS.1 32 10 ((ak_nV fs + l.length : Nat) : Int), hS.2) : ak_S).2 = hS.2 := rfl
  generalize ((am_up hS.1 32 10 ((ak_nV fs + l.length : Nat) : Int), hS.2) : ak_S) = hF at C C2 gC
  have M : ∀ q k, ¬ (q = 110 ∧ k = 127) → ¬ (q = 199 ∧ k = ak_nT fs + ak_tc l) → (ak_psM (am_up mS.1 110 127 ((ak_nT fs + ak_tc l : Nat) : Int), mS.2) (ak_nT fs + ak_tc l) s x).1 q k = mS.1 q k := fun q k a b => (ak_psM_o b a).trans (ak_up_out1 a)
  have MJ : ∀ q k, ¬ (q = 200 ∧ k = ak_nT fs + ak_tc l) → (ak_psM (am_up mS.1 110 127 ((ak_nT fs + ak_tc l : Nat) : Int), mS.2) (ak_nT fs + ak_tc l) s x).2.1 q k = mS.2.1 q k := fun q k a => ak_psM_J a
  obtain ⟨v1, v2, v3⟩ := ak_psM_v (hm := ((am_up mS.1 110 127 ((ak_nT fs + ak_tc l : Nat) : Int), mS.2) : ak_S)) (n := ak_nT fs + ak_tc l) (s := s) (x := x)
  generalize ak_psM (am_up mS.1 110 127 ((ak_nT fs + ak_tc l : Nat) : Int), mS.2) (ak_nT fs + ak_tc l) s x = mF at M MJ v1 v2 v3 gM
  have A : ∀ q k, ¬ (q = 32 ∧ (k = 10 ∨ k = 12)) → ¬ (q = 72 ∧ k = fs.length) → ¬ (q = 33 ∧ (k = 9 ∨ k = 10 ∨ k = 14)) → ¬ (42 ≤ q ∧ q ≤ 47) → hF.1 q k = hc.1 q k := fun q k a1 a2 a3 a4 => (C q k (by omega)).trans (u1 q k (by omega) a2 a3 (by omega) (by omega) (by omega))
  have AJ : ∀ q k, q ≠ 41 → q ≠ 46 → ¬ (q = 64 ∧ k = 2) → hF.2.1 q k = hc.2.1 q k := fun q k a1 a2 a3 => by rw [C2]; exact u2 q k a1 a2 a3
  exact ak_val (g' := ak_gE g E Et) (u := u) (l := l) (s := s) (x := x) (hcS := hF) (hm' := mF) w fj hk pc9 fv (ak_SP_fr sp (fun q k h => ⟨C q k (by unfold ak_stC at h; omega), by rw [C2]⟩) (fun q k h => ⟨M q k (by unfold ak_stM at h; omega) (by unfold ak_stM at h; omega), MJ q k (by unfold ak_stM at h; omega)⟩)) (ak_gle_refl w)
    ⟨fun q k h => A q k (by omega) (by omega) (by omega) (by omega), fun q k h => AJ q k (by omega) (by omega) (by omega), fun y hy => ⟨A _ _ (by omega) (by omega) (by omega) (by omega), A _ _ (by omega) (by omega) (by omega) (by omega), AJ _ _ (by omega) (by omega) (by omega)⟩⟩ ⟨fun q k h => (M q k (by omega) (by omega)).trans (u6 q k (by omega) (by omega)), fun q k h => (MJ q k (by omega)).trans (by rw [u7])⟩
    ((C _ _ (by omega)).trans u4) ((A _ _ (by omega) (by omega) (by omega) (by omega)).trans o1) ((A _ _ (by omega) (by omega) (by omega) (by omega)).trans o2) ((M _ _ (by omega) (by omega)).trans ((u6 _ _ (by omega) (by omega)).trans o3)) v3 ((M _ _ (by omega) (by omega)).trans u9) ⟨v1, v2⟩ vk K len gC gM (by rw [M _ _ (by omega) (by omega), u8, h104]; omega) (fun q a b => (M _ _ (by omega) (by omega)).trans (u6 110 q (by omega) (by omega))) (by rw [C2]; exact u5)
/-- the frames are as they were -/
theorem ak_US_RN (w : ak_RN c g (f :: fs) hc hm) (U : ak_US c g fs f m N E Et hc hm hS mS) : ak_RN c (ak_gE g E Et) (f :: fs) (am_up hS.1 72 fs.length (f.pc : Int), hS.2) (am_up mS.1 110 132 ((ak_nJ fs + 1 + f.js.length : Nat) : Int), mS.2) := by
  obtain ⟨sp, u1, u2, ⟨u3, u4, u5⟩, u6, u7, u8, u9⟩ := U
  obtain ⟨hs, l60, fU, f5, φ5, sp0, F, L, J0, V, K0, ⟨l1, l2, l3⟩, ⟨d2, d3, d4, d5, o1, o2⟩, ⟨e1, e2, e3, e4, e5, o3⟩, ⟨x1, x2, x3, x4⟩, d72, lt1⟩ := ak_tp w
  have C : ∀ q k, ¬ (q = 72 ∧ k = fs.length) → ((am_up hS.1 72 fs.length (f.pc : Int), hS.2) : ak_S).1 q k = hS.1 q k := fun q k a => ak_up_out1 a
  have C72 : ((am_up hS.1 72 fs.length (f.pc : Int), hS.2) : ak_S).1 72 fs.length = (f.pc : Int) := ak_up_at1
  have C2 : ((am_up hS.1 72 fs.length (f.pc : Int), hS.2) : ak_S).2 = hS.2 := rfl
  generalize ((am_up hS.1 72 fs.length (f.pc : Int), hS.2) : ak_S) = hF at C C72 C2 ⊢
  have M : ∀ q k, ¬ (q = 110 ∧ k = 132) → ((am_up mS.1 110 132 ((ak_nJ fs + 1 + f.js.length : Nat) : Int), mS.2) : ak_S).1 q k = mS.1 q k := fun q k a => ak_up_out1 a
  have M132 : ((am_up mS.1 110 132 ((ak_nJ fs + 1 + f.js.length : Nat) : Int), mS.2) : ak_S).1 110 132 = ((ak_nJ fs + 1 + f.js.length : Nat) : Int) := ak_up_at1
  have M2 : ((am_up mS.1 110 132 ((ak_nJ fs + 1 + f.js.length : Nat) : Int), mS.2) : ak_S).2 = mS.2 := rfl
  generalize ((am_up mS.1 110 132 ((ak_nJ fs + 1 + f.js.length : Nat) : Int), mS.2) : ak_S) = mF at M M132 M2 ⊢
  have A : ∀ q k, ¬ (q = 32 ∧ k = 12) → ¬ (q = 72 ∧ k = fs.length) → ¬ (q = 33 ∧ (k = 9 ∨ k = 10 ∨ k = 14)) → ¬ (42 ≤ q ∧ q ≤ 47) → hF.1 q k = hc.1 q k := fun q k a1 a2 a3 a4 => (C q k a2).trans (u1 q k (by omega) a2 a3 (by omega) (by omega) (by omega))
  have AJ : ∀ q k, q ≠ 41 → q ≠ 46 → ¬ (q = 64 ∧ k = 2) → hF.2.1 q k = hc.2.1 q k := fun q k a1 a2 a3 => by rw [C2]; exact u2 q k a1 a2 a3
  have B : ∀ q k, ¬ (q = 110 ∧ (k = 64 ∨ k = 67 ∨ k = 69 ∨ k = 70 ∨ k = 78 ∨ k = 104 ∨ k = 132)) → ¬ (154 ≤ q ∧ q ≤ 168) → mF.1 q k = hm.1 q k := fun q k a1 a2 => (M q k (by omega)).trans (u6 q k a1 a2)
  have BJ : mF.2 = hm.2 := M2.trans u7
  exact ak_RN_red (g' := ak_gE g E Et) (pc' := f.pc) (js' := f.js) (l := f.vs) (j := ak_nJ fs + 1 + f.js.length) w V (ak_JS_fr (Nat.le_refl _) (Nat.le_refl _) (fun _ _ => rfl) J0 (fun q k a b _ => ⟨A q k (by omega) (by omega) (by omega) (by omega), AJ q k (by omega) (by omega) (by omega)⟩) (fun q k a b _ => B q k (by omega) (by omega)) (fun q k a b _ => ⟨B q k (by omega) (by omega), by rw [BJ]⟩)) rfl rfl
    (ak_SP_fr sp (fun q k h => ⟨C q k (by unfold ak_stC at h; omega), by rw [C2]⟩) (fun q k h => ⟨M q k (by unfold ak_stM at h; omega), by rw [M2]⟩)) (ak_gle_refl w) ⟨fun q k h => A q k (by omega) (by omega) (by omega) (by omega), fun q k h => AJ q k (by omega) (by omega) (by omega), fun y hy => ⟨A _ _ (by omega) (by omega) (by omega) (by omega), A _ _ (by omega) (by omega) (by omega) (by omega), AJ _ _ (by omega) (by omega) (by omega)⟩⟩ ⟨fun q k h => B q k (by omega) (by omega), fun q k h => by rw [BJ]⟩ (by omega) C72
    ((A _ _ (by omega) (by omega) (by omega) (by omega)).trans d5) ((A _ _ (by omega) (by omega) (by omega) (by omega)).trans o1) ((A _ _ (by omega) (by omega) (by omega) (by omega)).trans o2) ((B _ _ (by omega) (by omega)).trans o3) ((B _ _ (by omega) (by omega)).trans e3) M132 K0 ⟨l1, l2⟩
end SND4
