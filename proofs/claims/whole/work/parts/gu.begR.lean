/-! the run: a frame has begun on both sides -/
section BEGR
variable {e : ak_X3} {d ρ1 ρ2 P W y n rN f' ho l' mm a0 : Nat} {ρ : List Nat} {c : ak_Cx} {g g' : ak_Gh} {fs fs' : List ak_Fr} {f : ak_Fr} {V FR : List Nat} {h hc hm hcM hmM hcF hmF : ak_S} {j : ak_Jb} {r js : List ak_Jb} {u l : List (Bool × Int × Int)} {s x kd : Int}
def ak_gN (g : ak_Gh) (rN f' ho l' mm : Nat) (FR : List Nat) : ak_Gh := ⟨g.S, g.O, g.B, g.T, g.sh, g.E, g.Et, g.G, ak_ud g.φ rN f', ak_ud g.hr rN ho, ak_ud g.lv rN l', ak_ud g.mt rN mm, rN :: g.Us, FR⟩
theorem ak_SP_beg (sp : ak_SPP c g V hcM hmM) (eFR : g.FR = FR ++ [rN]) (hf : f' < 564) (hz : hmM.1 173 f' = 0) (c11 : hcF.1 49 11 = (FR.length : Int)) (m173 : hmF.1 173 f' = 1)
    (FC : ∀ q k, ak_stC q → ¬ (64 ≤ q ∧ q ≤ 68) → ¬ (q = 49 ∧ k = 11) → ¬ ((q = 50 ∨ q = 51) ∧ 12 * rN ≤ k ∧ k < 12 * rN + 12) → ¬ (52 ≤ q ∧ q ≤ 59 ∧ k = rN) → hcF.1 q k = hcM.1 q k ∧ hcF.2.1 q k = hcM.2.1 q k)
    (FM : ∀ q k, (ak_stM q k ∨ q = 176 ∨ q = 183) → ¬ (q = 110 ∧ (k = 104 ∨ (106 ≤ k ∧ k ≤ 111))) → ¬ (186 ≤ q ∧ q ≤ 198) → ¬ ((q = 184 ∨ q = 185) ∧ 12 * f' ≤ k ∧ k < 12 * f' + 12) → ¬ (173 ≤ q ∧ q ≤ 183 ∧ k = f') → hmF.1 q k = hmM.1 q k ∧ hmF.2.1 q k = hmM.2.1 q k)
    (s55 : hcF.1 55 rN = 0) (jn : ak_jn hcF hmF) (new : ak_rom g.O g.B c.Mt (ak_ud g.φ rN f') (ak_ud g.hr rN ho) (ak_ud g.lv rN l') (ak_ud g.mt rN mm) (rN :: g.Us) (rN :: V) hcF hmF rN) : ak_SPP c (ak_gN g rN f' ho l' mm FR) (rN :: V) hcF hmF := by
  obtain ⟨⟨hs, tx⟩, ag, ⟨hO, wd⟩, st, rm, _, al, k1, k2⟩ := sp
  have hT := ak_T_bd hs
  rw [eFR] at rm
  unfold ak_stC at FC
  unfold ak_stM at FM
  obtain ⟨wy, hwy⟩ := al.2.2.2.2.1
  refine ⟨⟨hs, tx⟩, ak_agT_fr ag (fun q k a b => FC q k (by omega) (by omega) (by omega) (by omega) (by omega)) (fun q k a => (FM q k (by unfold ak_tmI at a; omega) (by unfold ak_tmI at a; omega) (by unfold ak_tmI at a; omega) (by unfold ak_tmI at a; omega) (by unfold ak_tmI at a; omega)).1), ⟨hO, ak_WD_fr wd ⟨fun q k h => (FC q k (by omega) (by omega) (by omega) (by omega) (by omega)).1, fun k => (FC 36 k (by omega) (by omega) (by omega) (by omega) (by omega)).2⟩ ⟨fun q k h => (FM q k (by omega) (by omega) (by omega) (by omega) (by omega)).1, fun k => (FM 146 k (by omega) (by omega) (by omega) (by omega) (by omega)).2⟩⟩,
    ak_ST_fr st (fun q k h => (FC q k (by omega) (by omega) (by omega) (by omega) (by omega)).1) (fun k => (FC 46 k (by omega) (by omega) (by omega) (by omega) (by omega)).2) (fun q k h => (FM q k (by omega) (by omega) (by omega) (by omega) (by omega)).1),
    ak_RM_take rm hf hz c11 m173 (fun q k a b c1 c2 c3 => FC q k (by omega) (by omega) c1 c2 c3) (fun q k a b c1 => FM q k (by omega) (by omega) (by omega) b c1) s55 new, jn,
    ak_all_fr al (fun q k h => (FC q k (by omega) (by omega) (by omega) (by omega) (by omega)).1) (fun k => (FC 5 k (by omega) (by omega) (by omega) (by omega) (by omega)).2) (fun q k h => (FM q k (by omega) (by omega) (by omega) (by omega) (by omega)).1) ⟨wy, ak_wyS_fr2 hwy (fun q k h => (FM q k (by omega) (by omega) (by omega) (by omega) (by omega)).1)⟩, (FC 1 8 (by omega) (by omega) (by omega) (by omega) (by omega)).1.trans k1, (FM 110 4 (by omega) (by omega) (by omega) (by omega) (by omega)).1.trans k2.1, (FM 110 0 (by omega) (by omega) (by omega) (by omega) (by omega)).1.trans k2.2⟩
/-- frames with one more on top -/
theorem ak_RN_beg {body : Int} {cc G : Nat} (w : ak_RN c g (f :: fs) hc hm) (fj : f.js = j :: r) (hk : j.k < 9) (fv : f.vs = u ++ l) (K : ak_K (ak_mC c.s c.h0) (ak_mM c.us c.m0) (ak_T c.s) c.us (g.mt f.r + 40 * g.lv f.r) r (f.pc + 1) (true :: l.map (fun v => v.1))) (len : l.length + 1 ≤ 151) (l60 : fs.length + 2 ≤ 60)
    (sp : ak_SPP c (ak_gN g rN f' ho l' mm FR) (rN :: ak_rms (f :: fs)) hcF hmF) (nU : rN ∉ g.Us) (nφ : ∀ y, y ∈ ak_rms (f :: fs) → g.φ y ≠ f')
    (C : ∀ q k, (70 ≤ q ∧ q ≤ 76 ∧ k ≤ fs.length ∧ ¬ (q = 72 ∧ k = fs.length)) ∨ (78 ≤ q ∧ q ≤ 86) ∨ (q = 108 ∧ k < ak_nV fs + l.length) → hcF.1 q k = hc.1 q k) (CJ : ∀ q k, (78 ≤ q ∧ q ≤ 86) ∨ (q = 109 ∧ k < ak_nV fs + l.length) → hcF.2.1 q k = hc.2.1 q k) (C3 : ∀ y, y ∈ ak_rms (f :: fs) → hcF.1 54 y = hc.1 54 y ∧ hcF.1 56 (g.hr y) = hc.1 56 (g.hr y) ∧ hcF.2.1 57 (g.hr y) = hc.2.1 57 (g.hr y))
    (M : ∀ q k, ((q = 176 ∨ q = 183) ∧ k ≠ f') ∨ (201 ≤ q ∧ q ≤ 204 ∧ k < ak_nJ fs + 1 + r.length) ∨ (205 ≤ q ∧ q ≤ 210) ∨ (q = 199 ∧ k < ak_nT fs + ak_tc l) → hmF.1 q k = hm.1 q k) (MJ : ∀ q k, (205 ≤ q ∧ q ≤ 210) ∨ (q = 200 ∧ k < ak_nT fs + ak_tc l) → hmF.2.1 q k = hm.2.1 q k)
    (c72 : hcF.1 72 fs.length = ((f.pc + 1 : Nat) : Int)) (c7 : hcF.1 69 7 = ((fs.length + 2 : Nat) : Int)) (c8 : hcF.1 69 8 = hc.1 69 8 + hcF.1 76 (fs.length + 1)) (c4 : hcF.1 77 4 = hc.1 77 4) (c10 : hcF.1 32 10 = ((ak_nV fs + l.length : Nat) : Int)) (c11 : hcF.1 32 11 = -1) (c77 : hcF.1 77 10 = 0)
    (row : hcF.1 70 (fs.length + 1) = (rN : Int) ∧ hcF.1 71 (fs.length + 1) = (mm : Int) ∧ hcF.1 72 (fs.length + 1) = (a0 : Int) ∧ hcF.1 73 (fs.length + 1) = 0 ∧ hcF.1 74 (fs.length + 1) = ((ak_nV fs + l.length : Nat) : Int) ∧ hcF.1 75 (fs.length + 1) = hc.1 77 4 ∧ hcF.1 76 (fs.length + 1) = hmF.1 176 f' ∧ (hcF.1 76 (fs.length + 1) = 0 ∨ hcF.1 76 (fs.length + 1) = 1)) (c54 : hcF.1 54 rN = ((fs.length + 1 : Nat) : Int)) (m183 : hmF.1 183 f' = 0)
    (mrow : hmF.1 201 (ak_nJ fs + 1 + r.length) = 8 ∧ hmF.1 202 (ak_nJ fs + 1 + r.length) = (f' : Int) ∧ hmF.1 203 (ak_nJ fs + 1 + r.length) = (g.φ f.r : Int) ∧ hmF.1 204 (ak_nJ fs + 1 + r.length) = ((ak_nT fs + ak_tc l : Nat) : Int)) (mst : hmF.1 201 (ak_nJ fs + 1 + r.length + 1) = 2 ∧ hmF.1 202 (ak_nJ fs + 1 + r.length + 1) = body ∧ hmF.1 203 (ak_nJ fs + 1 + r.length + 1) = 0 ∧ hmF.1 204 (ak_nJ fs + 1 + r.length + 1) = 0)
    (m102 : hmF.1 110 102 = (f' : Int)) (m103 : hmF.1 110 103 = ((fs.length + 2 : Nat) : Int)) (m127 : hmF.1 110 127 = ((ak_nT fs + ak_tc l : Nat) : Int)) (m132 : hmF.1 110 132 = ((ak_nJ fs + 1 + r.length + 2 : Nat) : Int)) (m139 : hmF.1 110 139 = hm.1 110 139) (m105 : hmF.1 110 105 = -1)
    (hG : G ≤ 21) (t2 : ak_T3 (ak_mC c.s c.h0) (ak_mM c.us c.m0) (ak_T c.s) c.us 2 body 0 (mm + 40 * l' + 1000 * G) 6160 a0 cc) (h34 : ak_mC c.s c.h0 (ak_T c.s + 2) cc = 34) :
    ak_RN c (ak_gN g rN f' ho l' mm FR) (⟨rN, a0, [⟨2, body, 0, 0, 0⟩], []⟩ :: ⟨f.r, f.pc + 1, r, l⟩ :: fs) hcF hmF := by
  obtain ⟨hs, l61, fU, f5, φ5, sp0, F, L, J0, V, K0, ⟨l1, l2, l3⟩, ⟨d2, d3, d4, d5, o1, o2⟩, ⟨e1, e2, e3, e4, e5, o3⟩, ⟨x1, x2, x3, x4⟩, d72, lt1⟩ := ak_tp w
  obtain ⟨t1, _, t3, t4, t5, t6⟩ := ak_tj w fj
  obtain ⟨g1, g2, g3⟩ := ak_gc_of (j := j) (r := r) hk
  rw [fv] at V
  have Vl := ak_VS_dn V
  rw [fj, g1] at d4 l3
  rw [fj, g2] at e5
  have inU : ∀ y, y ∈ ak_rms (f :: fs) → y ∈ g.Us := fun y hy => ((ak_gle_refl w).2.2 y hy).1
  have nr : ∀ y, y ∈ ak_rms (f :: fs) → y ≠ rN := fun y hy h => nU (by rw [← h]; exact inU y hy)
  have ud : ∀ (p : Nat → Nat) (v y : Nat), y ∈ ak_rms (f :: fs) → ak_ud p rN v y = p y := fun p v y hy => if_neg (nr y hy)
  have udr : ∀ (p : Nat → Nat) (v : Nat), ak_ud p rN v rN = v := fun p v => if_pos rfl
  have gl : ak_gle g (ak_gN g rN f' ho l' mm FR) (ak_rms (f :: fs)) := ⟨Nat.le_refl _, Nat.le_refl _, fun y hy => ⟨List.mem_cons_of_mem _ (inU y hy), ud _ _ y hy, ud _ _ y hy, ud _ _ y hy, ud _ _ y hy⟩⟩
  have hsub : ∀ y, y ∈ ak_rms fs → y ∈ ak_rms (f :: fs) := fun y h => by simp [ak_rms] at h ⊢; exact Or.inr h
  have hfm : f.r ∈ ak_rms (f :: fs) := by simp [ak_rms]
  have gf := gl.2.2 f.r hfm
  have mφ : ∀ q y, (q = 176 ∨ q = 183) → y ∈ ak_rms (f :: fs) → hmF.1 q (g.φ y) = hm.1 q (g.φ y) := fun q y a hy => M q _ (Or.inl ⟨a, nφ y hy⟩)
  have nT : ak_nT fs + ak_tc l ≤ 9060 := by
    have h1 : ak_tc l ≤ ak_tc f.vs := by
      rw [fv]
      have : ∀ (u : List (Bool × Int × Int)), ak_tc l ≤ ak_tc (u ++ l) := by
        intro u
        induction u with
        | nil => exact Nat.le_refl _
        | cons z u ih => exact Nat.le_trans ih (Nat.le_add_right _ _)
      exact this u
    omega
  -- the caller
  have F1 : ak_F1 c (ak_gN g rN f' ho l' mm FR) hcF hmF [true] fs ⟨f.r, f.pc + 1, r, l⟩ := by
    refine ak_F0_F1 (ak_F0_fr F (fun y hy => (gl.2.2 y hy).2.1) gf.1 gf.2.2.2.1 (fun q a b h1 _ => C q _ (by omega)) ?_ (C3 f.r hfm).1 (mφ 176 f.r (Or.inl rfl) hfm) (fun q a b => M q _ (by omega))) c72
      (ak_JS_fr gl.1 gl.2.1 (fun y hy => (gl.2.2 y hy).2.1) t6 (fun q k a b _ => ⟨C q k (by omega), CJ q k (by omega)⟩) (fun q k a b _ => M q k (by omega)) (fun q k a b _ => ⟨M q k (by omega), MJ q k (by omega)⟩)) ?_ ?_ ⟨by omega, by show 1 + l.length ≤ 151; omega, l3⟩
    · rw [C 73 _ (by omega), mφ 183 f.r (Or.inr rfl) hfm]; exact F.1.2.2.2.1
    · rw [gf.2.2.1]
      exact ak_VS_fr gl.1 gl.2.1 ⟨(C3 f.r hfm).2.1, (C3 f.r hfm).2.2⟩ Vl (fun k h => ⟨C 108 k (by omega), CJ 109 k (by omega)⟩) (fun k h => ⟨M 199 k (by omega), MJ 200 k (by omega)⟩)
    · rw [gf.2.2.2.1, gf.2.2.2.2]; exact K
  have hV := ak_nV_le L
  have lo2 : ak_LO c (ak_gN g rN f' ho l' mm FR) hcF hmF [true] fs := ak_LO_fr gl.1 gl.2.1 L (fun y hy => by
    have h1 := gl.2.2 y (hsub y hy)
    have h2 := C3 y (hsub y hy)
    exact ⟨h1.1, h1.2.1, h1.2.2.1, h1.2.2.2.1, h1.2.2.2.2, h2.1, h2.2.1, h2.2.2, mφ 183 y (Or.inr rfl) (hsub y hy), mφ 176 y (Or.inl rfl) (hsub y hy)⟩) (fun q k a b h => C q k (by omega)) (fun q k a b h => ⟨C q k (by omega), CJ q k (by omega)⟩) (fun k h => ⟨C 108 k (by omega), CJ 109 k (by omega)⟩) (fun q k a b h => M q k (by omega)) (fun q k a b h => ⟨M q k (by omega), MJ q k (by omega)⟩) (fun k h => ⟨M 199 k (by omega), MJ 200 k (by omega)⟩)
  obtain ⟨r1, r2, r3, r4, r5, r6, r7, r8⟩ := row
  have H1 : ak_nH hcF (⟨rN, a0, [⟨2, body, 0, 0, 0⟩], []⟩ :: ⟨f.r, f.pc + 1, r, l⟩ :: fs) = ak_nH hc (f :: fs) + hcF.1 76 (fs.length + 1) := by
    show ak_nH hcF fs + hcF.1 76 fs.length + hcF.1 76 (fs.length + 1) = ak_nH hc fs + hc.1 76 fs.length + hcF.1 76 (fs.length + 1)
    rw [C 76 fs.length (by omega), ak_nH_fr (fun k hk => C 76 k (by omega))]
  have N : ak_F1 c (ak_gN g rN f' ho l' mm FR) hcF hmF [] (⟨f.r, f.pc + 1, r, l⟩ :: fs) ⟨rN, a0, [⟨2, body, 0, 0, 0⟩], []⟩ := by
    have u1 : (ak_gN g rN f' ho l' mm FR).φ rN = f' := udr _ _
    have u2 : (ak_gN g rN f' ho l' mm FR).mt rN = mm := udr _ _
    have u3 : (ak_gN g rN f' ho l' mm FR).lv rN = l' := udr _ _
    have u4 : (ak_gN g rN f' ho l' mm FR).φ f.r = g.φ f.r := gf.2.1
    refine ⟨⟨(by show rN ∈ rN :: g.Us; simp), r1, ?_, r3, ?_, r5, ?_, ?_, r8, c54⟩, ⟨?_, ?_, ?_, ?_⟩, ⟨⟨mst.1, mst.2.1, mst.2.2.1, mst.2.2.2⟩, fun h => (by have h : 9 ≤ 2 := h; omega), fun h => (by have h : 2 = 11 := h; omega), trivial⟩, trivial, ?_, (by show 1 ≤ 6165; omega), (by show 0 + 0 ≤ 151; omega), (by show 0 + 0 ≤ 21; omega)⟩
    · rw [u2]; exact r2
    · rw [u1, m183]; exact r4
    · show hcF.1 75 (fs.length + 1) = ((ak_nG fs + ak_gc r : Nat) : Int)
      rw [r6]; omega
    · rw [u1]; exact r7
    · exact mrow.1
    · rw [u1]; exact mrow.2.1
    · show _ = ((ak_gN g rN f' ho l' mm FR).φ f.r : Int)
      rw [u4]; exact mrow.2.2.1
    · exact mrow.2.2.2
    · show ak_K _ _ _ _ ((ak_gN g rN f' ho l' mm FR).mt rN + 40 * (ak_gN g rN f' ho l' mm FR).lv rN) _ _ _
      rw [u2, u3]
      exact ak_K_mk ⟨rfl, cc, 6160, G, by decide, by show 0 + G ≤ 21; omega, t2, ⟨0, cc, rfl, rfl, h34⟩⟩
  refine ⟨sp, ⟨⟨l60, c7, ?_, ?_, ?_⟩, ⟨?_, m103, ?_, m132, ?_⟩, N, F1, lo2⟩, c11, c77, m105⟩
  · rw [c8, H1]; omega
  · show _ = ((ak_nG fs + ak_gc r + ak_gc [⟨2, body, 0, 0, 0⟩] : Nat) : Int)
    rw [c4]
    show hc.1 77 4 = ((ak_nG fs + ak_gc r + 0 : Nat) : Int)
    omega
  · rw [c10]; rfl
  · rw [m102]
    show _ = ((ak_gN g rN f' ho l' mm FR).φ rN : Int)
    exact (congrArg Int.ofNat (udr _ _)).symm
  · rw [m127]; rfl
  · rw [m139]
    show _ = ((ak_nK fs + ak_kc r + 0 : Nat) : Int)
    omega
end BEGR
