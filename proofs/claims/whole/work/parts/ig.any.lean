/-! the run: a frame anew, guards and all; an order taken in any state -/
section ANY
variable {e : ak_X3} {d ρ1 ρ2 W y n o pc' pc : Nat} {ρ : List Nat} {c : ak_Cx} {g : ak_Gh} {fs : List ak_Fr} {f : ak_Fr} {hc hm hc' hm' : ak_S} {j : ak_Jb} {r js' : List ak_Jb} {vs' : List (Bool × Int × Int)} {v : Int} {X : Nat → ak_S → Prop} {Q : ak_S → Prop}
theorem ak_RN_any (w : ak_RN c g (f :: fs) hc hm) (sp : ak_SPP c g (ak_rms (f :: fs)) hc' hm') (k1 : ∀ q k, (69 ≤ q ∧ q ≤ 76 ∧ ¬ (q = 72 ∧ k = fs.length) ∧ ¬ (q = 73 ∧ k = fs.length)) ∨ (78 ≤ q ∧ q ≤ 86 ∧ k < ak_nG fs) ∨ (q = 108 ∧ k < ak_nV fs) → hc'.1 q k = hc.1 q k) (k2 : ∀ q k, (78 ≤ q ∧ q ≤ 86 ∧ k < ak_nG fs) ∨ (q = 109 ∧ k < ak_nV fs) → hc'.2.1 q k = hc.2.1 q k) (k3 : ∀ y, y ∈ ak_rms (f :: fs) → hc'.1 54 y = hc.1 54 y ∧ hc'.1 56 (g.hr y) = hc.1 56 (g.hr y) ∧ hc'.2.1 57 (g.hr y) = hc.2.1 57 (g.hr y))
    (n1 : ∀ q k, (q = 110 ∧ (k = 102 ∨ k = 103)) ∨ q = 176 ∨ (q = 183 ∧ k ≠ g.φ f.r) ∨ (201 ≤ q ∧ q ≤ 204 ∧ k < ak_nJ fs + 1) ∨ (205 ≤ q ∧ q ≤ 210 ∧ k < ak_nK fs) ∨ (q = 199 ∧ k < ak_nT fs) → hm'.1 q k = hm.1 q k) (n2 : ∀ q k, (205 ≤ q ∧ q ≤ 210 ∧ k < ak_nK fs) ∨ (q = 200 ∧ k < ak_nT fs) → hm'.2.1 q k = hm.2.1 q k) (e73 : hc'.1 73 fs.length = hm'.1 183 (g.φ f.r))
    (c72 : hc'.1 72 fs.length = (pc' : Int)) (c4 : hc'.1 77 4 = ((ak_nG fs + ak_gc js' : Nat) : Int)) (c10 : hc'.1 32 10 = ((ak_nV fs + vs'.length : Nat) : Int)) (c11 : hc'.1 32 11 = -1) (c77 : hc'.1 77 10 = 0) (m105 : hm'.1 110 105 = -1) (m127 : hm'.1 110 127 = ((ak_nT fs + ak_tc vs' : Nat) : Int)) (m132 : hm'.1 110 132 = ((ak_nJ fs + 1 + js'.length : Nat) : Int)) (m139 : hm'.1 110 139 = ((ak_nK fs + ak_kc js' : Nat) : Int))
    (J : ak_JS g.O g.B g.φ (f.r :: ak_rms fs) fs.length (ak_nJ fs + 1) (ak_nG fs) (ak_nK fs) (ak_nT fs) hc' hm' js') (V : ak_VS g.O g.B (hc'.1 56 (g.hr f.r)) (hc'.2.1 57 (g.hr f.r)) (ak_nV fs) (ak_nT fs) hc' hm' vs') (K : ak_K (ak_mC c.s c.h0) (ak_mM c.us c.m0) (ak_T c.s) c.us (g.mt f.r + 40 * g.lv f.r) js' pc' (vs'.map (fun v => v.1)))
    (L : js'.length ≤ 6165 ∧ vs'.length ≤ 151 ∧ ak_gc js' ≤ 21) : ak_RN c g (⟨f.r, pc', js', vs'⟩ :: fs) hc' hm' := by
  obtain ⟨hs, l60, fU, f5, φ5, sp0, F, lo, J0, V0, K0, ⟨l1, l2, l3⟩, ⟨d2, d3, d4, d5, o1, o2⟩, ⟨e1, e2, e3, e4, e5, o3⟩, ⟨x1, x2, x3, x4⟩, d72, lt1⟩ := ak_tp w
  have gl := (ak_gle_refl w).2.2
  have hsub : ∀ y, y ∈ ak_rms fs → y ∈ ak_rms (f :: fs) := fun y h => by simp [ak_rms] at h ⊢; exact Or.inr h
  have fre := sp0.2.2.2.2.1.1
  have rows := ak_LO_row lo
  have ne : ∀ y, y ∈ ak_rms fs → g.φ y ≠ g.φ f.r := fun y hy z => by
    have h1 := fre.2.2.2.2.2.1 y f.r (gl y (hsub y hy)).1 fU z
    have h2 := rows.2.2.1 y hy
    have h3 := F.1.2.2.2.2.2.2.2.2
    rw [h1] at h2
    omega
  have hn : ak_nH hc' fs = ak_nH hc fs := ak_nH_fr (fun k hk => k1 76 k (by omega))
  refine ⟨sp, ⟨⟨by rw [List.length_cons]; omega, (k1 69 7 (by omega)).trans d2, ?_, c4, c10⟩, ⟨(n1 110 102 (by omega)).trans e1, (n1 110 103 (by omega)).trans e2, m127, m132, m139⟩, ?_, ?_⟩, c11, c77, m105⟩
  · rw [k1 69 8 (by omega), d3]
    show ak_nH hc fs + hc.1 76 fs.length = ak_nH hc' fs + hc'.1 76 fs.length
    rw [hn, k1 76 fs.length (by omega)]
  · exact ak_F0_F1 (ak_F0_fr F (fun _ _ => rfl) fU rfl (fun q a b h1 h2 => k1 q _ (by omega)) e73 (k3 f.r (by simp [ak_rms])).1 (n1 176 _ (by omega)) (fun q a b => n1 q _ (by omega))) c72 J V K ⟨L.1, by show 0 + _ ≤ 151; omega, L.2.2⟩
  · exact ak_LO_fr (Nat.le_refl _) (Nat.le_refl _) lo (fun y hy => ⟨(gl y (hsub y hy)).1, rfl, rfl, rfl, rfl, (k3 y (hsub y hy)).1, (k3 y (hsub y hy)).2.1, (k3 y (hsub y hy)).2.2, n1 183 _ (by have := ne y hy; omega), n1 176 _ (by omega)⟩) (fun q k a b h => k1 q k (by omega)) (fun q k a b h => ⟨k1 q k (by omega), k2 q k (by omega)⟩) (fun k h => ⟨k1 108 k (by omega), k2 109 k (by omega)⟩) (fun q k a b h => n1 q k (by omega)) (fun q k a b h => ⟨n1 q k (by omega), n2 q k (by omega)⟩) (fun k h => ⟨n1 199 k (by omega), n2 200 k (by omega)⟩)
/-- an order, in a state that need not be one between two -/
theorem ak_o72g {t : Nat} (hs : c.s = 0 ∨ c.s = 1) (ht : t < 60) (h7 : hc.1 69 7 = ((t + 1 : Nat) : Int)) (h72 : hc.1 72 t = (pc : Int)) (b1 : hc.1 (ak_T c.s + 2) pc = (o : Int)) (b2 : (pc : Int) < hc.1 (ak_T c.s + 1) 2) (b3 : pc < 9030) (b4 : hc.1 (ak_T c.s + 3) pc = v)
    (w78 : o ≤ 7 → ak_MV e 0 d (ak_rc c.s ρ1 ρ2) 78 [am_r 32, am_i (o : Int), am_i v] (ak_atC hc t pc) Q (fun _ _ => False))
    (w0 : o ≤ 7 ∨ 31 < o)
    (w97 : 31 < o → ak_MV e 0 d (ak_rc c.s ρ1 ρ2) 97 [am_r 32, am_i (o : Int), am_i v] (ak_atC hc t pc) Q (fun _ _ => False)) : ak_MV e 0 (d + 1) (ak_rc c.s ρ1 ρ2) 72 [am_r 32] hc Q X := by
  refine ak_MV_of (Nat.le_of_ble_eq_true rfl) (am_k72_0 hs ?_)
  rw [h7, show am_w32 (((t + 1 : Nat) : Int) - 1) = (t : Int) from by rw [ak_w _ (by omega)]; omega, ak_natn, h72, ak_natn, b1, b4, ak_wj (show pc < 1000000 by omega)]
  have hb : 0 ≤ (t : Int) ∧ (t : Int) < 60 := by omega
  have hp : 0 ≤ (pc : Int) ∧ (pc : Int) < 9600 := by omega
  exact ⟨fun z => absurd z (by omega), fun _ => ⟨hb, fun z => absurd z (by omega), fun _ => ⟨hb, fun _ => ⟨hb, hb, hp, hp, fun g1 => ⟨fun g2 => ⟨fun g3 => ⟨fun g4 => ⟨fun g5 => w97 (by omega), fun g5 => absurd w0 (by omega)⟩, fun g4 => absurd w0 (by omega)⟩, fun g3 => absurd w0 (by omega)⟩, fun g2 => absurd w0 (by omega)⟩, fun g1 => w78 (by omega)⟩, fun z => absurd z (by omega)⟩⟩⟩
end ANY
