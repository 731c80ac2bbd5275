/-! the run: a guard is left -/
section LVG
variable {e : ak_X3} {d ρ1 ρ2 P : Nat} {ρ : List Nat} {c : ak_Cx} {g g' : ak_Gh} {up lo : List ak_Fr} {cur f : ak_Fr} {hmO hc hm hc' hm' hcA : ak_S} {j : ak_Jb} {r js : List ak_Jb} {aw : List Bool}
/-- back to a frame, all above it being closed -/
theorem ak_back {ord : Nat} (sp : ak_SPP c g (ak_rms (up ++ cur :: lo)) hcA hmO) (nd : (ak_rms (up ++ cur :: lo)).Nodup) (rw' : ∀ p f q, up ++ cur :: lo = p ++ f :: q → hcA.1 70 q.length = (f.r : Int) ∧ (hcA.1 76 q.length = 0 ∨ hcA.1 76 q.length = 1) ∧ f.r ∈ g.Us) (h7 : hcA.1 69 7 = ((up ++ cur :: lo).length : Int)) (h8 : hcA.1 69 8 = ak_nH hcA (up ++ cur :: lo)) (hl : (up ++ cur :: lo).length ≤ 60) (e74 : hcA.1 74 lo.length = (ak_nV lo : Int)) :
    ∃ g' hc1, (∀ (Q : ak_S → Prop) (X : Nat → ak_S → Prop), Q (am_up (am_up hc1.1 72 lo.length (ord : Int)) 32 10 (ak_nV lo : Int), hc1.2) → ak_MV e 0 (d + 38) (ak_rc c.s ρ1 ρ2) 102 [am_r 32, am_i (lo.length : Int), am_i (ord : Int)] hcA Q X) ∧ hc1.1 69 7 = ((cur :: lo).length : Int) ∧ hc1.1 69 8 = ak_nH hcA (cur :: lo) ∧
      (∀ q k, ¬ (q = 69 ∧ (k = 7 ∨ k = 8)) → ¬ (q = 54 ∧ k ∈ ak_rms up) → q ≠ 60 → ¬ (q = 49 ∧ k = 11) → hc1.1 q k = hcA.1 q k) ∧ hc1.2 = hcA.2 ∧ ak_gle g g' (ak_rms (cur :: lo)) ∧ (g'.O = g.O ∧ g'.B = g.B ∧ g'.φ = g.φ) ∧
      ∀ hm : ak_S, (∀ q k, ak_stM q k → ¬ ((q = 173 ∨ q = 175) ∧ ∃ y, y ∈ ak_rms up ∧ k = g.φ y) → hm.1 q k = hmO.1 q k) → (∀ q k, ak_stM q k → hm.2.1 q k = hmO.2.1 q k) → (∀ y, y ∈ ak_rms up → hm.1 175 (g.φ y) = 0 ∧ hm.1 173 (g.φ y) = hmO.1 174 (g.φ y)) → ak_SPP c g' (ak_rms (cur :: lo)) hc1 hm := by
  have hs := sp.1.1
  have hl2 := hl
  rw [List.length_append, List.length_cons] at hl2
  obtain ⟨g', hc1, w1, w2, w3, w4, w5, ⟨e1, e2, e3, e4, e5, e6, e7⟩, w6⟩ := ak_close (e := e) (d := d + 16) (ρ1 := ρ1) (ρ2 := ρ2) up g hcA hmO (cur :: lo) 0 sp nd rw' h7 h8 hl (by omega)
  have e1' : ak_rms (up ++ cur :: lo) = ak_rms up ++ ak_rms (cur :: lo) := by simp [ak_rms]
  refine ⟨g', hc1, fun Q X q => ?_, w2, w3, w4, w5, ⟨by rw [e1]; exact Nat.le_refl _, by rw [e2]; exact Nat.le_refl _, fun y hy => ⟨e7 y ?_ (fun h => ?_), by rw [e3], by rw [e4], by rw [e5], by rw [e6]⟩⟩, ⟨e1, e2, e3⟩, w6⟩
  · have b : 0 ≤ (lo.length : Int) ∧ (lo.length : Int) < 60 := by omega
    refine ak_MV_of (Nat.le_of_ble_eq_true rfl) (am_k102_0 hs ?_)
    rw [show am_w32 ((lo.length : Int) + 1) = ((cur :: lo).length : Int) from by rw [ak_w _ (by omega), List.length_cons]; omega, ak_natn]
    refine ak_MV_of (Nat.le_of_ble_eq_true rfl) (am_k104_0 hs (w1 _ _ ⟨b, b, ?_⟩))
    rw [w4 74 _ (by omega) (by omega) (by omega) (by omega), e74]
    exact q
  · obtain ⟨z, hz, hzr⟩ := List.mem_map.mp hy
    obtain ⟨p, q, hpq⟩ := List.append_of_mem hz
    rw [← hzr]
    exact (rw' (up ++ p) z q (by rw [hpq]; simp)).2.2
  · rw [e1'] at nd
    exact (List.nodup_append.mp nd).2.2 y h y hy rfl
/-- the one's next guard -/
theorem ak_c100g (w : ak_UI c g up cur (j :: r) lo P hmO hc hm) (hk : 9 ≤ j.k) : hc.1 77 4 = ((ak_nG lo + ak_gc r + 1 : Nat) : Int) ∧ ak_nG lo + ak_gc r < 1260 ∧
    ∀ (x : Nat) (Q : ak_S → Prop) (X : Nat → ak_S → Prop), (x : Int) + hc.1 77 4 ≤ 1260 → ak_MV e 0 (d + 39) (ak_rc c.s ρ1 ρ2) 101 [am_r 32, am_i ((ak_nG lo + ak_gc r : Nat) : Int)] hc (fun h2 => ak_W0 e 0 (d + 39) 100 (ak_rc c.s ρ1 ρ2) 2 [some (am_r 32), some (am_i ((x + 1 : Nat) : Int)), none] [] h2 (ak_qv Q X)) (fun _ _ => False) →
      ak_W0 e 0 (d + 39) 100 (ak_rc c.s ρ1 ρ2) 2 [some (am_r 32), some (am_i (x : Int)), none] [] hc (ak_qv Q X) := by
  obtain ⟨hs, l60, cU, φ5, φy, h174, h174O, inU, nc, h12, e133⟩ := ak_UI_at w
  obtain ⟨_, ⟨u2, u3, u4, u5⟩, _, _, ⟨f0, _, _, _, jg⟩, lo1, _⟩ := w
  have eg : ak_gc (j :: r) = ak_gc r + 1 := by show ak_gc r + (if 9 ≤ j.k then 1 else 0) = _; rw [if_pos hk]
  have hG := ak_nG_le lo1
  rw [eg] at u2 jg
  have h4 : hc.1 77 4 = ((ak_nG lo + ak_gc r + 1 : Nat) : Int) := u2
  have b : ak_nG lo + ak_gc r < 1260 := by omega
  refine ⟨h4, b, fun x Q X hx q => ?_⟩
  have go49 : ∀ y0 : Int, y0 ≤ (ak_nG lo : Int) → ak_W0 e 0 (d + 39) 100 (ak_rc c.s ρ1 ρ2) 49 [some (am_r 32), some (am_i (x : Int)), none] [am_i y0] hc (ak_qv Q X) := fun y0 hy => by
    refine am_k100_49 hs ⟨fun z => absurd z (by rw [h4]; omega), fun _ => ?_⟩
    rw [h4, show am_w32 (((ak_nG lo + ak_gc r + 1 : Nat) : Int) - 1) = ((ak_nG lo + ak_gc r : Nat) : Int) from by rw [ak_w _ (by omega)]; omega, show am_w32 ((x : Int) + 1) = ((x + 1 : Nat) : Int) from by rw [ak_w _ (by omega)]; omega]
    exact q
  refine am_k100_2 hs ⟨fun z => absurd z (by omega), fun _ => ⟨fun z => absurd z u4, fun _ => ⟨fun _ => go49 0 (by omega), fun z => ?_⟩⟩⟩
  rcases u5.2 with y | y | ⟨_, _, _, _, p, r', q', z5, z6, _⟩
  · exact absurd y u4
  · rw [z] at y; exact absurd y.1 (by decide)
  · have hlen : q'.length ≤ lo.length := by
      have := congrArg List.length z5
      rw [List.length_append, List.length_cons, List.length_cons] at this
      have e3 : (ak_rms lo).length = lo.length := by simp [ak_rms]
      omega
    rw [z6, ak_natn]
    refine ⟨by omega, go49 _ ?_⟩
    by_cases hq : q'.length = lo.length
    · rw [hq, f0.1.2.2.2.2.2.1]; exact Int.le_refl _
    · exact (ak_LO_75 lo1 _ (by omega)).2
/-- the frame taken back into use -/
theorem ak_tk {a : Nat} {js' : List ak_Jb} (f0 : ak_F0 g hc hm lo cur.r) (lo1 : ak_LO c g hc hm [true] lo) (l60 : lo.length + 1 ≤ 60) (sp : ak_SPP c g' (ak_rms (cur :: lo)) hc' hm') (gl : ak_gle g g' (ak_rms (cur :: lo))) 
    (k1 : ∀ q k, (70 ≤ q ∧ q ≤ 76 ∧ k ≤ lo.length ∧ ¬ (q = 72 ∧ k = lo.length)) ∨ (78 ≤ q ∧ q ≤ 86 ∧ k < ak_nG lo) ∨ (q = 108 ∧ k < ak_nV lo) → hc'.1 q k = hc.1 q k) (k2 : ∀ q k, (78 ≤ q ∧ q ≤ 86 ∧ k < ak_nG lo) ∨ (q = 109 ∧ k < ak_nV lo) → hc'.2.1 q k = hc.2.1 q k)
    (k3 : ∀ y, y ∈ ak_rms (cur :: lo) → hc'.1 54 y = hc.1 54 y ∧ hc'.1 56 (g.hr y) = hc.1 56 (g.hr y) ∧ hc'.2.1 57 (g.hr y) = hc.2.1 57 (g.hr y))
    (n1 : ∀ q k, q = 176 ∨ q = 183 ∨ (201 ≤ q ∧ q ≤ 204 ∧ k ≤ ak_nJ lo) ∨ (205 ≤ q ∧ q ≤ 210 ∧ k < ak_nK lo) ∨ (q = 199 ∧ k < ak_nT lo) → hm'.1 q k = hm.1 q k) (n2 : ∀ q k, (205 ≤ q ∧ q ≤ 210 ∧ k < ak_nK lo) ∨ (q = 200 ∧ k < ak_nT lo) → hm'.2.1 q k = hm.2.1 q k)
    (c72 : hc'.1 72 lo.length = (a : Int)) (h7 : hc'.1 69 7 = ((cur :: lo).length : Int)) (h8 : hc'.1 69 8 = ak_nH hc (cur :: lo)) (h4 : hc'.1 77 4 = ((ak_nG lo + ak_gc js' : Nat) : Int)) (h10 : hc'.1 32 10 = (ak_nV lo : Int)) (h11 : hc'.1 32 11 = -1) (h77 : hc'.1 77 10 = 0)
    (m102 : hm'.1 110 102 = (g.φ cur.r : Int)) (m103 : hm'.1 110 103 = ((lo.length + 1 : Nat) : Int)) (m127 : hm'.1 110 127 = (ak_nT lo : Int)) (m132 : hm'.1 110 132 = ((ak_nJ lo + 1 + js'.length : Nat) : Int)) (m139 : hm'.1 110 139 = ((ak_nK lo + ak_kc js' : Nat) : Int)) (m105 : hm'.1 110 105 = -1)
    (J : ak_JS g'.O g'.B g'.φ (cur.r :: ak_rms lo) lo.length (ak_nJ lo + 1) (ak_nG lo) (ak_nK lo) (ak_nT lo) hc' hm' js') (K : ak_K (ak_mC c.s c.h0) (ak_mM c.us c.m0) (ak_T c.s) c.us (g.mt cur.r + 40 * g.lv cur.r) js' a [])
    (L : js'.length ≤ 6165 ∧ ak_gc js' ≤ 21) : ak_RN c g' (⟨cur.r, a, js', []⟩ :: lo) hc' hm' := by
  have gf := gl.2.2 cur.r (by simp [ak_rms])
  have hsub : ∀ y, y ∈ ak_rms lo → y ∈ ak_rms (cur :: lo) := fun y h => by simp [ak_rms] at h ⊢; exact Or.inr h
  have F := ak_F0_fr (g' := g') (hc' := hc') (hm' := hm') f0 (fun y hy => (gl.2.2 y hy).2.1) gf.1 gf.2.2.2.1 (fun q a b h1 h2 => k1 q _ (by omega)) (by rw [k1 73 _ (by omega), n1 183 _ (by omega)]; exact f0.1.2.2.2.1) (k3 cur.r (by simp [ak_rms])).1 (n1 176 _ (by omega)) (fun q a b => n1 q _ (by omega))
  have lo2 := ak_LO_kp (g' := g') (hc' := hc') (hm' := hm') ⟨gl.1, gl.2.1, fun y hy => gl.2.2 y (hsub y hy)⟩ lo1 (fun q k h => k1 q k (by omega)) (fun q k h => k2 q k (by omega)) (fun y hy => k3 y (hsub y hy)) (fun q k h => n1 q k (by omega)) (fun q k h => n2 q k (by omega))
  refine ⟨sp, ⟨⟨by rw [List.length_cons]; exact l60, h7, ?_, h4, by rw [h10]; rfl⟩, ⟨?_, m103, by rw [m127]; rfl, m132, m139⟩, ak_F0_F1 F c72 J trivial (by rw [gf.2.2.2.1, gf.2.2.2.2]; exact K) ⟨L.1, by decide, L.2⟩, lo2⟩, h11, h77, m105⟩
  · rw [h8]
    exact (ak_nH_fr (fs := cur :: lo) (fun k hk => k1 76 k (by rw [List.length_cons] at hk; omega))).symm
  · rw [m102]
    exact congrArg Int.ofNat gf.2.1.symm
end LVG
