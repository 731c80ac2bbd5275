/-! the run: a frame goes on after a leaving -/
section ASM
variable {e : ak_X3} {d ρ1 ρ2 : Nat} {c : ak_Cx} {g g' : ak_Gh} {fs lo : List ak_Fr} {f cur : ak_Fr} {hc hm hc' hm' : ak_S} {aw aw' : List Bool}
def ak_F0 (g : ak_Gh) (hc hm : ak_S) (fs : List ak_Fr) (r : Nat) : Prop :=
  (r ∈ g.Us ∧ hc.1 70 fs.length = (r : Int) ∧ hc.1 71 fs.length = (g.mt r : Int) ∧ hc.1 73 fs.length = hm.1 183 (g.φ r) ∧ hc.1 74 fs.length = (ak_nV fs : Int) ∧ hc.1 75 fs.length = (ak_nG fs : Int) ∧ hc.1 76 fs.length = hm.1 176 (g.φ r) ∧ (hc.1 76 fs.length = 0 ∨ hc.1 76 fs.length = 1) ∧ hc.1 54 r = (fs.length : Int)) ∧
  (hm.1 201 (ak_nJ fs) = 8 ∧ hm.1 202 (ak_nJ fs) = (g.φ r : Int) ∧ hm.1 203 (ak_nJ fs) = ak_fx g fs ∧ hm.1 204 (ak_nJ fs) = (ak_nT fs : Int))
theorem ak_F1_F0 (w : ak_F1 c g hc hm aw fs f) : ak_F0 g hc hm fs f.r := by
  obtain ⟨⟨a1, a2, a3, a4, a5, a6, a7, a8, a9, a10⟩, b, _⟩ := w
  exact ⟨⟨a1, a2, a3, a5, a6, a7, a8, a9, a10⟩, b⟩
theorem ak_F0_fr {r : Nat} (w : ak_F0 g hc hm fs r) (hφ : ∀ y, y ∈ r :: ak_rms fs → g'.φ y = g.φ y) (hU : r ∈ g'.Us) (hl : g'.mt r = g.mt r)
    (cA : ∀ q, 70 ≤ q → q ≤ 76 → q ≠ 72 → q ≠ 73 → hc'.1 q fs.length = hc.1 q fs.length) (c73 : hc'.1 73 fs.length = hm'.1 183 (g.φ r)) (c54 : hc'.1 54 r = hc.1 54 r) (m176 : hm'.1 176 (g.φ r) = hm.1 176 (g.φ r))
    (mJ : ∀ q, 201 ≤ q → q ≤ 204 → hm'.1 q (ak_nJ fs) = hm.1 q (ak_nJ fs)) : ak_F0 g' hc' hm' fs r := by
  obtain ⟨⟨a1, a2, a3, a5, a6, a7, a8, a9, a10⟩, ⟨b1, b2, b3, b4⟩⟩ := w
  have e1 : g'.φ r = g.φ r := hφ r (by simp)
  have e2 : ak_fx g' fs = ak_fx g fs := ak_fx_eq (fun y hy => hφ y (by simp [hy]))
  unfold ak_F0
  rw [hl, e1, e2, c54, m176, cA 70 (by omega) (by omega) (by omega) (by omega), cA 71 (by omega) (by omega) (by omega) (by omega), cA 74 (by omega) (by omega) (by omega) (by omega), cA 75 (by omega) (by omega) (by omega) (by omega), cA 76 (by omega) (by omega) (by omega) (by omega), mJ 201 (by omega) (by omega), mJ 202 (by omega) (by omega), mJ 203 (by omega) (by omega), mJ 204 (by omega) (by omega)]
  exact ⟨⟨hU, a2, a3, c73, a6, a7, a8, a9, a10⟩, ⟨b1, b2, b3, b4⟩⟩
theorem ak_F0_F1 {r pc : Nat} {js : List ak_Jb} {vs : List (Bool × Int × Int)} (w : ak_F0 g hc hm fs r) (c72 : hc.1 72 fs.length = (pc : Int)) (J : ak_JS g.O g.B g.φ (r :: ak_rms fs) fs.length (ak_nJ fs + 1) (ak_nG fs) (ak_nK fs) (ak_nT fs) hc hm js)
    (V : ak_VS g.O g.B (hc.1 56 (g.hr r)) (hc.2.1 57 (g.hr r)) (ak_nV fs) (ak_nT fs) hc hm vs) (K : ak_K (ak_mC c.s c.h0) (ak_mM c.us c.m0) (ak_T c.s) c.us (g.mt r + 40 * g.lv r) js pc (aw ++ vs.map (fun v => v.1)))
    (L : js.length ≤ 6165 ∧ aw.length + vs.length ≤ 151 ∧ ak_gc js ≤ 21) : ak_F1 c g hc hm aw fs ⟨r, pc, js, vs⟩ := by
  obtain ⟨⟨a1, a2, a3, a5, a6, a7, a8, a9, a10⟩, b⟩ := w
  exact ⟨⟨a1, a2, a3, c72, a5, a6, a7, a8, a9, a10⟩, b, J, V, K, L⟩
/-- the frames below, when all their cells stay -/
theorem ak_LO_kp {fs : List ak_Fr} (gl : ak_gle g g' (ak_rms fs)) (lo : ak_LO c g hc hm aw fs) (k1 : ∀ q k, (70 ≤ q ∧ q ≤ 76 ∧ k < fs.length) ∨ (78 ≤ q ∧ q ≤ 86 ∧ k < ak_nG fs) ∨ (q = 108 ∧ k < ak_nV fs) → hc'.1 q k = hc.1 q k) (k2 : ∀ q k, (78 ≤ q ∧ q ≤ 86 ∧ k < ak_nG fs) ∨ (q = 109 ∧ k < ak_nV fs) → hc'.2.1 q k = hc.2.1 q k)
    (k3 : ∀ y, y ∈ ak_rms fs → hc'.1 54 y = hc.1 54 y ∧ hc'.1 56 (g.hr y) = hc.1 56 (g.hr y) ∧ hc'.2.1 57 (g.hr y) = hc.2.1 57 (g.hr y)) (n1 : ∀ q k, q = 176 ∨ q = 183 ∨ (201 ≤ q ∧ q ≤ 204 ∧ k < ak_nJ fs) ∨ (205 ≤ q ∧ q ≤ 210 ∧ k < ak_nK fs) ∨ (q = 199 ∧ k < ak_nT fs) → hm'.1 q k = hm.1 q k)
    (n2 : ∀ q k, (205 ≤ q ∧ q ≤ 210 ∧ k < ak_nK fs) ∨ (q = 200 ∧ k < ak_nT fs) → hm'.2.1 q k = hm.2.1 q k) : ak_LO c g' hc' hm' aw fs := by
  obtain ⟨gO, gB, gU⟩ := gl
  exact ak_LO_fr gO gB lo (fun y hy => ⟨(gU y hy).1, (gU y hy).2.1, (gU y hy).2.2.1, (gU y hy).2.2.2.1, (gU y hy).2.2.2.2, (k3 y hy).1, (k3 y hy).2.1, (k3 y hy).2.2, n1 183 _ (by omega), n1 176 _ (by omega)⟩) (fun q k a b h => k1 q k (by omega)) (fun q k a b h => ⟨k1 q k (by omega), k2 q k (by omega)⟩) (fun k h => ⟨k1 108 k (by omega), k2 109 k (by omega)⟩) (fun q k a b h => n1 q k (by omega)) (fun q k a b h => ⟨n1 q k (by omega), n2 q k (by omega)⟩) (fun k h => ⟨n1 199 k (by omega), n2 200 k (by omega)⟩)
theorem ak_up_cg {f f2 : Nat → Nat → Int} {a b q k : Nat} {v : Int} (h : f q k = f2 q k) : am_up f a b v q k = am_up f2 a b v q k := by
  unfold am_up
  rw [h]
theorem ak_bks_fr2 {s us B : Nat} {φ lv mt : Nat → Nat} {Us : List Nat} {h0 m0 : ak_S} (w : ak_bks s us B φ lv mt Us h0 m0 hc hm) (fC : ∀ q k, (q = 49 ∧ k = 14) ∨ q = 55 ∨ q = 61 ∨ q = 62 → hc'.1 q k = hc.1 q k) (fM : ∀ q k, (q = 110 ∧ k = 57) ∨ q = 150 ∨ q = 151 → hm'.1 q k = hm.1 q k) : ak_bks s us B φ lv mt Us h0 m0 hc' hm' := by
  obtain ⟨w1, w2, w3, w4, w5⟩ := w
  refine ⟨(fC _ _ (by omega)).trans w1, (fM _ _ (by omega)).trans w2, w3, fun i hi => ?_, fun r hr hs => ?_⟩
  · obtain ⟨l, r, a1, a2, a3, a4, a5, a6, a7, a8⟩ := w4 i hi
    exact ⟨l, r, (fC _ _ (by omega)).trans a1, (fM _ _ (by omega)).trans a2, a3, (fC _ _ (by omega)).trans a4, a5, (fM _ _ (by omega)).trans a6, (fC _ _ (by omega)).trans a7, a8⟩
  · rw [fC 55 _ (by omega)] at hs
    obtain ⟨i, a1, a2⟩ := w5 r hr hs
    exact ⟨i, a1, (fC _ _ (by omega)).trans a2⟩
/-- a word set in a room, on both sides -/
theorem ak_SP_word {V : List Nat} {r k : Nat} {s x : Int} (w : ak_SPP c g V hc hm) (hr : r ∈ g.Us) (hk : k < 12) (vk : ak_vok g.O g.B s x) : ak_SPP c g V (ak_kwC hc (12 * r + k) s x) (ak_kwM hm (12 * g.φ r + k) s x) := by
  obtain ⟨⟨hs, tx⟩, ag, ⟨hO, wd⟩, st, ⟨rf, rr, rb⟩, jn, al, k1, k2⟩ := w
  have hT := ak_T_bd hs
  have C : ∀ q i, ¬ (q = 50 ∧ i = 12 * r + k) → (ak_kwC hc (12 * r + k) s x).1 q i = hc.1 q i := fun q i h => ak_up_out h
  have CJ : ∀ q i, ¬ (q = 51 ∧ i = 12 * r + k) → (ak_kwC hc (12 * r + k) s x).2.1 q i = hc.2.1 q i := fun q i h => ak_up_out h
  have C1 : (ak_kwC hc (12 * r + k) s x).1 50 (12 * r + k) = s ∧ (ak_kwC hc (12 * r + k) s x).2.1 51 (12 * r + k) = x := by unfold ak_kwC; simp [am_up]
  have M : ∀ q i, ¬ (q = 184 ∧ i = 12 * g.φ r + k) → (ak_kwM hm (12 * g.φ r + k) s x).1 q i = hm.1 q i := fun q i h => ak_up_out h
  have MJ : ∀ q i, ¬ (q = 185 ∧ i = 12 * g.φ r + k) → (ak_kwM hm (12 * g.φ r + k) s x).2.1 q i = hm.2.1 q i := fun q i h => ak_up_out h
  have M1 : (ak_kwM hm (12 * g.φ r + k) s x).1 184 (12 * g.φ r + k) = s ∧ (ak_kwM hm (12 * g.φ r + k) s x).2.1 185 (12 * g.φ r + k) = x := by unfold ak_kwM; simp [am_up]
  generalize ak_kwC hc (12 * r + k) s x = hc' at C CJ C1
  generalize ak_kwM hm (12 * g.φ r + k) s x = hm' at M MJ M1
  obtain ⟨wy, hwy⟩ := al.2.2.2.2.1
  refine ⟨⟨hs, tx⟩, ak_agT_fr ag (fun q i a b => ⟨C q i (by omega), CJ q i (by omega)⟩) (fun q i a => M q i (by unfold ak_tmI at a; omega)), ⟨hO, ak_WD_fr wd ⟨fun q i h => C q i (by omega), fun i => CJ 36 i (by omega)⟩ ⟨fun q i h => M q i (by omega), fun i => MJ 146 i (by omega)⟩⟩, ak_ST_fr st (fun q i h => C q i (by omega)) (fun i => CJ 46 i (by omega)) (fun q i h => M q i (by omega)),
    ⟨ak_fre_fr rf (fun q i h => C q i (by omega)) (fun i => M 173 i (by omega)), fun y hy => ?_, ak_bks_fr2 rb (fun q i h => C q i (by omega)) (fun q i h => M q i (by omega))⟩, ak_jn_fr jn (fun q i a b => ⟨C q i (by omega), CJ q i (by omega)⟩) (fun q i h => ⟨M q i (by omega), MJ q i (by omega)⟩),
    ak_all_fr al (fun q i h => C q i (by omega)) (fun i => CJ 5 i (by omega)) (fun q i h => M q i (by omega)) ⟨wy, ak_wyS_fr2 hwy (fun q i h => M q i (by omega))⟩, (C 1 8 (by omega)).trans k1, (M 110 4 (by omega)).trans k2.1, (M 110 0 (by omega)).trans k2.2⟩
  have R := rr y hy
  unfold ak_rom at R ⊢
  obtain ⟨r1, r2, r3, r4, r5, r6, r7⟩ := R
  refine ⟨fun i hi => ?_, ?_, ?_, ?_, ?_, ?_, ?_⟩
  · by_cases hyr : y = r ∧ i = k
    · obtain ⟨rfl, rfl⟩ := hyr
      rw [C1.1, C1.2, M1.1, M1.2]
      exact ⟨rfl, rfl, vk⟩
    · have n1 : ¬ (12 * y + i = 12 * r + k) := fun h => hyr (by omega)
      have n2 : ¬ (12 * g.φ y + i = 12 * g.φ r + k) := fun h => by
        have : g.φ y = g.φ r := by omega
        have := rf.2.2.2.2.2.1 y r hy hr this
        exact hyr ⟨this, by omega⟩
      rw [C 50 _ (fun z => n1 z.2), CJ 51 _ (fun z => n1 z.2), M 184 _ (fun z => n2 z.2), MJ 185 _ (fun z => n2 z.2)]
      exact r1 i hi
  · rw [C 53 _ (by omega), M 178 _ (by omega)]; exact r2
  · rw [C 52 _ (by omega), M 177 _ (by omega)]
    rcases r3 with r3 | ⟨r', a1, a2, a3, a4, a5, a6, a7, a8⟩
    · exact Or.inl r3
    · exact Or.inr ⟨r', a1, a2, a3, a4, a5, a6, (C 55 _ (by omega)).trans a7, (C 55 _ (by omega)).trans a8⟩
  · rw [C 55 _ (by omega), M 174 _ (by omega)]; exact r4
  · rw [C 55 _ (by omega), C 54 _ (by omega), M 175 _ (by omega)]; exact r5
  · rw [M 179 _ (by omega)]; exact r6
  · rw [C 56 _ (by omega), C 58 _ (by omega), C 59 _ (by omega), CJ 57 _ (by omega), M 180 _ (by omega), M 182 _ (by omega), MJ 181 _ (by omega)]; exact r7
end ASM
