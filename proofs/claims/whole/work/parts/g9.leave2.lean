/-! the run: a frame is left; the run fails, answers -/
section LVF
variable {e : ak_X3} {d ρ1 ρ2 P : Nat} {ρ : List Nat} {c : ak_Cx} {g g' : ak_Gh} {up lo : List ak_Fr} {cur f : ak_Fr} {hmO hc hm hc' hm' : ak_S} {j : ak_Jb} {r js : List ak_Jb} {aw : List Bool}
theorem ak_jn_a (J : ak_jn hc hm) (c0 : hc'.2.1 64 0 = hm'.1 110 106) (c1 : hc'.2.1 64 1 = hm'.2.1 110 107) (c3 : hc'.2.1 64 3 = hm'.1 110 108) (C : ∀ q k, 64 ≤ q → q ≤ 68 → ¬ (q = 64 ∧ (k = 0 ∨ k = 1 ∨ k = 3)) → hc'.1 q k = hc.1 q k ∧ hc'.2.1 q k = hc.2.1 q k)
    (F : ∀ q k, (q = 110 ∧ (k = 104 ∨ (109 ≤ k ∧ k ≤ 111))) ∨ (186 ≤ q ∧ q ≤ 198) → hm'.1 q k = hm.1 q k ∧ hm'.2.1 q k = hm.2.1 q k) : ak_jn hc' hm' := by
  obtain ⟨⟨j0, j1, j2, j3, j4, j5, j6⟩, ⟨b1, b2, b3, b4⟩, r1, r2, r3, r4⟩ := J
  have f : ∀ q k, (q = 110 ∧ (k = 104 ∨ (109 ≤ k ∧ k ≤ 111))) ∨ (186 ≤ q ∧ q ≤ 198) → hm'.1 q k = hm.1 q k := fun q k a => (F q k a).1
  have c : ∀ q k, 64 ≤ q → q ≤ 68 → ¬ (q = 64 ∧ (k = 0 ∨ k = 1 ∨ k = 3)) → hc'.2.1 q k = hc.2.1 q k := fun q k a b d => (C q k a b d).2
  refine ⟨⟨c0, c1, ?_, c3, ?_, ?_, ?_⟩, ⟨?_, ?_, ?_, ?_⟩, fun i hi hl => ?_, fun i hi hl => ?_, fun i hi hl => ?_, fun i hi => ?_⟩
  · rw [c 64 2 (by omega) (by omega) (by omega), f 110 104 (by omega)]; exact j2
  · rw [c 64 4 (by omega) (by omega) (by omega), f 110 109 (by omega)]; exact j4
  · rw [c 64 5 (by omega) (by omega) (by omega), f 110 110 (by omega)]; exact j5
  · rw [c 64 6 (by omega) (by omega) (by omega), f 110 111 (by omega)]; exact j6
  · rw [f 110 104 (by omega)]; exact b1
  · rw [f 110 109 (by omega)]; exact b2
  · rw [f 110 110 (by omega)]; exact b3
  · rw [f 110 111 (by omega)]; exact b4
  · rw [f 110 110 (by omega)] at hl
    rw [c 65 _ (by omega) (by omega) (by omega), c 65 _ (by omega) (by omega) (by omega), f 187 i (by omega), (F 188 i (by omega)).2]
    exact r1 i hi hl
  · rw [f 110 111 (by omega)] at hl
    rw [c 66 _ (by omega) (by omega) (by omega), c 66 _ (by omega) (by omega) (by omega), c 66 _ (by omega) (by omega) (by omega), c 66 _ (by omega) (by omega) (by omega), f 189 i (by omega), f 190 i (by omega), (F 191 i (by omega)).2, f 192 i (by omega)]
    exact r2 i hi hl
  · rw [f 110 109 (by omega)] at hl
    rw [c 67 _ (by omega) (by omega) (by omega), c 67 _ (by omega) (by omega) (by omega), c 67 _ (by omega) (by omega) (by omega), c 67 _ (by omega) (by omega) (by omega), c 67 _ (by omega) (by omega) (by omega), c 67 _ (by omega) (by omega) (by omega), f 193 i (by omega), f 194 i (by omega), (F 195 i (by omega)).2, f 196 i (by omega), f 197 i (by omega), f 198 i (by omega)]
    exact r3 i hi hl
  · rw [(C 68 i (by omega) (by omega) (by omega)).1, f 186 i (by omega)]; exact r4 i hi
/-- nobody is alive: the other's last loop does nothing -/
theorem ak_rest0 (sp : ak_SPP c g [] hc hm) (Q : Int → ak_S → Prop) (X : Nat → ak_S → Prop) (q : Q (hm.1 110 105) hm) : ak_W0 e 1 d 302 ρ 188 [some (am_r 110), none, none, none, none, none, none, some (am_i 0)] [] hm (ak_qi Q X) := by
  have al : ∀ k, k < 564 → hm.1 173 k = 0 ∨ hm.1 175 k = 0 := by
    obtain ⟨_, _, _, _, ⟨⟨w1, w2, w3, w4, w5, w6, w7⟩, wr, _⟩, _⟩ := sp
    intro k hk
    by_cases h : k ∈ g.Us.map g.φ
    · obtain ⟨y, hy, rfl⟩ := List.mem_map.mp h
      rcases (wr y hy).2.2.2.2.1 with ⟨z, _⟩ | ⟨_, z, _⟩
      · cases z
      · exact Or.inr z
    · exact Or.inl ((w7 k hk).2 h)
  have lp : ∀ (n x : Nat), x + n = 564 → ak_W0 e 1 d 302 ρ 188 [some (am_r 110), none, none, none, none, none, none, some (am_i (x : Int))] [] hm (ak_qi Q X) := by
    intro n
    induction n with
    | zero => intro x hx; exact am_k302_188 ⟨fun _ => q, fun z => absurd z (by omega)⟩
    | succ n ih =>
      intro x hx
      refine am_k302_188 ⟨fun z => absurd z (by omega), fun _ => ?_⟩
      rw [ak_natn, show am_w32 ((x : Int) + 1) = ((x + 1 : Nat) : Int) from by rw [ak_w _ (by omega)]; omega]
      refine ⟨by omega, fun _ => ih (x + 1) (by omega), fun z => ⟨by omega, fun _ => ih (x + 1) (by omega), fun z2 => absurd ((al x (by omega)).resolve_left z) z2⟩⟩
  exact lp 564 0 rfl
/-- who is being left is known -/
theorem ak_UI_at (w : ak_UI c g up cur js lo P hmO hc hm) : (c.s = 0 ∨ c.s = 1) ∧ lo.length + 1 ≤ 60 ∧ cur.r ∈ g.Us ∧ g.φ cur.r < 564 ∧ (∀ y, y ∈ ak_rms up → y ∈ g.Us ∧ g.φ y ≠ g.φ cur.r) ∧ (hm.1 174 (g.φ cur.r) = 0 ∨ hm.1 174 (g.φ cur.r) = 1) ∧ hmO.1 174 (g.φ cur.r) = hm.1 174 (g.φ cur.r) ∧ (∀ y, y ∈ ak_rms (up ++ cur :: lo) → y ∈ g.Us) ∧ cur.r ∉ ak_rms up ∧ (hc.1 77 10 = 1 ∨ hc.1 77 10 = 2) ∧ hm.1 110 133 = hc.1 77 10 := by
  obtain ⟨⟨sp, nd, rw', _, _, l60⟩, ⟨_, _, h0, wy⟩, _, ⟨s1, _⟩, ⟨f0, _⟩, _⟩ := w
  obtain ⟨⟨hs, _⟩, _, _, _, rm, _⟩ := sp
  rw [List.length_append, List.length_cons] at l60
  have inU : ∀ y, y ∈ ak_rms (up ++ cur :: lo) → y ∈ g.Us := fun y hy => by
    obtain ⟨z, hz, hzr⟩ := List.mem_map.mp hy
    obtain ⟨p, q, hpq⟩ := List.append_of_mem hz
    rw [← hzr]
    exact (rw' p z q hpq).2.2
  have cU := f0.1.1
  have e174 : hm.1 174 (g.φ cur.r) = hmO.1 174 (g.φ cur.r) := s1 174 _ (by unfold ak_stM; omega) (fun z => absurd z.1 (by omega))
  have nc : cur.r ∉ ak_rms up := fun h => by
    have e1 : ak_rms (up ++ cur :: lo) = ak_rms up ++ cur.r :: ak_rms lo := by simp [ak_rms]
    rw [e1] at nd
    exact (List.nodup_append.mp nd).2.2 _ h _ List.mem_cons_self rfl
  refine ⟨hs, by omega, cU, rm.1.2.2.2.2.1 _ cU, fun y hy => ?_, ?_, e174.symm, inU, nc, ?_, wy.1.symm⟩
  · have yU := inU y (by unfold ak_rms at hy ⊢; rw [List.map_append]; exact List.mem_append_left _ hy)
    refine ⟨yU, fun h => nc ?_⟩
    rw [← rm.1.2.2.2.2.2.1 y cur.r yU cU h]
    exact hy
  · have R := (rm.2.1 _ cU).2.2.2.1
    rw [e174]
    omega
  · rcases wy.2 with z | z | z
    · exact absurd z h0
    · exact Or.inl z.1
    · exact Or.inr z.1
/-- the other ends the frame being left -/
def ak_leM (h : ak_S) (n k f : Nat) (t x : Int) : ak_S := (am_up (am_up (ak_edM (ak_poM h n) k f).1 110 127 t) 110 102 x, h.2)
theorem ak_leM_out {h : ak_S} {n k f' q i : Nat} {t x : Int} (a : ¬ (q = 110 ∧ (i = 102 ∨ i = 103 ∨ i = 127 ∨ i = 132))) (b : ¬ ((q = 173 ∨ q = 175) ∧ i = f')) : (ak_leM h n k f' t x).1 q i = h.1 q i := by
  unfold ak_leM
  refine (ak_up_out (by omega)).trans ((ak_up_out (by omega)).trans ?_)
  exact (ak_up_out (by omega)).trans ((ak_up_out (by omega)).trans ((ak_up_out (by omega)).trans (ak_up_out (by omega))))
theorem ak_leM_in {h : ak_S} {n k f' : Nat} {t x : Int} : (ak_leM h n k f' t x).1 110 102 = x ∧ (ak_leM h n k f' t x).1 110 103 = (k : Int) ∧ (ak_leM h n k f' t x).1 110 127 = t ∧ (ak_leM h n k f' t x).1 110 132 = (n : Int) ∧ (ak_leM h n k f' t x).1 175 f' = 0 ∧ (ak_leM h n k f' t x).1 173 f' = h.1 174 f' := by
  unfold ak_leM ak_edM ak_poM
  simp [am_up]
theorem ak_m276e (w : ak_UI c g up cur [] lo P hmO hc hm) {x1 : Int} (hx1 : x1 ≠ 0) {Q : ak_S → Prop} {X : Nat → ak_S → Prop}
    (q1 : ¬ (hm.1 110 133 = 2 ∧ hm.1 110 134 = (g.φ cur.r : Int)) → ak_W0 e 1 (d + 20) 276 ρ 2 [some (am_r 110), some (am_i x1), none] [] (ak_leM hm (ak_nJ lo) lo.length (g.φ cur.r) (ak_nT lo : Int) (ak_fx g lo)) (ak_qv Q X))
    (q2 : hm.1 110 133 = 2 ∧ hm.1 110 134 = (g.φ cur.r : Int) → ak_MV e 1 (d + 20) ρ 265 [am_r 110, am_i (hm.1 110 135), am_l (hm.2.1 110 136)] (ak_leM hm (ak_nJ lo) lo.length (g.φ cur.r) (ak_nT lo : Int) (ak_fx g lo)) (fun h2 => ak_W0 e 1 (d + 20) 276 ρ 2 [some (am_r 110), some (am_i 0), none] [] h2 (ak_qv Q X)) (fun _ _ => False)) : ak_W0 e 1 (d + 20) 276 ρ 2 [some (am_r 110), some (am_i x1), none] [] hm (ak_qv Q X) := by
  obtain ⟨hs, l60, cU, φ5, _, h174, _⟩ := ak_UI_at w
  obtain ⟨_, _, ⟨m1, m2, m3, m4, m5⟩, _, ⟨⟨_, b1, b2, b3, b4⟩, _⟩, lo1, _⟩ := w
  have hJ := ak_nJ_le lo1
  refine am_k276_2 ?_
  rw [m2, show am_w32 (((ak_nJ lo + 1 + ([] : List ak_Jb).length : Nat) : Int) - 1) = ((ak_nJ lo : Nat) : Int) from by rw [ak_w _ (by rw [List.length_nil]; omega)]; rw [List.length_nil]; omega, ak_natn, b1, b2]
  have hb : 0 ≤ ((ak_nJ lo : Nat) : Int) ∧ ((ak_nJ lo : Nat) : Int) < 370000 := by omega
  refine ⟨fun z => absurd z hx1, fun _ => ⟨fun z => absurd z (by omega), fun _ => ⟨hb, hb, trivial, fun z => absurd z (by omega), fun _ => ?_, fun z => absurd z (by omega), fun z => absurd z (by omega), fun z => absurd z (by omega), trivial⟩⟩⟩
  refine am_s273 (d := d + 19) (h := ak_poM hm (ak_nJ lo)) (n := lo.length) ((ak_poM_o (by omega)).trans m5) (by omega) φ5 (by
    rw [show (ak_poM hm (ak_nJ lo)).1 174 (g.φ cur.r) = hm.1 174 (g.φ cur.r) from ak_poM_o (by omega)]
    exact h174) ?_
  have D : ∀ q i, ¬ (q = 110 ∧ (i = 103 ∨ i = 132)) → ¬ ((q = 173 ∨ q = 175) ∧ i = g.φ cur.r) → (ak_edM (ak_poM hm (ak_nJ lo)) lo.length (g.φ cur.r)).1 q i = hm.1 q i := fun q i a b => by
    unfold ak_edM
    exact (ak_up_out (by omega)).trans ((ak_up_out (by omega)).trans ((ak_up_out (by omega)).trans (ak_poM_o (by omega))))
  have D1 : (ak_edM (ak_poM hm (ak_nJ lo)) lo.length (g.φ cur.r)).1 110 132 = (ak_nJ lo : Int) := by unfold ak_edM ak_poM; simp [am_up]
  have DJ : (ak_edM (ak_poM hm (ak_nJ lo)) lo.length (g.φ cur.r)).2 = hm.2 := rfl
  rw [D1, ak_natn, D 204 _ (by omega) (by omega), D 203 _ (by omega) (by omega), D 110 133 (by omega) (by omega), D 110 134 (by omega) (by omega), D 110 135 (by omega) (by omega), DJ, b3, b4]
  refine ⟨hb, hb, fun z => q1 (fun y => z y.1), fun z => ⟨fun z2 => q1 (fun y => z2 y.2), fun z2 => q2 ⟨z, z2⟩⟩⟩
/-- a frame is left for the one below -/
theorem ak_lv_pass (w : ak_UI c g up cur [] (f :: lo) P hmO hc hm) (hx : ¬ (hm.1 110 133 = 2 ∧ hm.1 110 134 = (g.φ cur.r : Int))) (ih : ∀ hm1, ak_UI c g (up ++ [cur]) f f.js lo P hmO hc hm1 → ak_sm hm hm1 → ak_LR e d ρ1 ρ2 ρ c P hc hm1) : ak_LR e d ρ1 ρ2 ρ c P hc hm := by
  have go : ∀ (Q : ak_S → Prop) (X : Nat → ak_S → Prop), ak_W0 e 1 (d + 20) 276 ρ 2 [some (am_r 110), some (am_i 1), none] [] (ak_leM hm (ak_nJ (f :: lo)) (f :: lo).length (g.φ cur.r) (ak_nT (f :: lo) : Int) (ak_fx g (f :: lo))) (ak_qv Q X) → ak_W0 e 1 (d + 20) 276 ρ 2 [some (am_r 110), some (am_i 1), none] [] hm (ak_qv Q X) := fun Q X q =>
    ak_m276e w (by decide) (fun _ => q) (fun z => absurd z hx)
  obtain ⟨hs, l60, cU, φ5, φy, h174, h174O, inU, nc, _⟩ := ak_UI_at w
  obtain ⟨⟨sp, nd, rw', h7, h8, hl⟩, ⟨u2, u3, u4, u5⟩, ⟨m1, m2, m3, m4, m5⟩, ⟨s1, s2, s3⟩, ⟨f0, jS, _, _, _⟩, lo1, pb⟩ := w
  have O := fun q i a b => ak_leM_out (h := hm) (n := ak_nJ (f :: lo)) (k := (f :: lo).length) (f' := g.φ cur.r) (q := q) (i := i) (t := (ak_nT (f :: lo) : Int)) (x := ak_fx g (f :: lo)) a b
  obtain ⟨i1, i2, i3, i4, i5, i6⟩ := ak_leM_in (h := hm) (n := ak_nJ (f :: lo)) (k := (f :: lo).length) (f' := g.φ cur.r) (t := (ak_nT (f :: lo) : Int)) (x := ak_fx g (f :: lo))
  have OJ : (ak_leM hm (ak_nJ (f :: lo)) (f :: lo).length (g.φ cur.r) (ak_nT (f :: lo) : Int) (ak_fx g (f :: lo))).2 = hm.2 := rfl
  generalize ak_leM hm (ak_nJ (f :: lo)) (f :: lo).length (g.φ cur.r) (ak_nT (f :: lo) : Int) (ak_fx g (f :: lo)) = hm1 at go O i1 i2 i3 i4 i5 i6 OJ
  have eL : (up ++ [cur]) ++ f :: lo = up ++ cur :: f :: lo := by simp
  have eR : ∀ y, y ∈ ak_rms (up ++ [cur]) ↔ y ∈ ak_rms up ∨ y = cur.r := fun y => by simp [ak_rms]
  have lo2 := ak_LO_kp (g' := g) (hc' := hc) (hm' := hm1) ⟨Nat.le_refl _, Nat.le_refl _, fun y hy => ⟨((ak_LO_row lo1).2.2.1 y hy).1, rfl, rfl, rfl, rfl⟩⟩ lo1 (fun _ _ _ => rfl) (fun _ _ _ => rfl) (fun _ _ => ⟨rfl, rfl, rfl⟩) (fun q k h => O q k (by omega) (by omega)) (fun q k h => by rw [OJ])
  obtain ⟨w1, lo3⟩ := lo2
  have w1' := w1
  obtain ⟨_, _, wJ, _, wK, wL1, wL2, wL3⟩ := w1'
  have F : ak_F0 g hc hm1 lo f.r := ak_F1_F0 w1
  have U : ak_UI c g (up ++ [cur]) f f.js lo P hmO hc hm1 := by
    refine ⟨?_, ⟨?_, u3, u4, ?_⟩, ⟨i1, ?_, ?_, (O _ _ (by omega) (by omega)).trans m4, i2⟩, ⟨fun q k h h2 => ?_, fun q k h => by rw [OJ]; exact s2 q k h, fun y hy => ?_⟩, ⟨F, wJ, ⟨_, _, wK⟩, wL1, wL3⟩, lo3, ?_⟩
    · rw [eL]; exact ⟨sp, nd, rw', h7, h8, hl⟩
    · rw [u2]; rfl
    · rw [O 110 133 (by omega) (by omega), O 110 134 (by omega) (by omega), O 110 135 (by omega) (by omega), O 110 137 (by omega) (by omega), O 110 138 (by omega) (by omega), OJ]
      refine ⟨u5.1, ?_⟩
      rcases u5.2 with z | z | ⟨z1, z2, z3, z4, p, r', q, z5, z6, z7⟩
      · exact Or.inl z
      · exact Or.inr (Or.inl z)
      · refine Or.inr (Or.inr ⟨z1, z2, z3, z4, ?_⟩)
        cases p with
        | nil =>
          have e1 : cur.r = r' := (List.cons.inj z5).1
          exact absurd ⟨u5.1.symm.trans z1, by rw [z7, e1]⟩ hx
        | cons p0 p => exact ⟨p, r', q, (List.cons.inj z5).2, z6, z7⟩
    · rw [i4]; rfl
    · rw [O _ _ (by omega) (by omega), m3]; rfl
    · have h3 : ¬ (q = 110 ∧ (k = 102 ∨ k = 103 ∨ k = 127 ∨ k = 132)) := fun z => h.1 ⟨z.1, by omega⟩
      have h4 : ¬ ((q = 173 ∨ q = 175) ∧ k = g.φ cur.r) := fun z => h2 ⟨z.1, cur.r, (eR _).mpr (Or.inr rfl), z.2⟩
      exact (O q k h3 h4).trans (s1 q k h (fun ⟨z1, y, z2, z3⟩ => h2 ⟨z1, y, (eR _).mpr (Or.inl z2), z3⟩))
    · rcases (eR y).mp hy with hy | rfl
      · have n := (φy y hy).2
        rw [O 175 _ (by omega) (fun z => n z.2), O 173 _ (by omega) (fun z => n z.2)]
        exact s3 y hy
      · exact ⟨i5, i6.trans h174O.symm⟩
    · have : ak_pcs (f :: lo) = ak_pcs lo + (9100 - f.pc) + 9101 * ak_gw f.js := rfl
      rw [this] at pb
      have : ak_gw ([] : List ak_Jb) = 0 := rfl
      omega
  obtain ⟨hc', hm', g1, g2, g3, g4⟩ := ih hm1 U (fun q hq => O _ _ (by omega) (by omega))
  refine ⟨hc', hm', g1, fun Q X q => go Q X (g2 Q X q), g3, ?_⟩
  rcases g4 with ⟨g', fs', h1, h2, h3, h4⟩ | h
  · exact Or.inl ⟨g', fs', h1, h2, h3, fun q hq => (h4 q hq).trans (O _ _ (by omega) (by omega))⟩
  · exact Or.inr h
end LVF
