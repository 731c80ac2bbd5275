/-! the run: it ends with frames under way -/
section ENDS
variable {e : ak_X3} {d ρ1 ρ2 : Nat} {ρ : List Nat} {c : ak_Cx} {g : ak_Gh} {fs : List ak_Fr} {hc hm hcE hmE : ak_S}
def ak_edV (h : ak_S) (i : Nat) (v : Int) : ak_S := (am_up (am_up (am_up h.1 175 i 0) 173 i (h.1 174 i)) 110 103 v, h.2)
theorem ak_edV_o {h : ak_S} {i q k : Nat} {v : Int} (a : ¬ (q = 110 ∧ k = 103)) (z : ¬ ((q = 173 ∨ q = 175) ∧ k = i)) : (ak_edV h i v).1 q k = h.1 q k := (ak_up_out1 a).trans ((ak_up_out (by omega)).trans (ak_up_out (by omega)))
theorem ak_edV_v {h : ak_S} {i : Nat} {v : Int} : (ak_edV h i v).1 175 i = 0 ∧ (ak_edV h i v).1 173 i = h.1 174 i := by
  unfold ak_edV
  simp [am_up]
/-- the other ends all its frames -/
theorem ak_all_end {o : Int} (h174 : ∀ k, k < 564 → hmE.1 173 k ≠ 0 → hmE.1 174 k = 0 ∨ hmE.1 174 k = 1) : ∀ (b i : Nat) (h : ak_S), i + b = 564 → h.1 110 105 = o →
    (∀ q k, ¬ (q = 110 ∧ k = 103) → ¬ ((q = 173 ∨ q = 175) ∧ k < i ∧ hmE.1 173 k ≠ 0 ∧ hmE.1 175 k ≠ 0) → h.1 q k = hmE.1 q k) → (∀ k, k < i → hmE.1 173 k ≠ 0 → hmE.1 175 k ≠ 0 → h.1 175 k = 0 ∧ h.1 173 k = hmE.1 174 k) → h.2 = hmE.2 →
    ∃ hF : ak_S, (∀ (Q : Int → ak_S → Prop) (X : Nat → ak_S → Prop), Q o hF → ak_W0 e 1 (d + 41) 302 ρ 188 [some (am_r 110), none, none, none, none, none, none, some (am_i (i : Int))] [] h (ak_qi Q X)) ∧
      (∀ q k, ¬ (q = 110 ∧ k = 103) → ¬ ((q = 173 ∨ q = 175) ∧ k < 564 ∧ hmE.1 173 k ≠ 0 ∧ hmE.1 175 k ≠ 0) → hF.1 q k = hmE.1 q k) ∧ (∀ k, k < 564 → hmE.1 173 k ≠ 0 → hmE.1 175 k ≠ 0 → hF.1 175 k = 0 ∧ hF.1 173 k = hmE.1 174 k) ∧ hF.2 = hmE.2 := by
  intro b
  induction b with
  | zero =>
    intro i h hi h5 w1 w2 w3
    have : i = 564 := by omega
    subst this
    exact ⟨h, fun Q X q => am_k302_188 ⟨fun _ => by rw [h5]; exact q, fun z => absurd z (by omega)⟩, w1, w2, w3⟩
  | succ b ih =>
    intro i h hi h5 w1 w2 w3
    have bi : 0 ≤ (i : Int) ∧ (i : Int) < 564 := by omega
    have e1 : h.1 173 i = hmE.1 173 i := w1 _ _ (by omega) (by omega)
    have e2 : h.1 175 i = hmE.1 175 i := w1 _ _ (by omega) (by omega)
    have e4 : h.1 174 i = hmE.1 174 i := w1 _ _ (by omega) (by omega)
    have e3 : hmE.1 173 i ≠ 0 → h.1 174 i = 0 ∨ h.1 174 i = 1 := fun z => by rw [e4]; exact h174 i (by omega) z
    by_cases al : hmE.1 173 i ≠ 0 ∧ hmE.1 175 i ≠ 0
    · obtain ⟨a1, a2⟩ := al
      have g273 : ∀ (Q : ak_S → Prop) (X : Nat → ak_S → Prop), Q (ak_edV h i (am_w32 ((h.1 110 103) - 1))) → ak_MV e 1 (d + 41) ρ 273 [am_r 110, am_i (i : Int)] h Q X := fun Q X q => by
        refine ak_MV_of (Nat.le_of_ble_eq_true rfl) (am_k273_0 ?_)
        rw [ak_natn]
        exact ⟨⟨bi, Or.inl rfl⟩, bi, ⟨bi, e3 a1⟩, q⟩
      generalize am_w32 ((h.1 110 103) - 1) = v at g273
      have O : ∀ q k, ¬ (q = 110 ∧ k = 103) → ¬ ((q = 173 ∨ q = 175) ∧ k = i) → (ak_edV h i v).1 q k = h.1 q k := fun q k => ak_edV_o
      have O1 := ak_edV_v (h := h) (i := i) (v := v)
      have O2 : (ak_edV h i v).2 = h.2 := rfl
      generalize ak_edV h i v = h1 at O O1 O2 g273
      obtain ⟨hF, f1, f2⟩ := ih (i + 1) h1 (by omega) ((O _ _ (by omega) (by omega)).trans h5) (fun q k a z => by
        by_cases hk : (q = 173 ∨ q = 175) ∧ k = i
        · exact absurd ⟨hk.1, by omega, by rw [hk.2]; exact a1, by rw [hk.2]; exact a2⟩ z
        · rw [O q k a hk]
          exact w1 q k a (fun y => z ⟨y.1, by omega, y.2.2⟩)) (fun k hk b1 b2 => by
        by_cases hki : k = i
        · subst hki
          exact ⟨O1.1, O1.2.trans e4⟩
        · rw [O _ _ (by omega) (by omega), O _ _ (by omega) (by omega)]
          exact w2 k (by omega) b1 b2) (O2.trans w3)
      refine ⟨hF, fun Q X q => am_k302_188 ⟨fun z => absurd z (by omega), fun _ => ?_⟩, f2⟩
      rw [ak_natn, ak_wj (show i < 1000000 by omega)]
      exact ⟨bi, fun z => absurd (e1.symm.trans z) a1, fun _ => ⟨bi, fun z => absurd (e2.symm.trans z) a2, fun _ => g273 _ _ (f1 Q X q)⟩⟩
    · obtain ⟨hF, f1, f2⟩ := ih (i + 1) h (by omega) h5 (fun q k a z => w1 q k a (fun y => z ⟨y.1, by omega, y.2.2⟩)) (fun k hk b1 b2 => by
        by_cases hki : k = i
        · subst hki; exact absurd ⟨b1, b2⟩ al
        · exact w2 k (by omega) b1 b2) w3
      refine ⟨hF, fun Q X q => am_k302_188 ⟨fun z => absurd z (by omega), fun _ => ?_⟩, f2⟩
      rw [ak_natn, ak_wj (show i < 1000000 by omega)]
      refine ⟨bi, fun _ => f1 Q X q, fun z => ⟨bi, fun _ => f1 Q X q, fun z2 => absurd ⟨by rw [← e1]; exact z, by rw [← e2]; exact z2⟩ al⟩⟩
/-- too many steps, too deep: both end -/
theorem ak_fend {o : Int} {lo : List ak_Fr} (sp : ak_SPP c g (ak_rms lo) hcE hmE) (nd : (ak_rms lo).Nodup) (rw' : ∀ p f q, lo = p ++ f :: q → hcE.1 70 q.length = (f.r : Int) ∧ (hcE.1 76 q.length = 0 ∨ hcE.1 76 q.length = 1) ∧ f.r ∈ g.Us) (h7 : hcE.1 69 7 = (lo.length : Int)) (h8 : hcE.1 69 8 = ak_nH hcE lo) (l60 : lo.length ≤ 60) (ho : o = 2 ∨ o = 3) (c11 : hcE.1 32 11 = o) (m105 : hmE.1 110 105 = o) : ak_FN e d ρ1 ρ2 ρ c o hcE hmE := by
  have hs := sp.1.1
  have fre := sp.2.2.2.2.1.1
  have rm := sp.2.2.2.2.1.2.1
  have lv : ∀ k, k < 564 → hmE.1 173 k ≠ 0 → ∃ y, y ∈ g.Us ∧ g.φ y = k := fun k hk h => by
    by_cases hm' : k ∈ g.Us.map g.φ
    · obtain ⟨y, h1, h2⟩ := List.mem_map.mp hm'
      exact ⟨y, h1, h2⟩
    · exact absurd ((fre.2.2.2.2.2.2 k hk).2 hm') h
  have al : ∀ k, k < 564 → hmE.1 173 k ≠ 0 → hmE.1 175 k ≠ 0 → ∃ y, y ∈ ak_rms lo ∧ k = g.φ y := fun k hk h1 h2 => by
    obtain ⟨y, y1, y2⟩ := lv k hk h1
    rcases (rm y y1).2.2.2.2.1 with z | z
    · exact ⟨y, z.1, y2.symm⟩
    · exact absurd (by rw [← y2]; exact z.2.1) h2
  have inU : ∀ y, y ∈ ak_rms lo → y ∈ g.Us := fun y hy => by
    obtain ⟨z, hz, hzr⟩ := List.mem_map.mp hy
    obtain ⟨p, q, hpq⟩ := List.append_of_mem hz
    rw [← hzr]
    exact (rw' p z q hpq).2.2
  have la : ∀ y, y ∈ ak_rms lo → g.φ y < 564 ∧ hmE.1 173 (g.φ y) ≠ 0 ∧ hmE.1 175 (g.φ y) ≠ 0 := fun y hy => by
    have hU := inU y hy
    have h5 := fre.2.2.2.2.1 y hU
    refine ⟨h5, ?_, ?_⟩
    · rw [(fre.2.2.2.2.2.2 _ h5).1 (List.mem_map.mpr ⟨y, hU, rfl⟩)]; decide
    · rcases (rm y hU).2.2.2.2.1 with z | z
      · rw [z.2.1]; decide
      · exact absurd hy z.1
  obtain ⟨hmF, f1, f2, f3, f4⟩ := ak_all_end (e := e) (d := d) (ρ := ρ) (hmE := hmE) (o := o) (fun k hk h => by
    obtain ⟨y, y1, y2⟩ := lv k hk h
    have := (rm y y1).2.2.2.1
    rw [← y2, ← this.1]
    exact this.2) 564 0 hmE (by omega) m105 (fun _ _ _ _ => rfl) (fun k hk => absurd hk (Nat.not_lt_zero _)) rfl
  obtain ⟨g', hcF, q1, q2, q3, q4, q5, q6, q7⟩ := ak_close (e := e) (d := d + 19) (ρ1 := ρ1) (ρ2 := ρ2) lo g hcE hmE [] 0 (by rw [List.append_nil]; exact sp) (by rw [List.append_nil]; exact nd) (fun p f q h => by rw [List.append_nil] at h; exact rw' p f q h) (by rw [List.append_nil]; exact h7) (by rw [List.append_nil]; exact h8) (by rw [List.append_nil]; exact l60) (by omega)
  refine ⟨g', hcF, hmF, fun Q X q => ak_MV_of (Nat.le_of_ble_eq_true rfl) (am_k104_0 hs (q1 Q X q)), c11, (q4 _ _ (by omega) (by omega) (by omega) (by omega)).trans c11, by omega, Or.inr (by rw [m105]; omega), fun Q X q => ⟨fun _ => am_k302_139 ⟨fun _ => ⟨fun _ => f1 Q X q, fun z => absurd z (by rw [m105]; omega)⟩, fun z => absurd z (by rw [m105]; omega)⟩, fun z => absurd z (by rw [m105]; omega)⟩, q7 hmF (fun q k h1 h2 => f2 q k (fun z => h1.1 ⟨z.1, by omega⟩) (fun z => h2 ⟨z.1, al k z.2.1 z.2.2.1 z.2.2.2⟩)) (fun q k _ => by rw [f4]) (fun y hy => ?_), by rw [q5], ⟨q2, q3⟩⟩
  obtain ⟨a1, a2, a3⟩ := la y hy
  exact f3 _ a1 a2 a3
/-- the same, from a frame under way -/
theorem ak_fend_f {o : Int} {f : ak_Fr} (w : ak_RN c g (f :: fs) hc hm) (ho : o = 2 ∨ o = 3) (sp : ak_SPP c g (ak_rms (f :: fs)) hcE hmE) (C : ∀ q k, 69 ≤ q → q ≤ 76 → ¬ (q = 72 ∧ k = fs.length) → hcE.1 q k = hc.1 q k) (c11 : hcE.1 32 11 = o) (m105 : hmE.1 110 105 = o) : ak_FN e d ρ1 ρ2 ρ c o hcE hmE := by
  obtain ⟨sp0, ⟨⟨d1, d2, d3, d4, d5⟩, _, lo⟩, _⟩ := w
  obtain ⟨r1, r2, r3, r4⟩ := ak_LO_row lo
  refine ak_fend sp r4 (fun p x q h => ?_) ((C _ _ (by omega) (by omega) (by omega)).trans d2) ?_ d1 ho c11 m105
  · obtain ⟨a1, a2, a3, _⟩ := r1 p x q h
    rw [C 70 _ (by omega) (by omega) (by omega), C 76 _ (by omega) (by omega) (by omega)]
    exact ⟨a1, a2, a3⟩
  · rw [C 69 8 (by omega) (by omega) (by omega), d3]
    exact (ak_nH_fr (fun k _ => C 76 k (by omega) (by omega) (by omega))).symm
end ENDS
