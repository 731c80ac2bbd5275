/-! a site is used, by both -/
def ak_uC (h h' : ak_S) : Prop := (∀ q k, ¬ (q = 33 ∧ (k = 9 ∨ k = 10 ∨ k = 14)) → ¬ (42 ≤ q ∧ q ≤ 43) → ¬ (q = 44 ∧ (k = 4 ∨ k = 7 ∨ k = 8)) → ¬ (q = 45 ∨ q = 47) → h'.1 q k = h.1 q k) ∧ (∀ q k, q ≠ 41 → q ≠ 46 → h'.2.1 q k = h.2.1 q k) ∧ h'.2.2 = h.2.2
def ak_uM (h h' : ak_S) : Prop := (∀ q k, ¬ (q = 110 ∧ (k = 64 ∨ k = 67 ∨ k = 69 ∨ k = 70 ∨ k = 78)) → ¬ (154 ≤ q ∧ q ≤ 168) → h'.1 q k = h.1 q k) ∧ h'.2 = h.2
section LKUSE
variable {e : ak_X3} {d S O B Mt NS us i s : Nat} {ρ ρ2 : List Nat} {T : Nat → List (Int × Int)} {sh : Nat → Nat} {h hc hm hc' hm' : ak_S} {E : Nat → List ak_E} {Et El : List ak_E} {G : List (Int × Int × Int × Int)} {M sv st nm : Int} {en : ak_E}
theorem ak_tb_ok (h : Et.length ≤ 128) : (ak_tb Et en).length ≤ 128 ∧ ∀ x, x ∈ ak_tb Et en → x ∈ Et ∨ x = en := by
  unfold ak_tb
  split
  · exact ⟨h, fun x hx => Or.inl hx⟩
  · split
    · refine ⟨by rw [List.length_append]; show Et.length + 1 ≤ 128; omega, fun x hx => ?_⟩
      rw [List.mem_append, List.mem_singleton] at hx
      exact hx
    · exact ⟨by show 1 ≤ 128; omega, fun x hx => Or.inr (List.mem_singleton.mp hx)⟩
theorem ak_us_ok (hE : El.length ≤ 4) (hEt : Et.length ≤ 128) (sv3 : 0 ≤ sv ∧ sv ≤ 3) (sv0 : sv = 0 → El.length = 0) (sv1 : sv = 1 → El.length ≤ 1) :
    ((ak_us M sv El Et en).2.1.length ≤ 4 ∧ ∀ x, x ∈ (ak_us M sv El Et en).2.1 → x ∈ El ∨ x = en) ∧ ((ak_us M sv El Et en).2.2.length ≤ 128 ∧ ∀ x, x ∈ (ak_us M sv El Et en).2.2 → x ∈ Et ∨ x = en) ∧ (0 ≤ (ak_us M sv El Et en).1 ∧ (ak_us M sv El Et en).1 ≤ 3) ∧ ((ak_us M sv El Et en).1 = 0 → (ak_us M sv El Et en).2.1.length = 0) ∧ ((ak_us M sv El Et en).1 = 1 → (ak_us M sv El Et en).2.1.length ≤ 1) := by
  unfold ak_us
  split
  · exact ⟨⟨hE, fun x hx => Or.inl hx⟩, ⟨hEt, fun x hx => Or.inl hx⟩, sv3, sv0, sv1⟩
  · unfold ak_rm
    split
    · exact ⟨⟨by show 1 ≤ 4; omega, fun x hx => Or.inr (List.mem_singleton.mp hx)⟩, ⟨hEt, fun x hx => Or.inl hx⟩, ⟨show (0 : Int) ≤ 1 by decide, show (1 : Int) ≤ 3 by decide⟩, fun g => absurd (show (1 : Int) = 0 from g) (by decide), fun _ => by show 1 ≤ 1; omega⟩
    · split
      · rename_i g
        refine ⟨⟨by show (El ++ [en]).length ≤ 4; rw [List.length_append]; show El.length + 1 ≤ 4; omega, fun x hx => ?_⟩, ⟨hEt, fun x hx => Or.inl hx⟩, ⟨show (0 : Int) ≤ 2 by decide, show (2 : Int) ≤ 3 by decide⟩, fun g => absurd (show (2 : Int) = 0 from g) (by decide), fun g => absurd (show (2 : Int) = 1 from g) (by decide)⟩
        have hx2 : x ∈ El ++ [en] := hx
        rw [List.mem_append, List.mem_singleton] at hx2
        exact hx2
      · exact ⟨⟨Nat.zero_le _, fun x hx => by cases hx⟩, ak_tb_ok hEt, ⟨show (0 : Int) ≤ 3 by decide, show (3 : Int) ≤ 3 by decide⟩, fun g => absurd (show (3 : Int) = 0 from g) (by decide), fun g => absurd (show (3 : Int) = 1 from g) (by decide)⟩
theorem lk_use (w : ak_WD S O B Mt T sh hc hm) (sr : ak_ST S O NS us T sh E Et G hc hm) (hi : i < NS) (hs : s < S) (hst : -1 ≤ st ∧ st ≤ 200) (hnm0 : hm.1 129 (150 * us + i) = nm) :
    ∃ (E' : Nat → List ak_E) (Et' : List ak_E) (hc2 hm2 : ak_S), ak_WD S O B Mt T sh hc2 hm2 ∧ ak_ST S O NS us T sh E' Et' G hc2 hm2 ∧ (hc2.1 44 7 = (ak_lu T sh O s nm st).1 ∧ hc2.1 44 8 = (ak_lu T sh O s nm st).2 ∧ hm2.1 110 69 = (ak_lu T sh O s nm st).1 ∧ hm2.1 110 70 = (ak_lu T sh O s nm st).2) ∧ ak_uC hc hc2 ∧ ak_uM hm hm2 ∧
      (∀ (Q : ak_S → Prop) (X : Nat → ak_S → Prop), Q hc2 → ak_MV e 0 (d + 4) ρ 111 [am_r 44, am_r 33, am_i (i : Int), am_i nm, am_i (s : Int), am_i st] hc Q X) ∧ ak_goV e (d + 5) ρ2 260 [am_r 110, am_i (i : Int), am_i (s : Int), am_i st] hm hm2 := by
  have w' := w
  obtain ⟨w1, w2, w3, ⟨w4, w5, w6⟩, w7⟩ := w'
  obtain ⟨⟨u1, u2, u3, u4⟩, si, ⟨⟨t1, t2⟩, t3, t4, t5, t6⟩, ⟨g1, g2, g3⟩, ⟨m1, m2, m3⟩, ly⟩ := sr
  have hob : ∀ i, i < O → sh i < S ∧ ak_ob (T (sh i)) i hm := fun i hi => ⟨(w7 i hi).1, (w7 i hi).2.2.2.1⟩
  obtain ⟨⟨a1, a2, a3⟩, ⟨b1, b2, b3, b4⟩, ⟨x1, x2⟩, x3, x4, x5, x6, x7⟩ := si i (by omega)
  have hnm : ∀ en, en ∈ E i → en.2.1 = nm := fun en he => (x7.1 en he).trans hnm0
  have hok : ∀ en, en ∈ E i ∨ en ∈ Et → ak_eok S O T sh en := fun en he => he.elim (a3 en) (t2 en)
  have eok : ak_eok S O T sh (ak_en T sh O s nm st) := ⟨hs, ⟨hst, rfl⟩, ak_lu_le⟩
  obtain ⟨hc2, ⟨c1, c2, c3, c4, c5, c6, c7, c8, c9, cp, ch, cf⟩, goC⟩ := ak_MV_get (e := e) (r := 0) (d := d + 4) (ρ := ρ) (am_s111 (d := d) (h := hc) (i := i) (E := E i) (Et := Et) (nm := nm) (st := st) (M := hm.1 110 71) (sv := hm.1 158 i) (us := hm.1 160 i) (ms := hm.1 161 i) (ts := hm.1 163 i) (X := ak_F)
    (Q := fun h' => ak_gC (ak_er T sh O) (4 * i) (ak_us (hm.1 110 71) (hm.1 158 i) (E i) Et (ak_en T sh O s nm st)).2.1 h' ∧ h'.1 47 (6 * i + 1) = ((ak_us (hm.1 110 71) (hm.1 158 i) (E i) Et (ak_en T sh O s nm st)).2.1.length : Int) ∧ h'.1 47 (6 * i) = (ak_us (hm.1 110 71) (hm.1 158 i) (E i) Et (ak_en T sh O s nm st)).1 ∧ ak_gC (ak_er T sh O) 600 (ak_us (hm.1 110 71) (hm.1 158 i) (E i) Et (ak_en T sh O s nm st)).2.2 h' ∧ h'.1 44 4 = ((ak_us (hm.1 110 71) (hm.1 158 i) (E i) Et (ak_en T sh O s nm st)).2.2.length : Int) ∧
      h'.1 47 (6 * i + 2) = ak_us2 (hm.1 110 71) (hm.1 160 i) ∧ h'.1 47 (6 * i + 3) = ak_us3 (hm.1 110 71) (hm.1 158 i) (hm.1 161 i) (E i) Et (ak_en T sh O s nm st) ∧ h'.1 47 (6 * i + 5) = ak_us5 (hm.1 110 71) (hm.1 158 i) (hm.1 163 i) (E i) (ak_en T sh O s nm st) ∧ h'.1 47 (6 * i + 4) = hc.1 47 (6 * i + 4) ∧ h'.1 44 7 = (ak_lu T sh O s nm st).1 ∧ h'.1 44 8 = (ak_lu T sh O s nm st).2 ∧ ak_usF i hc h')
    w1 w2 w4 (fun o ho => ⟨(w7 o ho).1, (w7 o ho).2.1⟩) hs hst (by omega) a1 b1 b3 x3 m1 t1 t3 t5 x4 x5 x6 hnm hok (fun h' k1 k2 k3 k4 k5 k6 k7 k8 k9 k10 k11 k12 => ⟨k1, k2, k3, k4, k5, k6, k7, k8, k9, k10, k11, k12⟩))
  obtain ⟨hm2, ⟨d1, d2, d3, d4, d5, d6, d7, d8, d9, dp, dh, dl, df⟩, goM⟩ := ak_MV_get (e := e) (r := 1) (d := d + 5) (ρ := ρ2) (am_s260 (d := d) (h := hm) (i := i) (us0 := us) (E := E i) (Et := Et) (nm := nm) (st := st) (M := hm.1 110 71) (sv := hm.1 158 i) (us := hm.1 160 i) (ms := hm.1 161 i) (ts := hm.1 163 i) (X := ak_F)
    (Q := fun h' => ak_gM (4 * i) (ak_us (hm.1 110 71) (hm.1 158 i) (E i) Et (ak_en T sh O s nm st)).2.1 h' ∧ h'.1 159 i = ((ak_us (hm.1 110 71) (hm.1 158 i) (E i) Et (ak_en T sh O s nm st)).2.1.length : Int) ∧ h'.1 158 i = (ak_us (hm.1 110 71) (hm.1 158 i) (E i) Et (ak_en T sh O s nm st)).1 ∧ ak_gM 600 (ak_us (hm.1 110 71) (hm.1 158 i) (E i) Et (ak_en T sh O s nm st)).2.2 h' ∧ h'.1 110 78 = ((ak_us (hm.1 110 71) (hm.1 158 i) (E i) Et (ak_en T sh O s nm st)).2.2.length : Int) ∧
      h'.1 160 i = ak_us2 (hm.1 110 71) (hm.1 160 i) ∧ h'.1 161 i = ak_us3 (hm.1 110 71) (hm.1 158 i) (hm.1 161 i) (E i) Et (ak_en T sh O s nm st) ∧ h'.1 163 i = ak_us5 (hm.1 110 71) (hm.1 158 i) (hm.1 163 i) (E i) (ak_en T sh O s nm st) ∧ h'.1 162 i = hm.1 162 i ∧ h'.1 110 69 = (ak_lu T sh O s nm st).1 ∧ h'.1 110 70 = (ak_lu T sh O s nm st).2 ∧ ak_ly S O T sh h' ∧ ak_usM i hm h')
    w1 w4 w3 hob ly hs hst u1 u2 hnm0 (by omega) a1 b2 b4 rfl rfl t1 t4 t6 rfl rfl rfl hok x7.2.1 x7.2.2.1 x7.2.2.2 (fun h' k1 k2 k3 k4 k5 k6 k7 k8 k9 k10 k11 k12 k13 => ⟨k1, k2, k3, k4, k5, k6, k7, k8, k9, k10, k11, k12, k13⟩))
  obtain ⟨⟨o1, o2⟩, ⟨o3, o4⟩, o5, o6, o7⟩ := ak_us_ok (M := hm.1 110 71) (en := ak_en T sh O s nm st) a1 t1 x7.2.1 x7.2.2.1 x7.2.2.2
  generalize ak_us (hm.1 110 71) (hm.1 158 i) (E i) Et (ak_en T sh O s nm st) = R at c1 c2 c3 c4 c5 d1 d2 d3 d4 d5 o1 o2 o3 o4 o5 o6 o7
  refine ⟨fun j => if j = i then R.2.1 else E j, R.2.2, hc2, hm2, ak_WD_fr w ⟨fun q k hq => cf.1 q k (by omega) (by omega) (by omega) (by omega) (by omega), fun k => cf.2.1 36 k (by omega) (by omega)⟩ ⟨fun q k hq => df.1 q k (by omega) (by omega) (by omega) (by omega), fun k => by rw [df.2]⟩, ?_, ⟨cp, ch, dp, dh⟩, ⟨fun q k a b c c' => cf.1 q k a b c (by omega) (by omega), fun q k a b => cf.2.1 q k a (by omega), cf.2.2⟩, ⟨fun q k a b => df.1 q k a (by omega) (by omega) (by omega), df.2⟩, fun Q X q => goC _ _ q, fun Q X q => goM _ _ q⟩
  refine ⟨⟨(df.1 _ _ (by omega) (by omega) (by omega) (by omega)).trans u1, u2, (df.1 _ _ (by omega) (by omega) (by omega) (by omega)).trans u3, u4⟩, fun j hj => ?_, ⟨⟨o3, fun en he => (o4 en he).elim (t2 en) (fun z => by rw [z]; exact eok)⟩, c4, d4, c5, d5⟩, ⟨ak_gnC_fr g1 (fun q k hq => cf.1 q k (by omega) (by omega) (by omega) (by omega) (by omega)), ak_gnM_fr g2 (fun q k hq => df.1 q k (by omega) (by omega) (by omega) (by omega)), g3⟩, ⟨?_, ?_⟩, dl⟩
  · by_cases hji : j = i
    · subst hji
      have e1 : (if j = j then R.2.1 else E j) = R.2.1 := if_pos rfl
      show ((((if j = j then R.2.1 else E j).length ≤ 4 ∧ (NS ≤ j → (if j = j then R.2.1 else E j) = []) ∧ ∀ en, en ∈ (if j = j then R.2.1 else E j) → ak_eok S O T sh en)) ∧ _)
      rw [e1]
      refine ⟨⟨o1, fun g => by omega, fun en he => (o2 en he).elim (a3 en) (fun z => by rw [z]; exact eok)⟩, ?_⟩
      show (ak_gC (ak_er T sh O) (4 * j) (if j = j then R.2.1 else E j) hc2 ∧ ak_gM (4 * j) (if j = j then R.2.1 else E j) hm2 ∧ hc2.1 47 (6 * j + 1) = ((if j = j then R.2.1 else E j).length : Int) ∧ hm2.1 159 j = ((if j = j then R.2.1 else E j).length : Int)) ∧ _ ∧ _ ∧ _ ∧ _ ∧ _ ∧ ak_SN us j (if j = j then R.2.1 else E j) hm2
      rw [e1]
      refine ⟨⟨c1, d1, c2, d2⟩, ⟨c9.trans (x1.trans d9.symm), by rw [d9]; exact x2⟩, c3.trans d3.symm, c6.trans d6.symm, c7.trans d7.symm, c8.trans d8.symm, ?_⟩
      refine ⟨fun en he => ?_, by rw [d3]; exact o5, by rw [d3]; exact o6, by rw [d3]; exact o7⟩
      rw [df.1 129 _ (by omega) (by omega) (by omega) (by omega), hnm0]
      exact (o2 en he).elim (hnm en) (fun z => by rw [z]; rfl)
    · have e1 : (if j = i then R.2.1 else E j) = E j := if_neg hji
      obtain ⟨⟨a1, a2, a3⟩, ⟨b1, b2, b3, b4⟩, ⟨x1, x2⟩, x3, x4, x5, x6, x7⟩ := si j hj
      have C47 : ∀ k, k < 6 → hc2.1 47 (6 * j + k) = hc.1 47 (6 * j + k) := fun k hk => cf.1 47 _ (by omega) (by omega) (by omega) (by omega) (by omega)
      have C470 := C47 0 (by omega)
      rw [Nat.add_zero] at C470
      have Mj : ∀ q, 158 ≤ q → q ≤ 163 → hm2.1 q j = hm.1 q j := fun q a b => df.1 q j (by omega) (by omega) (by omega) (by omega)
      show ((((if j = i then R.2.1 else E j).length ≤ 4 ∧ (NS ≤ j → (if j = i then R.2.1 else E j) = []) ∧ ∀ en, en ∈ (if j = i then R.2.1 else E j) → ak_eok S O T sh en)) ∧ _)
      rw [e1]
      refine ⟨⟨a1, a2, a3⟩, ?_⟩
      show (ak_gC (ak_er T sh O) (4 * j) (if j = i then R.2.1 else E j) hc2 ∧ ak_gM (4 * j) (if j = i then R.2.1 else E j) hm2 ∧ hc2.1 47 (6 * j + 1) = ((if j = i then R.2.1 else E j).length : Int) ∧ hm2.1 159 j = ((if j = i then R.2.1 else E j).length : Int)) ∧ _ ∧ _ ∧ _ ∧ _ ∧ _ ∧ ak_SN us j (if j = i then R.2.1 else E j) hm2
      rw [e1]
      refine ⟨⟨ak_gC_fr b1 (fun k a b => cf.1 45 k (by omega) (by omega) (by omega) (by omega) (by omega)) (fun k a b => cf.2.1 46 k (by omega) (by omega)), ak_gM_fr b2 (fun q k a b c d => df.1 q k (by omega) (by omega) (by omega) (by omega)), (C47 1 (by omega)).trans b3, (Mj 159 (by omega) (by omega)).trans b4⟩, ⟨(C47 4 (by omega)).trans (x1.trans (Mj 162 (by omega) (by omega)).symm), by rw [Mj 162 (by omega) (by omega)]; exact x2⟩, C470.trans (x3.trans (Mj 158 (by omega) (by omega)).symm), (C47 2 (by omega)).trans (x4.trans (Mj 160 (by omega) (by omega)).symm), (C47 3 (by omega)).trans (x5.trans (Mj 161 (by omega) (by omega)).symm), (C47 5 (by omega)).trans (x6.trans (Mj 163 (by omega) (by omega)).symm), ?_⟩
      unfold ak_SN
      rw [df.1 129 _ (by omega) (by omega) (by omega) (by omega), Mj 158 (by omega) (by omega)]
      exact x7
  · rw [cf.1 44 6 (by omega) (by omega) (by omega) (by omega) (by omega), df.1 110 71 (by omega) (by omega) (by omega) (by omega)]; exact m1
  · rw [df.1 110 71 (by omega) (by omega) (by omega) (by omega)]; exact ⟨m2, m3⟩
end LKUSE
