/-! the run: a room is given back, on both sides -/
section GIV
variable {s us O B Mt n r : Nat} {φ hr lv mt : Nat → Nat} {Us FR V V' : List Nat} {h0 m0 hc hm : ak_S}
theorem ak_RM_give {k : Nat} (w : ak_RM s us O B Mt φ hr lv mt Us FR V h0 m0 hc hm) (hrU : r ∈ Us) (hV : ∀ y, y ∈ V' ↔ y ∈ V ∧ y ≠ r) : ∃ Us' FR', ak_RM s us O B Mt φ hr lv mt Us' FR' V' h0 m0 (ak_gbC hc FR.length r) (ak_edM hm k (φ r)) ∧ ∀ y, y ∈ Us → y ≠ r → y ∈ Us' := by
  obtain ⟨⟨w1, w2, w3, w4, w5, w6, w7⟩, wr, ⟨b1, b2, b3, b4, b5⟩⟩ := w
  have hr5 : r < 560 := (w4 r).mp (List.mem_append_right _ hrU)
  have rr := wr r hrU
  have s1 := rr.2.2.2.1
  have hf := w5 r hrU
  have ML : ∀ q k', (q ≠ 175 ∧ q ≠ 173 ∨ k' ≠ φ r) → ¬ (q = 110 ∧ k' = 103) → (ak_edM hm k (φ r)).1 q k' = hm.1 q k' := fun q k' a b => (ak_up_out b).trans ((ak_up_out (by omega)).trans (ak_up_out (by omega)))
  have M175 : (ak_edM hm k (φ r)).1 175 (φ r) = 0 := by unfold ak_edM; simp [am_up]
  have M173 : (ak_edM hm k (φ r)).1 173 (φ r) = hm.1 174 (φ r) := by unfold ak_edM; simp [am_up]
  have MJ : (ak_edM hm k (φ r)).2 = hm.2 := rfl
  have nφ : ∀ y, y ∈ Us → y ≠ r → φ y ≠ φ r := fun y hy hn g => hn (w6 y r hy hrU g)
  generalize ak_edM hm k (φ r) = hm' at ML M175 M173 MJ
  by_cases hs : hc.1 55 r = 0
  · -- nobody has seen it: it is free
    have nd := List.nodup_append.mp w3
    have rF : r ∉ FR := fun g => nd.2.2 r g r hrU rfl
    have e0 : ak_gbC hc FR.length r = (am_up (am_up (am_up hc.1 54 r (-1)) 60 FR.length (r : Int)) 49 11 ((FR.length + 1 : Nat) : Int), hc.2) := if_pos hs
    rw [e0]
    have CL : ∀ q k', ¬ (q = 54 ∧ k' = r) → ¬ (q = 60 ∧ k' = FR.length) → ¬ (q = 49 ∧ k' = 11) → ((am_up (am_up (am_up hc.1 54 r (-1)) 60 FR.length (r : Int)) 49 11 ((FR.length + 1 : Nat) : Int), hc.2) : ak_S).1 q k' = hc.1 q k' := fun q k' a b c => (ak_up_out c).trans ((ak_up_out b).trans (ak_up_out a))
    have C11 : ((am_up (am_up (am_up hc.1 54 r (-1)) 60 FR.length (r : Int)) 49 11 ((FR.length + 1 : Nat) : Int), hc.2) : ak_S).1 49 11 = ((FR.length + 1 : Nat) : Int) := ak_up_at1
    have C60 : ((am_up (am_up (am_up hc.1 54 r (-1)) 60 FR.length (r : Int)) 49 11 ((FR.length + 1 : Nat) : Int), hc.2) : ak_S).1 60 FR.length = (r : Int) := by simp [am_up]
    have CJ : ((am_up (am_up (am_up hc.1 54 r (-1)) 60 FR.length (r : Int)) 49 11 ((FR.length + 1 : Nat) : Int), hc.2) : ak_S).2 = hc.2 := rfl
    generalize ((am_up (am_up (am_up hc.1 54 r (-1)) 60 FR.length (r : Int)) 49 11 ((FR.length + 1 : Nat) : Int), hc.2) : ak_S) = hc' at CL C11 C60 CJ
    have me : ∀ y, y ∈ Us.erase r ↔ y ≠ r ∧ y ∈ Us := fun y => List.Nodup.mem_erase_iff nd.2.1
    have m173 : hm.1 174 (φ r) = 0 := by rw [← s1.1]; exact hs
    have keep : ∀ y, y ∈ Us → hc.1 55 y = 1 → y ∈ Us.erase r := fun y hy g => (me y).mpr ⟨fun z => by rw [z, hs] at g; exact absurd g (by decide), hy⟩
    refine ⟨Us.erase r, FR ++ [r], ⟨⟨?_, fun i y hy => ?_, ?_, fun y => ?_, fun y hy => w5 y ((me y).mp hy).2, fun y y' hy hy' he => w6 y y' ((me y).mp hy).2 ((me y').mp hy').2 he, fun g hg => ⟨fun h1 => ?_, fun h1 => ?_⟩⟩, fun y hy => ?_, ⟨(CL _ _ (by omega) (by omega) (by omega)).trans b1, (ML _ _ (by omega) (by omega)).trans b2, b3, fun i hi => ?_, fun y hy g => ?_⟩⟩, fun y hy hn => (me y).mpr ⟨hn, hy⟩⟩
    · rw [List.length_append]; exact C11
    · by_cases hi : i < FR.length
      · rw [List.getElem?_append_left hi] at hy
        exact (CL 60 i (by omega) (by omega) (by omega)).trans (w2 i y hy)
      · have hk := ak_get_none hy
        rw [List.length_append] at hk
        have : i = FR.length := by
          have : ([r] : List Nat).length = 1 := rfl
          omega
        subst this
        have : (FR ++ [r])[FR.length]? = some r := by simp
        rw [this] at hy
        cases hy
        exact C60
    · refine List.nodup_append.mpr ⟨?_, List.Nodup.erase r nd.2.1, fun a ha c hc2 he => ?_⟩
      · refine List.nodup_append.mpr ⟨nd.1, by simp, fun a ha c hc2 he => ?_⟩
        rw [List.mem_singleton] at hc2
        exact rF (by rw [← hc2, ← he]; exact ha)
      · have hc3 := (me c).mp hc2
        rcases List.mem_append.mp ha with ha | ha
        · exact nd.2.2 a ha c hc3.2 he
        · rw [List.mem_singleton] at ha
          exact hc3.1 (by rw [← he, ha])
    · rw [← w4 y, List.mem_append, List.mem_append, List.mem_append, List.mem_singleton, me y]
      constructor
      · rintro ((g | g) | g)
        · exact Or.inl g
        · rw [g]; exact Or.inr hrU
        · exact Or.inr g.2
      · rintro (g | g)
        · exact Or.inl (Or.inl g)
        · by_cases hy : y = r
          · exact Or.inl (Or.inr hy)
          · exact Or.inr ⟨hy, g⟩
    · obtain ⟨y, hy, he⟩ := List.mem_map.mp h1
      have hy2 := (me y).mp hy
      rw [ML 173 g (Or.inr (by rw [← he]; exact nφ y hy2.2 hy2.1)) (by omega)]
      exact (w7 g hg).1 (List.mem_map.mpr ⟨y, hy2.2, he⟩)
    · by_cases hgf : g = φ r
      · rw [hgf, M173]; exact m173
      · rw [ML 173 g (Or.inr hgf) (by omega)]
        refine (w7 g hg).2 (fun z => h1 ?_)
        obtain ⟨y, hy, he⟩ := List.mem_map.mp z
        exact List.mem_map.mpr ⟨y, (me y).mpr ⟨fun q => hgf (by rw [← he, q]), hy⟩, he⟩
    · have hy2 := (me y).mp hy
      have y5 : y < 560 := (w4 y).mp (List.mem_append_right _ hy2.2)
      have wy := wr y hy2.2
      have n2 := nφ y hy2.2 hy2.1
      refine ak_rom_upd wy hy2.2 (fun _ _ => ⟨rfl, rfl, rfl, rfl⟩) ?_ keep ⟨fun g => ((hV y).mp g).1, fun g => (hV y).mpr ⟨g, hy2.1⟩⟩ (fun z _ => CL 55 z (by omega) (by omega) (by omega)) (fun k hk => ⟨CL 50 _ (by omega) (by omega) (by omega), by rw [CJ]⟩) (fun q g1 g2 _ => ⟨CL q y (by omega) (by omega) (by omega), by rw [CJ]⟩) (fun k hk => ⟨ML 184 _ (by omega) (by omega), by rw [MJ]⟩) (fun q g1 g2 => ⟨ML q (φ y) (Or.inr n2) (by omega), by rw [MJ]⟩)
      rcases wy.2.2.1 with ⟨_, z2, _, _⟩ | ⟨r', z1, z2, z3, z4, z5, z6, z7, z8⟩
      · rw [z2]; exact hy
      · exact keep _ wy.2.1.1 z8
    · obtain ⟨l', r', z1, z2, z3, z4, z5, z6, z7, z8⟩ := b4 i hi
      exact ⟨l', r', (CL 61 i (by omega) (by omega) (by omega)).trans z1, (ML 150 i (by omega) (by omega)).trans z2, z3, (CL 62 i (by omega) (by omega) (by omega)).trans z4, keep r' z5 z7, (ML 151 i (by omega) (by omega)).trans z6, (CL 55 r' (by omega) (by omega) (by omega)).trans z7, z8⟩
    · have hy2 := (me y).mp hy
      rw [CL 55 y (by omega) (by omega) (by omega)] at g
      obtain ⟨i, z1, z2⟩ := b5 y hy2.2 g
      exact ⟨i, z1, (CL 62 i (by omega) (by omega) (by omega)).trans z2⟩
  · -- it stays
    have s2 : hc.1 55 r = 1 := s1.2.resolve_left hs
    have e0 : ak_gbC hc FR.length r = (am_up hc.1 54 r (-1), hc.2) := if_neg hs
    rw [e0]
    have CL : ∀ q k', ¬ (q = 54 ∧ k' = r) → ((am_up hc.1 54 r (-1), hc.2) : ak_S).1 q k' = hc.1 q k' := fun q k' a => ak_up_out a
    have C54 : ((am_up hc.1 54 r (-1), hc.2) : ak_S).1 54 r = -1 := ak_up_at1
    have CJ : ((am_up hc.1 54 r (-1), hc.2) : ak_S).2 = hc.2 := rfl
    generalize ((am_up hc.1 54 r (-1), hc.2) : ak_S) = hc' at CL C54 CJ
    have m173 : hm.1 174 (φ r) = 1 := by rw [← s1.1]; exact s2
    refine ⟨Us, FR, ⟨⟨(CL _ _ (by omega)).trans w1, fun i y hy => (CL 60 i (by omega)).trans (w2 i y hy), w3, w4, w5, w6, fun g hg => ⟨fun h1 => ?_, fun h1 => ?_⟩⟩, fun y hy => ?_, ⟨(CL _ _ (by omega)).trans b1, (ML _ _ (by omega) (by omega)).trans b2, b3, fun i hi => ?_, fun y hy g => ?_⟩⟩, fun y hy _ => hy⟩
    · by_cases hgf : g = φ r
      · rw [hgf, M173]; exact m173
      · rw [ML 173 g (Or.inr hgf) (by omega)]; exact (w7 g hg).1 h1
    · by_cases hgf : g = φ r
      · exact absurd (List.mem_map.mpr ⟨r, hrU, hgf.symm⟩) h1
      · rw [ML 173 g (Or.inr hgf) (by omega)]; exact (w7 g hg).2 h1
    · by_cases hyr : y = r
      · subst hyr
        obtain ⟨x1, ⟨x2, x3, x4, x5⟩, x6, x7, x8, x9, x10⟩ := rr
        unfold ak_rom
        rw [CL 55 y (by omega), CL 53 y (by omega), CL 52 y (by omega), CL 56 y (by omega), CL 58 y (by omega), CL 59 y (by omega), C54, M175, ML 178 _ (by omega) (by omega), ML 177 _ (by omega) (by omega), ML 174 _ (by omega) (by omega), ML 179 _ (by omega) (by omega), ML 180 _ (by omega) (by omega), ML 182 _ (by omega) (by omega), CJ, MJ]
        refine ⟨fun k hk => ?_, ⟨x2, x3, x4, x5⟩, ?_, x7, Or.inr ⟨fun g => ((hV y).mp g).2 rfl, rfl, rfl, s2⟩, x9, x10⟩
        · rw [CL 50 _ (by omega), ML 184 _ (by omega) (by omega), CJ, MJ]; exact x1 k hk
        · rcases x6 with x6 | ⟨r', z1, z2, z3, z4, z5, z6, z7, z8⟩
          · exact Or.inl x6
          · exact Or.inr ⟨r', z1, z2, z3, z4, z5, z6, (CL 55 r' (by omega)).trans z7, (CL 55 _ (by omega)).trans z8⟩
      · have n2 := nφ y hy hyr
        exact ak_rom_upd (wr y hy) hy (fun _ _ => ⟨rfl, rfl, rfl, rfl⟩) (wr y hy).2.1.1 (fun z hz _ => hz) ⟨fun g => ((hV y).mp g).1, fun g => (hV y).mpr ⟨g, hyr⟩⟩ (fun z _ => CL 55 z (by omega)) (fun k hk => ⟨CL 50 _ (by omega), by rw [CJ]⟩) (fun q g1 g2 _ => ⟨CL q y (by omega), by rw [CJ]⟩) (fun k hk => ⟨ML 184 _ (by omega) (by omega), by rw [MJ]⟩) (fun q g1 g2 => ⟨ML q (φ y) (Or.inr n2) (by omega), by rw [MJ]⟩)
    · obtain ⟨l', r', z1, z2, z3, z4, z5, z6, z7, z8⟩ := b4 i hi
      exact ⟨l', r', (CL 61 i (by omega)).trans z1, (ML 150 i (by omega) (by omega)).trans z2, z3, (CL 62 i (by omega)).trans z4, z5, (ML 151 i (by omega) (by omega)).trans z6, (CL 55 r' (by omega)).trans z7, z8⟩
    · rw [CL 55 y (by omega)] at g
      obtain ⟨i, z1, z2⟩ := b5 y hy g
      exact ⟨i, z1, (CL 62 i (by omega)).trans z2⟩
end GIV
