/-! what holds between two calls: rooms, journal, text -/
/-- the words of a room -/
def ak_rmW (O B r f : Nat) (hc hm : ak_S) : Prop := ∀ k, k < 12 → hc.1 50 (12 * r + k) = hm.1 184 (12 * f + k) ∧ hc.2.1 51 (12 * r + k) = hm.2.1 185 (12 * f + k) ∧ ak_vok O B (hc.1 50 (12 * r + k)) (hc.2.1 51 (12 * r + k))
/-- a room: φ its frame at the other, hr its home, lv how many blocks are around it, mt its method -/
def ak_rom (O B Mt : Nat) (φ hr lv mt : Nat → Nat) (Us V : List Nat) (hc hm : ak_S) (r : Nat) : Prop :=
  ak_rmW O B r (φ r) hc hm ∧ (hr r ∈ Us ∧ hc.1 53 r = (hr r : Int) ∧ hm.1 178 (φ r) = (φ (hr r) : Int) ∧ lv (hr r) = 0) ∧
  ((lv r = 0 ∧ hr r = r ∧ hc.1 52 r = -1 ∧ hm.1 177 (φ r) = -1) ∨ ∃ r' : Nat, r' ∈ Us ∧ hc.1 52 r = (r' : Int) ∧ hm.1 177 (φ r) = (φ r' : Int) ∧ hr r = hr r' ∧ lv r = lv r' + 1 ∧ mt r = mt r' ∧ hc.1 55 r' = 1 ∧ hc.1 55 (hr r) = 1) ∧
  (hc.1 55 r = hm.1 174 (φ r) ∧ (hc.1 55 r = 0 ∨ hc.1 55 r = 1)) ∧ ((r ∈ V ∧ hm.1 175 (φ r) = 1 ∧ 0 ≤ hc.1 54 r) ∨ (r ∉ V ∧ hm.1 175 (φ r) = 0 ∧ hc.1 54 r = -1 ∧ hc.1 55 r = 1)) ∧
  (hm.1 179 (φ r) = (mt r : Int) ∧ mt r < Mt ∧ mt r + 40 * lv r < 1000) ∧
  (lv r = 0 → hc.1 56 r = hm.1 180 (φ r) ∧ hc.2.1 57 r = hm.2.1 181 (φ r) ∧ ak_vok O B (hc.1 56 r) (hc.2.1 57 r) ∧ hm.1 182 (φ r) = (if hc.1 58 r = 0 then -1 else hc.1 59 r + 1) ∧ -1 ≤ hc.1 59 r ∧ hc.1 59 r < 200)
/-- rooms that are free, that are taken -/
def ak_fre (φ : Nat → Nat) (Us FR : List Nat) (hc hm : ak_S) : Prop := hc.1 49 11 = (FR.length : Int) ∧ (∀ i r : Nat, FR[i]? = some r → hc.1 60 i = (r : Int)) ∧ (FR ++ Us).Nodup ∧ (∀ r, r ∈ FR ++ Us ↔ r < 560) ∧
  (∀ r, r ∈ Us → φ r < 564) ∧ (∀ r r', r ∈ Us → r' ∈ Us → φ r = φ r' → r = r') ∧ ∀ f, f < 564 → (f ∈ Us.map φ → hm.1 173 f = 1) ∧ (f ∉ Us.map φ → hm.1 173 f = 0)
/-- the text's code and nodes, and nothing beyond them -/
def ak_mC (s : Nat) (h0 : ak_S) : Nat → Nat → Int := fun q k => if q = ak_T s + 2 ∧ h0.1 (ak_T s + 1) 2 ≤ (k : Int) then -77 else h0.1 q k
def ak_mM (us : Nat) (m0 : ak_S) : Nat → Nat → Int := fun q k => if (114 ≤ q ∧ q ≤ 120) ∧ ¬ (9000 * us ≤ k ∧ (k : Int) < 9000 * us + m0.1 121 us) then -77 else m0.1 q k
/-- a literal of the text, made into a block in a room -/
def ak_blk (s us : Nat) (lv mt : Nat → Nat) (h0 m0 : ak_S) (l r : Nat) : Prop := ∃ (a c G : Nat), h0.1 (ak_T s + 19) l = (a : Int) ∧ h0.1 (ak_T s + 18) l = m0.1 136 (60 * us + l) ∧ h0.1 (ak_T s + 20) l = (mt r : Int) ∧ ak_mC s h0 (ak_T s + 2) c = 34 ∧ G ≤ 21 ∧ mt r + 40 * (lv r + 1) < 1000 ∧
  ak_T3 (ak_mC s h0) (ak_mM us m0) (ak_T s) us 2 (m0.1 135 (60 * us + l)) 0 (mt r + 40 * (lv r + 1) + 1000 * G) 6160 a c
def ak_bks (s us B : Nat) (φ lv mt : Nat → Nat) (Us : List Nat) (h0 m0 hc hm : ak_S) : Prop := hc.1 49 14 = (B : Int) ∧ hm.1 110 57 = (B : Int) ∧ B ≤ 500 ∧
  (∀ i, i < B → ∃ l r : Nat, hc.1 61 i = (l : Int) ∧ hm.1 150 i = (l : Int) ∧ l < 60 ∧ hc.1 62 i = (r : Int) ∧ r ∈ Us ∧ hm.1 151 i = (φ r : Int) ∧ hc.1 55 r = 1 ∧ ak_blk s us lv mt h0 m0 l r) ∧
  ∀ r, r ∈ Us → hc.1 55 r = 1 → ∃ i, i < B ∧ hc.1 62 i = (r : Int)
def ak_RM (s us O B Mt : Nat) (φ hr lv mt : Nat → Nat) (Us FR V : List Nat) (h0 m0 hc hm : ak_S) : Prop := ak_fre φ Us FR hc hm ∧ (∀ r, r ∈ Us → ak_rom O B Mt φ hr lv mt Us V hc hm r) ∧ ak_bks s us B φ lv mt Us h0 m0 hc hm
/-- what is told of a run -/
def ak_jn (hc hm : ak_S) : Prop := (hc.2.1 64 0 = hm.1 110 106 ∧ hc.2.1 64 1 = hm.2.1 110 107 ∧ hc.2.1 64 2 = hm.1 110 104 ∧ hc.2.1 64 3 = hm.1 110 108 ∧ hc.2.1 64 4 = hm.1 110 109 ∧ hc.2.1 64 5 = hm.1 110 110 ∧ hc.2.1 64 6 = hm.1 110 111) ∧
  ((0 ≤ hm.1 110 104 ∧ hm.1 110 104 ≤ 4000) ∧ (0 ≤ hm.1 110 109 ∧ hm.1 110 109 < 2000000000) ∧ (0 ≤ hm.1 110 110 ∧ hm.1 110 110 < 2000000000) ∧ 0 ≤ hm.1 110 111 ∧ hm.1 110 111 < 2000000000) ∧
  (∀ i : Nat, i < 300 → (i : Int) < hm.1 110 110 → hc.2.1 65 (2 * i) = hm.1 187 i ∧ hc.2.1 65 (2 * i + 1) = hm.2.1 188 i) ∧
  (∀ i : Nat, i < 300 → (i : Int) < hm.1 110 111 → hc.2.1 66 (4 * i) = hm.1 189 i ∧ hc.2.1 66 (4 * i + 1) = hm.1 190 i ∧ hc.2.1 66 (4 * i + 2) = hm.2.1 191 i ∧ hc.2.1 66 (4 * i + 3) = hm.1 192 i) ∧
  (∀ i : Nat, i < 64 → (i : Int) < hm.1 110 109 → hc.2.1 67 (6 * i) = hm.1 193 i ∧ hc.2.1 67 (6 * i + 1) = hm.1 194 i ∧ hc.2.1 67 (6 * i + 2) = hm.2.1 195 i ∧ hc.2.1 67 (6 * i + 3) = hm.1 196 i ∧ hc.2.1 67 (6 * i + 4) = hm.1 197 i ∧ hc.2.1 67 (6 * i + 5) = hm.1 198 i) ∧
  ∀ m, m < 40 → hc.1 68 m = hm.1 186 m
/-- the rows of the text in use -/
def ak_tmI (us q k : Nat) : Prop := (q = 112 ∧ 6000 * us ≤ k ∧ k < 6000 * us + 6000) ∨ (114 ≤ q ∧ q ≤ 120 ∧ 9000 * us ≤ k ∧ k < 9000 * us + 9000) ∨ ((q = 121 ∨ q = 122 ∨ q = 127 ∨ q = 131 ∨ q = 134) ∧ k = us) ∨ (123 ≤ q ∧ q ≤ 126 ∧ 40 * us ≤ k ∧ k < 40 * us + 40) ∨
  (128 ≤ q ∧ q ≤ 130 ∧ 150 * us ≤ k ∧ k < 150 * us + 150) ∨ ((q = 132 ∨ q = 133) ∧ 100 * us ≤ k ∧ k < 100 * us + 100) ∨ ((q = 135 ∨ q = 136) ∧ 60 * us ≤ k ∧ k < 60 * us + 60)
/-- the text is still what it was -/
def ak_agT (s us : Nat) (h0 m0 hc hm : ak_S) : Prop := (∀ q k, ak_T s ≤ q → q ≤ ak_T s + 20 → hc.1 q k = h0.1 q k ∧ hc.2.1 q k = h0.2.1 q k) ∧ ∀ q k, ak_tmI us q k → hm.1 q k = m0.1 q k
/-- the text that was read: sizes z -/
def ak_tx (s us n m Mt : Nat) (b : Nat → Int) (z : Nat → Nat) (h0 m0 : ak_S) : Prop := ak_PM s us b n m Mt z h0 m0 ∧ 1 ≤ Mt ∧ ak_POT b n 0 0 z ∧ ak_PRG s us Mt z h0 m0
/-- all that belongs to a text that is loaded -/
def ak_LD (s us : Nat) (hc hm : ak_S) : Prop := ∃ (h0 m0 : ak_S) (b : Nat → Int) (n m Mt : Nat) (z : Nat → Nat) (S O B : Nat) (T : Nat → List (Int × Int)) (sh : Nat → Nat) (E : Nat → List ak_E) (Et : List ak_E) (G : List (Int × Int × Int × Int)) (φ hr lv mt : Nat → Nat) (Us FR : List Nat),
  ak_tx s us n m Mt b z h0 m0 ∧ ak_agT s us h0 m0 hc hm ∧ (4 ≤ O ∧ ak_WD S O B Mt T sh hc hm) ∧ ak_ST S O (z 7) us T sh E Et G hc hm ∧ ak_RM s us O B Mt φ hr lv mt Us FR [] h0 m0 hc hm ∧ ak_jn hc hm
/-- what holds at all times -/
def ak_all (us : Nat) (hc hm : ak_S) : Prop := us < 2 ∧ hm.1 110 3 = (us : Int) ∧ ak_tape hc hm ∧ (hc.1 44 6 = hm.1 110 71 ∧ 0 ≤ hm.1 110 71 ∧ hm.1 110 71 ≤ 2) ∧ (∃ w, ak_wyS hm w) ∧ (∀ k, k < 192 → hm.1 137 k = ak_keys.getD k 0) ∧ ∀ k, k < 24 → hc.2.1 5 k = ak_kws.getD k 0
/-- no frame is under way -/
def ak_em (h : ak_S) : Prop := h.1 69 7 = 0 ∧ h.1 69 8 = 0
def ak_Rl (n : Nat) (ρ : List Nat) (hc hm : ak_S) : Prop := (hc.2.2.1 ≤ 211 + n ∧ hc.2.2.2 ≤ 1890385 + 6 * n) ∧ ∃ s c r2 us : Nat, ((s = 0 ∧ c = 1) ∨ (s = 1 ∧ c = 0)) ∧ ρ = [ak_T s, ak_T c, r2, ak_T s, ak_T s + 1] ∧ ak_all us hc hm ∧
  ((hc.1 1 8 = 0 ∧ hm.1 110 4 = 0) ∨ (hc.1 1 8 = 1 ∧ hm.1 110 4 = 1 ∧ ak_LD s us hc hm)) ∧ ak_em hc
section REL
variable {s us O B Mt r f : Nat} {φ hr lv mt : Nat → Nat} {Us FR V : List Nat} {h0 m0 hc hm hc' hm' : ak_S}
theorem ak_rmW_fr (w : ak_rmW O B r f hc hm) (f1 : ∀ k, hc'.1 50 k = hc.1 50 k ∧ hc'.2.1 51 k = hc.2.1 51 k) (f2 : ∀ k, hm'.1 184 k = hm.1 184 k ∧ hm'.2.1 185 k = hm.2.1 185 k) : ak_rmW O B r f hc' hm' := by
  intro k hk
  rw [(f1 _).1, (f1 _).2, (f2 _).1, (f2 _).2]
  exact w k hk
theorem ak_rom_fr (w : ak_rom O B Mt φ hr lv mt Us V hc hm r) (fC : ∀ q k, 49 ≤ q → q ≤ 62 → hc'.1 q k = hc.1 q k ∧ hc'.2.1 q k = hc.2.1 q k) (fM : ∀ q k, 173 ≤ q → q ≤ 185 → hm'.1 q k = hm.1 q k ∧ hm'.2.1 q k = hm.2.1 q k) : ak_rom O B Mt φ hr lv mt Us V hc' hm' r := by
  have c : ∀ q k, 49 ≤ q → q ≤ 62 → hc'.1 q k = hc.1 q k := fun q k a b => (fC q k a b).1
  have m : ∀ q k, 173 ≤ q → q ≤ 185 → hm'.1 q k = hm.1 q k := fun q k a b => (fM q k a b).1
  unfold ak_rom at w ⊢
  obtain ⟨w1, w2, w3, w4, w5, w6, w7⟩ := w
  refine ⟨ak_rmW_fr w1 (fun k => ⟨(fC 50 k (by decide) (by decide)).1, (fC 51 k (by decide) (by decide)).2⟩) (fun k => ⟨(fM 184 k (by decide) (by decide)).1, (fM 185 k (by decide) (by decide)).2⟩), ?_, ?_, ?_, ?_, ?_, ?_⟩
  · rw [c 53 _ (by omega) (by omega), m 178 _ (by omega) (by omega)]; exact w2
  · rw [c 52 _ (by omega) (by omega), m 177 _ (by omega) (by omega)]
    rcases w3 with w3 | ⟨r', a1, a2, a3, a4, a5, a6, a7, a8⟩
    · exact Or.inl w3
    · exact Or.inr ⟨r', a1, a2, a3, a4, a5, a6, (c 55 _ (by omega) (by omega)).trans a7, (c 55 _ (by omega) (by omega)).trans a8⟩
  · rw [c 55 _ (by omega) (by omega), m 174 _ (by omega) (by omega)]; exact w4
  · rw [c 55 _ (by omega) (by omega), c 54 _ (by omega) (by omega), m 175 _ (by omega) (by omega)]; exact w5
  · rw [m 179 _ (by omega) (by omega)]; exact w6
  · rw [c 56 _ (by omega) (by omega), c 58 _ (by omega) (by omega), c 59 _ (by omega) (by omega), (fC 57 _ (by omega) (by omega)).2, m 180 _ (by omega) (by omega), m 182 _ (by omega) (by omega), (fM 181 _ (by omega) (by omega)).2]; exact w7
theorem ak_fre_fr (w : ak_fre φ Us FR hc hm) (fC : ∀ q k, (q = 49 ∧ k = 11) ∨ q = 60 → hc'.1 q k = hc.1 q k) (fM : ∀ k, hm'.1 173 k = hm.1 173 k) : ak_fre φ Us FR hc' hm' := by
  obtain ⟨w1, w2, w3, w4, w5, w6, w7⟩ := w
  exact ⟨(fC _ _ (Or.inl ⟨rfl, rfl⟩)).trans w1, fun i r h => (fC _ _ (Or.inr rfl)).trans (w2 i r h), w3, w4, w5, w6, fun f hf => by rw [fM f]; exact w7 f hf⟩
theorem ak_bks_fr (w : ak_bks s us B φ lv mt Us h0 m0 hc hm) (fC : ∀ q k, 49 ≤ q → q ≤ 62 → hc'.1 q k = hc.1 q k) (fM : ∀ q k, (q = 110 ∧ k = 57) ∨ q = 150 ∨ q = 151 → hm'.1 q k = hm.1 q k) : ak_bks s us B φ lv mt Us h0 m0 hc' hm' := by
  obtain ⟨w1, w2, w3, w4, w5⟩ := w
  refine ⟨(fC _ _ (by omega) (by omega)).trans w1, (fM _ _ (by omega)).trans w2, w3, fun i hi => ?_, fun r hr hs => ?_⟩
  · obtain ⟨l, r, a1, a2, a3, a4, a5, a6, a7, a8⟩ := w4 i hi
    exact ⟨l, r, (fC _ _ (by omega) (by omega)).trans a1, (fM _ _ (by omega)).trans a2, a3, (fC _ _ (by omega) (by omega)).trans a4, a5, (fM _ _ (by omega)).trans a6, (fC _ _ (by omega) (by omega)).trans a7, a8⟩
  · rw [fC 55 _ (by omega) (by omega)] at hs
    obtain ⟨i, a1, a2⟩ := w5 r hr hs
    exact ⟨i, a1, (fC _ _ (by omega) (by omega)).trans a2⟩
theorem ak_RM_fr (w : ak_RM s us O B Mt φ hr lv mt Us FR V h0 m0 hc hm) (fC : ∀ q k, 49 ≤ q → q ≤ 62 → hc'.1 q k = hc.1 q k ∧ hc'.2.1 q k = hc.2.1 q k) (fM : ∀ q k, (q = 110 ∧ k = 57) ∨ q = 150 ∨ q = 151 ∨ (173 ≤ q ∧ q ≤ 185) → hm'.1 q k = hm.1 q k ∧ hm'.2.1 q k = hm.2.1 q k) : ak_RM s us O B Mt φ hr lv mt Us FR V h0 m0 hc' hm' :=
  ⟨ak_fre_fr w.1 (fun q k h => (fC q k (by omega) (by omega)).1) (fun k => (fM _ _ (by omega)).1), fun r h => ak_rom_fr (w.2.1 r h) fC (fun q k a b => fM q k (by omega)), ak_bks_fr w.2.2 (fun q k a b => (fC q k a b).1) (fun q k h => (fM q k (by omega)).1)⟩
theorem ak_vok_mono {O' B' : Nat} {a b : Int} (w : ak_vok O B a b) (hO : O ≤ O') (hB : B ≤ B') : ak_vok O' B' a b := ⟨w.1, fun h => by have := w.2.1 h; omega, fun h => by have := w.2.2.1 h; omega, w.2.2.2⟩
theorem ak_rom_mono {O' B' : Nat} (w : ak_rom O B Mt φ hr lv mt Us V hc hm r) (hO : O ≤ O') (hB : B ≤ B') : ak_rom O' B' Mt φ hr lv mt Us V hc hm r := by
  obtain ⟨w1, w2, w3, w4, w5, w6, w7⟩ := w
  refine ⟨fun k hk => ?_, w2, w3, w4, w5, w6, fun h => ?_⟩
  · obtain ⟨a1, a2, a3⟩ := w1 k hk
    exact ⟨a1, a2, ak_vok_mono a3 hO hB⟩
  · obtain ⟨a1, a2, a3, a4⟩ := w7 h
    exact ⟨a1, a2, ak_vok_mono a3 hO hB, a4⟩
theorem ak_jn_fr (w : ak_jn hc hm) (fC : ∀ q k, 64 ≤ q → q ≤ 68 → hc'.1 q k = hc.1 q k ∧ hc'.2.1 q k = hc.2.1 q k) (fM : ∀ q k, (q = 110 ∧ (k = 104 ∨ (106 ≤ k ∧ k ≤ 111))) ∨ (186 ≤ q ∧ q ≤ 198) → hm'.1 q k = hm.1 q k ∧ hm'.2.1 q k = hm.2.1 q k) : ak_jn hc' hm' := by
  have c : ∀ q k, 64 ≤ q → q ≤ 67 → hc'.2.1 q k = hc.2.1 q k := fun q k a b => (fC q k (by omega) (by omega)).2
  have m : ∀ q k, (q = 110 ∧ (k = 104 ∨ (106 ≤ k ∧ k ≤ 111))) ∨ (186 ≤ q ∧ q ≤ 198) → hm'.1 q k = hm.1 q k := fun q k a => (fM q k a).1
  have g : ∀ q k, (q = 110 ∧ (k = 104 ∨ (106 ≤ k ∧ k ≤ 111))) ∨ (186 ≤ q ∧ q ≤ 198) → hm'.2.1 q k = hm.2.1 q k := fun q k a => (fM q k a).2
  obtain ⟨w1, w2, w3, w4, w5, w6⟩ := w
  refine ⟨?_, ?_, fun i hi h => ?_, fun i hi h => ?_, fun i hi h => ?_, fun i hi => ?_⟩
  · rw [c 64 _ (by omega) (by omega), c 64 _ (by omega) (by omega), c 64 _ (by omega) (by omega), c 64 _ (by omega) (by omega), c 64 _ (by omega) (by omega), c 64 _ (by omega) (by omega), c 64 _ (by omega) (by omega), m 110 106 (by omega), g 110 107 (by omega), m 110 104 (by omega), m 110 108 (by omega), m 110 109 (by omega), m 110 110 (by omega), m 110 111 (by omega)]
    exact w1
  · rw [m 110 104 (by omega), m 110 109 (by omega), m 110 110 (by omega), m 110 111 (by omega)]; exact w2
  · rw [m 110 110 (by omega)] at h
    rw [c 65 _ (by omega) (by omega), c 65 _ (by omega) (by omega), m 187 _ (by omega), g 188 _ (by omega)]
    exact w3 i hi h
  · rw [m 110 111 (by omega)] at h
    rw [c 66 _ (by omega) (by omega), c 66 _ (by omega) (by omega), c 66 _ (by omega) (by omega), c 66 _ (by omega) (by omega), m 189 _ (by omega), m 190 _ (by omega), g 191 _ (by omega), m 192 _ (by omega)]
    exact w4 i hi h
  · rw [m 110 109 (by omega)] at h
    rw [c 67 _ (by omega) (by omega), c 67 _ (by omega) (by omega), c 67 _ (by omega) (by omega), c 67 _ (by omega) (by omega), c 67 _ (by omega) (by omega), c 67 _ (by omega) (by omega), m 193 _ (by omega), m 194 _ (by omega), g 195 _ (by omega), m 196 _ (by omega), m 197 _ (by omega), m 198 _ (by omega)]
    exact w5 i hi h
  · rw [(fC 68 _ (by omega) (by omega)).1, m 186 _ (by omega)]; exact w6 i hi
theorem ak_agT_fr (w : ak_agT s us h0 m0 hc hm) (fC : ∀ q k, ak_T s ≤ q → q ≤ ak_T s + 20 → hc'.1 q k = hc.1 q k ∧ hc'.2.1 q k = hc.2.1 q k) (fM : ∀ q k, ak_tmI us q k → hm'.1 q k = hm.1 q k) : ak_agT s us h0 m0 hc' hm' :=
  ⟨fun q k a b => ⟨(fC q k a b).1.trans (w.1 q k a b).1, (fC q k a b).2.trans (w.1 q k a b).2⟩, fun q k a => (fM q k a).trans (w.2 q k a)⟩
theorem ak_agT_refl : ak_agT s us hc hm hc hm := ⟨fun _ _ _ _ => ⟨rfl, rfl⟩, fun _ _ _ => rfl⟩
theorem ak_wyS_fr2 {w : List Nat} (g : ak_wyS hm w) (f : ∀ q k, (q = 110 ∧ k = 64) ∨ q = 154 ∨ q = 157 → hm'.1 q k = hm.1 q k) : ak_wyS hm' w := by
  obtain ⟨w1, w2, w3, w4⟩ := g
  refine ⟨(f _ _ (by omega)).trans w1, w2, fun k o h => ?_, fun x hx => ?_⟩
  · rw [f 154 _ (by omega)]; exact w3 k o h
  · rw [f 157 _ (by omega)]; exact w4 x hx
theorem ak_all_fr (w : ak_all us hc hm) (fC : ∀ q k, (q = 3 ∧ k = 1) ∨ q = 4 ∨ (q = 44 ∧ k = 6) → hc'.1 q k = hc.1 q k) (fJ : ∀ k, hc'.2.1 5 k = hc.2.1 5 k) (fM : ∀ q k, (q = 110 ∧ (k = 2 ∨ k = 3 ∨ k = 71)) ∨ q = 111 ∨ q = 137 → hm'.1 q k = hm.1 q k) (wy : ∃ w, ak_wyS hm' w) : ak_all us hc' hm' := by
  obtain ⟨w1, w2, ⟨n, t1, t2, t3, t4⟩, w4, w5, w6, w7⟩ := w
  refine ⟨w1, (fM _ _ (by omega)).trans w2, ⟨n, t1, (fC _ _ (by omega)).trans t2, (fM _ _ (by omega)).trans t3, fun k hk => ?_⟩, ?_, wy, fun k hk => (fM _ _ (by omega)).trans (w6 k hk), fun k hk => (fJ k).trans (w7 k hk)⟩
  · rw [fC 4 _ (by omega), fM 111 _ (by omega)]; exact t4 k hk
  · rw [fC 44 6 (by omega), fM 110 71 (by omega)]; exact w4
/-- the text's methods, in the code -/
theorem ak_tx_prg {n m : Nat} {b : Nat → Int} {z : Nat → Nat} {x : Nat} (w : ak_tx s us n m Mt b z h0 m0) (hx : x < Mt) : ∃ a c : Nat, h0.1 (ak_T s + 13) x = (a : Int) ∧ ak_mC s h0 (ak_T s + 2) c = 34 ∧ m0.1 126 (40 * us + x) = h0.1 (ak_T s + 12) x ∧ (0 ≤ h0.1 (ak_T s + 12) x ∧ h0.1 (ak_T s + 12) x ≤ 4) ∧
    ∀ i, 6160 ≤ i → ak_T3 (ak_mC s h0) (ak_mM us m0) (ak_T s) us 2 (m0.1 125 (40 * us + x)) 0 (x + 1000 * 21) i a c := by
  obtain ⟨w1, w2, w3, w4⟩ := w
  obtain ⟨za, zb, a1, a2, a3, a4, a5, a6⟩ := w4 x hx
  have hz : z 2 ≤ 6100 := by
    have h1 := w3.2.1
    have h2 := ak_st_le w1.1 w1.1.1.1
    have h3 := w1.2.1.1.2.2.2.1
    omega
  obtain ⟨p1, p2, p3, p4, p5, p6, p7, p8, p9, p10, p11, p12, p13, p14⟩ := w1
  have e7 := p6.2.2.1
  have c1 : ∀ q k, ¬ (q = ak_T s + 2 ∧ z 1 ≤ k) → ak_mC s h0 q k = h0.1 q k := fun q k g => if_neg (fun y => g ⟨y.1, by have := y.2; rw [p8] at this; omega⟩)
  have c2 : ∀ q k, ¬ (114 ≤ q ∧ q ≤ 120) ∨ (9000 * us ≤ k ∧ k < 9000 * us + z 2) → ak_mM us m0 q k = m0.1 q k := fun q k g => if_neg (fun y => by
    rcases g with g | g
    · exact g y.1
    · refine y.2 ⟨g.1, ?_⟩
      rw [p9]
      omega)
  have f : ak_fut s us ak_z0 z (-1) h0.1 m0.1 (ak_mC s h0) (ak_mM us m0) := by
    refine ⟨⟨fun k _ g => ⟨c1 _ _ (by omega), c1 _ _ (by omega)⟩, fun k _ g => ⟨c1 _ _ (by omega), c1 _ _ (by omega), c1 _ _ (by omega)⟩, fun k _ g => ⟨c1 _ _ (by omega), c1 _ _ (by omega), c1 _ _ (by omega), c1 _ _ (by omega)⟩, fun k _ g => ⟨c1 _ _ (by omega), c1 _ _ (by omega), c1 _ _ (by omega), c2 _ _ (by omega), c2 _ _ (by omega)⟩, fun q k _ _ g1 g2 _ => c2 q k (Or.inr ⟨by omega, g2⟩)⟩, ⟨?_, ?_⟩, fun j g1 g2 => ?_⟩
    · rw [c1 _ _ (by omega), p11]; exact Int.le_refl _
    · rw [c2 _ _ (by omega), e7]; exact Int.le_refl _
    · rw [c1 _ _ (by omega), p11] at g2; omega
  refine ⟨za 1, zb 1, a1, (c1 _ _ (by omega)).trans a3, a4, a5, fun i hi => ?_⟩
  have T := ak_sub_T a6 f ⟨Nat.zero_le _, Nat.zero_le _, Nat.zero_le _, Nat.zero_le _, Nat.zero_le _⟩ (Nat.zero_le _) (Or.inl (by omega))
  obtain ⟨_, _, q1, _⟩ := a6
  have q2 := q1.1 2 (by decide)
  have r := T 21 i (by omega) (Nat.le_refl _) (by omega)
  rw [show x + 1000 * 21 = ak_lt (x + 1) 0 + 1000 * 21 from by unfold ak_lt; omega]
  exact r
end REL
