/-! the run: a method begins -/
/-- the one: n free rooms left, r the room, A the stack left, na arguments from A + 1 on, nb beginnings before -/
def ak_mtC (n r many A na mth a nb : Nat) (s w pl ho gd hd : Int) (h h' : ak_S) : Prop :=
  ((h'.1 49 11 = (n : Int) ∧ h'.1 52 r = -1 ∧ h'.1 53 r = (r : Int) ∧ h'.1 54 r = (many : Int) ∧ h'.1 55 r = 0) ∧ h'.1 56 r = s ∧ h'.2.1 57 r = w ∧ h'.1 58 r = pl ∧ h'.1 59 r = ho) ∧ (∀ k, k < 12 → (k < na → h'.1 50 (12 * r + k) = h.1 108 (A + 1 + k) ∧ h'.2.1 51 (12 * r + k) = h.2.1 109 (A + 1 + k)) ∧ (na ≤ k → h'.1 50 (12 * r + k) = 0 ∧ h'.2.1 51 (12 * r + k) = 0)) ∧
  (h'.1 69 7 = ((many + 1 : Nat) : Int) ∧ h'.1 69 8 = h.1 69 8 + hd ∧ h'.1 32 10 = (A : Int)) ∧ (h'.1 70 many = (r : Int) ∧ h'.1 71 many = (mth : Int) ∧ h'.1 72 many = (a : Int) ∧ h'.1 73 many = 0 ∧ h'.1 74 many = (A : Int) ∧ h'.1 75 many = gd ∧ h'.1 76 many = hd) ∧
  (∃ h3 : ak_S, h' = ak_nbg h3 nb mth s w pl ∧ ∀ q k, 64 ≤ q → q ≤ 68 → h3.1 q k = h.1 q k ∧ h3.2.1 q k = h.2.1 q k) ∧
  (∀ q k, ¬ (q = 49 ∧ k = 11) → ¬ (52 ≤ q ∧ q ≤ 59 ∧ k = r) → ¬ (q = 50 ∧ 12 * r ≤ k ∧ k < 12 * r + 12) → ¬ (q = 69 ∧ (k = 7 ∨ k = 8)) → ¬ (70 ≤ q ∧ q ≤ 76 ∧ k = many) → ¬ (q = 32 ∧ k = 10) → q ≠ 68 → h'.1 q k = h.1 q k) ∧ (∀ q k, ¬ (q = 51 ∧ 12 * r ≤ k ∧ k < 12 * r + 12) → ¬ (q = 57 ∧ k = r) → ¬ (q = 64 ∧ k = 6) → q ≠ 66 → h'.2.1 q k = h.2.1 q k) ∧ h'.2.2 = h.2.2
/-- the other: n frames before, m jobs, f' its frame, nb beginnings before, T0 the values left, va vj the arguments -/
def ak_mtM (us n m f' nb T0 na mt : Nat) (s w fa ho hd : Int) (va vj : Nat → Int) (h h' : ak_S) : Prop :=
  ((h'.1 173 f' = 1 ∧ h'.1 174 f' = 0 ∧ h'.1 175 f' = 1 ∧ h'.1 176 f' = hd) ∧ h'.1 177 f' = -1 ∧ h'.1 178 f' = (f' : Int) ∧ h'.1 179 f' = (mt : Int) ∧ h'.1 180 f' = s ∧ h'.2.1 181 f' = w ∧ h'.1 182 f' = (if fa = 0 then -1 else ho + 1) ∧ h'.1 183 f' = 0) ∧ (∀ k, k < 12 → (k < na → h'.1 184 (12 * f' + k) = va k ∧ h'.2.1 185 (12 * f' + k) = vj k) ∧ (na ≤ k → h'.1 184 (12 * f' + k) = 0 ∧ h'.2.1 185 (12 * f' + k) = 0)) ∧
  (h'.1 110 103 = ((n + 1 : Nat) : Int) ∧ h'.1 110 132 = ((m + 2 : Nat) : Int) ∧ h'.1 110 102 = (f' : Int) ∧ h'.1 110 127 = (T0 : Int)) ∧ ((h'.1 201 m = 8 ∧ h'.1 202 m = (f' : Int) ∧ h'.1 203 m = h.1 110 102 ∧ h'.1 204 m = (T0 : Int)) ∧ (h'.1 201 (m + 1) = 2 ∧ h'.1 202 (m + 1) = h.1 125 (40 * us + mt) ∧ h'.1 203 (m + 1) = 0 ∧ h'.1 204 (m + 1) = 0)) ∧
  (h'.1 110 111 = ((nb + 1 : Nat) : Int) ∧ (nb < 300 → h'.1 189 nb = (mt : Int) ∧ h'.1 190 nb = s ∧ h'.2.1 191 nb = w ∧ h'.1 192 nb = fa) ∧ h'.1 186 mt = am_w32 (h.1 186 mt + 1)) ∧
  (∀ q k, ¬ (173 ≤ q ∧ q ≤ 183 ∧ k = f') → ¬ (q = 184 ∧ 12 * f' ≤ k ∧ k < 12 * f' + 12) → ¬ (q = 110 ∧ (k = 102 ∨ k = 103 ∨ k = 111 ∨ k = 127 ∨ k = 132)) → ¬ (201 ≤ q ∧ q ≤ 204 ∧ (k = m ∨ k = m + 1)) → ¬ (189 ≤ q ∧ q ≤ 192 ∧ k = nb) → ¬ (q = 186 ∧ k = mt) → h'.1 q k = h.1 q k) ∧
  (∀ q k, ¬ (q = 185 ∧ 12 * f' ≤ k ∧ k < 12 * f' + 12) → ¬ (q = 181 ∧ k = f') → ¬ (q = 191 ∧ k = nb) → h'.2.1 q k = h.2.1 q k) ∧ h'.2.2 = h.2.2
section MTH
variable {e : ak_X3} {d ρ1 ρ2 u us n m r many A na mth a nb f' T0 : Nat} {ρ : List Nat} {h h1 h' : ak_S} {s w pl ho hd H : Int} {X : Nat → ak_S → Prop} {va vj : Nat → Int}
theorem ak_nbg_o {k q i : Nat} {x : Nat} {p : Int} (b : ¬ (q = 68 ∧ i = x)) : (ak_nbg h k x s w p).1 q i = h.1 q i := ak_up_out1 b
theorem ak_nbg_J {k q i : Nat} {x : Nat} {p : Int} (a : ¬ (q = 64 ∧ i = 6)) (b : q ≠ 66) : (ak_nbg h k x s w p).2.1 q i = h.2.1 q i := by
  unfold ak_nbg
  refine (ak_up_out a).trans ?_
  split
  · exact (ak_up_out (by omega)).trans ((ak_up_out (by omega)).trans ((ak_up_out (by omega)).trans (ak_up_out (by omega))))
  · rfl
theorem am_c93 {Q : ak_S → Prop} (hu : u = 0 ∨ u = 1) (h7 : h.1 69 7 = (many : Int)) (hm60 : many ≤ 60) (h13 : h.1 32 13 = (na : Int)) (hna : na ≤ 4) (h10 : h.1 32 10 = ((A + na + 1 : Nat) : Int)) (hat : A + na + 1 < 12600) (h8 : h.1 69 8 = H) (hH : 0 ≤ H ∧ H ≤ 60) (h14 : h.1 32 14 = pl) (h15 : h.1 32 15 = ho) (h16 : h.1 32 16 = hd) (hhd : hd = 0 ∨ hd = 1) (r1 : h.1 108 A = s) (r2 : h.2.1 109 A = w) (h64 : h.2.1 64 6 = (nb : Int)) (nb2 : nb < 2000000000) (hmth : mth < 40) (hst : h.1 (ak_T u + 13) mth = (a : Int))
    (fr : many < 60 → h.1 49 11 = ((n + 1 : Nat) : Int) ∧ n < 560 ∧ h.1 60 n = (r : Int) ∧ r < 560) (q1 : many < 60 → ∀ h', ak_mtC n r many A na mth a nb s w pl ho (h.1 77 4) hd h h' → Q h') (q0 : many = 60 → Q (am_up h.1 32 11 3, h.2)) : ak_MV e 0 (d + 6) (ak_rc u ρ1 ρ2) 93 [am_r 32, am_i (mth : Int)] h Q X := by
  refine ak_MV_of (Nat.le_of_ble_eq_true rfl) (am_k93_0 hu ?_)
  rw [h10, h13, ak_an (show A + na + 1 ≤ 12600 by omega), ak_ifA, ak_natn, ak_natn, hst]
  have bA : 0 ≤ (A : Int) ∧ (A : Int) < 12600 := by omega
  refine ⟨by omega, am_s94 (d := d) (n := n) (r := r) (many := many) (at' := A) (na := na) (ar := -1) (mt := (mth : Int)) (st := (a : Int)) (hd := hd) (H := H) hu h7 hm60 h13 hna h10 hat (by decide) h8 hH h16 hhd fr (fun h60 h1 bg => ⟨fun z => absurd z (by omega), fun _ => ?_⟩) (fun z => ⟨fun _ => q0 z, fun y => absurd y (by decide)⟩)⟩
  obtain ⟨f1, f2, f3, f4⟩ := fr h60
  rw [if_pos (by decide)] at bg
  obtain ⟨⟨b1, b2, b3, b4, b5⟩, bw, ⟨b6, b7, b8⟩, ⟨b9, b10, b11, b12, b13, b14, b15⟩, bO, bJ, b22⟩ := bg
  have e1 : h1.1 108 A = s := (bO _ _ (by omega) (by omega) (by omega) (by omega) (by omega) (by omega)).trans r1
  have e2 : h1.2.1 109 A = w := (bJ _ _ (by omega)).trans r2
  have e3 : h1.1 32 14 = pl := (bO _ _ (by omega) (by omega) (by omega) (by omega) (by omega) (by omega)).trans h14
  have e4 : h1.1 32 15 = ho := (bO _ _ (by omega) (by omega) (by omega) (by omega) (by omega) (by omega)).trans h15
  have e5 : h1.2.1 64 6 = (nb : Int) := (bJ _ _ (by omega)).trans h64
  rw [e1, e2, e3, e4]
  have br : 0 ≤ (r : Int) ∧ (r : Int) < 560 := by omega
  refine ⟨bA, bA, ak_MV_of (Nat.le_of_ble_eq_true rfl) (am_k141_0 ⟨br, br, br, br, ?_⟩)⟩
  rw [ak_natn]
  have P : ∀ q k, ¬ ((q = 56 ∨ q = 58 ∨ q = 59) ∧ k = r) → ((am_up (am_up (am_up h1.1 56 r s) 58 r pl) 59 r ho, am_up h1.2.1 57 r w, h1.2.2) : ak_S).1 q k = h1.1 q k := fun q k a => (ak_up_out1 (by omega)).trans ((ak_up_out (by omega)).trans (ak_up_out (by omega)))
  have PJ : ∀ q k, ¬ (q = 57 ∧ k = r) → ((am_up (am_up (am_up h1.1 56 r s) 58 r pl) 59 r ho, am_up h1.2.1 57 r w, h1.2.2) : ak_S).2.1 q k = h1.2.1 q k := fun q k a => ak_up_out a
  have Pv : ((am_up (am_up (am_up h1.1 56 r s) 58 r pl) 59 r ho, am_up h1.2.1 57 r w, h1.2.2) : ak_S).1 56 r = s ∧ ((am_up (am_up (am_up h1.1 56 r s) 58 r pl) 59 r ho, am_up h1.2.1 57 r w, h1.2.2) : ak_S).2.1 57 r = w ∧ ((am_up (am_up (am_up h1.1 56 r s) 58 r pl) 59 r ho, am_up h1.2.1 57 r w, h1.2.2) : ak_S).1 58 r = pl ∧ ((am_up (am_up (am_up h1.1 56 r s) 58 r pl) 59 r ho, am_up h1.2.1 57 r w, h1.2.2) : ak_S).1 59 r = ho := by simp [am_up]
  have P22 : ((am_up (am_up (am_up h1.1 56 r s) 58 r pl) 59 r ho, am_up h1.2.1 57 r w, h1.2.2) : ak_S).2.2 = h1.2.2 := rfl
  generalize ((am_up (am_up (am_up h1.1 56 r s) 58 r pl) 59 r ho, am_up h1.2.1 57 r w, h1.2.2) : ak_S) = h2 at P PJ Pv P22 ⊢
  rw [P 108 A (by omega), e1, PJ 109 A (by omega), e2, P 32 14 (by omega), e3]
  refine ⟨bA, bA, am_s66 (d := d + 4) (n := nb) (m := mth) ((PJ _ _ (by omega)).trans e5) nb2 hmth ?_⟩
  have N : ∀ q i, ¬ (q = 68 ∧ i = mth) → (ak_nbg h2 nb mth s w pl).1 q i = h2.1 q i := fun q i a => ak_nbg_o a
  have NJ : ∀ q i, ¬ (q = 64 ∧ i = 6) → q ≠ 66 → (ak_nbg h2 nb mth s w pl).2.1 q i = h2.2.1 q i := fun q i a b => ak_nbg_J a b
  have N22 : (ak_nbg h2 nb mth s w pl).2.2 = h2.2.2 := rfl
  have B : ∀ q k, ¬ ((q = 56 ∨ q = 58 ∨ q = 59) ∧ k = r) → q ≠ 68 → (ak_nbg h2 nb mth s w pl).1 q k = h1.1 q k := fun q k a b => (N q k (by omega)).trans (P q k a)
  obtain ⟨v1, v2, v3, v4⟩ := Pv
  have ex : ∃ h3 : ak_S, ak_nbg h2 nb mth s w pl = ak_nbg h3 nb mth s w pl ∧ ∀ q k, 64 ≤ q → q ≤ 68 → h3.1 q k = h.1 q k ∧ h3.2.1 q k = h.2.1 q k := ⟨h2, rfl, fun q k a b => ⟨(P q k (by omega)).trans (bO q k (by omega) (by omega) (by omega) (by omega) (by omega) (by omega)), (PJ q k (by omega)).trans (bJ q k (by omega))⟩⟩
  refine q1 h60 _ ⟨⟨⟨(B _ _ (by omega) (by omega)).trans b1, (B _ _ (by omega) (by omega)).trans b2, (B _ _ (by omega) (by omega)).trans b3, (B _ _ (by omega) (by omega)).trans b4, (B _ _ (by omega) (by omega)).trans b5⟩, (N _ _ (by omega)).trans v1, (NJ _ _ (by omega) (by omega)).trans v2, (N _ _ (by omega)).trans v3, (N _ _ (by omega)).trans v4⟩, fun k hk => ?_, ⟨(B _ _ (by omega) (by omega)).trans b6, (B _ _ (by omega) (by omega)).trans b7, (B _ _ (by omega) (by omega)).trans b8⟩,
    ⟨(B _ _ (by omega) (by omega)).trans b9, (B _ _ (by omega) (by omega)).trans b10, (B _ _ (by omega) (by omega)).trans b11, (B _ _ (by omega) (by omega)).trans b12, (B _ _ (by omega) (by omega)).trans b13, (B _ _ (by omega) (by omega)).trans b14, (B _ _ (by omega) (by omega)).trans b15⟩, ex,
    fun q k a1 a2 a3 a4 a5 a6 a7 => (B q k (by omega) a7).trans (bO q k a1 (by omega) a3 a4 a5 a6), fun q k a1 a2 a3 a4 => (NJ q k a3 a4).trans ((PJ q k a2).trans (bJ q k a1)), N22.trans (P22.trans b22)⟩
  rw [B _ _ (by omega) (by omega), NJ _ _ (by omega) (by omega), PJ _ _ (by omega)]
  exact bw k hk
/-- the other, behind the arguments -/
theorem ak_mtM_of (bm : ak_bmM us n m f' nb mth s w pl ho (am_up h.1 110 127 (T0 : Int), h.2) h1) (ws : ∀ k, k < na → h'.1 184 (12 * f' + k) = va k ∧ h'.2.1 185 (12 * f' + k) = vj k) (m176 : h'.1 176 f' = hd) (hO : ∀ q k, ¬ (q = 184 ∧ 12 * f' ≤ k ∧ k < 12 * f' + na) → ¬ (q = 176 ∧ k = f') → h'.1 q k = h1.1 q k) (hJ : ∀ q k, ¬ (q = 185 ∧ 12 * f' ≤ k ∧ k < 12 * f' + na) → h'.2.1 q k = h1.2.1 q k) (h22 : h'.2.2 = h1.2.2) (hna : na ≤ 4) : ak_mtM us n m f' nb T0 na mth s w pl ho hd va vj h h' := by
  obtain ⟨⟨⟨a1, a2, a3, a4⟩, a5, a6, a7, a8, a9, a10, a11⟩, bw, ⟨b1, b2, b3⟩, ⟨⟨c1, c2, c3, c4⟩, c5, c6, c7, c8⟩, ⟨j1, j2, j3⟩, mO, mJ, m22⟩ := bm
  have G : ∀ q k, ¬ (q = 110 ∧ k = 127) → ((am_up h.1 110 127 (T0 : Int), h.2) : ak_S).1 q k = h.1 q k := fun q k a => ak_up_out1 a
  have G1 : ((am_up h.1 110 127 (T0 : Int), h.2) : ak_S).1 110 127 = (T0 : Int) := ak_up_at1
  have G2 : ((am_up h.1 110 127 (T0 : Int), h.2) : ak_S).2 = h.2 := rfl
  generalize ((am_up h.1 110 127 (T0 : Int), h.2) : ak_S) = hG at G G1 G2 c3 c4 c6 j3 mO mJ m22
  have O : ∀ q k, q ≠ 184 → q ≠ 176 → h'.1 q k = h1.1 q k := fun q k a b => hO q k (by omega) (by omega)
  rw [G2] at mJ m22
  refine ⟨⟨⟨(O _ _ (by omega) (by omega)).trans a1, (O _ _ (by omega) (by omega)).trans a2, (O _ _ (by omega) (by omega)).trans a3, m176⟩, (O _ _ (by omega) (by omega)).trans a5, (O _ _ (by omega) (by omega)).trans a6, (O _ _ (by omega) (by omega)).trans a7, (O _ _ (by omega) (by omega)).trans a8, (hJ _ _ (by omega)).trans a9, (O _ _ (by omega) (by omega)).trans a10, (O _ _ (by omega) (by omega)).trans a11⟩, fun k hk => ⟨ws k, fun g => ?_⟩,
    ⟨(O _ _ (by omega) (by omega)).trans b1, (O _ _ (by omega) (by omega)).trans b2, (O _ _ (by omega) (by omega)).trans b3, (O _ _ (by omega) (by omega)).trans ((mO _ _ (by omega) (by omega) (by omega) (by omega) (by omega) (by omega)).trans G1)⟩,
    ⟨⟨(O _ _ (by omega) (by omega)).trans c1, (O _ _ (by omega) (by omega)).trans c2, (O _ _ (by omega) (by omega)).trans (c3.trans (G _ _ (by omega))), (O _ _ (by omega) (by omega)).trans (c4.trans G1)⟩, (O _ _ (by omega) (by omega)).trans c5, (O _ _ (by omega) (by omega)).trans (c6.trans (G _ _ (by omega))), (O _ _ (by omega) (by omega)).trans c7, (O _ _ (by omega) (by omega)).trans c8⟩,
    ⟨(O _ _ (by omega) (by omega)).trans j1, fun g => ?_, ?_⟩, fun q k x1 x2 x3 x4 x5 x6 => (hO q k (by omega) (by omega)).trans ((mO q k x1 x2 (by omega) x4 x5 x6).trans (G q k (by omega))), fun q k x1 x2 x3 => (hJ q k (by omega)).trans (mJ q k x1 x2 x3), h22.trans m22⟩
  · rw [hO _ _ (by omega) (by omega), hJ _ _ (by omega)]
    exact bw k hk
  · obtain ⟨y1, y2, y3, y4⟩ := j2 g
    exact ⟨(O _ _ (by omega) (by omega)).trans y1, (O _ _ (by omega) (by omega)).trans y2, (hJ _ _ (by omega)).trans y3, (O _ _ (by omega) (by omega)).trans y4⟩
  · rw [O _ _ (by omega) (by omega), j3, G _ _ (by omega)]
end MTH
