/-! the law's loop out of what each call does -/
def ak_r32 (x : Int) : Prop := -2147483648 ≤ x ∧ x < 2147483648
def ak_r64 (x : Int) : Prop := -9223372036854775808 ≤ x ∧ x < 9223372036854775808
theorem ak_i64 (v : Int64) : ak_r64 v.toInt := by
  have h1 := Int64.le_toInt v
  have h2 := Int64.toInt_lt v
  exact ⟨by omega, by omega⟩
theorem ak_sc {e : ak_X3} (hX : ∀ k, ak_r32 (e.2 k)) (j : Nat) : ak_r32 (am_I0 e.2 (am_SP + 2) j) := by
  rw [am_I2]; exact hX j
theorem ak_wL {L : Nat} (h : L ≤ 3072) : am_w32 ((L : Int) - 6) = (L : Int) - 6 := ak_w _ (by omega)
theorem ak_w6 {n : Nat} (h : n < 1000) : am_w32 (((6 * n : Nat) : Int) + 6) = ((6 * (n + 1) : Nat) : Int) := by
  rw [ak_w (((6 * n : Nat) : Int) + 6) (by omega)]
  omega
theorem ak_wb {n L : Nat} (h : 6 * n + 6 ≤ L) (hL : L ≤ 3072) (k : Int) (h1 : 1 ≤ k) (h2 : k ≤ 5) : 0 ≤ am_w32 (((6 * n : Nat) : Int) + k) ∧ am_w32 (((6 * n : Nat) : Int) + k) < (L : Int) := by
  rw [ak_w (((6 * n : Nat) : Int) + k) (by omega)]
  omega
def ak_calls (e : ak_X3) (d : Nat) (ρ : List Nat) (hc hm : ak_S) (R : List Nat → ak_S → ak_S → Prop) : Prop :=
  (∀ x0 x1 x2 x3 x4 : Int, ak_r32 x0 → ak_r32 x1 → ak_r32 x2 → ak_r32 x3 → ak_r32 x4 → ak_cI e d ρ 166 199 [am_i x0, am_i x1, am_i x2, am_i x3, am_i x4] hc hm [(3, 1)] (R ρ)) ∧
  (∀ x0 : Int, ak_r32 x0 → ak_cV e d ρ 167 200 [am_i x0] hc hm [(1, 1)] (R ρ)) ∧
  (∀ x0 : Int, ak_r32 x0 → ak_cV e d ρ 169 300 [am_i x0] hc hm [(1, 1)] (R ρ)) ∧
  (∀ x0 x1 x2 : Int, ak_r32 x0 → ak_r64 x1 → ak_r64 x2 → ak_cI e d ρ 171 302 [am_i x0, am_l x1, am_l x2] hc hm [(0, 1), (1, 2)] (R ρ)) ∧
  (∀ x0 : Int, ak_r32 x0 → ak_cJ e d ρ 172 303 [am_i x0] hc hm [(0, 1), (1, 2)] (R ρ)) ∧
  (∀ x0 x1 : Int, ak_r32 x0 → ak_r32 x1 → ak_cJ e d ρ 173 304 [am_i x0, am_i x1] hc hm [(0, 1), (1, 3), (2, 2)] (R ρ)) ∧
  (∀ x0 x1 : Int, ak_r32 x0 → ak_r32 x1 → ak_cJ e d ρ 174 305 [am_i x0, am_i x1] hc hm [(0, 1), (1, 3), (2, 2)] (R ρ)) ∧
  (∀ x0 x1 : Int, ak_r32 x0 → ak_r32 x1 → ak_cJ e d ρ 175 306 [am_i x0, am_i x1] hc hm [(0, 1), (1, 3), (2, 2)] (R ρ)) ∧
  (∀ x0 : Int, ak_r32 x0 → ak_cI e d ρ 176 307 [am_i x0] hc hm [(0, 1), (2, 2)] (R ρ)) ∧
  (∀ x0 x1 x2 x3 : Int, ak_r32 x0 → ak_r32 x1 → ak_r32 x2 → ak_r64 x3 → ak_cI e d ρ 177 310 [am_i x0, am_i x1, am_i x2, am_l x3] hc hm [(0, 1), (1, 2), (2, 3)] (R ρ)) ∧
  (∀ x0 : Int, ak_r32 x0 → ak_cI e d ρ 178 311 [am_i x0] hc hm [(0, 1), (1, 2)] (R ρ)) ∧
  (∀ x0 x1 : Int, ak_r32 x0 → ak_r32 x1 → ak_cI e d ρ 179 312 [am_i x0, am_i x1] hc hm [(0, 1), (2, 2)] (R ρ)) ∧
  (∀ x0 : Int, ak_r32 x0 → ak_cI e d ρ 180 313 [am_i x0] hc hm [(0, 1), (2, 2)] (R ρ)) ∧
  (∀ x0 x1 : Int, ak_r32 x0 → ak_r32 x1 → ak_cI e d ρ 181 314 [am_i x0, am_i x1] hc hm [(0, 1), (1, 3), (2, 2)] (R ρ)) ∧
  (∀ x0 x1 x2 : Int, ak_r32 x0 → ak_r32 x1 → ak_r32 x2 → ak_cI e d ρ 182 315 [am_i x0, am_i x1, am_i x2] hc hm [(0, 1), (2, 2)] (R ρ)) ∧
  (∀ x0 x1 x2 : Int, ak_r32 x0 → ak_r32 x1 → ak_r32 x2 → ak_cJ e d ρ 183 316 [am_i x0, am_i x1, am_i x2] hc hm [(0, 1), (1, 3), (2, 2)] (R ρ)) ∧
  (∀ x0 x1 : Int, ak_r32 x0 → ak_r32 x1 → ak_cI e d ρ 184 317 [am_i x0, am_i x1] hc hm [(0, 1), (2, 2)] (R ρ)) ∧
  (∀ x0 x1 x2 : Int, ak_r32 x0 → ak_r32 x1 → ak_r32 x2 → ak_cI e d ρ 185 318 [am_i x0, am_i x1, am_i x2] hc hm [(0, 1), (1, 3), (2, 2)] (R ρ)) ∧
  (∀ x0 x1 : Int, ak_r32 x0 → ak_r32 x1 → ak_cI e d ρ 186 319 [am_i x0, am_i x1] hc hm [(0, 1), (1, 3), (2, 2)] (R ρ)) ∧
  (∀ x0 x1 x2 : Int, ak_r32 x0 → ak_r32 x1 → ak_r32 x2 → ak_cI e d ρ 187 321 [am_i x0, am_i x1, am_i x2] hc hm [(0, 1), (1, 3), (2, 2)] (R ρ)) ∧
  (∀ x0 x1 x2 : Int, ak_r32 x0 → ak_r32 x1 → ak_r32 x2 → ak_cZ e d ρ 188 322 [am_i x0, am_i x1, am_i x2] hc hm [(0, 1), (2, 2)] (R ρ)) ∧
  (ak_cI e d ρ 189 323 [] hc hm [(0, 1)] (R ρ)) ∧
  (∀ x0 x1 : Int, ak_r32 x0 → ak_r32 x1 → ak_cI e d ρ 190 324 [am_i x0, am_i x1] hc hm [(0, 1), (1, 3), (2, 2)] (R ρ)) ∧
  (ak_cI e d ρ 191 326 [] hc hm [(0, 1)] (R ρ)) ∧
  ak_cF e d ρ hc hm (R ρ) ∧
  ak_cL e d ρ hc hm R
theorem am_loop {e : ak_X3} {d : Nat} (hL : e.1 ≤ 3072) (hX : ∀ k, ak_r32 (e.2 k)) {Rel : Nat → List Nat → ak_S → ak_S → Prop} (hs : ∀ n ρ hc hm, 6 * n + 6 ≤ e.1 → Rel n ρ hc hm → Rel (n + 1) ρ hc hm ∧ ak_calls e d ρ hc hm (Rel (n + 1)))
    {Q : List Nat → ak_R3 → Prop} (hQ : ∀ n ρ hc hm o, Rel n ρ hc hm → Q ρ (.inl (some (.inl 1), ak_mrg hc hm o))) : ∀ (c n : Nat) (ρ : List Nat) (hc hm : ak_S) (o : Int), e.1 < 6 * (n + c) + 6 → Rel n ρ hc hm →
    ak_W1 e 2 (d + 1) 0 ρ 23 [some (am_r (am_SP + 2)), some (am_r 1), some (am_r 110), some (am_r 211), some (am_i ((6 * n : Nat) : Int)), none, none, none] [] (ak_mrg hc hm o) Q := by
  intro c
  induction c with
  | zero =>
    intro n ρ hc hm o hc0 hr
    refine am_j0_23 ⟨fun _ => ⟨Or.inr rfl, hQ n ρ hc hm o hr⟩, fun h0 => ?_⟩
    exfalso
    rw [ak_wL hL] at h0
    omega
  | succ c ih =>
    intro n ρ hc hm o hc0 hr
    by_cases hn : 6 * n + 6 ≤ e.1
    · obtain ⟨R1, C⟩ := hs n ρ hc hm hn hr
      have hb := ak_wb hn hL
      have nx : ∀ ρ' hc' hm' o', Rel (n + 1) ρ' hc' hm' → ak_W1 e 2 (d + 1) 0 ρ' 23 [some (am_r (am_SP + 2)), some (am_r 1), some (am_r 110), some (am_r 211), some (am_i (am_w32 (((6 * n : Nat) : Int) + 6))), none, none, none] [] (ak_mrg hc' hm' o') Q := by
        intro ρ' hc' hm' o' r
        rw [ak_w6 (show n < 1000 by omega)]
        exact ih (n + 1) ρ' hc' hm' o' (by omega) r
      have hb0 : 0 ≤ ((6 * n : Nat) : Int) ∧ ((6 * n : Nat) : Int) < (e.1 : Int) := by omega
      refine am_j0_23 ⟨fun _ => ⟨Or.inr rfl, hQ n ρ hc hm o hr⟩, fun _ => ⟨hb0, trivial, fun _ => nx _ _ _ _ R1, fun _ => am_lc160 hb (C.1 _ _ _ _ _ (ak_sc hX _) (ak_sc hX _) (ak_sc hX _) (ak_sc hX _) (ak_sc hX _)) (fun hc' hm' o' r => nx _ _ _ _ r),
        fun _ => am_lc264 hb (C.2.1 _ (ak_sc hX _)) (fun hc' hm' o' r => nx _ _ _ _ r),
        fun _ => am_lc300 C.2.2.2.2.2.2.2.2.2.2.2.2.2.2.2.2.2.2.2.2.2.2.2.2.2 nx,
        fun _ => am_lc313 hb (C.2.2.1 _ (ak_sc hX _)) (fun hc' hm' o' r => nx _ _ _ _ r),
        fun _ => am_j0_349 (am_lc349a C.2.2.2.2.2.2.2.2.2.2.2.2.2.2.2.2.2.2.2.2.2.2.2.2.1 (fun hc' hm' o' r => nx _ _ _ _ r)),
        fun _ => am_lc360 hb (C.2.2.2.1 _ _ _ (ak_sc hX _) (ak_i64 _) (ak_i64 _)) (fun hc' hm' o' r => nx _ _ _ _ r),
        fun _ => am_lc504 hb (C.2.2.2.2.1 _ (ak_sc hX _)) (fun hc' hm' o' r => nx _ _ _ _ r),
        fun _ => am_lc559 hb (C.2.2.2.2.2.1 _ _ (ak_sc hX _) (ak_sc hX _)) (fun hc' hm' o' r => nx _ _ _ _ r),
        fun _ => am_lc626 hb (C.2.2.2.2.2.2.1 _ _ (ak_sc hX _) (ak_sc hX _)) (fun hc' hm' o' r => nx _ _ _ _ r),
        fun _ => am_lc693 hb (C.2.2.2.2.2.2.2.1 _ _ (ak_sc hX _) (ak_sc hX _)) (fun hc' hm' o' r => nx _ _ _ _ r),
        fun _ => am_lc760 hb (C.2.2.2.2.2.2.2.2.1 _ (ak_sc hX _)) (fun hc' hm' o' r => nx _ _ _ _ r),
        fun _ => am_lc816 hb (C.2.2.2.2.2.2.2.2.2.1 _ _ _ _ (ak_sc hX _) (ak_sc hX _) (ak_sc hX _) (ak_i64 _)) (fun hc' hm' o' r => nx _ _ _ _ r),
        fun _ => am_lc940 hb (C.2.2.2.2.2.2.2.2.2.2.1 _ (ak_sc hX _)) (fun hc' hm' o' r => nx _ _ _ _ r),
        fun _ => am_lc996 hb (C.2.2.2.2.2.2.2.2.2.2.2.1 _ _ (ak_sc hX _) (ak_sc hX _)) (fun hc' hm' o' r => nx _ _ _ _ r),
        fun _ => am_lc1064 hb (C.2.2.2.2.2.2.2.2.2.2.2.2.1 _ (ak_sc hX _)) (fun hc' hm' o' r => nx _ _ _ _ r),
        fun _ => am_lc1120 hb (C.2.2.2.2.2.2.2.2.2.2.2.2.2.1 _ _ (ak_sc hX _) (ak_sc hX _)) (fun hc' hm' o' r => nx _ _ _ _ r),
        fun _ => am_lc1188 hb (C.2.2.2.2.2.2.2.2.2.2.2.2.2.2.1 _ _ _ (ak_sc hX _) (ak_sc hX _) (ak_sc hX _)) (fun hc' hm' o' r => nx _ _ _ _ r),
        fun _ => am_lc1268 hb (C.2.2.2.2.2.2.2.2.2.2.2.2.2.2.2.1 _ _ _ (ak_sc hX _) (ak_sc hX _) (ak_sc hX _)) (fun hc' hm' o' r => nx _ _ _ _ r),
        fun _ => am_lc1347 hb (C.2.2.2.2.2.2.2.2.2.2.2.2.2.2.2.2.1 _ _ (ak_sc hX _) (ak_sc hX _)) (fun hc' hm' o' r => nx _ _ _ _ r),
        fun _ => am_lc1415 hb (C.2.2.2.2.2.2.2.2.2.2.2.2.2.2.2.2.2.1 _ _ _ (ak_sc hX _) (ak_sc hX _) (ak_sc hX _)) (fun hc' hm' o' r => nx _ _ _ _ r),
        fun _ => am_lc1495 hb (C.2.2.2.2.2.2.2.2.2.2.2.2.2.2.2.2.2.2.1 _ _ (ak_sc hX _) (ak_sc hX _)) (fun hc' hm' o' r => nx _ _ _ _ r),
        fun _ => am_lc1563 hb (C.2.2.2.2.2.2.2.2.2.2.2.2.2.2.2.2.2.2.2.1 _ _ _ (ak_sc hX _) (ak_sc hX _) (ak_sc hX _)) (fun hc' hm' o' r => nx _ _ _ _ r),
        fun _ => am_lc1643 hb (C.2.2.2.2.2.2.2.2.2.2.2.2.2.2.2.2.2.2.2.2.1 _ _ _ (ak_sc hX _) (ak_sc hX _) (ak_sc hX _)) (fun hc' hm' o' r => nx _ _ _ _ r),
        fun _ => am_lc1730 hb (C.2.2.2.2.2.2.2.2.2.2.2.2.2.2.2.2.2.2.2.2.2.1  ) (fun hc' hm' o' r => nx _ _ _ _ r),
        fun _ => am_lc1774 hb (C.2.2.2.2.2.2.2.2.2.2.2.2.2.2.2.2.2.2.2.2.2.2.1 _ _ (ak_sc hX _) (ak_sc hX _)) (fun hc' hm' o' r => nx _ _ _ _ r),
        fun _ => am_lc1842 hb (C.2.2.2.2.2.2.2.2.2.2.2.2.2.2.2.2.2.2.2.2.2.2.2.1  ) (fun hc' hm' o' r => nx _ _ _ _ r), trivial⟩⟩
    · refine am_j0_23 ⟨fun _ => ⟨Or.inr rfl, hQ n ρ hc hm o hr⟩, fun h0 => ?_⟩
      exfalso
      rw [ak_wL hL] at h0
      omega
