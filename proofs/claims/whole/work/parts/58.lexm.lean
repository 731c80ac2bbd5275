/-! the other's bytes and keywords -/
def ak_keys : List Int := [109, 101, 116, 104, 111, 100, 0, 0, 118, 97, 114, 0, 0, 0, 0, 0, 105, 102, 0, 0, 0, 0, 0, 0, 101, 108, 115, 101, 0, 0, 0, 0, 119, 104, 105, 108, 101, 0, 0, 0, 114, 101, 116, 117, 114, 110, 0, 0, 97, 110, 115, 119, 101, 114, 0, 0, 119, 114, 105, 116, 101, 0, 0, 0, 102, 97, 105, 108, 0, 0, 0, 0, 103, 117, 97, 114, 100, 0, 0, 0, 111, 110, 0, 0, 0, 0, 0, 0, 101, 110, 115, 117, 114, 101, 0, 0, 115, 101, 116, 0, 0, 0, 0, 0, 97, 100, 100, 0, 0, 0, 0, 0, 103, 105, 118, 101, 0, 0, 0, 0, 100, 114, 111, 112, 0, 0, 0, 0, 108, 105, 110, 107, 0, 0, 0, 0, 117, 110, 108, 105, 110, 107, 0, 0, 99, 108, 111, 110, 101, 0, 0, 0, 110, 101, 119, 0, 0, 0, 0, 0, 110, 105, 108, 0, 0, 0, 0, 0, 115, 101, 108, 102, 0, 0, 0, 0, 108, 111, 98, 98, 121, 0, 0, 0, 97, 98, 111, 118, 101, 0, 0, 0]
def ak_kl : List Nat := [6, 3, 2, 4, 5, 6, 6, 5, 4, 5, 2, 6, 3, 3, 4, 4, 4, 6, 5, 3, 3, 4, 5, 5]
theorem ak_keys_ok : ∀ k, k < 24 → (ak_kl.getD k 0 ≤ 7 ∧ ak_kws.getD k 0 = ak_pk (fun x => ak_keys.getD (8 * k + x) 0) 0 (ak_kl.getD k 0)) ∧ ∀ x, x < 8 → (x < ak_kl.getD k 0 → 97 ≤ ak_keys.getD (8 * k + x) 0 ∧ ak_keys.getD (8 * k + x) 0 ≤ 122) ∧ (ak_kl.getD k 0 ≤ x → ak_keys.getD (8 * k + x) 0 = 0) := by decide +kernel
theorem ak_pk_inj {b b' : Nat → Int} {i i' : Nat} : ∀ (m m' : Nat), (∀ k, k < m → ak_isL (b (i + k))) → (∀ k, k < m' → ak_isL (b' (i' + k))) → ak_pk b i m = ak_pk b' i' m' → m = m' ∧ ∀ k, k < m → b (i + k) = b' (i' + k)
  | 0, 0, _, _, _ => ⟨rfl, fun k hk => absurd hk (Nat.not_lt_zero _)⟩
  | 0, m' + 1, _, h2, he => by
    have h3 := ak_pk_in (b := b') (i := i') m' (fun k hk => h2 k (by omega))
    have h4 := h2 m' (by omega)
    unfold ak_isL at h4
    have he2 : (0 : Int) = ak_pk b' i' m' * 32 + (b' (i' + m') - 96) := he
    omega
  | m + 1, 0, h1, _, he => by
    have h3 := ak_pk_in (b := b) (i := i) m (fun k hk => h1 k (by omega))
    have h4 := h1 m (by omega)
    unfold ak_isL at h4
    have he2 : ak_pk b i m * 32 + (b (i + m) - 96) = 0 := he
    omega
  | m + 1, m' + 1, h1, h2, he => by
    have g1 := h1 m (by omega)
    have g2 := h2 m' (by omega)
    unfold ak_isL at g1 g2
    have he2 : ak_pk b i m * 32 + (b (i + m) - 96) = ak_pk b' i' m' * 32 + (b' (i' + m') - 96) := he
    obtain ⟨e1, e2⟩ := ak_pk_inj m m' (fun k hk => h1 k (by omega)) (fun k hk => h2 k (by omega)) (by omega)
    subst e1
    refine ⟨rfl, fun k hk => ?_⟩
    by_cases hkm : k = m
    · subst hkm; omega
    · exact e2 k (by omega)
theorem ak_pk_congr {b b' : Nat → Int} {i i' : Nat} : ∀ (m : Nat), (∀ k, k < m → b (i + k) = b' (i' + k)) → ak_pk b i m = ak_pk b' i' m
  | 0, _ => rfl
  | m + 1, h => by
    unfold ak_pk
    rw [ak_pk_congr m (fun k hk => h k (by omega)), h m (by omega)]
/-- a row of the keywords tells a word -/
def ak_mk (b : Nat → Int) (i m k : Nat) : Prop := ∀ x, x < 8 → ak_keys.getD (8 * k + x) 0 = if x < m then b (i + x) else 0
theorem ak_mk_iff {b : Nat → Int} {i m k : Nat} (hk : k < 24) (hm : m ≤ 7) (hl : ∀ x, x < m → ak_isL (b (i + x))) : ak_mk b i m k ↔ ak_kws.getD k 0 = ak_pk b i m := by
  obtain ⟨⟨h1, h2⟩, h3⟩ := ak_keys_ok k hk
  constructor
  · intro hmk
    have e1 : m = ak_kl.getD k 0 := by
      rcases Nat.lt_trichotomy m (ak_kl.getD k 0) with g | g | g
      · have a1 := hmk m (by omega)
        have a2 := (h3 m (by omega)).1 g
        rw [if_neg (by omega)] at a1
        omega
      · exact g
      · have a1 := hmk (ak_kl.getD k 0) (by omega)
        have a2 := (h3 (ak_kl.getD k 0) (by omega)).2 (Nat.le_refl _)
        have a3 := hl (ak_kl.getD k 0) g
        rw [if_pos g] at a1
        unfold ak_isL at a3
        omega
    rw [h2, ← e1]
    refine ak_pk_congr m (fun x hx => ?_)
    have a1 := hmk x (by omega)
    rw [if_pos hx] at a1
    rw [← a1, Nat.zero_add]
  · intro he
    rw [h2] at he
    obtain ⟨e1, e2⟩ := ak_pk_inj _ _ (fun x hx => by rw [Nat.zero_add]; exact (h3 x (by omega)).1 hx) hl he
    intro x hx
    by_cases hxm : x < m
    · rw [if_pos hxm]
      have := e2 x (by omega)
      rw [Nat.zero_add] at this
      exact this
    · rw [if_neg hxm]
      exact (h3 x hx).2 (by omega)
theorem ak_kidx_big {w : Int} : ∀ (l : List Int) (k : Int), (∀ x ∈ l, x ≠ w) → ak_kidx w l k = 2
  | [], _, _ => rfl
  | x :: r, k, h => by
    unfold ak_kidx
    rw [if_neg (h x List.mem_cons_self)]
    exact ak_kidx_big r (k + 1) (fun y hy => h y (List.mem_cons_of_mem _ hy))
theorem ak_kws_lt : ∀ x ∈ ak_kws, x < 34359738368 := by decide
theorem ak_w8x {k x : Nat} (hk : k < 24) (hx : x < 8) : am_w32 (am_w32 (8 * (k : Int)) + (x : Int)) = ((8 * k + x : Nat) : Int) := by
  rw [ak_w (8 * (k : Int)) (by omega), ak_w (8 * (k : Int) + (x : Int)) (by omega)]
  omega
theorem ak_wadd {i x : Nat} (h : i + x < 1000000) : am_w32 ((i : Int) + (x : Int)) = ((i + x : Nat) : Int) := by
  rw [ak_w ((i : Int) + (x : Int)) (by omega)]
  omega
theorem ak_wmul {c p j : Nat} (h : c * p + j < 1000000) : am_w32 (am_w32 ((c : Int) * (p : Int)) + (j : Int)) = ((c * p + j : Nat) : Int) := by
  have h1 : (c : Int) * (p : Int) = ((c * p : Nat) : Int) := by push_cast; rfl
  rw [h1, ak_w (((c * p : Nat) : Int)) (by omega), ak_w (((c * p : Nat) : Int) + (j : Int)) (by omega)]
  omega
/-- what the other has of its text -/
def ak_mt (hm : ak_S) (p n : Nat) (b : Nat → Int) : Prop := hm.1 110 31 = (p : Int) ∧ p < 2 ∧ hm.1 113 p = (n : Int) ∧ n ≤ 6000 ∧ (∀ k, k < n → hm.1 112 (6000 * p + k) = b k % 256 ∧ -128 ≤ b k ∧ b k < 128) ∧ ∀ k, k < 192 → hm.1 137 k = ak_keys.getD k 0
section LEXM
variable {e : ak_X3} {d : Nat} {ρ : List Nat} {h : ak_S} {p n : Nat} {b : Nat → Int}
theorem am_s201 {Q : Int → ak_S → Prop} {X : Nat → ak_S → Prop} {j : Nat} (hm : ak_mt h p n b) (w1 : j < n → Q (b j % 256) h) (w0 : n ≤ j → Q (-1) h) : ak_MI e 1 (d + 1) ρ 201 [am_r 110, am_i (j : Int)] h Q X := by
  obtain ⟨m1, m2, m3, m4, m5, -⟩ := hm
  have b2 : 0 ≤ (p : Int) ∧ (p : Int) < 2 := by omega
  refine ak_MI_of (Nat.le_of_ble_eq_true rfl) (am_k201_0 ?_)
  rw [m1, ak_natn, m3]
  refine ⟨b2, fun z => w0 (by omega), fun z => ?_⟩
  have hj : j < n := by omega
  have g : 0 ≤ ((6000 * p + j : Nat) : Int) ∧ ((6000 * p + j : Nat) : Int) < 12000 := by omega
  rw [show am_w32 (am_w32 (6000 * (p : Int)) + (j : Int)) = ((6000 * p + j : Nat) : Int) from ak_wmul (c := 6000) (by omega), ak_natn, (m5 j hj).1]
  exact ⟨g, w1 hj⟩
theorem am_s204 {Q : Int → ak_S → Prop} {X : Nat → ak_S → Prop} {i m : Nat} (hm : ak_mt h p n b) (hi : h.1 110 34 = (i : Int)) (hs : h.1 110 35 = (m : Int)) (hin : i + m ≤ n) (hm8 : m ≤ 8) (hm0 : 0 < m) (hl : ∀ x, x < m → ak_isL (b (i + x)))
    (w : Q (ak_kidx (ak_pk b i m) ak_kws 0) h) : ak_MI e 1 (d + 2) ρ 204 [am_r 110] h Q X := by
  have hn6 : n ≤ 6000 := hm.2.2.2.1
  have hkeys := hm.2.2.2.2.2
  have outer : ∀ (c k : Nat), k + c = 24 → m ≤ 7 → ak_kidx (ak_pk b i m) (ak_kws.drop k) k = ak_kidx (ak_pk b i m) ak_kws 0 → ak_W0 e 1 (d + 1) 204 ρ 13 [some (am_r 110), some (am_i (k : Int)), none, none] [] h (ak_qi Q X) := by
    intro c
    induction c with
    | zero =>
      intro k hk hm7 hx
      have : k = 24 := by omega
      subst this
      refine am_k204_13 ⟨fun _ => ?_, fun z => absurd z (by decide)⟩
      have e2 : ak_kidx (ak_pk b i m) (ak_kws.drop 24) ((24 : Nat) : Int) = 2 := rfl
      rw [← hx, e2] at w
      exact w
    | succ c ih =>
      intro k hk hm7 hx
      have hl24 : k < ak_kws.length := by show k < 24; omega
      have e1 : ak_kws.drop k = ak_kws[k] :: ak_kws.drop (k + 1) := List.drop_eq_getElem_cons hl24
      have e2 : ak_kws.getD k 0 = ak_kws[k] := by rw [List.getD_eq_getElem?_getD, List.getElem?_eq_getElem hl24]; rfl
      have hmk := ak_mk_iff (b := b) (i := i) (k := k) (by omega) hm7 hl
      rw [e2] at hmk
      rw [e1] at hx
      have inner : ∀ (c2 x : Nat) (s : Int), x + c2 = 8 → (s = 0 ∨ s = 1) → (s = 1 ↔ ∀ y, y < x → ak_keys.getD (8 * k + y) 0 = if y < m then b (i + y) else 0) →
          ak_W0 e 1 (d + 1) 204 ρ 23 [some (am_r 110), some (am_i (k : Int)), some (am_i s), some (am_i (x : Int))] [] h (ak_qi Q X) := by
        intro c2
        induction c2 with
        | zero =>
          intro x s hx8 hs01 hsx
          have : x = 8 := by omega
          subst this
          refine am_k204_23 ⟨fun _ => ⟨fun s0 => ?_, fun s0 => ?_⟩, fun z => absurd z (by decide)⟩
          · rw [ak_wj (show k < 1000000 by omega)]
            refine ih (k + 1) (by omega) hm7 ?_
            rw [← hx]
            have hne : ¬ ak_kws[k] = ak_pk b i m := fun q => absurd (hsx.mpr (hmk.mpr q)) (by omega)
            show _ = (if ak_kws[k] = ak_pk b i m then _ else ak_kidx (ak_pk b i m) (ak_kws.drop (k + 1)) ((k : Int) + 1))
            rw [if_neg hne]
            congr 1
          · have hq : ak_kws[k] = ak_pk b i m := hmk.mp (hsx.mp (by omega))
            have e3 : ak_kidx (ak_pk b i m) (ak_kws[k] :: ak_kws.drop (k + 1)) (k : Int) = 200 + (k : Int) := if_pos hq
            rw [show am_w32 (200 + (k : Int)) = 200 + (k : Int) from ak_w _ (by omega)]
            rw [← hx, e3] at w
            exact w
        | succ c2 ih2 =>
          intro x s hx8 hs01 hsx
          have hxlt : x < 8 := by omega
          have nxt : ∀ s' : Int, (s' = 0 ∨ s' = 1) → (s' = 1 ↔ ∀ y, y < x + 1 → ak_keys.getD (8 * k + y) 0 = if y < m then b (i + y) else 0) → ak_W0 e 1 (d + 1) 204 ρ 23 [some (am_r 110), some (am_i (k : Int)), some (am_i s'), some (am_i (am_w32 ((x : Int) + 1)))] [] h (ak_qi Q X) := by
            intro s' g1 g2
            rw [ak_wj (show x < 1000000 by omega)]
            exact ih2 (x + 1) s' (by omega) g1 g2
          have hno : (ak_keys.getD (8 * k + x) 0 ≠ if x < m then b (i + x) else 0) → ((0 : Int) = 1 ↔ ∀ y, y < x + 1 → ak_keys.getD (8 * k + y) 0 = if y < m then b (i + y) else 0) := fun q => ⟨fun z => absurd z (by decide), fun z => absurd (z x (by omega)) q⟩
          have hyes : s = 1 → (ak_keys.getD (8 * k + x) 0 = if x < m then b (i + x) else 0) → ((1 : Int) = 1 ↔ ∀ y, y < x + 1 → ak_keys.getD (8 * k + y) 0 = if y < m then b (i + y) else 0) := by
            intro s1 q
            refine ⟨fun _ y hy => ?_, fun _ => rfl⟩
            by_cases hyx : y = x
            · subst hyx; exact q
            · exact hsx.mp s1 y (by omega)
          refine am_k204_23 ⟨fun z => absurd z (by omega), fun _ => ⟨fun s0 => nxt 0 (Or.inl rfl) ?_, fun s0 => ?_⟩⟩
          · refine ⟨fun z => absurd z (by decide), fun z => ?_⟩
            have := hsx.mpr (fun y hy => z y (by omega))
            omega
          · have s1 : s = 1 := by omega
            rw [ak_w8x (show k < 24 by omega) hxlt, ak_natn, hkeys (8 * k + x) (by omega), hs, hi]
            refine ⟨by omega, fun g => ⟨fun q => nxt 0 (Or.inl rfl) (hno ?_), fun q => nxt 1 (Or.inr rfl) (hyes s1 ?_)⟩, fun g => ?_⟩
            · rw [if_neg (by omega)]; exact q
            · rw [if_neg (by omega)]; exact q
            · have hxm : x < m := by omega
              rw [ak_wadd (show i + x < 1000000 by omega)]
              have hb : b (i + x) % 256 = b (i + x) := by
                have := hl x hxm
                unfold ak_isL at this
                omega
              refine am_s201 hm (fun _ => ?_) (fun z => absurd z (by omega))
              rw [hb]
              refine ⟨fun q => nxt 0 (Or.inl rfl) (hno ?_), fun q => nxt 1 (Or.inr rfl) (hyes s1 ?_)⟩
              · rw [if_pos hxm]; exact q
              · rw [if_pos hxm]; exact q
      refine am_k204_13 ⟨fun z => absurd z (by omega), fun _ => ?_⟩
      exact inner 8 0 1 rfl (Or.inr rfl) ⟨fun _ y hy => absurd hy (Nat.not_lt_zero _), fun _ => rfl⟩
  refine ak_MI_of (Nat.le_of_ble_eq_true rfl) (am_k204_0 ?_)
  rw [hs]
  refine ⟨fun g => outer 24 0 rfl (by omega) rfl, fun g => ?_⟩
  have m8 : m = 8 := by omega
  have hbig : ak_kidx (ak_pk b i m) ak_kws 0 = 2 := by
    refine ak_kidx_big _ _ (fun x hx => ?_)
    have h1 := ak_kws_lt x hx
    have h2 := ak_pk_in (b := b) (i := i) 7 (fun y hy => hl y (by omega))
    have h3 := hl 7 (by omega)
    unfold ak_isL at h3
    have e1 : ak_pk b i m = ak_pk b i 7 * 32 + (b (i + 7) - 96) := by rw [m8]; rfl
    have h4 : 1073741824 ≤ ak_pk b i 7 := by
      have g6 := ak_pk_in (b := b) (i := i) 6 (fun y hy => hl y (by omega))
      have low : ∀ c : Nat, c ≤ 6 → (32 : Int) ^ c ≤ ak_pk b i (c + 1) := by
        intro c
        induction c with
        | zero =>
          intro _
          have := hl 0 (by omega)
          unfold ak_isL at this
          show (1 : Int) ≤ ak_pk b i 0 * 32 + (b (i + 0) - 96)
          have e0 : ak_pk b i 0 = 0 := rfl
          omega
        | succ c ihc =>
          intro hc
          have a1 := ihc (by omega)
          have a2 := hl (c + 1) (by omega)
          unfold ak_isL at a2
          have a3 : ak_pk b i (c + 1 + 1) = ak_pk b i (c + 1) * 32 + (b (i + (c + 1)) - 96) := rfl
          rw [a3, Int.pow_succ]
          omega
      have := low 6 (by omega)
      rw [show (32 : Int) ^ 6 = 1073741824 by decide] at this
      exact this
    rw [e1]
    omega
  rw [hbig] at w
  exact w
end LEXM
