/-! a site is used, by the other -/
def ak_rmM (i : Nat) (h h' : ak_S) : Prop := (∀ q k, ¬ (q = 110 ∧ k = 78) → ¬ ((q = 158 ∨ q = 159) ∧ k = i) → ¬ (164 ≤ q ∧ q ≤ 168 ∧ ((4 * i ≤ k ∧ k < 4 * i + 4) ∨ 600 ≤ k)) → h'.1 q k = h.1 q k) ∧ h'.2 = h.2
def ak_usM (i : Nat) (h h' : ak_S) : Prop := (∀ q k, ¬ (q = 110 ∧ (k = 64 ∨ k = 67 ∨ k = 69 ∨ k = 70 ∨ k = 78)) → ¬ (154 ≤ q ∧ q ≤ 157) → ¬ (158 ≤ q ∧ q ≤ 163 ∧ k = i) → ¬ (164 ≤ q ∧ q ≤ 168 ∧ ((4 * i ≤ k ∧ k < 4 * i + 4) ∨ 600 ≤ k)) → h'.1 q k = h.1 q k) ∧ h'.2 = h.2
section MUSE
variable {e : ak_X3} {d i s r : Nat} {ρ : List Nat} {h h' h2 : ak_S} {E Et : List ak_E} {X : Nat → ak_S → Prop} {en : ak_E} {nm st : Int}
theorem am_s257 {Q : ak_S → Prop} (hr : r < 728) (n9 : h.1 110 69 = en.2.2.2.1) (n10 : h.1 110 70 = en.2.2.2.2) (q : ∀ h', ak_eM h' r en → (∀ q k, ¬ (164 ≤ q ∧ q ≤ 168 ∧ k = r) → h'.1 q k = h.1 q k) → h'.2 = h.2 → Q h') :
    ak_MV e 1 (d + 1) ρ 257 [am_r 110, am_i (r : Int), am_i (en.1 : Int), am_i en.2.1, am_i en.2.2.1] h Q X := by
  refine ak_MV_of (Nat.le_of_ble_eq_true rfl) (am_k257_0 ?_)
  rw [n9, n10, ak_natn]
  have F : ∀ q k, ¬ (164 ≤ q ∧ q ≤ 168 ∧ k = r) → am_up (am_up (am_up (am_up (am_up h.1 164 r (en.1 : Int)) 165 r en.2.1) 166 r en.2.2.1) 167 r en.2.2.2.1) 168 r en.2.2.2.2 q k = h.1 q k := fun q k a => (ak_up_out (by omega)).trans ((ak_up_out (by omega)).trans ((ak_up_out (by omega)).trans ((ak_up_out (by omega)).trans (ak_up_out (by omega)))))
  refine ⟨by omega, by omega, by omega, by omega, by omega, q (am_up (am_up (am_up (am_up (am_up h.1 164 r (en.1 : Int)) 165 r en.2.1) 166 r en.2.2.1) 167 r en.2.2.2.1) 168 r en.2.2.2.2, h.2) ⟨?_, ?_, ?_, ?_, ?_⟩ F rfl⟩ <;> simp [am_up]
theorem am_s258 {Q : Int → ak_S → Prop} (hr : r < 728) (N : ak_eM h r en) (q : Q (if ak_f3 s nm st en = true then 1 else 0) h) : ak_MI e 1 (d + 1) ρ 258 [am_r 110, am_i (r : Int), am_i (s : Int), am_i nm, am_i st] h Q X := by
  obtain ⟨n1, n2, n3, n4, n5⟩ := N
  refine ak_MI_of (Nat.le_of_ble_eq_true rfl) (am_k258_0 ?_)
  rw [ak_natn, n1, n2, n3]
  refine ⟨by omega, fun g => ⟨Or.inl rfl, ?_⟩, fun g1 => ⟨by omega, fun g => ⟨Or.inl rfl, ?_⟩, fun g2 => ⟨by omega, fun g => ⟨Or.inl rfl, ?_⟩, fun g3 => ⟨Or.inr rfl, ?_⟩⟩⟩⟩
  · rw [if_neg (fun z => g (by rw [(ak_f3_iff.mp z).1]))] at q; exact q
  · rw [if_neg (fun z => g (ak_f3_iff.mp z).2.1)] at q; exact q
  · rw [if_neg (fun z => g (ak_f3_iff.mp z).2.2)] at q; exact q
  · rw [if_pos (ak_f3_iff.mpr ⟨by omega, g2, g3⟩)] at q; exact q
theorem am_s261 {Q : Int → ak_S → Prop} (hr : r < 728) (N : ak_eM h r en) (q1 : ak_f3 s nm st en = true → Q 1 (am_up (am_up h.1 110 69 en.2.2.2.1) 110 70 en.2.2.2.2, h.2)) (q0 : ak_f3 s nm st en ≠ true → Q 0 h) : ak_MI e 1 (d + 2) ρ 261 [am_r 110, am_i (r : Int), am_i (s : Int), am_i nm, am_i st] h Q X := by
  refine ak_MI_of (Nat.le_of_ble_eq_true rfl) (am_k261_0 (am_s258 (d := d) hr N ⟨fun g => ?_, fun g => ?_⟩))
  · obtain ⟨n1, n2, n3, n4, n5⟩ := N
    have z : ak_f3 s nm st en = true := by
      by_cases z : ak_f3 s nm st en = true
      · exact z
      · rw [if_neg z] at g; exact absurd rfl g
    rw [ak_natn, n4, n5]
    exact ⟨by omega, by omega, Or.inr rfl, q1 z⟩
  · have z : ak_f3 s nm st en ≠ true := fun z => by rw [if_pos z] at g; exact absurd g (by decide)
    exact ⟨Or.inl rfl, q0 z⟩
theorem ak_gM_snoc {first : Nat} (B : ak_gM first E h) (c : ak_eM h' (first + E.length) en) (f : ∀ q k, ¬ (164 ≤ q ∧ q ≤ 168 ∧ k = first + E.length) → h'.1 q k = h.1 q k) : ak_gM first (E ++ [en]) h' := by
  intro k x hx
  by_cases hk : k = E.length
  · subst hk
    rw [ak_get_snoc] at hx
    cases hx
    exact c
  · have hk2 := ak_get_none hx
    rw [List.length_append] at hk2
    simp at hk2
    rw [ak_get_snoc_lt (by omega)] at hx
    exact ak_gM_fr B (fun q j a b c d => f q j (by omega)) k x hx
theorem ak_gM_one {first : Nat} (c : ak_eM h first en) : ak_gM first [en] h := by
  intro k x hx
  have hk := ak_get_none hx
  have : k = 0 := by simp at hk; omega
  subst this
  cases hx
  exact c
theorem ak_gM_nil {first : Nat} : ak_gM first [] h := fun k x hx => by simp at hx
theorem am_s259 {Q : ak_S → Prop} (hEt : Et.length ≤ 128) (Bt : ak_gM 600 Et h) (n4 : h.1 110 78 = (Et.length : Int)) (n9 : h.1 110 69 = en.2.2.2.1) (n10 : h.1 110 70 = en.2.2.2.2)
    (q : ∀ h', ak_gM 600 (ak_tb Et en) h' → h'.1 110 78 = ((ak_tb Et en).length : Int) → (∀ q k, ¬ (q = 110 ∧ k = 78) → ¬ (164 ≤ q ∧ q ≤ 168 ∧ 600 ≤ k) → h'.1 q k = h.1 q k) → h'.2 = h.2 → Q h') :
    ak_MV e 1 (d + 2) ρ 259 [am_r 110, am_i (en.1 : Int), am_i en.2.1, am_i en.2.2.1] h Q X := by
  have ins : ∀ (l : List ak_E) (h1 : ak_S), l.length < 128 → ak_tb Et en = l ++ [en] → ak_gM 600 l h1 → h1.1 110 78 = (l.length : Int) → (∀ q k, ¬ (q = 110 ∧ k = 78) → h1.1 q k = h.1 q k) → h1.2 = h.2 →
      ak_W0 e 1 (d + 1) 259 ρ 50 [some (am_r 110), some (am_i (en.1 : Int)), some (am_i en.2.1), some (am_i en.2.2.1), none] [] h1 (ak_qv Q X) := by
    intro l h1 hl et B1 n1 f f2
    rw [et] at q
    refine am_k259_50 ?_
    rw [n1, show am_w32 (600 + (l.length : Int)) = ((600 + l.length : Nat) : Int) from ak_wpp (a := 600) (by omega)]
    refine am_s257 (d := d) (by omega) ((f _ _ (by omega)).trans n9) ((f _ _ (by omega)).trans n10) (fun h2 c2 g2 g22 => ?_)
    rw [show h2.1 110 78 = (l.length : Int) from (g2 _ _ (by omega)).trans n1, ak_wj (show l.length < 1000000 by omega)]
    have F : ∀ q k, ¬ (q = 110 ∧ k = 78) → am_up h2.1 110 78 ((l.length + 1 : Nat) : Int) q k = h2.1 q k := fun q k a => ak_up_out a
    refine q (am_up h2.1 110 78 ((l.length + 1 : Nat) : Int), h2.2) (ak_gM_fr (ak_gM_snoc B1 c2 g2) (fun q k a b c d => F q k (by omega))) ?_ (fun q k a b => (F q k a).trans ((g2 q k (by omega)).trans (f q k a))) (g22.trans f2)
    refine ak_up_at1.trans ?_
    rw [List.length_append]
    rfl
  have lp : ∀ (rest : List ak_E) (k : Nat), k + rest.length = Et.length → ak_gM (600 + k) rest h → ak_fnd (ak_f3 en.1 en.2.1 en.2.2.1) Et = k + ak_fnd (ak_f3 en.1 en.2.1 en.2.2.1) rest →
      ak_W0 e 1 (d + 1) 259 ρ 3 [some (am_r 110), some (am_i (en.1 : Int)), some (am_i en.2.1), some (am_i en.2.2.1), some (am_i (k : Int))] [] h (ak_qv Q X) := by
    intro rest
    induction rest with
    | nil =>
      intro k hk gR hf
      have hk2 : k = Et.length := by simpa using hk
      have hf2 : ak_fnd (ak_f3 en.1 en.2.1 en.2.2.1) Et = k := hf
      refine am_k259_3 ?_
      rw [n4]
      have hnl : ¬ ak_fnd (ak_f3 en.1 en.2.1 en.2.2.1) Et < Et.length := by omega
      refine ⟨fun _ => ⟨fun g => ins Et h (by omega) (by unfold ak_tb; rw [if_neg hnl, if_pos (by omega)]) Bt n4 (fun _ _ _ => rfl) rfl, fun g => ?_⟩, fun g => by omega⟩
      exact ins [] (am_up h.1 110 78 0, h.2) (by decide) (by unfold ak_tb; rw [if_neg hnl, if_neg (by omega)]; rfl) ak_gM_nil ak_up_at1 (fun q k a => ak_up_out a) rfl
    | cons x rest ih =>
      intro k hk gR hf
      have hk2 : k + rest.length + 1 = Et.length := by simp at hk; omega
      have c : ak_eM h (600 + k) x := gR 0 x rfl
      refine am_k259_3 ?_
      rw [n4, show am_w32 (600 + (k : Int)) = ((600 + k : Nat) : Int) from ak_wpp (a := 600) (by omega), ak_wj (show k < 1000000 by omega)]
      refine ⟨fun g => by omega, fun _ => am_s258 (d := d) (by omega) c ⟨fun g => ?_, fun g => ?_⟩⟩
      · have z : ak_f3 en.1 en.2.1 en.2.2.1 x ≠ true := fun z => by rw [if_pos z] at g; exact absurd g (by decide)
        refine ih (k + 1) (by omega) (ak_gM_tail gR) ?_
        rw [hf]
        show k + (if ak_f3 en.1 en.2.1 en.2.2.1 x = true then 0 else ak_fnd (ak_f3 en.1 en.2.1 en.2.2.1) rest + 1) = _
        rw [if_neg z]
        omega
      · have z : ak_f3 en.1 en.2.1 en.2.2.1 x = true := by
          by_cases z : ak_f3 en.1 en.2.1 en.2.2.1 x = true
          · exact z
          · rw [if_neg z] at g; exact absurd rfl g
        have hf2 : ak_fnd (ak_f3 en.1 en.2.1 en.2.2.1) Et = k := by
          rw [hf]
          show k + (if ak_f3 en.1 en.2.1 en.2.2.1 x = true then 0 else ak_fnd (ak_f3 en.1 en.2.1 en.2.2.1) rest + 1) = _
          rw [if_pos z]
          rfl
        have et : ak_tb Et en = Et := if_pos (by omega)
        rw [et] at q
        exact q h Bt n4 (fun _ _ _ _ => rfl) rfl
  exact ak_MV_of (Nat.le_of_ble_eq_true rfl) (am_k259_0 (lp Et 0 (by omega) Bt (by omega)))
theorem am_s262 {Q : ak_S → Prop} {M sv : Int} (hi : i < 150) (hE : E.length ≤ 4) (B : ak_gM (4 * i) E h) (n1 : h.1 159 i = (E.length : Int)) (n0 : h.1 158 i = sv) (nM : h.1 110 71 = M) (hEt : Et.length ≤ 128) (Bt : ak_gM 600 Et h) (n4 : h.1 110 78 = (Et.length : Int)) (n9 : h.1 110 69 = en.2.2.2.1) (n10 : h.1 110 70 = en.2.2.2.2)
    (sv3 : 0 ≤ sv ∧ sv ≤ 3) (sv0 : sv = 0 → E.length = 0) (sv1 : sv = 1 → E.length ≤ 1)
    (q : ∀ h', ak_gM (4 * i) (ak_rm M sv E Et en).2.1 h' → h'.1 159 i = ((ak_rm M sv E Et en).2.1.length : Int) → h'.1 158 i = (ak_rm M sv E Et en).1 → ak_gM 600 (ak_rm M sv E Et en).2.2 h' → h'.1 110 78 = ((ak_rm M sv E Et en).2.2.length : Int) → ak_rmM i h h' → Q h') :
    ak_MV e 1 (d + 3) ρ 262 [am_r 110, am_i (i : Int), am_i (en.1 : Int), am_i en.2.1, am_i en.2.2.1] h Q X := by
  have b1 : 0 ≤ (i : Int) ∧ (i : Int) < 150 := by omega
  have more : ∀ (v : Int) (h1 : ak_S), ak_rm M sv E Et en = (v, E ++ [en], Et) → E.length < 4 → h1.1 158 i = v → (∀ q k, ¬ (q = 158 ∧ k = i) → h1.1 q k = h.1 q k) → h1.2 = h.2 → ak_W0 e 1 (d + 2) 262 ρ 133 [some (am_r 110), some (am_i (i : Int)), some (am_i (en.1 : Int)), some (am_i en.2.1), some (am_i en.2.2.1)] [] h1 (ak_qv Q X) := by
    intro v h1 er hl m0 f f2
    rw [er] at q
    refine am_k262_133 ?_
    rw [ak_natn, f 159 i (by omega), n1, show am_w32 (am_w32 (4 * (i : Int)) + (E.length : Int)) = ((4 * i + E.length : Nat) : Int) from ak_wmul (c := 4) (by omega)]
    refine ⟨b1, am_s257 (d := d + 1) (by omega) ((f _ _ (by omega)).trans n9) ((f _ _ (by omega)).trans n10) (fun h3 c3 f3 f32 => ?_)⟩
    rw [show h3.1 159 i = (E.length : Int) from (f3 _ _ (by omega)).trans ((f _ _ (by omega)).trans n1), ak_wj (show E.length < 1000000 by omega)]
    have F : ∀ q k, ¬ (q = 159 ∧ k = i) → am_up h3.1 159 i ((E.length + 1 : Nat) : Int) q k = h3.1 q k := fun q k a => ak_up_out a
    refine ⟨b1, b1, q (am_up h3.1 159 i ((E.length + 1 : Nat) : Int), h3.2) (ak_gM_fr (ak_gM_snoc (ak_gM_fr B (fun q k _ _ _ _ => f q k (by omega))) c3 f3) (fun q k _ _ _ _ => F q k (by omega))) ?_ ((F _ _ (by omega)).trans ((f3 _ _ (by omega)).trans m0)) (ak_gM_fr Bt (fun q k a b c d => (F q k (by omega)).trans ((f3 q k (by omega)).trans (f q k (by omega))))) ((F _ _ (by omega)).trans ((f3 _ _ (by omega)).trans ((f _ _ (by omega)).trans n4))) ⟨fun q k a b c => (F q k (by omega)).trans ((f3 q k (by omega)).trans (f q k (by omega))), f32.trans f2⟩⟩
    refine ak_up_at1.trans ?_
    rw [List.length_append]
    rfl
  have tbl : ak_rm M sv E Et en = (3, [], ak_tb Et en) → ak_W0 e 1 (d + 2) 262 ρ 64 [some (am_r 110), some (am_i (i : Int)), some (am_i (en.1 : Int)), some (am_i en.2.1), some (am_i en.2.2.1)] [] h (ak_qv Q X) := by
    intro er
    rw [er] at q
    refine am_k262_64 ?_
    rw [ak_natn]
    have F : ∀ q k, ¬ ((q = 158 ∨ q = 159) ∧ k = i) → am_up (am_up h.1 158 i 3) 159 i 0 q k = h.1 q k := fun q k a => (ak_up_out (by omega)).trans (ak_up_out (by omega))
    have V0 : am_up (am_up h.1 158 i 3) 159 i 0 158 i = 3 := by simp [am_up]
    have V1 : am_up (am_up h.1 158 i 3) 159 i 0 159 i = 0 := by simp [am_up]
    refine ⟨b1, b1, am_s259 (d := d) hEt (ak_gM_fr Bt (fun q k a b c d => F q k (by omega))) ((F _ _ (by omega)).trans n4) ((F _ _ (by omega)).trans n9) ((F _ _ (by omega)).trans n10) (fun h3 k1 k2 f3 f32 => ?_)⟩
    exact q h3 ak_gM_nil ((f3 _ _ (by omega) (by omega)).trans V1) ((f3 _ _ (by omega) (by omega)).trans V0) k1 k2 ⟨fun q k a b c => (f3 q k a (by omega)).trans (F q k b), f32⟩
  have upd : ∀ (v : Int) q k, ¬ (q = 158 ∧ k = i) → am_up h.1 158 i v q k = h.1 q k := fun v q k a => ak_up_out a
  have hl0 : E.length = 0 → E ++ [en] = [en] := fun z => by rw [List.length_eq_zero_iff.mp z]; rfl
  have mid : M ≠ 1 → sv ≠ 3 → ¬ (sv = 2 ∧ E.length = 4) → ak_W0 e 1 (d + 2) 262 ρ 87 [some (am_r 110), some (am_i (i : Int)), some (am_i (en.1 : Int)), some (am_i en.2.1), some (am_i en.2.2.1)] [] h (ak_qv Q X) := by
    intro hM h3 h24
    refine am_k262_87 ?_
    rw [ak_natn, n0, n1]
    have er0 : sv = 0 → ak_rm M sv E Et en = (1, E ++ [en], Et) := fun z => by rw [hl0 (sv0 z)]; exact if_pos (Or.inr ⟨sv0 z, by omega⟩)
    have zero : sv = 0 → ak_W0 e 1 (d + 2) 262 ρ 133 [some (am_r 110), some (am_i (i : Int)), some (am_i (en.1 : Int)), some (am_i en.2.1), some (am_i en.2.2.1)] [] (am_up h.1 158 i 1, h.2) (ak_qv Q X) := fun z => more 1 (am_up h.1 158 i 1, h.2) (er0 z) (by have := sv0 z; omega) ak_up_at1 (fun q k a => upd 1 q k a) rfl
    refine ⟨b1, fun g => ⟨b1, fun g2 => ?_, fun g2 => ⟨b1, zero g2⟩⟩, fun g => ⟨b1, fun g2 => ⟨b1, fun g3 => ?_, fun g3 => by omega⟩, fun g2 => ⟨b1, ?_⟩⟩⟩
    · have : sv = 2 := by omega
      exact more 2 h ((if_neg (fun z => by omega)).trans (if_pos ⟨by omega, h3⟩)) (by omega) (n0.trans this) (fun _ _ _ => rfl) rfl
    · have hz : E.length = 0 := by have := sv1 g; omega
      exact more 1 h (by rw [hl0 hz]; exact if_pos (Or.inr ⟨hz, by omega⟩)) (by omega) (n0.trans g) (fun _ _ _ => rfl) rfl
    · exact more 2 (am_up h.1 158 i 2, h.2) ((if_neg (fun z => by omega)).trans (if_pos ⟨by omega, h3⟩)) (by omega) ak_up_at1 (fun q k a => upd 2 q k a) rfl
  refine ak_MV_of (Nat.le_of_ble_eq_true rfl) (am_k262_0 ?_)
  rw [ak_natn, nM, n0, n1]
  refine ⟨fun hM => ⟨b1, fun g => tbl ((if_neg (fun z => by omega)).trans (if_neg (fun z => z.2 g))), fun g => ⟨b1, fun g2 => mid hM g (fun z => g2 z.1), fun g2 => ⟨b1, fun g3 => mid hM g (fun z => by omega), fun g3 => tbl ((if_neg (fun z => by omega)).trans (if_neg (fun z => by omega)))⟩⟩⟩, fun hM => ⟨b1, ?_⟩⟩
  have er : ak_rm M sv E Et en = (1, [en], Et) := if_pos (Or.inl hM)
  rw [er] at q
  rw [show am_w32 (4 * (i : Int)) = ((4 * i : Nat) : Int) from by rw [ak_w _ (by omega)]; omega]
  refine am_s257 (d := d + 1) (by omega) ((upd 1 _ _ (by omega)).trans n9) ((upd 1 _ _ (by omega)).trans n10) (fun h3 c3 f3 f32 => ⟨b1, ?_⟩)
  have F : ∀ q k, ¬ (q = 159 ∧ k = i) → am_up h3.1 159 i 1 q k = h3.1 q k := fun q k a => ak_up_out a
  have V0 : h3.1 158 i = 1 := (f3 _ _ (by omega)).trans ak_up_at1
  exact q (am_up h3.1 159 i 1, h3.2) (ak_gM_one (ak_eM_fr c3 (fun q a b => F q _ (by omega)))) ak_up_at1 ((F _ _ (by omega)).trans V0) (ak_gM_fr Bt (fun q k a b c d => (F q k (by omega)).trans ((f3 q k (by omega)).trans (upd 1 q k (by omega))))) ((F _ _ (by omega)).trans ((f3 _ _ (by omega)).trans ((upd 1 _ _ (by omega)).trans n4))) ⟨fun q k a b c => (F q k (by omega)).trans ((f3 q k (by omega)).trans (upd 1 q k (by omega))), f32⟩
end MUSE
