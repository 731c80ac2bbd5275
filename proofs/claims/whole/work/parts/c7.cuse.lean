/-! a site is used, by the one -/
def ak_fnd (f : ak_E → Bool) : List ak_E → Nat
  | [] => 0
  | x :: r => if f x = true then 0 else ak_fnd f r + 1
def ak_inc : Nat → Int → Int
  | 0, v => v
  | n + 1, v => am_w32 (ak_inc n v + 1)
/-- how many are tested -/
def ak_tst (f : ak_E → Bool) (l : List ak_E) : Nat := if ak_fnd f l < l.length then ak_fnd f l + 1 else l.length
def ak_f2 (s : Nat) (st : Int) : ak_E → Bool := fun en => decide (en.1 = s) && decide (en.2.2.1 = st)
def ak_f3 (s : Nat) (nm st : Int) : ak_E → Bool := fun en => decide (en.1 = s) && (decide (en.2.1 = nm) && decide (en.2.2.1 = st))
theorem ak_fnd_le {f : ak_E → Bool} : ∀ l, ak_fnd f l ≤ l.length := by
  intro l
  induction l with
  | nil => exact Nat.le_refl _
  | cons x l ih =>
    unfold ak_fnd
    rw [List.length_cons]
    split <;> omega
theorem ak_fnd_get {f : ak_E → Bool} : ∀ l, ak_fnd f l < l.length → ∃ en, l[ak_fnd f l]? = some en ∧ f en = true := by
  intro l
  induction l with
  | nil => intro h; exact absurd h (Nat.lt_irrefl _)
  | cons x l ih =>
    intro h
    unfold ak_fnd at h ⊢
    by_cases g : f x = true
    · rw [if_pos g]
      exact ⟨x, rfl, g⟩
    · rw [if_neg g] at h ⊢
      rw [List.length_cons] at h
      exact ih (by omega)
theorem ak_fnd_congr {f g : ak_E → Bool} : ∀ l, (∀ en, en ∈ l → f en = g en) → ak_fnd f l = ak_fnd g l := by
  intro l
  induction l with
  | nil => intro _; rfl
  | cons x l ih =>
    intro h
    unfold ak_fnd
    rw [h x (List.mem_cons_self ..), ih (fun en he => h en (List.mem_cons_of_mem _ he))]
theorem ak_f3_iff {s : Nat} {nm st : Int} {en : ak_E} : ak_f3 s nm st en = true ↔ en.1 = s ∧ en.2.1 = nm ∧ en.2.2.1 = st := by
  unfold ak_f3
  rw [Bool.and_eq_true, Bool.and_eq_true, decide_eq_true_iff, decide_eq_true_iff, decide_eq_true_iff]
theorem ak_f2_iff {s : Nat} {st : Int} {en : ak_E} : ak_f2 s st en = true ↔ en.1 = s ∧ en.2.2.1 = st := by
  unfold ak_f2
  rw [Bool.and_eq_true, decide_eq_true_iff, decide_eq_true_iff]
theorem ak_w4c {r c : Nat} (h : 4 * r + c < 100000) : am_w32 (am_w32 ((r : Int) * 4) + (c : Int)) = ((4 * r + c : Nat) : Int) := by
  rw [ak_w ((r : Int) * 4) (by omega), ak_w _ (by omega)]
  omega
theorem ak_w5c {r c : Nat} (h : 5 * r + c < 100000) : am_w32 (am_w32 ((r : Int) * 5) + (c : Int)) = ((5 * r + c : Nat) : Int) := by
  rw [ak_w ((r : Int) * 5) (by omega), ak_w _ (by omega)]
  omega
section CUSE
variable {e : ak_X3} {d i s r : Nat} {ρ : List Nat} {R : ak_E → List Nat} {h h' h2 : ak_S} {E Et : List ak_E} {X : Nat → ak_S → Prop} {st nm : Int}
theorem am_s112 {Q : Int → ak_S → Prop} {V : Int} (hi : i < 150) (hE : E.length ≤ 4) (B : ak_gC R (4 * i) E h) (n1 : h.1 47 (6 * i + 1) = (E.length : Int)) (nV : h.1 47 (6 * i + 5) = V)
    (q : ∀ h', h'.1 47 (6 * i + 5) = ak_inc (ak_tst (ak_f2 s st) E) V → (∀ q k, ¬ (q = 47 ∧ k = 6 * i + 5) → h'.1 q k = h.1 q k) → h'.2 = h.2 → Q (if ak_fnd (ak_f2 s st) E < E.length then ((4 * i + ak_fnd (ak_f2 s st) E : Nat) : Int) else -1) h') :
    ak_MI e 0 (d + 2) ρ 112 [am_r 44, am_i (i : Int), am_i (s : Int), am_i st] h Q X := by
  have lp : ∀ (rest : List ak_E) (k : Nat) (h1 : ak_S), k + rest.length = E.length → ak_gC R (4 * i + k) rest h1 → (∀ q k, ¬ (q = 47 ∧ k = 6 * i + 5) → h1.1 q k = h.1 q k) → h1.2 = h.2 → h1.1 47 (6 * i + 5) = ak_inc k V → ak_fnd (ak_f2 s st) E = k + ak_fnd (ak_f2 s st) rest →
      ak_W0 e 0 (d + 1) 112 ρ 15 [some (am_r 44), none, some (am_i (s : Int)), some (am_i st), some (am_i (am_w32 ((i : Int) * 6))), some (am_i (am_w32 ((i : Int) * 4))), some (am_i (k : Int)), none] [] h1 (ak_qi Q X) := by
    intro rest
    induction rest with
    | nil =>
      intro k h1 hk gR f f2 v hf
      have hk2 : k = E.length := by simpa using hk
      have hf2 : ak_fnd (ak_f2 s st) E = k := hf
      have ht : ak_tst (ak_f2 s st) E = k := by unfold ak_tst; rw [if_neg (by omega)]; exact hk2.symm
      have q' := q h1 (by rw [ht]; exact v) f f2
      rw [if_neg (by omega)] at q'
      refine am_k112_15 ?_
      rw [show am_w32 (am_w32 ((i : Int) * 6) + 1) = ((6 * i + 1 : Nat) : Int) from ak_w6c (c := 1) (by omega), ak_natn, f 47 (6 * i + 1) (by omega), n1]
      exact ⟨by omega, fun _ => q', fun g => by omega⟩
    | cons en rest ih =>
      intro k h1 hk gR f f2 v hf
      have hk2 : k + rest.length + 1 = E.length := by simp at hk; omega
      obtain ⟨c1, c2, c3, c4, c5⟩ : ak_eC h1 (4 * i + k) en := (gR 0 en rfl).1
      have G : ∀ q j, ¬ (q = 47 ∧ j = 6 * i + 5) → am_up h1.1 47 (6 * i + 5) (am_w32 (ak_inc k V + 1)) q j = h1.1 q j := fun q j a => ak_up_out a
      have nxt : ak_f2 s st en ≠ true → ak_W0 e 0 (d + 1) 112 ρ 15 [some (am_r 44), none, some (am_i (s : Int)), some (am_i st), some (am_i (am_w32 ((i : Int) * 6))), some (am_i (am_w32 ((i : Int) * 4))), some (am_i ((k + 1 : Nat) : Int)), none] [] (am_up h1.1 47 (6 * i + 5) (am_w32 (ak_inc k V + 1)), h1.2) (ak_qi Q X) := by
        intro z
        refine ih (k + 1) (am_up h1.1 47 (6 * i + 5) (am_w32 (ak_inc k V + 1)), h1.2) (by omega) (ak_gC_fr (ak_gC_tail gR) (fun k _ _ => G 45 k (by omega)) (fun k _ _ => rfl)) (fun q j a => (G q j a).trans (f q j a)) f2 ak_up_at1 ?_
        rw [hf]
        show k + (if ak_f2 s st en = true then 0 else ak_fnd (ak_f2 s st) rest + 1) = _
        rw [if_neg z]
        omega
      refine am_k112_15 ?_
      rw [show am_w32 (am_w32 ((i : Int) * 6) + 1) = ((6 * i + 1 : Nat) : Int) from ak_w6c (c := 1) (by omega), show am_w32 (am_w32 ((i : Int) * 6) + 5) = ((6 * i + 5 : Nat) : Int) from ak_w6c (c := 5) (by omega), show am_w32 (am_w32 ((i : Int) * 4) + (k : Int)) = ((4 * i + k : Nat) : Int) from ak_w4c (by omega), show am_w32 (am_w32 (((4 * i + k : Nat) : Int) * 5) + 0) = ((5 * (4 * i + k) : Nat) : Int) from ak_w5c (c := 0) (by omega), show am_w32 (am_w32 (((4 * i + k : Nat) : Int) * 5) + 1) = ((5 * (4 * i + k) + 1 : Nat) : Int) from ak_w5c (c := 1) (by omega), ak_natn, ak_natn, ak_natn, ak_natn, f 47 (6 * i + 1) (by omega), n1, v, c1, c2, ak_wj (show k < 1000000 by omega)]
      refine ⟨by omega, fun g => by omega, fun _ => ⟨by omega, by omega, by omega, fun g => nxt (fun z => g (by rw [(ak_f2_iff.mp z).1])), fun g1 => ⟨by omega, fun g => nxt (fun z => g (ak_f2_iff.mp z).2), fun g2 => ?_⟩⟩⟩
      have z : ak_f2 s st en = true := ak_f2_iff.mpr ⟨by omega, g2⟩
      have hf2 : ak_fnd (ak_f2 s st) E = k := by
        rw [hf]
        show k + (if ak_f2 s st en = true then 0 else ak_fnd (ak_f2 s st) rest + 1) = _
        rw [if_pos z]
        rfl
      have ht : ak_tst (ak_f2 s st) E = k + 1 := by unfold ak_tst; rw [if_pos (by omega), hf2]
      have q' := q (am_up h1.1 47 (6 * i + 5) (am_w32 (ak_inc k V + 1)), h1.2) (by rw [ht]; exact ak_up_at1) (fun q j a => (G q j a).trans (f q j a)) f2
      rw [if_pos (by omega), hf2] at q'
      exact q'
  exact ak_MI_of (Nat.le_of_ble_eq_true rfl) (am_k112_0 (ak_MI_of (Nat.le_of_ble_eq_true rfl) (am_k108_0 ⟨fun _ => lp E 0 h (by omega) B (fun _ _ _ => rfl) rfl nV (by omega), fun g => by omega⟩)))
theorem am_s113 {Q : Int → ak_S → Prop} (hE : Et.length ≤ 128) (B : ak_gC R 600 Et h) (n4 : h.1 44 4 = (Et.length : Int)) (q : Q (if ak_fnd (ak_f3 s nm st) Et < Et.length then ((600 + ak_fnd (ak_f3 s nm st) Et : Nat) : Int) else -1) h) :
    ak_MI e 0 (d + 1) ρ 113 [am_r 44, am_i (s : Int), am_i nm, am_i st] h Q X := by
  have lp : ∀ (rest : List ak_E) (k : Nat), k + rest.length = Et.length → ak_gC R (600 + k) rest h → ak_fnd (ak_f3 s nm st) Et = k + ak_fnd (ak_f3 s nm st) rest →
      ak_W0 e 0 d 113 ρ 5 [some (am_r 44), some (am_i (s : Int)), some (am_i nm), some (am_i st), some (am_i ((600 + k : Nat) : Int)), none] [] h (ak_qi Q X) := by
    intro rest
    induction rest with
    | nil =>
      intro k hk gR hf
      have hk2 : k = Et.length := by simpa using hk
      have hf2 : ak_fnd (ak_f3 s nm st) Et = k := hf
      rw [if_neg (by omega)] at q
      refine am_k113_5 ?_
      rw [n4, show am_w32 (600 + (Et.length : Int)) = ((600 + Et.length : Nat) : Int) from ak_wpp (a := 600) (by omega)]
      exact ⟨fun _ => q, fun g => by omega⟩
    | cons en rest ih =>
      intro k hk gR hf
      have hk2 : k + rest.length + 1 = Et.length := by simp at hk; omega
      obtain ⟨c1, c2, c3, c4, c5⟩ : ak_eC h (600 + k) en := (gR 0 en rfl).1
      have nxt : ak_f3 s nm st en ≠ true → ak_W0 e 0 d 113 ρ 5 [some (am_r 44), some (am_i (s : Int)), some (am_i nm), some (am_i st), some (am_i ((600 + (k + 1) : Nat) : Int)), none] [] h (ak_qi Q X) := by
        intro z
        refine ih (k + 1) (by omega) (ak_gC_tail gR) ?_
        rw [hf]
        show k + (if ak_f3 s nm st en = true then 0 else ak_fnd (ak_f3 s nm st) rest + 1) = _
        rw [if_neg z]
        omega
      refine am_k113_5 ?_
      rw [n4, show am_w32 (600 + (Et.length : Int)) = ((600 + Et.length : Nat) : Int) from ak_wpp (a := 600) (by omega), show am_w32 (am_w32 (((600 + k : Nat) : Int) * 5) + 0) = ((5 * (600 + k) : Nat) : Int) from ak_w5c (c := 0) (by omega), show am_w32 (am_w32 (((600 + k : Nat) : Int) * 5) + 4) = ((5 * (600 + k) + 4 : Nat) : Int) from ak_w5c (c := 4) (by omega), show am_w32 (am_w32 (((600 + k : Nat) : Int) * 5) + 1) = ((5 * (600 + k) + 1 : Nat) : Int) from ak_w5c (c := 1) (by omega), ak_natn, ak_natn, ak_natn, c1, c2, c5, ak_wj (show 600 + k < 1000000 by omega)]
      refine ⟨fun g => by omega, fun _ => ⟨by omega, fun g => nxt (fun z => g (by rw [(ak_f3_iff.mp z).1])), fun g1 => ⟨by omega, fun g => nxt (fun z => g (ak_f3_iff.mp z).2.1), fun g2 => ⟨by omega, fun g => nxt (fun z => g (ak_f3_iff.mp z).2.2), fun g3 => ?_⟩⟩⟩⟩
      have z : ak_f3 s nm st en = true := ak_f3_iff.mpr ⟨by omega, g2, g3⟩
      have hf2 : ak_fnd (ak_f3 s nm st) Et = k := by
        rw [hf]
        show k + (if ak_f3 s nm st en = true then 0 else ak_fnd (ak_f3 s nm st) rest + 1) = _
        rw [if_pos z]
        rfl
      rw [if_pos (by omega), hf2] at q
      exact q
  exact ak_MI_of (Nat.le_of_ble_eq_true rfl) (am_k113_0 (lp Et 0 (by omega) B (by omega)))
/-- what writing a row changes -/
def ak_wrF (r : Nat) (h h' : ak_S) : Prop := (∀ q k, ¬ (q = 45 ∧ 5 * r ≤ k ∧ k < 5 * r + 5) → h'.1 q k = h.1 q k) ∧ (∀ q k, ¬ (q = 46 ∧ 4 * r ≤ k ∧ k < 4 * r + 4) → h'.2.1 q k = h.2.1 q k) ∧ h'.2.2 = h.2.2
theorem am_s115 {Q : ak_S → Prop} {en : ak_E} {l : List Nat} (hr : r < 728) (n9 : h.1 33 9 = en.2.2.2.1) (n10 : h.1 33 10 = en.2.2.2.2) (v : ak_vis 0 h (fun i => decide (i ∈ l))) (q : ∀ h', ak_eC h' r en → ak_eB h' r l → ak_wrF r h h' → Q h') :
    ak_MV e 0 (d + 1) ρ 115 [am_r 44, am_r 33, am_i (r : Int), am_i en.2.1, am_i (en.1 : Int), am_i en.2.2.1] h Q X := by
  refine ak_MV_of (Nat.le_of_ble_eq_true rfl) (am_k115_0 ?_)
  rw [n9, n10, show am_w32 (am_w32 ((r : Int) * 5) + 0) = ((5 * r : Nat) : Int) from ak_w5c (c := 0) (by omega), show am_w32 (am_w32 ((r : Int) * 5) + 1) = ((5 * r + 1 : Nat) : Int) from ak_w5c (c := 1) (by omega), show am_w32 (am_w32 ((r : Int) * 5) + 2) = ((5 * r + 2 : Nat) : Int) from ak_w5c (c := 2) (by omega), show am_w32 (am_w32 ((r : Int) * 5) + 3) = ((5 * r + 3 : Nat) : Int) from ak_w5c (c := 3) (by omega), show am_w32 (am_w32 ((r : Int) * 5) + 4) = ((5 * r + 4 : Nat) : Int) from ak_w5c (c := 4) (by omega), ak_w4 (show r < 100000 by omega), ak_natn, ak_natn, ak_natn, ak_natn, ak_natn, ak_natn]
  have F : ∀ q k, ¬ (q = 45 ∧ 5 * r ≤ k ∧ k < 5 * r + 5) → am_up (am_up (am_up (am_up (am_up h.1 45 (5 * r) (en.1 : Int)) 45 (5 * r + 1) en.2.2.1) 45 (5 * r + 2) en.2.2.2.1) 45 (5 * r + 3) en.2.2.2.2) 45 (5 * r + 4) en.2.1 q k = h.1 q k := fun q k a => (ak_up_out (by omega)).trans ((ak_up_out (by omega)).trans ((ak_up_out (by omega)).trans ((ak_up_out (by omega)).trans (ak_up_out (by omega)))))
  refine ⟨by omega, by omega, by omega, by omega, by omega, by omega, q (am_up (am_up (am_up (am_up (am_up h.1 45 (5 * r) (en.1 : Int)) 45 (5 * r + 1) en.2.2.1) 45 (5 * r + 2) en.2.2.2.1) 45 (5 * r + 3) en.2.2.2.2) 45 (5 * r + 4) en.2.1, am_cpy h.2.1 41 46 0 (4 * r) 4, h.2.2) ⟨?_, ?_, ?_, ?_, ?_⟩ (fun o ho => ?_) ⟨F, fun q k a => ?_, rfl⟩⟩
  · simp [am_up]
  · simp [am_up]
  · simp [am_up]
  · simp [am_up]
  · simp [am_up]
  · show ak_lb (am_cpy h.2.1 41 46 0 (4 * r) 4 46 (4 * r + o / 64)) (o % 64) = decide (o ∈ l)
    have v1 : ak_lb (h.2.1 41 (o / 64)) (o % 64) = decide (o ∈ l) := v o ho
    rw [← v1]
    unfold am_cpy
    rw [if_pos rfl, if_pos (by omega), show 0 + (4 * r + o / 64 - 4 * r) = o / 64 by omega]
  · show am_cpy h.2.1 41 46 0 (4 * r) 4 q k = h.2.1 q k
    unfold am_cpy
    by_cases hq : q = 46
    · rw [if_pos hq, if_neg (by omega)]
    · rw [if_neg hq]
end CUSE
