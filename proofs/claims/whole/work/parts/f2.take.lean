/-! the run: a room is taken, given back; a frame of the other is taken, ends -/
section TAKE
variable {e : ak_X3} {d n m r f : Nat} {ρ : List Nat} {h : ak_S} {Q : ak_S → Prop} {X : Nat → ak_S → Prop} {s w x y : Int}
/-- twelve places from a on are 0 -/
def ak_zR (q a i : Nat) (h : ak_S) : ak_S := (fun p k => if p = q ∧ a ≤ k ∧ k < a + i then 0 else h.1 p k, h.2)
def ak_zJ (q a i : Nat) (h : ak_S) : ak_S := (h.1, fun p k => if p = q ∧ a ≤ k ∧ k < a + i then 0 else h.2.1 p k, h.2.2)
theorem ak_rng_step {F : Nat → Nat → Int} {q a i : Nat} : am_up (fun p k => if p = q ∧ a ≤ k ∧ k < a + i then 0 else F p k) q (a + i) 0 = fun p k => if p = q ∧ a ≤ k ∧ k < a + (i + 1) then 0 else F p k := by
  funext p k
  simp only [am_up]
  by_cases hp : p = q
  · rw [if_pos hp]
    by_cases hk : k = a + i
    · rw [if_pos hk, if_pos ⟨hp, by omega, by omega⟩]
    · rw [if_neg hk]
      by_cases hk2 : a ≤ k ∧ k < a + i
      · rw [if_pos ⟨hp, hk2⟩, if_pos ⟨hp, by omega, by omega⟩]
      · rw [if_neg (fun z => hk2 z.2), if_neg (fun z => hk2 ⟨z.2.1, by omega⟩)]
  · rw [if_neg hp, if_neg (fun z => hp z.1), if_neg (fun z => hp z.1)]
theorem ak_zR_step {q a i : Nat} : (am_up (ak_zR q a i h).1 q (a + i) 0, (ak_zR q a i h).2) = ak_zR q a (i + 1) h := congrArg (fun x => (x, h.2)) ak_rng_step
theorem ak_zJ_step {q a i : Nat} : ((ak_zJ q a i h).1, am_up (ak_zJ q a i h).2.1 q (a + i) 0, (ak_zJ q a i h).2.2) = ak_zJ q a (i + 1) h := congrArg (fun x => (h.1, x, h.2.2)) ak_rng_step
theorem ak_zR_0 {q a : Nat} : ak_zR q a 0 h = h := by
  have : (ak_zR q a 0 h).1 = h.1 := funext fun p => funext fun k => if_neg (by omega)
  exact Prod.ext this rfl
theorem ak_zJ_0 {q a : Nat} : ak_zJ q a 0 h = h := by
  have : (ak_zJ q a 0 h).2.1 = h.2.1 := funext fun p => funext fun k => if_neg (by omega)
  exact Prod.ext rfl (Prod.ext this rfl)
theorem am_s367 {a b c : Int} (h1 : 0 ≤ a) (h2 : a ≤ b) (h3 : b ≤ c) (q : Q h) : ak_MV e 0 (d + 1) ρ 367 [am_i c, am_i a, am_i b] h Q X :=
  ak_MV_of (Nat.le_of_ble_eq_true rfl) (am_k367_0 ⟨fun _ => ⟨fun _ => ⟨fun _ => q, fun g => by omega⟩, fun g => by omega⟩, fun g => by omega⟩)
theorem am_s364 (hr : r < 560) (q : Q (ak_zR 50 (12 * r) 12 h)) : ak_MV e 0 (d + 2) ρ 364 [am_r 50, am_i ((12 * r : Nat) : Int), am_i ((12 * r + 12 : Nat) : Int), am_i 0] h Q X := by
  have lp : ∀ (c i : Nat), i + c = 12 → ak_W0 e 0 (d + 1) 364 ρ 10 [some (am_r 50), none, some (am_i ((12 * r + 12 : Nat) : Int)), some (am_i 0), some (am_i ((12 * r + i : Nat) : Int))] [] (ak_zR 50 (12 * r) i h) (ak_qv Q X) := by
    intro c
    induction c with
    | zero =>
      intro i hi
      have : i = 12 := by omega
      subst this
      exact am_k364_10 ⟨fun _ => q, fun g => absurd g (by omega)⟩
    | succ c ih =>
      intro i hi
      refine am_k364_10 ⟨fun g => absurd g (by omega), fun _ => ⟨by omega, ?_⟩⟩
      rw [ak_wj (show 12 * r + i < 1000000 by omega), ak_natn, ak_zR_step]
      exact ih (i + 1) (by omega)
  refine ak_MV_of (Nat.le_of_ble_eq_true rfl) (am_k364_0 (am_s367 (by omega) (by omega) (by omega) ?_))
  have := lp 12 0 rfl
  rw [ak_zR_0] at this
  exact this
theorem am_s365 (hr : r < 560) (q : Q (ak_zJ 51 (12 * r) 12 h)) : ak_MV e 0 (d + 2) ρ 365 [am_r 51, am_i ((12 * r : Nat) : Int), am_i ((12 * r + 12 : Nat) : Int), am_l 0] h Q X := by
  have lp : ∀ (c i : Nat), i + c = 12 → ak_W0 e 0 (d + 1) 365 ρ 10 [some (am_r 51), none, some (am_i ((12 * r + 12 : Nat) : Int)), some (am_l 0), none, some (am_i ((12 * r + i : Nat) : Int))] [] (ak_zJ 51 (12 * r) i h) (ak_qv Q X) := by
    intro c
    induction c with
    | zero =>
      intro i hi
      have : i = 12 := by omega
      subst this
      exact am_k365_10 ⟨fun _ => q, fun g => absurd g (by omega)⟩
    | succ c ih =>
      intro i hi
      refine am_k365_10 ⟨fun g => absurd g (by omega), fun _ => ⟨by omega, ?_⟩⟩
      rw [ak_wj (show 12 * r + i < 1000000 by omega), ak_natn, ak_zJ_step]
      exact ih (i + 1) (by omega)
  refine ak_MV_of (Nat.le_of_ble_eq_true rfl) (am_k365_0 (am_s367 (by omega) (by omega) (by omega) ?_))
  have := lp 12 0 rfl
  rw [ak_zJ_0] at this
  exact this
/-- a room taken: the top of the free ones -/
def ak_tkC (h : ak_S) (n r : Nat) (fn ar ho : Int) : ak_S := (am_up (am_up (am_up (am_up (ak_zR 50 (12 * r) 12 (am_up h.1 49 11 (n : Int), h.2)).1 52 r ar) 53 r ho) 54 r fn) 55 r 0, (ak_zJ 51 (12 * r) 12 h).2)
theorem am_s140 {Q : Int → ak_S → Prop} {fn ar : Int} (hn : h.1 49 11 = ((n + 1 : Nat) : Int)) (hn2 : n < 560) (hr : h.1 60 n = (r : Int)) (hr2 : r < 560) (har : ar < 560) (q : Q (r : Int) (ak_tkC h n r fn ar (if ar < 0 then (r : Int) else h.1 53 ar.toNat))) : ak_MI e 0 (d + 3) ρ 140 [am_r 49, am_i fn, am_i ar] h Q X := by
  refine ak_MI_of (Nat.le_of_ble_eq_true rfl) (am_k140_0 ?_)
  rw [hn, show am_w32 (((n + 1 : Nat) : Int) - 1) = (n : Int) from by rw [ak_w _ (by omega)]; omega, ak_natn, hr, show am_w32 ((r : Int) * 12) = ((12 * r : Nat) : Int) from by rw [ak_w _ (by omega)]; omega, show am_w32 (am_w32 ((r : Int) + 1) * 12) = ((12 * r + 12 : Nat) : Int) from by rw [ak_w ((r : Int) + 1) (by omega), ak_w _ (by omega)]; omega, ak_natn]
  refine ⟨fun _ => ⟨by omega, am_s364 hr2 (am_s365 hr2 ⟨by omega, fun g => ⟨by omega, by omega, by omega, ⟨by omega, Or.inl rfl⟩, ?_⟩, fun g => ⟨by omega, by omega, ⟨by omega, Or.inl rfl⟩, ?_⟩⟩)⟩, fun g => absurd g (by omega)⟩
  · rw [if_neg (by omega)] at q
    have e1 : (ak_zJ 51 (12 * r) 12 (ak_zR 50 (12 * r) 12 (am_up h.1 49 11 (n : Int), h.2))).1 53 ar.toNat = h.1 53 ar.toNat := by
      show (if 53 = 50 ∧ 12 * r ≤ ar.toNat ∧ ar.toNat < 12 * r + 12 then 0 else am_up h.1 49 11 (n : Int) 53 ar.toNat) = _
      rw [if_neg (by omega), ak_up_out (by omega)]
    rw [e1]
    exact q
  · rw [if_pos g] at q
    exact q
/-- a room given back -/
def ak_gbC (h : ak_S) (n r : Nat) : ak_S := if h.1 55 r = 0 then (am_up (am_up (am_up h.1 54 r (-1)) 60 n (r : Int)) 49 11 ((n + 1 : Nat) : Int), h.2) else (am_up h.1 54 r (-1), h.2)
theorem am_s142 (hn : h.1 49 11 = (n : Int)) (hr2 : r < 560) (hn2 : n < 560) (q : Q (ak_gbC h n r)) : ak_MV e 0 (d + 1) ρ 142 [am_r 49, am_i (r : Int)] h Q X := by
  unfold ak_gbC at q
  refine ak_MV_of (Nat.le_of_ble_eq_true rfl) (am_k142_0 ?_)
  rw [hn, ak_natn, ak_natn, ak_wj (show n < 1000000 by omega)]
  refine ⟨by omega, by omega, fun g => ?_, fun g => ⟨fun g2 => absurd g2 (by omega), fun _ => ⟨by omega, ?_⟩⟩⟩
  · rw [if_neg g] at q; exact q
  · rw [if_pos g] at q; exact q
/-- the other's free frame -/
theorem am_s271 {Q : Int → ak_S → Prop} (ex : ∃ f, f < 564 ∧ h.1 173 f = 0) (q : ∀ f, f < 564 → h.1 173 f = 0 → Q (f : Int) (am_up h.1 173 f 1, h.2)) : ak_MI e 1 (d + 1) ρ 271 [am_r 110] h Q X := by
  obtain ⟨f0, hf0, hz⟩ := ex
  have lp : ∀ (c i : Nat), i + c = f0 → ak_W0 e 1 d 271 ρ 2 [some (am_r 110), some (am_i (i : Int))] [] h (ak_qi Q X) := by
    intro c
    induction c with
    | zero =>
      intro i hi
      have : i = f0 := by omega
      subst this
      refine am_k271_2 ?_
      rw [ak_natn]
      exact ⟨by omega, fun _ => ⟨⟨by omega, Or.inr rfl⟩, q i hf0 hz⟩, fun g => absurd hz g⟩
    | succ c ih =>
      intro i hi
      refine am_k271_2 ?_
      rw [ak_natn, ak_wj (show i < 1000000 by omega)]
      exact ⟨by omega, fun g => ⟨⟨by omega, Or.inr rfl⟩, q i (by omega) g⟩, fun _ => ih (i + 1) (by omega)⟩
  exact ak_MI_of (Nat.le_of_ble_eq_true rfl) (am_k271_0 (lp f0 0 (by omega)))
/-- the other's frame begins -/
def ak_enM (n m f : Nat) (h h' : ak_S) : Prop := (h'.1 173 f = 1 ∧ h'.1 174 f = 0 ∧ h'.1 175 f = 1 ∧ h'.1 176 f = 0) ∧ (∀ k, k < 12 → h'.1 184 (12 * f + k) = 0 ∧ h'.2.1 185 (12 * f + k) = 0) ∧ (h'.1 110 103 = ((n + 1 : Nat) : Int) ∧ h'.1 110 132 = ((m + 1 : Nat) : Int)) ∧ (h'.1 201 m = 8 ∧ h'.1 202 m = (f : Int) ∧ h'.1 203 m = h.1 110 102 ∧ h'.1 204 m = h.1 110 127) ∧
  (∀ q k, ¬ (173 ≤ q ∧ q ≤ 176 ∧ k = f) → ¬ (q = 184 ∧ 12 * f ≤ k ∧ k < 12 * f + 12) → ¬ (q = 110 ∧ (k = 103 ∨ k = 132)) → ¬ (201 ≤ q ∧ q ≤ 204 ∧ k = m) → h'.1 q k = h.1 q k) ∧ (∀ q k, ¬ (q = 185 ∧ 12 * f ≤ k ∧ k < 12 * f + 12) → h'.2.1 q k = h.2.1 q k) ∧ h'.2.2 = h.2.2
theorem am_s272 {Q : Int → ak_S → Prop} (hn : h.1 110 103 = (n : Int)) (hn2 : n ≤ 60) (hm : h.1 110 132 = (m : Int)) (hm2 : m < 370000) (ex : ∃ f, f < 564 ∧ h.1 173 f = 0) (q1 : n < 60 → ∀ f h', f < 564 → h.1 173 f = 0 → ak_enM n m f h h' → Q (f : Int) h') (q0 : n = 60 → Q (-1) (am_up h.1 110 105 3, h.2)) : ak_MI e 1 (d + 2) ρ 272 [am_r 110] h Q X := by
  refine ak_MI_of (Nat.le_of_ble_eq_true rfl) (am_k272_0 ?_)
  rw [hn, ak_wj (show n < 1000000 by omega)]
  refine ⟨fun g => ?_, fun g => q0 (by omega)⟩
  refine am_s271 (h := (am_up h.1 110 103 ((n + 1 : Nat) : Int), h.2)) ?_ (fun f hf hz => ⟨⟨by omega, Or.inr rfl⟩, ⟨by omega, Or.inl rfl⟩, ⟨by omega, Or.inl rfl⟩, ?_⟩)
  · obtain ⟨f, h1, h2⟩ := ex
    exact ⟨f, h1, h2⟩
  · rw [ak_natn]
    have W : ∀ q k, ¬ (173 ≤ q ∧ q ≤ 176 ∧ k = f) → ¬ (q = 110 ∧ k = 103) → am_up (am_up (am_up (am_up (am_up h.1 110 103 ((n + 1 : Nat) : Int)) 173 f 1) 175 f 1) 174 f 0) 176 f 0 q k = h.1 q k := fun q k a b => (ak_up_out (by omega)).trans ((ak_up_out (by omega)).trans ((ak_up_out (by omega)).trans ((ak_up_out (by omega)).trans (ak_up_out (by omega)))))
    have W1 : am_up (am_up (am_up (am_up (am_up h.1 110 103 ((n + 1 : Nat) : Int)) 173 f 1) 175 f 1) 174 f 0) 176 f 0 110 103 = ((n + 1 : Nat) : Int) ∧ am_up (am_up (am_up (am_up (am_up h.1 110 103 ((n + 1 : Nat) : Int)) 173 f 1) 175 f 1) 174 f 0) 176 f 0 173 f = 1 ∧ am_up (am_up (am_up (am_up (am_up h.1 110 103 ((n + 1 : Nat) : Int)) 173 f 1) 175 f 1) 174 f 0) 176 f 0 174 f = 0 ∧ am_up (am_up (am_up (am_up (am_up h.1 110 103 ((n + 1 : Nat) : Int)) 173 f 1) 175 f 1) 174 f 0) 176 f 0 175 f = 1 ∧ am_up (am_up (am_up (am_up (am_up h.1 110 103 ((n + 1 : Nat) : Int)) 173 f 1) 175 f 1) 174 f 0) 176 f 0 176 f = 0 := by simp [am_up]
    show ak_W0 e 1 (d + 1) 272 ρ 54 [some (am_r 110), some (am_i (f : Int)), some (am_i 0)] [] (am_up (am_up (am_up (am_up (am_up h.1 110 103 ((n + 1 : Nat) : Int)) 173 f 1) 175 f 1) 174 f 0) 176 f 0, h.2) (ak_qi Q X)
    generalize am_up (am_up (am_up (am_up (am_up h.1 110 103 ((n + 1 : Nat) : Int)) 173 f 1) 175 f 1) 174 f 0) 176 f 0 = F at W W1
    have lp : ∀ (c i : Nat) (h1 : ak_S), i + c = 12 → (∀ k, k < i → h1.1 184 (12 * f + k) = 0 ∧ h1.2.1 185 (12 * f + k) = 0) → (∀ q k, ¬ (q = 184 ∧ 12 * f ≤ k ∧ k < 12 * f + 12) → h1.1 q k = F q k) → (∀ q k, ¬ (q = 185 ∧ 12 * f ≤ k ∧ k < 12 * f + 12) → h1.2.1 q k = h.2.1 q k) → h1.2.2 = h.2.2 →
        ak_W0 e 1 (d + 1) 272 ρ 54 [some (am_r 110), some (am_i (f : Int)), some (am_i (i : Int))] [] h1 (ak_qi Q X) := by
      intro c
      induction c with
      | zero =>
        intro i h1 hi z1 z2 z3 z4
        have : i = 12 := by omega
        subst this
        refine am_k272_54 ⟨fun _ => ?_, fun g => absurd g (by decide)⟩
        refine am_s266 (n := m) ((z2 110 132 (by omega)).trans ((W 110 132 (by omega) (by omega)).trans hm)) hm2 ?_
        have e102 : h1.1 110 102 = h.1 110 102 := (z2 110 102 (by omega)).trans (W 110 102 (by omega) (by omega))
        have e127 : h1.1 110 127 = h.1 110 127 := (z2 110 127 (by omega)).trans (W 110 127 (by omega) (by omega))
        have J : ∀ q k, ¬ (201 ≤ q ∧ q ≤ 204 ∧ k = m) → ¬ (q = 110 ∧ k = 132) → (ak_jbM h1 m 8 (f : Int) (h1.1 110 102) (h1.1 110 127)).1 q k = h1.1 q k := fun q k a b => (ak_up_out (by omega)).trans ((ak_up_out (by omega)).trans ((ak_up_out (by omega)).trans ((ak_up_out (by omega)).trans (ak_up_out (by omega)))))
        have J1 : (ak_jbM h1 m 8 (f : Int) (h1.1 110 102) (h1.1 110 127)).1 110 132 = ((m + 1 : Nat) : Int) ∧ (ak_jbM h1 m 8 (f : Int) (h1.1 110 102) (h1.1 110 127)).1 201 m = 8 ∧ (ak_jbM h1 m 8 (f : Int) (h1.1 110 102) (h1.1 110 127)).1 202 m = (f : Int) ∧ (ak_jbM h1 m 8 (f : Int) (h1.1 110 102) (h1.1 110 127)).1 203 m = h1.1 110 102 ∧ (ak_jbM h1 m 8 (f : Int) (h1.1 110 102) (h1.1 110 127)).1 204 m = h1.1 110 127 := by
          unfold ak_jbM
          simp [am_up]
        have J2 : (ak_jbM h1 m 8 (f : Int) (h1.1 110 102) (h1.1 110 127)).2 = h1.2 := rfl
        generalize ak_jbM h1 m 8 (f : Int) (h1.1 110 102) (h1.1 110 127) = h2 at J J1 J2
        refine q1 (by omega) f h2 hf hz ⟨⟨?_, ?_, ?_, ?_⟩, fun k hk => ⟨(J 184 _ (by omega) (by omega)).trans (z1 k hk).1, by rw [J2]; exact (z1 k hk).2⟩, ⟨?_, J1.1⟩, ⟨J1.2.1, J1.2.2.1, J1.2.2.2.1.trans e102, J1.2.2.2.2.trans e127⟩, fun q k a b c g => ?_, fun q k a => by rw [J2]; exact z3 q k a, by rw [J2]; exact z4⟩
        · exact (J 173 f (by omega) (by omega)).trans ((z2 173 f (by omega)).trans W1.2.1)
        · exact (J 174 f (by omega) (by omega)).trans ((z2 174 f (by omega)).trans W1.2.2.1)
        · exact (J 175 f (by omega) (by omega)).trans ((z2 175 f (by omega)).trans W1.2.2.2.1)
        · exact (J 176 f (by omega) (by omega)).trans ((z2 176 f (by omega)).trans W1.2.2.2.2)
        · exact (J 110 103 (by omega) (by omega)).trans ((z2 110 103 (by omega)).trans W1.1)
        · exact (J q k (by omega) (by omega)).trans ((z2 q k b).trans (W q k a (by omega)))
      | succ c ih =>
        intro i h1 hi z1 z2 z3 z4
        refine am_k272_54 ⟨fun g => absurd g (by omega), fun _ => ?_⟩
        rw [show am_w32 (am_w32 (12 * (f : Int)) + (i : Int)) = ((12 * f + i : Nat) : Int) from by
          rw [ak_w (12 * (f : Int)) (by omega), ak_w _ (by omega)]
          omega, ak_natn, ak_wj (show i < 1000000 by omega)]
        refine ⟨by omega, by omega, ih (i + 1) (am_up h1.1 184 (12 * f + i) 0, am_up h1.2.1 185 (12 * f + i) 0, h1.2.2) (by omega) (fun k hk => ?_) (fun q k a => (show am_up h1.1 184 (12 * f + i) 0 q k = h1.1 q k from ak_up_out (by omega)).trans (z2 q k a)) (fun q k a => (show am_up h1.2.1 185 (12 * f + i) 0 q k = h1.2.1 q k from ak_up_out (by omega)).trans (z3 q k a)) z4⟩
        show am_up h1.1 184 (12 * f + i) 0 184 (12 * f + k) = 0 ∧ am_up h1.2.1 185 (12 * f + i) 0 185 (12 * f + k) = 0
        by_cases hk2 : k = i
        · subst hk2
          exact ⟨ak_up_at, ak_up_at⟩
        · rw [ak_up_out (by omega), ak_up_out (by omega)]
          exact z1 k (by omega)
    exact lp 12 0 _ rfl (fun k hk => absurd hk (Nat.not_lt_zero _)) (fun _ _ _ => rfl) (fun _ _ _ => rfl) rfl
/-- the other's frame ends -/
def ak_edM (h : ak_S) (n f : Nat) : ak_S := (am_up (am_up (am_up h.1 175 f 0) 173 f (h.1 174 f)) 110 103 (n : Int), h.2)
theorem am_s273 (hn : h.1 110 103 = ((n + 1 : Nat) : Int)) (hn2 : n < 60) (hf : f < 564) (h1 : h.1 174 f = 0 ∨ h.1 174 f = 1) (q : Q (ak_edM h n f)) : ak_MV e 1 (d + 1) ρ 273 [am_r 110, am_i (f : Int)] h Q X := by
  refine ak_MV_of (Nat.le_of_ble_eq_true rfl) (am_k273_0 ?_)
  rw [hn, ak_natn, show am_w32 (((n + 1 : Nat) : Int) - 1) = (n : Int) from by rw [ak_w _ (by omega)]; omega]
  exact ⟨⟨by omega, Or.inl rfl⟩, by omega, ⟨by omega, h1⟩, q⟩
end TAKE
