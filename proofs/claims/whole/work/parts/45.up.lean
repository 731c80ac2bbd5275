/-! the law's state: the cells of the one, of the other, of the law -/
def ak_mrg (hc hm : ak_S) (o : Int) : ak_S :=
  (fun p k => if p < 110 then hc.1 p k else if p < 211 then hm.1 p k else 0, fun p k => if p < 110 then hc.2.1 p k else if p < 211 then hm.2.1 p k else if p = 211 ∧ k = 0 then o else 0, hc.2.2)
theorem ak_mrg_out {hc hm : ak_S} {o v : Int} : ((ak_mrg hc hm o).1, am_up (ak_mrg hc hm o).2.1 211 0 v, (ak_mrg hc hm o).2.2) = ak_mrg hc hm v := by
  unfold ak_mrg
  dsimp only
  congr 2
  funext p k
  unfold am_up
  by_cases hp : p = 211
  · subst hp
    by_cases hk : k = 0 <;> simp [hk]
  · simp [hp]
theorem ak_mrg_o {hc hm : ak_S} {o : Int} : (ak_mrg hc hm o).2.1 211 0 = o := by
  unfold ak_mrg
  dsimp only
  rw [if_neg (by omega), if_neg (by omega), if_pos ⟨rfl, rfl⟩]
def ak_m0 (hm : ak_S) (o : Int) (x : ak_R3) : ak_R3 := match x with
  | .inl (v, h) => .inl (v, ak_mrg h hm o)
  | .inr (n, h) => .inr (n, ak_mrg h hm o)
def ak_m1 (hc : ak_S) (o : Int) (x : ak_R3) : ak_R3 := match x with
  | .inl (v, h) => .inl (v, ak_mrg hc h o)
  | .inr (n, h) => .inr (n, ak_mrg hc h o)
def ak_bg (g : ak_G) (m : ak_S) (c : Nat × Nat) : ak_G := (fun p k => if p < 212 then m.1 p k else g.1 p k, fun p k => if p < 212 then m.2.1 p k else g.2.1 p k, c)
theorem ak_bg_ok {e : ak_X3} {g : ak_G} {m : ak_S} {c : Nat × Nat} (hg : ak_gok e g) : ak_gok e (ak_bg g m c) := by
  intro p k hp
  show (if p < 212 then m.1 p k else g.1 p k) = _
  rw [if_neg (by unfold am_SP at hp; omega)]
  exact hg p k hp
section UP
variable {e : ak_X3} {d j : Nat} {ρ : List Nat} {ar : List am_V} {hc hm : ak_S} {o : Int}
theorem ak_M1_up0 {Q : List Nat → ak_R3 → Prop} (w : ak_M1 e 0 d ρ j ar hc (fun ρ' x => Q ρ' (ak_m0 hm o x))) : ak_M1 e 2 d ρ j ar (ak_mrg hc hm o) Q := by
  obtain ⟨ρ', res, hQ, H⟩ := w
  refine ⟨ρ', ak_m0 hm o res, hQ, fun g hg => ?_⟩
  have key : ∀ (ρ : List Nat) (h : ak_S), ak_ov 0 (ak_bg g (ak_mrg hc hm o) (0, 0)) ρ h = ak_ov 2 g ρ (ak_mrg h hm o) := by
    intro ρ h
    unfold ak_ov ak_D ak_bg ak_mrg
    simp only [decide_eq_true_eq]
    congr 1
    congr 1
    · funext p k
      by_cases h1 : p < 110
      · simp [h1, show p < 212 by omega]
      · by_cases h2 : p < 212
        · simp [h1, h2]
        · simp [h1, h2]
    · congr 1
      funext p k
      by_cases h1 : p < 110
      · simp [h1, show p < 212 by omega]
      · by_cases h2 : p < 212
        · simp [h1, h2]
        · simp [h1, h2]
  obtain ⟨F, hF⟩ := H _ (ak_bg_ok hg)
  refine ⟨F, ?_⟩
  rw [← key, hF]
  cases res with
  | inl x => obtain ⟨v, h⟩ := x; simp only [ak_lf, ak_m0, key]
  | inr x => obtain ⟨v, h⟩ := x; simp only [ak_lf, ak_m0, key]
theorem ak_M1_up1 {Q : List Nat → ak_R3 → Prop} (w : ak_M1 e 1 d ρ j ar hm (fun ρ' x => Q ρ' (ak_m1 hc o x))) : ak_M1 e 2 d ρ j ar (ak_mrg hc hm o) Q := by
  obtain ⟨ρ', res, hQ, H⟩ := w
  refine ⟨ρ', ak_m1 hc o res, hQ, fun g hg => ?_⟩
  have key : ∀ (ρ : List Nat) (h : ak_S), ak_ov 1 (ak_bg g (ak_mrg hc hm o) hc.2.2) ρ h = ak_ov 2 g ρ (ak_mrg hc h o) := by
    intro ρ h
    unfold ak_ov ak_D ak_bg ak_mrg
    simp only [decide_eq_true_eq, Bool.and_eq_true]
    congr 1
    congr 1
    · funext p k
      by_cases h1 : p < 110
      · simp [h1, show p < 212 by omega, show ¬ 110 ≤ p by omega]
      · by_cases h2 : p < 211
        · simp [h1, h2, show p < 212 by omega, show 110 ≤ p by omega]
        · by_cases h3 : p < 212
          · simp [h1, h2, h3]
          · simp [h1, h2, h3]
    · congr 1
      funext p k
      by_cases h1 : p < 110
      · simp [h1, show p < 212 by omega, show ¬ 110 ≤ p by omega]
      · by_cases h2 : p < 211
        · simp [h1, h2, show p < 212 by omega, show 110 ≤ p by omega]
        · by_cases h3 : p < 212
          · simp [h1, h2, h3]
          · simp [h1, h2, h3]
  obtain ⟨F, hF⟩ := H _ (ak_bg_ok hg)
  refine ⟨F, ?_⟩
  rw [← key, hF]
  cases res with
  | inl x => obtain ⟨v, h⟩ := x; simp only [ak_lf, ak_m1, key]
  | inr x => obtain ⟨v, h⟩ := x; simp only [ak_lf, ak_m1, key]
theorem ak_MI_up0 {Q : Int → ak_S → Prop} {X : Nat → ak_S → Prop} (w : ak_MI e 0 d ρ j ar hc (fun v h => Q v (ak_mrg h hm o)) (fun x h => X x (ak_mrg h hm o))) : ak_MI e 2 d ρ j ar (ak_mrg hc hm o) Q X := by
  refine ak_M1_up0 (ak_M1_imp w (fun ρ' x q => ⟨q.1, ?_⟩))
  rcases x with ⟨v, h⟩ | ⟨n, h⟩
  · rcases v with - | v | v | v <;> exact q.2
  · exact q.2
theorem ak_MJ_up0 {Q : Int → ak_S → Prop} {X : Nat → ak_S → Prop} (w : ak_MJ e 0 d ρ j ar hc (fun v h => Q v (ak_mrg h hm o)) (fun x h => X x (ak_mrg h hm o))) : ak_MJ e 2 d ρ j ar (ak_mrg hc hm o) Q X := by
  refine ak_M1_up0 (ak_M1_imp w (fun ρ' x q => ⟨q.1, ?_⟩))
  rcases x with ⟨v, h⟩ | ⟨n, h⟩
  · rcases v with - | v | v | v <;> exact q.2
  · exact q.2
theorem ak_MV_up0 {Q : ak_S → Prop} {X : Nat → ak_S → Prop} (w : ak_MV e 0 d ρ j ar hc (fun h => Q (ak_mrg h hm o)) (fun x h => X x (ak_mrg h hm o))) : ak_MV e 2 d ρ j ar (ak_mrg hc hm o) Q X := by
  refine ak_M1_up0 (ak_M1_imp w (fun ρ' x q => ⟨q.1, ?_⟩))
  rcases x with ⟨v, h⟩ | ⟨n, h⟩
  · rcases v with - | v | v | v <;> exact q.2
  · exact q.2
theorem ak_MI_up1 {Q : Int → ak_S → Prop} {X : Nat → ak_S → Prop} (w : ak_MI e 1 d ρ j ar hm (fun v h => Q v (ak_mrg hc h o)) (fun x h => X x (ak_mrg hc h o))) : ak_MI e 2 d ρ j ar (ak_mrg hc hm o) Q X := by
  refine ak_M1_up1 (ak_M1_imp w (fun ρ' x q => ⟨q.1, ?_⟩))
  rcases x with ⟨v, h⟩ | ⟨n, h⟩
  · rcases v with - | v | v | v <;> exact q.2
  · exact q.2
theorem ak_MJ_up1 {Q : Int → ak_S → Prop} {X : Nat → ak_S → Prop} (w : ak_MJ e 1 d ρ j ar hm (fun v h => Q v (ak_mrg hc h o)) (fun x h => X x (ak_mrg hc h o))) : ak_MJ e 2 d ρ j ar (ak_mrg hc hm o) Q X := by
  refine ak_M1_up1 (ak_M1_imp w (fun ρ' x q => ⟨q.1, ?_⟩))
  rcases x with ⟨v, h⟩ | ⟨n, h⟩
  · rcases v with - | v | v | v <;> exact q.2
  · exact q.2
theorem ak_MV_up1 {Q : ak_S → Prop} {X : Nat → ak_S → Prop} (w : ak_MV e 1 d ρ j ar hm (fun h => Q (ak_mrg hc h o)) (fun x h => X x (ak_mrg hc h o))) : ak_MV e 2 d ρ j ar (ak_mrg hc hm o) Q X := by
  refine ak_M1_up1 (ak_M1_imp w (fun ρ' x q => ⟨q.1, ?_⟩))
  rcases x with ⟨v, h⟩ | ⟨n, h⟩
  · rcases v with - | v | v | v <;> exact q.2
  · exact q.2
end UP
section IMP
variable {e : ak_X3} {r d j : Nat} {ρ : List Nat} {ar : List am_V} {h : ak_S} {X X' : Nat → ak_S → Prop}
theorem ak_MI_imp {Q Q' : Int → ak_S → Prop} (w : ak_MI e r d ρ j ar h Q X) (hq : ∀ v h, Q v h → Q' v h) (hx : ∀ x h, X x h → X' x h) : ak_MI e r d ρ j ar h Q' X' := by
  refine ak_M1_imp w (fun ρ' x q => ⟨q.1, ?_⟩)
  rcases x with ⟨v, h⟩ | ⟨n, h⟩
  · rcases v with - | v | v | v
    · exact q.2.elim
    · exact hq _ _ q.2
    · exact q.2.elim
    · exact q.2.elim
  · exact hx _ _ q.2
theorem ak_MJ_imp {Q Q' : Int → ak_S → Prop} (w : ak_MJ e r d ρ j ar h Q X) (hq : ∀ v h, Q v h → Q' v h) (hx : ∀ x h, X x h → X' x h) : ak_MJ e r d ρ j ar h Q' X' := by
  refine ak_M1_imp w (fun ρ' x q => ⟨q.1, ?_⟩)
  rcases x with ⟨v, h⟩ | ⟨n, h⟩
  · rcases v with - | v | v | v
    · exact q.2.elim
    · exact q.2.elim
    · exact hq _ _ q.2
    · exact q.2.elim
  · exact hx _ _ q.2
theorem ak_MV_imp {Q Q' : ak_S → Prop} (w : ak_MV e r d ρ j ar h Q X) (hq : ∀ h, Q h → Q' h) (hx : ∀ x h, X x h → X' x h) : ak_MV e r d ρ j ar h Q' X' := by
  refine ak_M1_imp w (fun ρ' x q => ⟨q.1, ?_⟩)
  rcases x with ⟨v, h⟩ | ⟨n, h⟩
  · cases v with
    | none => exact hq _ q.2
    | some v => exact q.2.elim
  · exact hx _ _ q.2
theorem ak_MI_deep {d' : Nat} (hd : d ≤ d') {Q : Int → ak_S → Prop} (w : ak_MI e r d ρ j ar h Q X) : ak_MI e r d' ρ j ar h Q X := ak_M1_deep hd w
theorem ak_MJ_deep {d' : Nat} (hd : d ≤ d') {Q : Int → ak_S → Prop} (w : ak_MJ e r d ρ j ar h Q X) : ak_MJ e r d' ρ j ar h Q X := ak_M1_deep hd w
theorem ak_MV_deep {d' : Nat} (hd : d ≤ d') {Q : ak_S → Prop} (w : ak_MV e r d ρ j ar h Q X) : ak_MV e r d' ρ j ar h Q X := ak_M1_deep hd w
end IMP
theorem ak_lsign0 {a b : Int} : am_lsign a b = 0 ↔ a = b := by
  unfold am_lsign
  split
  · constructor <;> intro h <;> omega
  · split
    · constructor <;> intro h <;> omega
    · constructor <;> intro h <;> omega
theorem am_s197 {e : ak_X3} {d : Nat} {ρ : List Nat} {h : ak_S} {Q : Int → ak_S → Prop} {X : Nat → ak_S → Prop} (w : Q (h.1 110 0) h) : ak_MI e 1 (d + 1) ρ 197 [am_r 110] h Q X := ak_MI_of (Nat.le_of_ble_eq_true rfl) (am_k197_0 w)
/-- a call on both sides: the one's answer is the other's, what it throws is told by the other -/
def ak_F : Nat → ak_S → Prop := fun _ _ => False
def ak_cI (e : ak_X3) (d : Nat) (ρ : List Nat) (a m : Nat) (ar : List am_V) (hc hm : ak_S) (cd : List (Nat × Int)) (R : ak_S → ak_S → Prop) : Prop :=
  ak_MI e 0 d ρ a (am_r 1 :: ar) hc (fun v hc' => ak_MI e 1 d ρ m (am_r 110 :: ar) hm (fun b hm' => R hc' hm' ∧ hm'.1 110 0 = 0 ∧ v = b) ak_F)
    (fun x hc' => ∃ c, (x, c) ∈ cd ∧ ak_MI e 1 d ρ m (am_r 110 :: ar) hm (fun _ hm' => R hc' hm' ∧ hm'.1 110 0 = c) ak_F)
def ak_cJ (e : ak_X3) (d : Nat) (ρ : List Nat) (a m : Nat) (ar : List am_V) (hc hm : ak_S) (cd : List (Nat × Int)) (R : ak_S → ak_S → Prop) : Prop :=
  ak_MJ e 0 d ρ a (am_r 1 :: ar) hc (fun v hc' => ak_MJ e 1 d ρ m (am_r 110 :: ar) hm (fun b hm' => R hc' hm' ∧ hm'.1 110 0 = 0 ∧ v = b) ak_F)
    (fun x hc' => ∃ c, (x, c) ∈ cd ∧ ak_MJ e 1 d ρ m (am_r 110 :: ar) hm (fun _ hm' => R hc' hm' ∧ hm'.1 110 0 = c) ak_F)
def ak_cV (e : ak_X3) (d : Nat) (ρ : List Nat) (a m : Nat) (ar : List am_V) (hc hm : ak_S) (cd : List (Nat × Int)) (R : ak_S → ak_S → Prop) : Prop :=
  ak_MV e 0 d ρ a (am_r 1 :: ar) hc (fun hc' => ak_MV e 1 d ρ m (am_r 110 :: ar) hm (fun hm' => R hc' hm' ∧ hm'.1 110 0 = 0) ak_F)
    (fun x hc' => ∃ c, (x, c) ∈ cd ∧ ak_MV e 1 d ρ m (am_r 110 :: ar) hm (fun hm' => R hc' hm' ∧ hm'.1 110 0 = c) ak_F)
def ak_cZ (e : ak_X3) (d : Nat) (ρ : List Nat) (a m : Nat) (ar : List am_V) (hc hm : ak_S) (cd : List (Nat × Int)) (R : ak_S → ak_S → Prop) : Prop :=
  ak_MI e 0 d ρ a (am_r 1 :: ar) hc (fun v hc' => (v = 0 ∨ v = 1) ∧ ak_MI e 1 d ρ m (am_r 110 :: ar) hm (fun b hm' => R hc' hm' ∧ hm'.1 110 0 = 0 ∧ v = b) ak_F)
    (fun x hc' => ∃ c, (x, c) ∈ cd ∧ ak_MI e 1 d ρ m (am_r 110 :: ar) hm (fun _ hm' => R hc' hm' ∧ hm'.1 110 0 = c) ak_F)
