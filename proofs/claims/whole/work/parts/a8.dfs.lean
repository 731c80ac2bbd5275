/-! the way of a shape: its parents, their parents and so on, each object once -/
def ak_mq (v : Nat → Bool) (o : Nat) : Nat → Bool := fun i => decide (i = o) || v i
def ak_dfs (T : Nat → List (Int × Int)) (sh : Nat → Nat) : Nat → List (List (Int × Int)) → (Nat → Bool) → List Nat
  | 0, _, _ => []
  | _ + 1, [], _ => []
  | f + 1, [] :: st, v => ak_dfs T sh f st v
  | f + 1, (x :: r) :: st, v => if x.1 = 2 ∧ v x.2.toNat = false then x.2.toNat :: ak_dfs T sh f (T (sh x.2.toNat) :: r :: st) (ak_mq v x.2.toNat) else ak_dfs T sh f (r :: st) v
/-- how many below n are not marked -/
def ak_un (v : Nat → Bool) : Nat → Nat
  | 0 => 0
  | n + 1 => ak_un v n + if v n = true then 0 else 1
def ak_wt : List (List (Int × Int)) → Nat
  | [] => 0
  | l :: st => l.length + 1 + ak_wt st
/-- the way's rest from a stack of open rows on -/
def ak_W (T : Nat → List (Int × Int)) (sh : Nat → Nat) (O : Nat) (st : List (List (Int × Int))) (v : Nat → Bool) : List Nat := ak_dfs T sh (ak_wt st + 14 * ak_un v O + 1) st v
theorem ak_un_le {v : Nat → Bool} : ∀ n, ak_un v n ≤ n := by
  intro n
  induction n with
  | zero => exact Nat.le_refl _
  | succ n ih =>
    unfold ak_un
    split <;> omega
theorem ak_un_low {v : Nat → Bool} {o : Nat} : ∀ n, n ≤ o → ak_un (ak_mq v o) n = ak_un v n := by
  intro n
  induction n with
  | zero => intro _; rfl
  | succ n ih =>
    intro h
    unfold ak_un
    rw [ih (by omega)]
    unfold ak_mq
    rw [decide_eq_false (show ¬ n = o by omega), Bool.false_or]
theorem ak_un_mk {v : Nat → Bool} {o : Nat} (hv : v o = false) : ∀ n, o < n → ak_un (ak_mq v o) n + 1 = ak_un v n := by
  intro n
  induction n with
  | zero => intro h; omega
  | succ n ih =>
    intro h
    by_cases ho : o = n
    · subst ho
      unfold ak_un
      rw [ak_un_low o (Nat.le_refl _), hv]
      unfold ak_mq
      simp
    · have := ih (by omega)
      unfold ak_un
      rw [show ak_mq v o n = v n from by unfold ak_mq; rw [decide_eq_false (show ¬ n = o by omega), Bool.false_or]]
      omega
/-- the rows of a stack are rows of items -/
def ak_sok (O : Nat) (st : List (List (Int × Int))) : Prop := ∀ l, l ∈ st → l.length ≤ 12 ∧ ∀ x, x ∈ l → ak_it O x
section DFS
variable {S O : Nat} {T : Nat → List (Int × Int)} {sh : Nat → Nat} {st : List (List (Int × Int))} {v : Nat → Bool} {x : Int × Int} {r l : List (Int × Int)}
theorem ak_sok_cons (w : ak_sok O (l :: st)) : ak_sok O st := fun l' h => w l' (List.mem_cons_of_mem _ h)
theorem ak_sok_skip (w : ak_sok O ((x :: r) :: st)) : ak_sok O (r :: st) := by
  intro l' h
  rcases List.mem_cons.mp h with rfl | h
  · have := w (x :: l') (List.mem_cons_self ..)
    exact ⟨by have := this.1; simp at this; omega, fun y hy => this.2 y (List.mem_cons_of_mem _ hy)⟩
  · exact w l' (List.mem_cons_of_mem _ h)
theorem ak_sok_par (w : ak_sok O ((x :: r) :: st)) (h : x.1 = 2) : x.2.toNat < O ∧ x.2 = (x.2.toNat : Int) := by
  have := (w (x :: r) (List.mem_cons_self ..)).2 x (List.mem_cons_self ..)
  have := this.2.2 h
  omega
theorem ak_sok_push (W : ak_Tok S T O) (hs : ∀ o, o < O → sh o < S) (w : ak_sok O ((x :: r) :: st)) (h : x.1 = 2) : ak_sok O (T (sh x.2.toNat) :: r :: st) := by
  intro l' h'
  rcases List.mem_cons.mp h' with rfl | h'
  · exact W.2.1 _ (hs _ (ak_sok_par w h).1)
  · exact ak_sok_skip w l' h'
theorem ak_dfs_fuel (W : ak_Tok S T O) (hs : ∀ o, o < O → sh o < S) : ∀ (f f' : Nat) (st : List (List (Int × Int))) (v : Nat → Bool), ak_sok O st → ak_wt st + 14 * ak_un v O < f → ak_wt st + 14 * ak_un v O < f' → ak_dfs T sh f st v = ak_dfs T sh f' st v := by
  intro f
  induction f with
  | zero => intro f' st v _ h; omega
  | succ f ih =>
    intro f' st v k h h'
    obtain ⟨g, rfl⟩ : ∃ g, f' = g + 1 := ⟨f' - 1, by omega⟩
    match st with
    | [] => rfl
    | [] :: st =>
      have e : ak_wt ([] :: st) = 1 + ak_wt st := by show 0 + 1 + ak_wt st = _; omega
      exact ih g st v (ak_sok_cons k) (by omega) (by omega)
    | (x :: r) :: st =>
      have e : ak_wt ((x :: r) :: st) = r.length + 1 + 1 + ak_wt st := rfl
      have e2 : ak_wt (r :: st) = r.length + 1 + ak_wt st := rfl
      show (if x.1 = 2 ∧ v x.2.toNat = false then x.2.toNat :: ak_dfs T sh f (T (sh x.2.toNat) :: r :: st) (ak_mq v x.2.toNat) else ak_dfs T sh f (r :: st) v) = (if x.1 = 2 ∧ v x.2.toNat = false then x.2.toNat :: ak_dfs T sh g (T (sh x.2.toNat) :: r :: st) (ak_mq v x.2.toNat) else ak_dfs T sh g (r :: st) v)
      by_cases hc : x.1 = 2 ∧ v x.2.toNat = false
      · rw [if_pos hc, if_pos hc]
        have p := ak_sok_par k hc.1
        have u := ak_un_mk hc.2 O p.1
        have l12 := (W.2.1 _ (hs _ p.1)).1
        have e3 : ak_wt (T (sh x.2.toNat) :: r :: st) = (T (sh x.2.toNat)).length + 1 + (r.length + 1 + ak_wt st) := rfl
        rw [ih g (T (sh x.2.toNat) :: r :: st) (ak_mq v x.2.toNat) (ak_sok_push W hs k hc.1) (by omega) (by omega)]
      · rw [if_neg hc, if_neg hc]
        exact ih g (r :: st) v (ak_sok_skip k) (by omega) (by omega)
theorem ak_W_nil : ak_W T sh O [] v = [] := rfl
theorem ak_W_pop (W : ak_Tok S T O) (hs : ∀ o, o < O → sh o < S) (k : ak_sok O ([] :: st)) : ak_W T sh O ([] :: st) v = ak_W T sh O st v := by
  have e : ak_wt ([] :: st) = 1 + ak_wt st := by show 0 + 1 + ak_wt st = _; omega
  exact ak_dfs_fuel W hs _ _ st v (ak_sok_cons k) (by omega) (by omega)
theorem ak_W_skip (W : ak_Tok S T O) (hs : ∀ o, o < O → sh o < S) (k : ak_sok O ((x :: r) :: st)) (hc : ¬ (x.1 = 2 ∧ v x.2.toNat = false)) : ak_W T sh O ((x :: r) :: st) v = ak_W T sh O (r :: st) v := by
  have e : ak_wt ((x :: r) :: st) = r.length + 1 + 1 + ak_wt st := rfl
  have e2 : ak_wt (r :: st) = r.length + 1 + ak_wt st := rfl
  refine Eq.trans (if_neg hc) ?_
  exact ak_dfs_fuel W hs _ _ (r :: st) v (ak_sok_skip k) (by omega) (by omega)
theorem ak_W_push (W : ak_Tok S T O) (hs : ∀ o, o < O → sh o < S) (k : ak_sok O ((x :: r) :: st)) (hc : x.1 = 2 ∧ v x.2.toNat = false) : ak_W T sh O ((x :: r) :: st) v = x.2.toNat :: ak_W T sh O (T (sh x.2.toNat) :: r :: st) (ak_mq v x.2.toNat) := by
  have e : ak_wt ((x :: r) :: st) = r.length + 1 + 1 + ak_wt st := rfl
  have p := ak_sok_par k hc.1
  have u := ak_un_mk hc.2 O p.1
  have l12 := (W.2.1 _ (hs _ p.1)).1
  have e3 : ak_wt (T (sh x.2.toNat) :: r :: st) = (T (sh x.2.toNat)).length + 1 + (r.length + 1 + ak_wt st) := rfl
  refine Eq.trans (if_pos hc) ?_
  congr 1
  exact ak_dfs_fuel W hs _ _ _ _ (ak_sok_push W hs k hc.1) (by omega) (by omega)
/-- how much the way's rest may be: no more than what is not marked -/
theorem ak_W_len (W : ak_Tok S T O) (hs : ∀ o, o < O → sh o < S) : ∀ (f : Nat) (st : List (List (Int × Int))) (v : Nat → Bool), ak_sok O st → ak_wt st + 14 * ak_un v O < f → (ak_W T sh O st v).length ≤ ak_un v O ∧ ∀ o, o ∈ ak_W T sh O st v → o < O ∧ v o = false := by
  intro f
  induction f with
  | zero => intro st v _ h; omega
  | succ f ih =>
    intro st v k h
    match st with
    | [] => exact ⟨Nat.zero_le _, fun o ho => by rw [ak_W_nil] at ho; cases ho⟩
    | [] :: st =>
      have e : ak_wt ([] :: st) = 1 + ak_wt st := by show 0 + 1 + ak_wt st = _; omega
      rw [ak_W_pop W hs k]
      exact ih st v (ak_sok_cons k) (by omega)
    | (x :: r) :: st =>
      have e : ak_wt ((x :: r) :: st) = r.length + 1 + 1 + ak_wt st := rfl
      have e2 : ak_wt (r :: st) = r.length + 1 + ak_wt st := rfl
      by_cases hc : x.1 = 2 ∧ v x.2.toNat = false
      · have p := ak_sok_par k hc.1
        have u := ak_un_mk hc.2 O p.1
        have l12 := (W.2.1 _ (hs _ p.1)).1
        have e3 : ak_wt (T (sh x.2.toNat) :: r :: st) = (T (sh x.2.toNat)).length + 1 + (r.length + 1 + ak_wt st) := rfl
        have := ih (T (sh x.2.toNat) :: r :: st) (ak_mq v x.2.toNat) (ak_sok_push W hs k hc.1) (by omega)
        rw [ak_W_push W hs k hc]
        refine ⟨by simp; omega, fun o ho => ?_⟩
        rcases List.mem_cons.mp ho with rfl | ho
        · exact ⟨p.1, hc.2⟩
        · have := this.2 o ho
          refine ⟨this.1, ?_⟩
          have := this.2
          unfold ak_mq at this
          simp at this
          exact this.2
      · rw [ak_W_skip W hs k hc]
        exact ih (r :: st) v (ak_sok_skip k) (by omega)
end DFS
