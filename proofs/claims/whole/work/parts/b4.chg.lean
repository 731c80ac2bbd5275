/-! what a change of an object does to the ways -/
section CHG
variable {S S' O O' o : Nat} {T T' : Nat → List (Int × Int)} {sh sh' : Nat → Nat} {st : List (List (Int × Int))} {v : Nat → Bool}
theorem ak_it_mono {x : Int × Int} (w : ak_it O x) (h : O ≤ O') : ak_it O' x := ⟨w.1, w.2.1, fun z => by have := w.2.2 z; omega⟩
theorem ak_sok_mono (w : ak_sok O st) (h : O ≤ O') : ak_sok O' st := fun l hl => ⟨(w l hl).1, fun x hx => ak_it_mono ((w l hl).2 x hx) h⟩
theorem ak_Tok_mono (w : ak_Tok S T O) (h : O ≤ O') : ak_Tok S T O' := ⟨w.1, fun s hs => ⟨(w.2.1 s hs).1, fun x hx => ak_it_mono ((w.2.1 s hs).2 x hx) h⟩, w.2.2.1, w.2.2.2⟩
/-- two ways from the same open rows are alike up to the object o, whose rows differ -/
theorem ak_W_chg (W : ak_Tok S T O) (hs : ∀ i, i < O → sh i < S) (W' : ak_Tok S' T' O') (hs' : ∀ i, i < O' → sh' i < S') (hO : O ≤ O') (he : ∀ i, i < O → i ≠ o → T' (sh' i) = T (sh i)) :
    ∀ (f : Nat) (st : List (List (Int × Int))) (v : Nat → Bool), ak_sok O st → ak_wt st + 14 * ak_un v O < f → (ak_W T' sh' O' st v = ak_W T sh O st v ∧ o ∉ ak_W T sh O st v) ∨ ∃ pre r r', ak_W T sh O st v = pre ++ o :: r ∧ ak_W T' sh' O' st v = pre ++ o :: r' ∧ o ∉ pre := by
  intro f
  induction f with
  | zero => intro st v _ h; omega
  | succ f ih =>
    intro st v k h
    match st with
    | [] => exact Or.inl ⟨rfl, fun z => by rw [ak_W_nil] at z; cases z⟩
    | [] :: st =>
      have e : ak_wt ([] :: st) = 1 + ak_wt st := by show 0 + 1 + ak_wt st = _; omega
      rw [ak_W_pop W hs k, ak_W_pop W' hs' (ak_sok_mono k hO)]
      exact ih st v (ak_sok_cons k) (by omega)
    | (x :: r) :: st =>
      have e : ak_wt ((x :: r) :: st) = r.length + 1 + 1 + ak_wt st := rfl
      have e2 : ak_wt (r :: st) = r.length + 1 + ak_wt st := rfl
      by_cases hc : x.1 = 2 ∧ v x.2.toNat = false
      · have p := ak_sok_par k hc.1
        have u := ak_un_mk hc.2 O p.1
        have l12 := (W.2.1 _ (hs _ p.1)).1
        rw [ak_W_push W hs k hc, ak_W_push W' hs' (ak_sok_mono k hO) hc]
        have e3 : ak_wt (T (sh x.2.toNat) :: r :: st) = (T (sh x.2.toNat)).length + 1 + (r.length + 1 + ak_wt st) := rfl
        have kp := ak_sok_push (sh := sh) W hs k hc.1
        have ihh := ih (T (sh x.2.toNat) :: r :: st) (ak_mq v x.2.toNat) kp (by omega)
        by_cases ho : x.2.toNat = o
        · rw [ho]
          exact Or.inr ⟨[], _, _, rfl, rfl, fun z => by cases z⟩
        · rw [he _ p.1 ho]
          rcases ihh with ⟨g1, g2⟩ | ⟨pre, r1, r2, g1, g2, g3⟩
          · refine Or.inl ⟨by rw [g1], fun z => ?_⟩
            rcases List.mem_cons.mp z with z | z
            · exact ho z.symm
            · exact g2 z
          · refine Or.inr ⟨x.2.toNat :: pre, r1, r2, by rw [g1]; rfl, by rw [g2]; rfl, fun z => ?_⟩
            rcases List.mem_cons.mp z with z | z
            · exact ho z.symm
            · exact g3 z
      · rw [ak_W_skip W hs k hc, ak_W_skip W' hs' (ak_sok_mono k hO) hc]
        exact ih (r :: st) v (ak_sok_skip k) (by omega)
theorem ak_sok_row {s : Nat} (W : ak_Tok S T O) (h : s < S) : ak_sok O [T s] := fun l hl => by
  rw [List.mem_singleton] at hl
  rw [hl]
  exact W.2.1 s h
/-- objects are made, rows are made: the ways stay -/
theorem ak_Wy_new {s : Nat} (W : ak_Tok S T O) (hs : ∀ i, i < O → sh i < S) (W' : ak_Tok S' T' O') (hs' : ∀ i, i < O' → sh' i < S') (hO : O ≤ O') (he : ∀ i, i < O → T' (sh' i) = T (sh i)) (h : s < S) (hT : T' s = T s) : ak_Wy T' sh' O' s = ak_Wy T sh O s := by
  unfold ak_Wy
  rw [hT]
  have wl := ak_W_len W hs _ [T s] ak_vn (ak_sok_row W h) (Nat.lt_succ_self _)
  rcases ak_W_chg (o := O) W hs W' hs' hO (fun i h _ => he i h) _ [T s] ak_vn (ak_sok_row W h) (Nat.lt_succ_self _) with g | ⟨pre, r, r', g1, -, -⟩
  · exact g.1
  · have := (wl.2 O (by rw [g1]; simp)).1
    omega
/-- what does not rest on the object o goes on resting on the same -/
theorem ak_Wy_chg {s : Nat} {place : Int} (W : ak_Tok S T O) (hs : ∀ i, i < O → sh i < S) (W' : ak_Tok S' T' O) (hs' : ∀ i, i < O → sh' i < S') (he : ∀ i, i < O → i ≠ o → T' (sh' i) = T (sh i)) (h : s < S) (hT : T' s = T s) (hp : place ≤ ((ak_Wy T sh O s).length : Int)) (hr : o ∉ ak_rst (ak_Wy T sh O s) place) :
    ak_rst (ak_Wy T' sh' O s) place = ak_rst (ak_Wy T sh O s) place ∧ place ≤ ((ak_Wy T' sh' O s).length : Int) := by
  have e' : ak_Wy T' sh' O s = ak_W T' sh' O [T s] ak_vn := by unfold ak_Wy; rw [hT]
  rw [e']
  rcases ak_W_chg (o := o) W hs W' hs' (Nat.le_refl _) he _ [T s] ak_vn (ak_sok_row W h) (Nat.lt_succ_self _) with g | ⟨pre, r, r', g1, g2, g3⟩
  · rw [g.1]
    exact ⟨rfl, hp⟩
  · have e : ak_Wy T sh O s = pre ++ o :: r := g1
    rw [e] at hr hp ⊢
    rw [g2]
    unfold ak_rst at hr ⊢
    by_cases hn : place < 0
    · rw [if_pos hn] at hr
      exact absurd (by simp) hr
    · rw [if_neg hn] at hr ⊢
      rw [if_neg hn]
      have hle : place.toNat ≤ pre.length := by
        rcases Nat.lt_or_ge pre.length place.toNat with hlt | hge
        · refine absurd ?_ hr
          have : (pre ++ o :: r).take place.toNat = pre ++ (o :: r).take (place.toNat - pre.length) := by
            rw [List.take_append, List.take_of_length_le (by omega)]
          rw [this]
          refine List.mem_append_right _ ?_
          obtain ⟨n, hn2⟩ : ∃ n, place.toNat - pre.length = n + 1 := ⟨place.toNat - pre.length - 1, by omega⟩
          rw [hn2]
          simp
        · exact hge
      rw [List.take_append_of_le_length hle, List.take_append_of_le_length hle]
      refine ⟨rfl, ?_⟩
      rw [List.length_append]
      omega
end CHG
