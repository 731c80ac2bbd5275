/-! places in lists; locals -/
noncomputable section
noncomputable def sx_at {α : Type} (l : List α) (n : Nat) : Option α := List.rec (motive := fun _ => Nat → Option α) (fun _ => none) (fun a _ ih n => Nat.rec (motive := fun _ => Option α) (some a) (fun m _ => ih m) n) l n
noncomputable def sx_set {α : Type} (l : List α) (n : Nat) (v : α) : List α := List.rec (motive := fun _ => Nat → List α) (fun _ => []) (fun a r ih n => Nat.rec (motive := fun _ => List α) (v :: r) (fun m _ => a :: ih m) n) l n
theorem sx_at_eq {α : Type} : ∀ (l : List α) (n : Nat), sx_at l n = l[n]?
  | [], n => by rw [List.getElem?_nil]; cases n <;> rfl
  | a :: r, 0 => rfl
  | a :: r, n + 1 => by rw [List.getElem?_cons_succ]; exact sx_at_eq r n
theorem sx_set_eq {α : Type} : ∀ (l : List α) (n : Nat) (v : α), sx_set l n v = l.set n v
  | [], n, v => by cases n <;> rfl
  | a :: r, 0, v => rfl
  | a :: r, n + 1, v => by show a :: sx_set r n v = a :: r.set n v; rw [sx_set_eq r n v]
theorem sx_at_set {α : Type} : ∀ (l : List α) (n m : Nat) (v w : α), sx_at (sx_set l n v) m = some w → (m = n ∧ w = v) ∨ (m ≠ n ∧ sx_at l m = some w)
  | [], n, m, v, w, h => by cases n <;> cases m <;> cases h
  | a :: r, 0, 0, v, w, h => by cases h; exact Or.inl ⟨rfl, rfl⟩
  | a :: r, 0, m + 1, v, w, h => Or.inr ⟨by omega, h⟩
  | a :: r, n + 1, 0, v, w, h => Or.inr ⟨by omega, h⟩
  | a :: r, n + 1, m + 1, v, w, h => by
    rcases sx_at_set r n m v w h with ⟨h1, h2⟩ | ⟨h1, h2⟩
    · exact Or.inl ⟨by omega, h2⟩
    · exact Or.inr ⟨by omega, h2⟩
abbrev sx_Lo : Type := List (Option sx_V)
def sx_rO (e : sx_E) : Option sx_V → Option am_V → Prop
  | none, _ => True
  | some v, some w => sx_rv e v w
  | some _, none => False
def sx_rls (e : sx_E) : sx_Lo → am_L → Prop
  | [], [] => True
  | v :: r, w :: s => sx_rO e v w ∧ sx_rls e r s
  | _, _ => False
section SXL
variable {e : sx_E}
theorem sx_rls_nil {t : am_L} (h : sx_rls e [] t) : t = [] := by
  cases t with
  | nil => rfl
  | cons a r => exact False.elim h
theorem sx_rls_cons {v : Option sx_V} {r : sx_Lo} {t : am_L} (h : sx_rls e (v :: r) t) : ∃ w s, t = w :: s ∧ sx_rO e v w ∧ sx_rls e r s := by
  cases t with
  | nil => exact False.elim h
  | cons a s => exact ⟨a, s, rfl, h.1, h.2⟩
theorem sx_rls_len : ∀ {l : sx_Lo} {t : am_L}, sx_rls e l t → t.length = l.length
  | [], t, h => by rw [sx_rls_nil h]; rfl
  | v :: r, t, h => by
    obtain ⟨w, s, rfl, -, h2⟩ := sx_rls_cons h
    rw [List.length_cons, List.length_cons, sx_rls_len h2]
theorem sx_rls_at : ∀ {l : sx_Lo} {t : am_L} {i : Nat} {v : sx_V}, sx_rls e l t → sx_at l i = some (some v) → ∃ w, t[i]? = some (some w) ∧ sx_rv e v w
  | [], t, i, v, _, q => by cases q
  | a :: r, t, 0, v, h, q => by
    obtain ⟨w, s, rfl, h1, h2⟩ := sx_rls_cons h
    cases q
    cases w with
    | none => exact False.elim h1
    | some w => exact ⟨w, rfl, h1⟩
  | a :: r, t, i + 1, v, h, q => by
    obtain ⟨w, s, rfl, h1, h2⟩ := sx_rls_cons h
    rw [List.getElem?_cons_succ]
    exact sx_rls_at h2 q
theorem sx_rls_set : ∀ {l : sx_Lo} {t : am_L} (i : Nat) {a : Option sx_V} {b : Option am_V}, sx_rls e l t → sx_rO e a b → sx_rls e (sx_set l i a) (t.set i b)
  | [], t, i, a, b, h, _ => by
    rw [sx_rls_nil h]
    cases i <;> exact trivial
  | v :: r, t, 0, a, b, h, q => by
    obtain ⟨w, s, rfl, h1, h2⟩ := sx_rls_cons h
    exact ⟨q, h2⟩
  | v :: r, t, i + 1, a, b, h, q => by
    obtain ⟨w, s, rfl, h1, h2⟩ := sx_rls_cons h
    exact ⟨h1, sx_rls_set i h2 q⟩
theorem sx_rls_lose : ∀ {l : sx_Lo} {t : am_L} (i : Nat), sx_rls e l t → (∀ v, sx_at l i ≠ some (some v)) → sx_rls e l (t.set i none)
  | [], t, i, h, _ => by
    rw [sx_rls_nil h]
    exact trivial
  | v :: r, t, 0, h, q => by
    obtain ⟨w, s, rfl, h1, h2⟩ := sx_rls_cons h
    cases v with
    | none => exact ⟨trivial, h2⟩
    | some v => exact absurd rfl (q v)
  | v :: r, t, i + 1, h, q => by
    obtain ⟨w, s, rfl, h1, h2⟩ := sx_rls_cons h
    exact ⟨h1, sx_rls_lose i h2 q⟩
end SXL
def sx_pre (ls : sx_Lo) (i : Nat) : sx_Lo := match i with
  | 0 => ls
  | j + 1 => (match sx_at ls j with
    | some (some (.inr (.inl _))) => sx_set ls j none
    | _ => ls)
theorem sx_pre_ok {e : sx_E} {l : sx_Lo} {t : am_L} (i : Nat) (h : sx_rls e l t) : sx_rls e (sx_pre l i) (am_pre t i) := by
  cases i with
  | zero =>
    have e1 : am_pre t 0 = t := by
      unfold am_pre
      split
      · rfl
      · rfl
    rw [e1]
    exact h
  | succ j =>
    show sx_rls e (match sx_at l j with
      | some (some (.inr (.inl _))) => sx_set l j none
      | _ => l) (am_pre t (j + 1))
    split
    · rename_i x hx
      obtain ⟨w, h1, h2⟩ := sx_rls_at h hx
      obtain ⟨a, rfl, -⟩ := sx_rv_l h2
      have e1 : am_pre t (j + 1) = t.set j none := by
        unfold am_pre
        rw [Nat.add_sub_cancel, h1]
        dsimp only
        rw [if_neg (Nat.succ_ne_zero j)]
      rw [e1]
      exact sx_rls_set j h trivial
    · rename_i hx
      unfold am_pre
      rw [Nat.add_sub_cancel]
      split
      · rename_i a ha
        rw [if_neg (Nat.succ_ne_zero j)]
        refine sx_rls_lose j h (fun v hv => ?_)
        obtain ⟨w, h1, h2⟩ := sx_rls_at h hv
        rw [ha] at h1
        cases h1
        rcases v with x | x | p
        · exact False.elim h2
        · exact hx x hv
        · exact False.elim h2
      · exact h
def sx_st (ls : sx_Lo) (i : Nat) (v : sx_V) : Option sx_Lo :=
  bif Nat.beq (sx_cat v) 1 then (bif Nat.blt i ls.length then some (sx_set (sx_pre ls i) i (some v)) else none)
  else (bif Nat.blt (i + 1) ls.length then some (sx_set (sx_set (sx_pre ls i) (i + 1) none) i (some v)) else none)
theorem sx_st_ok {e : sx_E} {l l' : sx_Lo} {t : am_L} {i : Nat} {v : sx_V} {w : am_V} (h : sx_st l i v = some l') (r : sx_rls e l t) (hv : sx_rv e v w) : ∃ t', am_st t i w = some t' ∧ sx_rls e l' t' := by
  have hl := sx_rls_len r
  have hc := sx_rv_cat hv
  unfold sx_st at h
  unfold am_st
  rcases sx_ifb h with ⟨h1, h⟩ | ⟨h1, h⟩
  · obtain ⟨h2, h⟩ := sx_ifs h
    cases h
    have e1 : am_cat w = 1 := by rw [hc]; exact Nat.eq_of_beq_eq_true h1
    rw [Nat.blt_eq] at h2
    rw [if_pos e1, if_pos (by rw [hl]; exact h2)]
    exact ⟨_, rfl, sx_rls_set i (sx_pre_ok i r) hv⟩
  · obtain ⟨h2, h⟩ := sx_ifs h
    cases h
    have e1 : ¬ am_cat w = 1 := by
      rw [hc]
      intro q
      rw [q] at h1
      cases h1
    rw [Nat.blt_eq] at h2
    rw [if_neg e1, if_pos (by rw [hl]; exact h2)]
    exact ⟨_, rfl, sx_rls_set i (sx_rls_set (i + 1) (sx_pre_ok i r) trivial) hv⟩
def sx_loc (B : sx_B) (ins : Instr) (ls : sx_Lo) (st : List sx_V) : Option (sx_Lo × List sx_V) := match ins with
  | .iload i => (match sx_at ls i with
    | some (some (.inl x)) => some (ls, .inl x :: st)
    | _ => none)
  | .iload_n i => (match sx_at ls i.val with
    | some (some (.inl x)) => some (ls, .inl x :: st)
    | _ => none)
  | .lload i => (match sx_at ls i with
    | some (some (.inr (.inl x))) => some (ls, .inr (.inl x) :: st)
    | _ => none)
  | .lload_n i => (match sx_at ls i.val with
    | some (some (.inr (.inl x))) => some (ls, .inr (.inl x) :: st)
    | _ => none)
  | .aload i => (match sx_at ls i with
    | some (some (.inr (.inr x))) => some (ls, .inr (.inr x) :: st)
    | _ => none)
  | .aload_n i => (match sx_at ls i.val with
    | some (some (.inr (.inr x))) => some (ls, .inr (.inr x) :: st)
    | _ => none)
  | .istore i => (match st with
    | .inl x :: r => (sx_st ls i (.inl x)).map (fun l => (l, r))
    | _ => none)
  | .istore_n i => (match st with
    | .inl x :: r => (sx_st ls i.val (.inl x)).map (fun l => (l, r))
    | _ => none)
  | .lstore i => (match st with
    | .inr (.inl x) :: r => (sx_st ls i (.inr (.inl x))).map (fun l => (l, r))
    | _ => none)
  | .lstore_n i => (match st with
    | .inr (.inl x) :: r => (sx_st ls i.val (.inr (.inl x))).map (fun l => (l, r))
    | _ => none)
  | .astore i => (match st with
    | .inr (.inr x) :: r => (sx_st ls i (.inr (.inr x))).map (fun l => (l, r))
    | _ => none)
  | .astore_n i => (match st with
    | .inr (.inr x) :: r => (sx_st ls i.val (.inr (.inr x))).map (fun l => (l, r))
    | _ => none)
  | .iinc i n => (match sx_at ls i with
    | some (some (.inl x)) => (sx_st ls i (.inl (sx_k2 (fun a b => sx_w32 (a + b)) (sx_gop B 2147483648 sx_ladd) x (.inl n)))).map (fun l => (l, st))
    | _ => none)
  | _ => none
section SXLO
variable {e : sx_E} {l l' : sx_Lo} {t : am_L} {st st' : List sx_V} {s : List am_V}
theorem sx_ld (h : sx_rls e l t) {i : Nat} {v : sx_V} (hx : sx_at l i = some (some v)) : ∃ w, am_get t i = some w ∧ sx_rv e v w := by
  obtain ⟨w, h1, h2⟩ := sx_rls_at h hx
  exact ⟨w, am_get_of h1, h2⟩
theorem sx_loc_ok {B : sx_B} (hB : sx_inB B e) {ins : Instr} (h : sx_loc B ins l st = some (l', st')) (r : sx_rls e l t) (r2 : sx_rl e st s) : ∃ t' s', am_loc ins t s = some (t', s') ∧ sx_rls e l' t' ∧ sx_rl e st' s' := by
  have mp : ∀ {i : Nat} {v : sx_V} {w : am_V} {z : List sx_V} {z' : List am_V}, sx_rv e v w → (sx_st l i v).map (fun l => (l, z)) = some (l', st') → sx_rl e z z' → ∃ t' s', (am_st t i w).map (fun l => (l, z')) = some (t', s') ∧ sx_rls e l' t' ∧ sx_rl e st' s' := by
    intro i v w z z' hv hh hz
    obtain ⟨l2, h1, h2⟩ := Option.map_eq_some_iff.mp hh
    cases h2
    obtain ⟨t', h3, h4⟩ := sx_st_ok h1 r hv
    exact ⟨t', z', by rw [h3]; rfl, h4, hz⟩
  unfold sx_loc at h
  split at h
  · split at h
    · rename_i i x hx
      cases h
      obtain ⟨w, h1, h2⟩ := sx_ld r hx
      obtain ⟨a, rfl, h3⟩ := sx_rv_i h2
      refine ⟨t, .inl a :: s, ?_, r, h3, r2⟩
      unfold am_loc
      dsimp only
      rw [h1]
    · cases h
  · split at h
    · rename_i i x hx
      cases h
      obtain ⟨w, h1, h2⟩ := sx_ld r hx
      obtain ⟨a, rfl, h3⟩ := sx_rv_i h2
      refine ⟨t, .inl a :: s, ?_, r, h3, r2⟩
      unfold am_loc
      dsimp only
      rw [h1]
    · cases h
  · split at h
    · rename_i i x hx
      cases h
      obtain ⟨w, h1, h2⟩ := sx_ld r hx
      obtain ⟨a, rfl, h3⟩ := sx_rv_l h2
      refine ⟨t, .inr (.inl a) :: s, ?_, r, h3, r2⟩
      unfold am_loc
      dsimp only
      rw [h1]
    · cases h
  · split at h
    · rename_i i x hx
      cases h
      obtain ⟨w, h1, h2⟩ := sx_ld r hx
      obtain ⟨a, rfl, h3⟩ := sx_rv_l h2
      refine ⟨t, .inr (.inl a) :: s, ?_, r, h3, r2⟩
      unfold am_loc
      dsimp only
      rw [h1]
    · cases h
  · split at h
    · rename_i i x hx
      cases h
      obtain ⟨w, h1, h2⟩ := sx_ld r hx
      have h3 := sx_rv_r h2
      subst h3
      refine ⟨t, .inr (.inr x) :: s, ?_, r, rfl, r2⟩
      unfold am_loc
      dsimp only
      rw [h1]
    · cases h
  · split at h
    · rename_i i x hx
      cases h
      obtain ⟨w, h1, h2⟩ := sx_ld r hx
      have h3 := sx_rv_r h2
      subst h3
      refine ⟨t, .inr (.inr x) :: s, ?_, r, rfl, r2⟩
      unfold am_loc
      dsimp only
      rw [h1]
    · cases h
  · split at h
    · obtain ⟨a, s, rfl, h1, r2⟩ := sx_rl_ci r2
      exact mp (v := .inl _) (w := .inl a) h1 h r2
    · cases h
  · split at h
    · obtain ⟨a, s, rfl, h1, r2⟩ := sx_rl_ci r2
      exact mp (v := .inl _) (w := .inl a) h1 h r2
    · cases h
  · split at h
    · obtain ⟨a, s, rfl, h1, r2⟩ := sx_rl_cl r2
      exact mp (v := .inr (.inl _)) (w := .inr (.inl a)) h1 h r2
    · cases h
  · split at h
    · obtain ⟨a, s, rfl, h1, r2⟩ := sx_rl_cl r2
      exact mp (v := .inr (.inl _)) (w := .inr (.inl a)) h1 h r2
    · cases h
  · split at h
    · rename_i x q
      obtain ⟨s1, rfl, r3⟩ := sx_rl_cr r2
      exact mp (v := .inr (.inr x)) (w := .inr (.inr x)) rfl h r3
    · cases h
  · split at h
    · rename_i x q
      obtain ⟨s1, rfl, r3⟩ := sx_rl_cr r2
      exact mp (v := .inr (.inr x)) (w := .inr (.inr x)) rfl h r3
    · cases h
  · split at h
    · rename_i i n o x hx
      obtain ⟨w, h1, h2⟩ := sx_ld r hx
      obtain ⟨a, rfl, h3⟩ := sx_rv_i h2
      obtain ⟨t', s', g1, g2⟩ := mp (v := .inl _) (w := .inl (am_w32 (a + n))) (sx_k2_ok (fun _ _ => sx_w32_eq _) (sx_gop_ok hB (fun z h1 h2 => am_w32_id h1 h2) (f := fun a b => a + b) (sx_ev_add e)) h3 (show sx_rn e (.inl n) n from rfl)) h r2
      refine ⟨t', s', ?_, g2⟩
      unfold am_loc
      dsimp only
      rw [h1]
      exact g1
    · cases h
  · cases h
end SXLO
def sx_ent (nL : Nat) (ar : List sx_V) : sx_Lo :=
  let l := ar.flatMap (fun v => bif Nat.beq (sx_cat v) 2 then [some v, none] else [some v])
  l ++ List.replicate (nL - l.length) none
theorem sx_rls_app {e : sx_E} : ∀ {r r2 : sx_Lo} {t t2 : am_L}, sx_rls e r t → sx_rls e r2 t2 → sx_rls e (r ++ r2) (t ++ t2)
  | [], _, t, _, h, h2 => by rw [sx_rls_nil h]; exact h2
  | v :: r, _, t, _, h, h2 => by
    obtain ⟨w, s, rfl, h1, h3⟩ := sx_rls_cons h
    exact ⟨h1, sx_rls_app h3 h2⟩
theorem sx_rls_rep {e : sx_E} : ∀ n : Nat, sx_rls e (List.replicate n none) (List.replicate n none)
  | 0 => trivial
  | n + 1 => ⟨trivial, sx_rls_rep n⟩
theorem sx_ent_l {e : sx_E} : ∀ {ar : List sx_V} {t : List am_V}, sx_rl e ar t → sx_rls e (ar.flatMap (fun v => bif Nat.beq (sx_cat v) 2 then [some v, none] else [some v])) (t.flatMap (fun v => if am_cat v = 2 then [some v, none] else [some v]))
  | [], t, h => by rw [sx_rl_nil h]; exact trivial
  | v :: r, t, h => by
    obtain ⟨w, s, rfl, h1, h3⟩ := sx_rl_cons h
    rw [List.flatMap_cons, List.flatMap_cons]
    refine sx_rls_app ?_ (sx_ent_l h3)
    have hc := sx_rv_cat h1
    cases q : Nat.beq (sx_cat v) 2 with
    | true =>
      rw [if_pos (by rw [hc]; exact Nat.eq_of_beq_eq_true q)]
      exact ⟨h1, trivial, trivial⟩
    | false =>
      rw [if_neg (fun z => by rw [hc] at z; rw [z] at q; cases q)]
      exact ⟨h1, trivial⟩
theorem sx_ent_ok {e : sx_E} {nL : Nat} {ar : List sx_V} {t : List am_V} (h : sx_rl e ar t) : sx_rls e (sx_ent nL ar) (am_ent nL t) := by
  unfold sx_ent am_ent
  dsimp only
  have h1 := sx_ent_l h
  refine sx_rls_app h1 ?_
  rw [sx_rls_len h1]
  exact sx_rls_rep _
end
