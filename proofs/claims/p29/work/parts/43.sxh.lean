noncomputable section
/-! heaps: of each cell what is known; a cell's places are sought by number in lists of lists (32 wide), or by a sum of the unknowns in a short list; what is not listed has the cell's own rule (a + b * place, up to a bound), if it has one -/
abbrev sx_Df : Type := Option (Int × Int × Nat)
abbrev sx_Ct : Type := sx_Df × List (sx_L × sx_N) × List (List (List (Option sx_N)))
abbrev sx_M : Type := List (List (Option sx_Ct))
abbrev sx_RM : Type := List (List (List Nat))
abbrev sx_H : Type := sx_M × sx_M × sx_RM
def sx_at2 {α : Type} (m : List (List α)) (p : Nat) : Option α := match sx_at m (p / 16) with
  | some r => sx_at r (p % 16)
  | none => none
def sx_set2 {α : Type} (m : List (List α)) (p : Nat) (v : α) : List (List α) := match sx_at m (p / 16) with
  | some r => sx_set m (p / 16) (sx_set r (p % 16) v)
  | none => m
theorem sx_at2_set2 {α : Type} {m : List (List α)} {p q : Nat} {v w : α} (h : sx_at2 (sx_set2 m p v) q = some w) : (q = p ∧ w = v) ∨ (q ≠ p ∧ sx_at2 m q = some w) := by
  unfold sx_set2 at h
  split at h
  · rename_i r hr
    unfold sx_at2 at h
    split at h
    · rename_i r2 hr2
      rcases sx_at_set _ _ _ _ _ hr2 with ⟨h1, rfl⟩ | ⟨h1, h2⟩
      · rcases sx_at_set _ _ _ _ _ h with ⟨h3, rfl⟩ | ⟨h3, h4⟩
        · exact Or.inl ⟨by omega, rfl⟩
        · refine Or.inr ⟨fun z => h3 (by rw [z]), ?_⟩
          unfold sx_at2
          rw [h1, hr]
          exact h4
      · refine Or.inr ⟨fun z => h1 (by rw [z]), ?_⟩
        unfold sx_at2
        rw [h2]
        exact h
    · cases h
  · rename_i hr
    by_cases hq : q = p
    · subst hq
      unfold sx_at2 at h
      rw [hr] at h
      cases h
    · exact Or.inr ⟨hq, h⟩
/-- a cell of which something is told; the others are not written -/
def sx_cl (m : sx_M) (p : Nat) : Option sx_Ct := match sx_at2 m p with
  | some (some c) => some c
  | _ => none
theorem sx_cl_some {m : sx_M} {p : Nat} {c : sx_Ct} (h : sx_cl m p = some c) : sx_at2 m p = some (some c) := by
  unfold sx_cl at h
  split at h
  · rename_i c2 hc; cases h; exact hc
  · cases h
theorem sx_cl_of {m : sx_M} {p : Nat} {c : sx_Ct} (h : sx_at2 m p = some (some c)) : sx_cl m p = some c := by
  unfold sx_cl
  rw [h]
theorem sx_cl_set2 {m : sx_M} {p q : Nat} {v w c0 : sx_Ct} (_ : sx_cl m p = some c0) (h : sx_cl (sx_set2 m p (some v)) q = some w) : (q = p ∧ w = v) ∨ (q ≠ p ∧ sx_cl m q = some w) := by
  rcases sx_at2_set2 (sx_cl_some h) with ⟨h1, h2⟩ | ⟨h1, h2⟩
  · cases h2
    exact Or.inl ⟨h1, rfl⟩
  · exact Or.inr ⟨h1, sx_cl_of h2⟩
theorem sx_sa_self {α : Type} : ∀ (l : List α) (n : Nat) (v w : α), sx_at l n = some w → sx_at (sx_set l n v) n = some v
  | [], n, v, w, h => by cases n <;> cases h
  | a :: r, 0, v, w, h => rfl
  | a :: r, n + 1, v, w, h => sx_sa_self r n v w h
theorem sx_sa_ne {α : Type} : ∀ (l : List α) (n m : Nat) (v : α), m ≠ n → sx_at (sx_set l n v) m = sx_at l m
  | [], n, m, v, h => by cases n <;> rfl
  | a :: r, 0, 0, v, h => absurd rfl h
  | a :: r, 0, m + 1, v, h => rfl
  | a :: r, n + 1, 0, v, h => rfl
  | a :: r, n + 1, m + 1, v, h => sx_sa_ne r n m v (by omega)
theorem sx_cl_none {m : sx_M} {p q : Nat} {v c0 : sx_Ct} (h0 : sx_cl m p = some c0) (h : sx_cl (sx_set2 m p (some v)) q = none) : sx_cl m q = none ∧ q ≠ p := by
  have h1 := sx_cl_some h0
  unfold sx_at2 at h1
  split at h1
  · rename_i r hr
    have e1 : sx_set2 m p (some v) = sx_set m (p / 16) (sx_set r (p % 16) (some v)) := by
      unfold sx_set2
      rw [hr]
    rw [e1] at h
    by_cases hq : q = p
    · subst hq
      have e2 : sx_at2 (sx_set m (q / 16) (sx_set r (q % 16) (some v))) q = some (some v) := by
        unfold sx_at2
        rw [sx_sa_self m (q / 16) _ _ hr]
        exact sx_sa_self r (q % 16) _ _ h1
      rw [sx_cl_of e2] at h
      cases h
    · refine ⟨?_, hq⟩
      have e2 : sx_at2 (sx_set m (p / 16) (sx_set r (p % 16) (some v))) q = sx_at2 m q := by
        unfold sx_at2
        by_cases h3 : q / 16 = p / 16
        · rw [h3, sx_sa_self m (p / 16) _ _ hr, hr]
          exact sx_sa_ne r (p % 16) (q % 16) _ (by omega)
        · rw [sx_sa_ne m (p / 16) (q / 16) _ h3]
      unfold sx_cl at h ⊢
      rw [e2] at h
      exact h
  · cases h1
def sx_gd {α : Type} (d : α) (l : List α) (n : Nat) : α := List.rec (motive := fun _ => Nat → α) (fun _ => d) (fun a _ ih n => Nat.rec (motive := fun _ => α) a (fun m _ => ih m) n) l n
def sx_pt {α : Type} (d : α) (f : α → α) (n : Nat) (l : List α) : List α := Nat.rec (motive := fun _ => List α → List α) (fun l => List.rec (motive := fun _ => List α) [f d] (fun a r _ => f a :: r) l) (fun _ ih l => List.rec (motive := fun _ => List α) (d :: ih []) (fun a r _ => a :: ih r) l) n l
theorem sx_gd_nil {α : Type} (d : α) (n : Nat) : sx_gd d [] n = d := by cases n <;> rfl
theorem sx_gd_pt {α : Type} (d : α) (f : α → α) : ∀ (n : Nat) (l : List α) (m : Nat), sx_gd d (sx_pt d f n l) m = if m = n then f (sx_gd d l n) else sx_gd d l m
  | 0, [], 0 => rfl
  | 0, [], m + 1 => by
    rw [if_neg (by omega), sx_gd_nil]
    exact sx_gd_nil d m
  | 0, a :: r, 0 => rfl
  | 0, a :: r, m + 1 => by
    rw [if_neg (by omega)]
    rfl
  | n + 1, [], 0 => by
    rw [if_neg (by omega), sx_gd_nil]
    rfl
  | n + 1, [], m + 1 => by
    have h := sx_gd_pt d f n [] m
    rw [sx_gd_nil, sx_gd_nil] at h
    rw [sx_gd_nil, sx_gd_nil]
    refine h.trans ?_
    by_cases q : m = n
    · rw [if_pos q, if_pos (by omega)]
    · rw [if_neg q, if_neg (by omega)]
  | n + 1, a :: r, 0 => by
    rw [if_neg (by omega)]
    rfl
  | n + 1, a :: r, m + 1 => by
    refine (sx_gd_pt d f n r m).trans ?_
    by_cases q : m = n
    · rw [if_pos q, if_pos (by omega)]
      rfl
    · rw [if_neg q, if_neg (by omega)]
      rfl
abbrev sx_C3 : Type := List (List (List (Option sx_N)))
def sx_g3 (c : sx_C3) (k : Nat) : Option sx_N := sx_gd none (sx_gd [] (sx_gd [] c (k / 1024)) (k / 32 % 32)) (k % 32)
def sx_p3 (c : sx_C3) (k : Nat) (v : Option sx_N) : sx_C3 := sx_pt [] (sx_pt [] (sx_pt none (fun _ => v) (k % 32)) (k / 32 % 32)) (k / 1024) c
theorem sx_g3_p3 (c : sx_C3) (k j : Nat) (v : Option sx_N) : sx_g3 (sx_p3 c k v) j = if j = k then v else sx_g3 c j := by
  unfold sx_g3 sx_p3
  rw [sx_gd_pt]
  by_cases h1 : j / 1024 = k / 1024
  · rw [if_pos h1, sx_gd_pt]
    by_cases h2 : j / 32 % 32 = k / 32 % 32
    · rw [if_pos h2, sx_gd_pt]
      by_cases h3 : j % 32 = k % 32
      · rw [if_pos h3, if_pos (by omega)]
      · rw [if_neg h3, if_neg (fun z => h3 (by rw [z])), h1, h2]
    · rw [if_neg h2, if_neg (fun z => h2 (by rw [z])), h1]
  · rw [if_neg h1, if_neg (fun z => h1 (by rw [z]))]
theorem sx_g3_nil (k : Nat) : sx_g3 [] k = none := by
  unfold sx_g3
  rw [sx_gd_nil, sx_gd_nil, sx_gd_nil]
/-! places by a sum -/
def sx_dis (B : sx_B) (l m : sx_L) : Nat := bif sx_eq l.2.1 m.2.1 && (sx_eq l.2.2.1 m.2.2.1 && sx_eq l.2.2.2 m.2.2.2) then (bif sx_eq l.1 m.1 then 0 else 1)
  else (bif sx_lt (sx_hi B (sx_lsub l m)) 0 || sx_lt 0 (sx_lo B (sx_lsub l m)) then 1 else 2)
theorem sx_dis0 {B : sx_B} {l m : sx_L} (h : sx_dis B l m = 0) : l = m := by
  unfold sx_dis at h
  cases q : (sx_eq l.2.1 m.2.1 && (sx_eq l.2.2.1 m.2.2.1 && sx_eq l.2.2.2 m.2.2.2)) with
  | true =>
    rw [q] at h
    cases q1 : sx_eq l.1 m.1 with
    | true =>
      simp only [Bool.and_eq_true, sx_eq_iff] at q
      rw [sx_eq_iff] at q1
      obtain ⟨a, b, c, d⟩ := l
      obtain ⟨a', b', c', d'⟩ := m
      dsimp only at q q1
      rw [q1, q.1, q.2.1, q.2.2]
    | false => rw [q1] at h; cases h
  | false =>
    rw [q] at h
    cases q2 : (sx_lt (sx_hi B (sx_lsub l m)) 0 || sx_lt 0 (sx_lo B (sx_lsub l m))) with
    | true => rw [q2] at h; cases h
    | false => rw [q2] at h; cases h
theorem sx_dis1 {B : sx_B} {e : sx_E} (hB : sx_inB B e) {l m : sx_L} (h : sx_dis B l m = 1) : sx_ev e l ≠ sx_ev e m := by
  unfold sx_dis at h
  cases q : (sx_eq l.2.1 m.2.1 && (sx_eq l.2.2.1 m.2.2.1 && sx_eq l.2.2.2 m.2.2.2)) with
  | true =>
    rw [q] at h
    cases q1 : sx_eq l.1 m.1 with
    | true => rw [q1] at h; cases h
    | false =>
      simp only [Bool.and_eq_true, sx_eq_iff] at q
      rw [sx_eq_no] at q1
      unfold sx_ev
      rw [q.1, q.2.1, q.2.2]
      omega
  | false =>
    rw [q] at h
    cases q2 : (sx_lt (sx_hi B (sx_lsub l m)) 0 || sx_lt 0 (sx_lo B (sx_lsub l m))) with
    | true =>
      simp only [Bool.or_eq_true, sx_lt_iff] at q2
      have k3 := sx_ev_sub e l m
      have k4 := sx_in hB (sx_lsub l m)
      omega
    | false => rw [q2] at h; cases h
def sx_as (B : sx_B) (l : sx_L) : List (sx_L × sx_N) → Option (Option sx_N)
  | [] => some none
  | q :: r => match sx_dis B l q.1 with
    | 0 => some (some q.2)
    | 1 => sx_as B l r
    | _ => none
def sx_rm (B : sx_B) (l : sx_L) : List (sx_L × sx_N) → Option (List (sx_L × sx_N))
  | [] => some []
  | q :: r => match sx_dis B l q.1 with
    | 0 => sx_rm B l r
    | 1 => (sx_rm B l r).map (fun z => q :: z)
    | _ => none
theorem sx_as_some {B : sx_B} {l : sx_L} : ∀ {r : List (sx_L × sx_N)} {v : sx_N}, sx_as B l r = some (some v) → ∃ q, q ∈ r ∧ q.1 = l ∧ q.2 = v
  | [], v, h => by cases h
  | q :: r, v, h => by
    unfold sx_as at h
    split at h
    · rename_i h0
      cases h
      exact ⟨q, List.mem_cons_self, (sx_dis0 h0).symm, rfl⟩
    · obtain ⟨q2, h1, h2⟩ := sx_as_some h
      exact ⟨q2, List.mem_cons_of_mem _ h1, h2⟩
    · cases h
theorem sx_as_none {B : sx_B} {e : sx_E} (hB : sx_inB B e) {l : sx_L} : ∀ {r : List (sx_L × sx_N)}, sx_as B l r = some none → ∀ q ∈ r, sx_ev e q.1 ≠ sx_ev e l
  | [], h, q, hq => by cases hq
  | q0 :: r, h, q, hq => by
    unfold sx_as at h
    split at h
    · cases h
    · rename_i h1
      rcases List.mem_cons.mp hq with rfl | hq
      · exact (sx_dis1 hB h1).symm
      · exact sx_as_none hB h q hq
    · cases h
theorem sx_rm_ok {B : sx_B} {e : sx_E} (hB : sx_inB B e) {l : sx_L} : ∀ {r s : List (sx_L × sx_N)}, sx_rm B l r = some s → (∀ q ∈ s, q ∈ r ∧ sx_ev e q.1 ≠ sx_ev e l) ∧ ∀ q ∈ r, q ∈ s ∨ q.1 = l
  | [], s, h => by
    cases h
    exact ⟨fun q hq => (by cases hq), fun q hq => (by cases hq)⟩
  | q0 :: r, s, h => by
    unfold sx_rm at h
    split at h
    · rename_i h0
      obtain ⟨a1, a2⟩ := sx_rm_ok hB h
      refine ⟨fun q hq => ⟨List.mem_cons_of_mem _ (a1 q hq).1, (a1 q hq).2⟩, fun q hq => ?_⟩
      rcases List.mem_cons.mp hq with rfl | hq
      · exact Or.inr (sx_dis0 h0).symm
      · exact a2 q hq
    · rename_i h1
      obtain ⟨s2, h2, rfl⟩ := Option.map_eq_some_iff.mp h
      obtain ⟨a1, a2⟩ := sx_rm_ok hB h2
      refine ⟨fun q hq => ?_, fun q hq => ?_⟩
      · rcases List.mem_cons.mp hq with rfl | hq
        · exact ⟨List.mem_cons_self, (sx_dis1 hB h1).symm⟩
        · exact ⟨List.mem_cons_of_mem _ (a1 q hq).1, (a1 q hq).2⟩
      · rcases List.mem_cons.mp hq with rfl | hq
        · exact Or.inl List.mem_cons_self
        · rcases a2 q hq with h | h
          · exact Or.inl (List.mem_cons_of_mem _ h)
          · exact Or.inr h
    · cases h
def sx_dk (d : sx_Df) (k : Nat) : sx_N := match d with
  | some (a, b, n) => bif Nat.blt k n then (bif sx_eq b 0 then .inl a else .inl (a + b * k)) else sx_any
  | none => sx_any
def sx_dl (B : sx_B) (d : sx_Df) (l : sx_L) : sx_N := match d with
  | some (a, b, n) => bif sx_lt (sx_hi B l) n then sx_mk (sx_ladd (sx_cst a) (sx_lsc b l)) else sx_any
  | none => sx_any
def sx_rd0 (e : sx_E) (d : sx_Df) (g : Option sx_N) (k : Nat) (v : Int) : Prop := match g with
  | some x => sx_rn e x v
  | none => (match d with
    | some (a, b, n) => k < n → v = a + b * k
    | none => True)
/-- what a cell holds fits -/
def sx_rc (e : sx_E) (ct : sx_Ct) (f : Nat → Int) : Prop :=
  (∀ q ∈ ct.2.1, 0 ≤ sx_ev e q.1 ∧ sx_rn e q.2 (f (sx_ev e q.1).toNat)) ∧ ∀ k : Nat, (∀ q ∈ ct.2.1, sx_ev e q.1 ≠ (k : Int)) → sx_rd0 e ct.1 (sx_g3 ct.2.2 k) k (f k)
def sx_ri (e : sx_E) (ix : Nat ⊕ sx_L) (j : Nat) : Prop := match ix with
  | .inl k => j = k
  | .inr l => (j : Int) = sx_ev e l
def sx_or (v : Option sx_N) (d : sx_N) : sx_N := match v with
  | some v => v
  | none => d
def sx_read (B : sx_B) (ct : sx_Ct) (ix : Nat ⊕ sx_L) : sx_N := match ix with
  | .inl k => (match ct.2.1 with
    | [] => sx_or (sx_g3 ct.2.2 k) (sx_dk ct.1 k)
    | q :: r => (match sx_as B (sx_cst k) (q :: r) with
      | some (some v) => v
      | some none => sx_or (sx_g3 ct.2.2 k) (sx_dk ct.1 k)
      | none => sx_any))
  | .inr l => (match sx_as B l ct.2.1 with
    | some (some v) => v
    | some none => (match ct.2.2 with
      | [] => sx_dl B ct.1 l
      | _ => sx_any)
    | none => sx_any)
theorem sx_dk_ok {e : sx_E} {d : sx_Df} {k : Nat} {v : Int} (h : sx_rd0 e d none k v) : sx_rn e (sx_dk d k) v := by
  rcases d with _ | ⟨a, b, n⟩
  · exact sx_rn_any
  · have h2 : k < n → v = a + b * k := h
    show sx_rn e (bif Nat.blt k n then (bif sx_eq b 0 then .inl a else .inl (a + b * k)) else sx_any) v
    cases q0 : Nat.blt k n with
    | false => exact sx_rn_any
    | true =>
      rw [Nat.blt_eq] at q0
      have h3 := h2 q0
      cases q : sx_eq b 0 with
      | true =>
        rw [sx_eq_iff] at q
        rw [q, Int.zero_mul, Int.add_zero] at h3
        exact h3
      | false => exact h3
theorem sx_or_ok {e : sx_E} {d : sx_Df} {g : Option sx_N} {k : Nat} {v : Int} (h : sx_rd0 e d g k v) : sx_rn e (sx_or g (sx_dk d k)) v := by
  rcases g with _ | x
  · exact sx_dk_ok h
  · exact h
theorem sx_dl_ok {B : sx_B} {e : sx_E} (hB : sx_inB B e) {d : sx_Df} {l : sx_L} {k : Nat} {v : Int} (hk : (k : Int) = sx_ev e l) (h : sx_rd0 e d none k v) : sx_rn e (sx_dl B d l) v := by
  rcases d with _ | ⟨a, b, n⟩
  · exact sx_rn_any
  · have h2 : k < n → v = a + b * k := h
    show sx_rn e (bif sx_lt (sx_hi B l) n then sx_mk (sx_ladd (sx_cst a) (sx_lsc b l)) else sx_any) v
    cases q0 : sx_lt (sx_hi B l) n with
    | false => exact sx_rn_any
    | true =>
      rw [sx_lt_iff] at q0
      have k4 := sx_in hB l
      have h3 : v = sx_ev e (sx_ladd (sx_cst a) (sx_lsc b l)) := by rw [sx_ev_add, sx_ev_cst, sx_ev_sc, ← hk]; exact h2 (by omega)
      rw [h3]
      exact sx_rn_mk
theorem sx_read_ok {B : sx_B} {e : sx_E} (hB : sx_inB B e) {ct : sx_Ct} {f : Nat → Int} (h : sx_rc e ct f) {ix : Nat ⊕ sx_L} {j : Nat} (hj : sx_ri e ix j) : sx_rn e (sx_read B ct ix) (f j) := by
  obtain ⟨h1, h2⟩ := h
  rcases ix with k | l
  · have hj : j = k := hj
    subst hj
    unfold sx_read
    dsimp only
    split
    · rename_i hn
      exact sx_or_ok (h2 j (by rw [hn]; exact fun q hq => (by cases hq)))
    · rename_i q r hn
      split
      · rename_i v hv
        obtain ⟨q, a1, a2, rfl⟩ := sx_as_some hv
        have a3 := (h1 q (by rw [hn]; exact a1)).2
        rw [a2, sx_ev_cst, Int.toNat_natCast] at a3
        exact a3
      · rename_i hv
        refine sx_or_ok (h2 j (fun q hq => ?_))
        rw [hn] at hq
        have := sx_as_none hB hv q hq
        rw [sx_ev_cst] at this
        exact this
      · exact sx_rn_any
  · have hj : (j : Int) = sx_ev e l := hj
    unfold sx_read
    dsimp only
    split
    · rename_i v hv
      obtain ⟨q, a1, a2, rfl⟩ := sx_as_some hv
      have a3 := (h1 q a1).2
      rw [a2, ← hj, Int.toNat_natCast] at a3
      exact a3
    · rename_i hv
      split
      · rename_i hn
        refine sx_dl_ok hB hj ?_
        have := h2 j (fun q hq => by rw [hj]; exact sx_as_none hB hv q hq)
        rw [hn, sx_g3_nil] at this
        exact this
      · exact sx_rn_any
    · exact sx_rn_any
def sx_same (x y : sx_N) : Bool := match x, y with
  | .inl a, .inl b => sx_eq a b
  | .inr (t, l, _), .inr (u, m, _) => Nat.beq t 0 && (Nat.beq u 0 && sx_leq l m)
  | _, _ => false
theorem sx_same_ok {e : sx_E} {x y : sx_N} {v w : Int} (h : sx_same x y = true) (h1 : sx_rn e x v) (h2 : sx_rn e y w) : v = w := by
  unfold sx_same at h
  split at h
  · cases h1; cases h2
    exact sx_eq_iff.mp h
  · simp only [Bool.and_eq_true, Nat.beq_eq] at h
    obtain ⟨rfl, rfl, h3⟩ := h
    have h4 := sx_leq_ok h3
    subst h4
    have h5 : v = sx_ev e _ := h1
    have h6 : w = sx_ev e _ := h2
    rw [h5, h6]
  · cases h
def sx_write (B : sx_B) (ct : sx_Ct) (ix : Nat ⊕ sx_L) (v : sx_N) : Option sx_Ct := match ix with
  | .inl k => (match sx_as B (sx_cst k) ct.2.1 with
    | some none => (match sx_g3 ct.2.2 k with
      | some _ => some (ct.1, ct.2.1, sx_p3 ct.2.2 k (some v))
      | none => bif sx_same v (sx_dk ct.1 k) then some ct else some (ct.1, ct.2.1, sx_p3 ct.2.2 k (some v)))
    | _ => none)
  | .inr l => (match ct.2.2 with
    | [] => (match sx_rm B l ct.2.1 with
      | some s => bif sx_same v (sx_dl B ct.1 l) then some (ct.1, s, []) else some (ct.1, (l, v) :: s, [])
      | none => none)
    | _ => none)
theorem sx_write_ok {B : sx_B} {e : sx_E} (hB : sx_inB B e) {ct ct' : sx_Ct} {f : Nat → Int} (h : sx_rc e ct f) {ix : Nat ⊕ sx_L} {j : Nat} (hj : sx_ri e ix j) {v : sx_N} {x : Int} (hv : sx_rn e v x) (hw : sx_write B ct ix v = some ct') : sx_rc e ct' (fun i => if i = j then x else f i) := by
  obtain ⟨h1, h2⟩ := h
  rcases ix with k | l
  · have hj : j = k := hj
    subst hj
    unfold sx_write at hw
    dsimp only at hw
    split at hw
    · rename_i hn
      have hd : ∀ q ∈ ct.2.1, sx_ev e q.1 ≠ (j : Int) := fun q hq => by
        have := sx_as_none hB hn q hq
        rw [sx_ev_cst] at this
        exact this
      have put : sx_rc e (ct.1, ct.2.1, sx_p3 ct.2.2 j (some v)) (fun i => if i = j then x else f i) := by
        refine ⟨fun q hq => ⟨(h1 q hq).1, ?_⟩, fun k hk => ?_⟩
        · have a1 := h1 q hq
          have a2 := hd q hq
          show sx_rn e q.2 (if (sx_ev e q.1).toNat = j then x else f (sx_ev e q.1).toNat)
          rw [if_neg (by omega)]
          exact a1.2
        · show sx_rd0 e ct.1 (sx_g3 (sx_p3 ct.2.2 j (some v)) k) k (if k = j then x else f k)
          rw [sx_g3_p3]
          by_cases q : k = j
          · rw [if_pos q, if_pos q]
            exact hv
          · rw [if_neg q, if_neg q]
            exact h2 k hk
      split at hw
      · cases hw
        exact put
      · rename_i hg
        rcases sx_ifb hw with ⟨hs, hw⟩ | ⟨hs, hw⟩
        · cases hw
          refine ⟨fun q hq => ⟨(h1 q hq).1, ?_⟩, fun k hk => ?_⟩
          · have a1 := h1 q hq
            have a2 := hd q hq
            show sx_rn e q.2 (if (sx_ev e q.1).toNat = j then x else f (sx_ev e q.1).toNat)
            rw [if_neg (by omega)]
            exact a1.2
          · show sx_rd0 e ct.1 (sx_g3 ct.2.2 k) k (if k = j then x else f k)
            by_cases q : k = j
            · rw [if_pos q]
              subst q
              have a3 := h2 k hd
              rw [hg] at a3 ⊢
              have a4 := sx_same_ok hs hv (sx_dk_ok a3)
              rw [a4]
              exact a3
            · rw [if_neg q]
              exact h2 k hk
        · cases hw
          exact put
    · cases hw
  · have hj : (j : Int) = sx_ev e l := hj
    unfold sx_write at hw
    dsimp only at hw
    split at hw
    · rename_i hn
      split at hw
      · rename_i s hs
        obtain ⟨a1, a2⟩ := sx_rm_ok hB hs
        have old : ∀ q ∈ s, 0 ≤ sx_ev e q.1 ∧ sx_rn e q.2 (if (sx_ev e q.1).toNat = j then x else f (sx_ev e q.1).toNat) := fun q hq => by
          have b1 := a1 q hq
          have b2 := h1 q b1.1
          have b3 := b1.2
          refine ⟨b2.1, ?_⟩
          rw [if_neg (by omega)]
          exact b2.2
        have rest : ∀ k : Nat, k ≠ j → (∀ q ∈ s, sx_ev e q.1 ≠ (k : Int)) → sx_rd0 e ct.1 (sx_g3 ct.2.2 k) k (f k) := fun k hk hq => by
          refine h2 k (fun q hq2 => ?_)
          rcases a2 q hq2 with z | z
          · exact hq q z
          · rw [z, ← hj]
            omega
        rcases sx_ifb hw with ⟨hc, hw⟩ | ⟨hc, hw⟩
        · cases hw
          refine ⟨old, fun k hk => ?_⟩
          show sx_rd0 e ct.1 (sx_g3 [] k) k (if k = j then x else f k)
          by_cases q : k = j
          · subst q
            rw [if_pos rfl, sx_g3_nil]
            cases hd : ct.1 with
            | none => exact trivial
            | some d =>
              obtain ⟨a, b, n⟩ := d
              rw [hd] at hc
              intro hkn
              have b1 : sx_rn e (sx_dl B (some (a, b, n)) l) (a + b * k) := sx_dl_ok hB hj (show k < n → a + b * (k : Int) = a + b * (k : Int) from fun _ => rfl)
              exact sx_same_ok hc hv b1
          · rw [if_neg q, ← hn]
            exact rest k q hk
        · cases hw
          refine ⟨fun q hq => ?_, fun k hk => ?_⟩
          · rcases List.mem_cons.mp hq with rfl | hq
            · show 0 ≤ sx_ev e l ∧ sx_rn e v (if (sx_ev e l).toNat = j then x else f (sx_ev e l).toNat)
              rw [← hj, Int.toNat_natCast, if_pos rfl]
              exact ⟨Int.natCast_nonneg j, hv⟩
            · exact old q hq
          · have hkj : k ≠ j := fun z => hk (l, v) List.mem_cons_self (by rw [z]; exact hj.symm)
            show sx_rd0 e ct.1 (sx_g3 [] k) k (if k = j then x else f k)
            rw [if_neg hkj, ← hn]
            exact rest k hkj (fun q hq => hk q (List.mem_cons_of_mem _ hq))
      · cases hw
    · cases hw
end
