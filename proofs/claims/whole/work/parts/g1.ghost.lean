/-! the run: what is under way, as a list of frames, the topmost first -/
/-- a job that waits: kind, node, two numbers; w: how heavy an expression is, the number of a guard -/
abbrev ak_Jb : Type := Nat × Int × Int × Int × Nat
abbrev ak_Jb.k (j : ak_Jb) : Nat := j.1
abbrev ak_Jb.n (j : ak_Jb) : Int := j.2.1
abbrev ak_Jb.a (j : ak_Jb) : Int := j.2.2.1
abbrev ak_Jb.b (j : ak_Jb) : Int := j.2.2.2.1
abbrev ak_Jb.w (j : ak_Jb) : Nat := j.2.2.2.2
/-- a frame: its room, its next order, its jobs and values (topmost first; true: on both sides) -/
abbrev ak_Fr : Type := Nat × Nat × List ak_Jb × List (Bool × Int × Int)
abbrev ak_Fr.r (f : ak_Fr) : Nat := f.1
abbrev ak_Fr.pc (f : ak_Fr) : Nat := f.2.1
abbrev ak_Fr.js (f : ak_Fr) : List ak_Jb := f.2.2.1
abbrev ak_Fr.vs (f : ak_Fr) : List (Bool × Int × Int) := f.2.2.2
def ak_gc : List ak_Jb → Nat
  | [] => 0
  | j :: r => ak_gc r + (if 9 ≤ j.k then 1 else 0)
def ak_kc : List ak_Jb → Nat
  | [] => 0
  | j :: r => ak_kc r + (if j.k = 11 then 1 else 0)
def ak_gw : List ak_Jb → Nat
  | [] => 0
  | j :: r => ak_gw r + (if j.k = 9 then 2 else if j.k = 10 then 1 else 0)
def ak_wgt : List ak_Jb → Nat
  | [] => 0
  | j :: r => ak_wgt r + (if j.k = 1 then j.w else 1)
def ak_tc : List (Bool × Int × Int) → Nat
  | [] => 0
  | v :: l => ak_tc l + (if v.1 = true then 1 else 0)
def ak_nJ : List ak_Fr → Nat
  | [] => 0
  | f :: fs => ak_nJ fs + 1 + f.js.length
def ak_nG : List ak_Fr → Nat
  | [] => 0
  | f :: fs => ak_nG fs + ak_gc f.js
def ak_nK : List ak_Fr → Nat
  | [] => 0
  | f :: fs => ak_nK fs + ak_kc f.js
def ak_nV : List ak_Fr → Nat
  | [] => 0
  | f :: fs => ak_nV fs + f.vs.length
def ak_nT : List ak_Fr → Nat
  | [] => 0
  | f :: fs => ak_nT fs + ak_tc f.vs
/-- orders that only jump forward -/
def ak_jp (C : Nat → Nat → Int) (T : Nat) : Nat → Nat → Nat → Prop
  | 0, a, c => a = c
  | n + 1, a, c => C (T + 2) a = 30 ∧ ∃ b : Nat, C (T + 3) a = (b : Int) ∧ a < b ∧ ak_jp C T n b c
section KDEF
variable (C M : Nat → Nat → Int) (T p lt : Nat) (Kr : Nat → List Bool → Prop) (r : List ak_Jb)
/-- what an expression whose parts are worked out still does -/
def ak_AF (y a : Nat) (sh : List Bool) : Prop := ∃ sh' : List Bool, sh'.length + 1 ≤ 151 ∧ Kr (a + 1) (true :: sh') ∧ (
  (M 114 y = 6 ∧ C (T + 2) a = 5 ∧ sh = true :: sh') ∨ (M 114 y = 12 ∧ C (T + 2) a = 8 ∧ sh = true :: sh') ∨ (M 114 y = 11 ∧ ak_opr (M 117 y) (C (T + 2) a) ∧ sh = true :: true :: sh') ∨
  (∃ n : Nat, n ≤ 4 ∧ M 117 y = (n : Int) ∧ ((M 114 y = 8 ∧ C (T + 2) a = 18 ∧ C (T + 3) a = M 118 y * 8 + (n : Int) ∧ 0 ≤ M 118 y ∧ M 118 y < M 127 p ∧ sh = List.replicate n true ++ false :: sh') ∨
    (M 114 y = 9 ∧ C (T + 2) a = 17 ∧ C (T + 3) a = M 118 y * 8 + (n : Int) ∧ 0 ≤ M 118 y ∧ M 118 y < M 127 p ∧ sh = List.replicate n true ++ true :: sh') ∨
    (M 114 y = 10 ∧ C (T + 2) a = 19 ∧ C (T + 3) a = (n : Int) ∧ sh = List.replicate n true ++ true :: sh'))))
/-- what a statement whose expressions are worked out still does -/
def ak_DN (y a : Nat) (sh : List Bool) : Prop :=
  (M 114 y = 20 ∧ sh = [true] ∧ C (T + 2) a = 27 ∧ C (T + 3) a = M 116 y ∧ 0 ≤ M 116 y ∧ M 116 y < 12 ∧ Kr (a + 1) []) ∨
  (M 114 y = 21 ∧ sh = [true] ∧ C (T + 2) a = 27 ∧ C (T + 3) a = M 116 y * 16 + M 117 y ∧ 0 ≤ M 116 y ∧ M 116 y ≤ ((lt / 40 : Nat) : Int) ∧ 0 ≤ M 117 y ∧ M 117 y < 12 ∧ Kr (a + 1) []) ∨
  (M 114 y = 23 ∧ sh = [true, true] ∧ C (T + 2) a = 20 ∧ C (T + 3) a = M 117 y ∧ 0 ≤ M 117 y ∧ M 117 y < M 127 p ∧ Kr (a + 1) []) ∨
  (M 114 y = 24 ∧ sh = [true, true] ∧ C (T + 2) a = 21 ∧ C (T + 3) a = M 117 y ∧ 0 ≤ M 117 y ∧ M 117 y < 100 ∧ Kr (a + 1) []) ∨
  (M 114 y = 25 ∧ sh = [true] ∧ C (T + 2) a = 22 ∧ C (T + 3) a = M 118 y * 128 + M 117 y ∧ 0 ≤ M 117 y ∧ M 117 y < 100 ∧ 0 ≤ M 118 y ∧ M 118 y ≤ ((lt % 40 : Nat) : Int) ∧ Kr (a + 1) []) ∨
  (M 114 y = 26 ∧ sh = [true] ∧ C (T + 2) a = 23 ∧ C (T + 3) a = M 117 y ∧ 0 ≤ M 117 y ∧ M 117 y < 100 ∧ Kr (a + 1) []) ∨
  ((M 114 y = 27 ∨ M 114 y = 28) ∧ sh = [true, true] ∧ C (T + 2) a = M 114 y - 3 ∧ Kr (a + 1) []) ∨
  (M 114 y = 29 ∧ sh = [true] ∧ C (T + 2) a = 31 ∧ ∃ c2 j G : Nat, r.length + j ≤ 6165 ∧ ak_gc r + G ≤ 21 ∧ ak_T3 C M T p 2 (M 116 y) 0 (lt + 1000 * G) j (a + 1) c2 ∧ Kr c2 [] ∧
    ((M 117 y = -1 ∧ C (T + 3) a = (c2 : Int)) ∨ ∃ c j2 : Nat, C (T + 3) a = ((c2 + 1 : Nat) : Int) ∧ r.length + j2 ≤ 6165 ∧ ak_T3 C M T p 2 (M 117 y) 0 (lt + 1000 * G) j2 (c2 + 1) c ∧ Kr c [])) ∨
  (M 114 y = 31 ∧ sh = [true] ∧ C (T + 2) a = (if lt / 40 = 0 then 33 else 32) ∧ Kr (a + 1) []) ∨
  (M 114 y = 32 ∧ sh = [true] ∧ C (T + 2) a = 33 ∧ Kr (a + 1) []) ∨
  (M 114 y = 33 ∧ sh = [true] ∧ C (T + 2) a = 29 ∧ Kr (a + 1) []) ∨
  (M 114 y = 34 ∧ sh = [true] ∧ C (T + 2) a = 35 ∧ C (T + 3) a = M 116 y ∧ 20 ≤ M 116 y ∧ M 116 y ≤ 99 ∧ Kr (a + 1) [])
/-- a loop: its STEP at a0, its UNLESS at c1, its jump back at c2 -/
def ak_LP (y a0 c1 c2 : Nat) : Prop := M 114 y = 30 ∧ C (T + 2) a0 = 26 ∧ C (T + 3) a0 = M 120 y ∧ (∃ J H : Nat, H ≤ 150 ∧ r.length + J + 1 ≤ 6165 ∧ ak_T3 C M T p 0 (M 115 y) H lt J (a0 + 1) c1) ∧ C (T + 2) c1 = 31 ∧ C (T + 3) c1 = ((c2 + 1 : Nat) : Int) ∧
  (∃ G j : Nat, r.length + 1 + j ≤ 6165 ∧ ak_gc r + G ≤ 21 ∧ ak_T3 C M T p 2 (M 116 y) 0 (lt + 1000 * G) j (c1 + 1) c2) ∧ C (T + 2) c2 = 30 ∧ C (T + 3) c2 = (a0 : Int) ∧ Kr (c2 + 1) []
/-- what comes behind a guard's body or on -/
def ak_ES (y g : Nat) : Prop := (∃ c : Nat, M 118 y ≠ 1 ∧ C (T + 5) g = -1 ∧ C (T + 6) g = (c : Int) ∧ Kr c []) ∨
  (M 118 y = 1 ∧ ∃ c2 c3 G j : Nat, C (T + 5) g = (c2 : Int) ∧ ak_gc r + 1 + G ≤ 21 ∧ r.length + 1 + j ≤ 6165 ∧ ak_T3 C M T p 2 (M 117 y) 0 (lt + 1000 * G) j c2 c3 ∧ C (T + 2) c3 = 38 ∧ Kr (c3 + 1) [])
def ak_K0 (j : ak_Jb) (a : Nat) (sh : List Bool) : Prop := match j.k with
  | 1 => ∃ c H J : Nat, j.w = 2 * J ∧ sh.length + H ≤ 151 ∧ r.length + J ≤ 6165 ∧ ak_T3 C M T p 0 j.n H lt J a c ∧ Kr c (true :: sh)
  | 2 => sh = [] ∧ ∃ c i G : Nat, r.length + i ≤ 6165 ∧ ak_gc r + G ≤ 21 ∧ ak_T3 C M T p 2 j.n 0 (lt + 1000 * G) i a c ∧ Kr c []
  | 3 => ∃ y : Nat, j.n = (y : Int) ∧ ak_AF C M T p Kr y a sh
  | 4 => ∃ y : Nat, j.n = (y : Int) ∧ ak_DN C M T p lt Kr r y a sh
  | 5 => sh = [true] ∧ C (T + 2) a = 28 ∧ Kr (a + 1) []
  | 6 => sh = [true] ∧ ∃ y a0 c2 : Nat, j.n = (y : Int) ∧ ak_LP C M T p lt Kr r y a0 a c2
  | 7 => sh = [] ∧ ∃ y a0 c1 : Nat, j.n = (y : Int) ∧ ak_LP C M T p lt Kr r y a0 c1 a
  | 9 => sh = [] ∧ ∃ y : Nat, j.n = (y : Int) ∧ M 114 y = 35 ∧ j.w < 500 ∧ C (T + 2) a = 37 ∧ C (T + 3) a = (j.w : Int) ∧ (∃ i0 c2 G i : Nat, C (T + 4) j.w = (i0 : Int) ∧ ak_gc r + 1 + G ≤ 21 ∧ r.length + 1 + i ≤ 6165 ∧ ak_T3 C M T p 3 (M 116 y) j.w (lt + 1000 * G + 32000 * i) i0 (a + 1) c2) ∧ ak_ES C M T p lt Kr r y j.w
  | 10 => sh = [] ∧ ∃ y : Nat, j.n = (y : Int) ∧ M 114 y = 35 ∧ j.w < 500 ∧ C (T + 2) a = 37 ∧ C (T + 3) a = (j.w : Int) ∧ ak_ES C M T p lt Kr r y j.w
  | 11 => sh = [] ∧ C (T + 2) a = 38 ∧ Kr (a + 1) []
  | _ => False
end KDEF
/-- the orders from pc on do the jobs js, then end; sh: what lies on the stack of the frame -/
def ak_K (C M : Nat → Nat → Int) (T p lt : Nat) : List ak_Jb → Nat → List Bool → Prop
  | [], pc, sh => ∃ n c : Nat, ak_jp C T n pc c ∧ sh = [] ∧ C (T + 2) c = 34
  | j :: r, pc, sh => ∃ n a : Nat, ak_jp C T n pc a ∧ ak_K0 C M T p lt (ak_K C M T p lt r) r j a sh
section KLM
variable {C M : Nat → Nat → Int} {T p lt : Nat} {js r : List ak_Jb} {j : ak_Jb} {pc a c n m : Nat} {sh : List Bool}
theorem ak_jp_trans : ∀ {n a}, ak_jp C T n a c → ak_jp C T m c pc → ak_jp C T (n + m) a pc := by
  intro n
  induction n with
  | zero =>
    intro a h1 h2
    cases h1
    rw [Nat.zero_add]
    exact h2
  | succ n ih =>
    intro a ⟨h1, b, h2, h3, h4⟩ h5
    rw [Nat.add_right_comm]
    exact ⟨h1, b, h2, h3, ih h4 h5⟩
theorem ak_K_jp (h : ak_jp C T n pc a) (w : ak_K C M T p lt js a sh) : ak_K C M T p lt js pc sh := by
  cases js with
  | nil =>
    obtain ⟨m, c, h1, h2⟩ := w
    exact ⟨n + m, c, ak_jp_trans h h1, h2⟩
  | cons j r =>
    obtain ⟨m, c, h1, h2⟩ := w
    exact ⟨n + m, c, ak_jp_trans h h1, h2⟩
theorem ak_K_jump {b : Nat} (h1 : C (T + 2) pc = 30) (h2 : C (T + 3) pc = (b : Int)) (h3 : pc < b) (w : ak_K C M T p lt js b sh) : ak_K C M T p lt js pc sh :=
  ak_K_jp (n := 1) ⟨h1, b, h2, h3, rfl⟩ w
theorem ak_K_mk (w : ak_K0 C M T p lt (ak_K C M T p lt r) r j a sh) : ak_K C M T p lt (j :: r) a sh := ⟨0, a, rfl, w⟩
/-- what comes behind the topmost job -/
theorem ak_K_tl (w : ak_K C M T p lt (j :: r) pc sh) : ∃ pc' sh', ak_K C M T p lt r pc' sh' := by
  obtain ⟨n, a, _, w⟩ := w
  have es : ∀ y g, ak_ES C M T p lt (ak_K C M T p lt r) r y g → ∃ pc' sh', ak_K C M T p lt r pc' sh' := fun y g w => by
    rcases w with ⟨c, _, _, _, w⟩ | ⟨_, c2, c3, G, j, _, _, _, _, _, w⟩
    · exact ⟨_, _, w⟩
    · exact ⟨_, _, w⟩
  unfold ak_K0 at w
  split at w
  · obtain ⟨c, H, J, _, _, _, _, w⟩ := w
    exact ⟨_, _, w⟩
  · obtain ⟨_, c, i, G, _, _, _, w⟩ := w
    exact ⟨_, _, w⟩
  · obtain ⟨y, _, sh', _, w, _⟩ := w
    exact ⟨_, _, w⟩
  · obtain ⟨y, _, w⟩ := w
    rcases w with ⟨_, _, _, _, _, _, w⟩ | ⟨_, _, _, _, _, _, _, _, w⟩ | ⟨_, _, _, _, _, _, w⟩ | ⟨_, _, _, _, _, _, w⟩ | ⟨_, _, _, _, _, _, _, _, w⟩ | ⟨_, _, _, _, _, _, w⟩ | ⟨_, _, _, w⟩ | ⟨_, _, _, c2, j, G, _, _, _, w, _⟩ | ⟨_, _, _, w⟩ | ⟨_, _, _, w⟩ | ⟨_, _, _, w⟩ | ⟨_, _, _, _, _, _, w⟩
    all_goals exact ⟨_, _, w⟩
  · obtain ⟨_, _, w⟩ := w
    exact ⟨_, _, w⟩
  · obtain ⟨_, y, a0, c2, _, _, _, _, _, _, _, _, _, _, w⟩ := w
    exact ⟨_, _, w⟩
  · obtain ⟨_, y, a0, c2, _, _, _, _, _, _, _, _, _, _, w⟩ := w
    exact ⟨_, _, w⟩
  · obtain ⟨_, y, _, _, _, _, _, _, w⟩ := w
    exact es _ _ w
  · obtain ⟨_, y, _, _, _, _, _, w⟩ := w
    exact es _ _ w
  · obtain ⟨_, _, w⟩ := w
    exact ⟨_, _, w⟩
  · exact w.elim
/-- the jobs below some -/
theorem ak_K_dn : ∀ {l pc sh}, ak_K C M T p lt (l ++ r) pc sh → ∃ pc' sh', ak_K C M T p lt r pc' sh' := by
  intro l
  induction l with
  | nil => intro pc sh w; exact ⟨_, _, w⟩
  | cons j l ih =>
    intro pc sh w
    obtain ⟨_, _, w⟩ := ak_K_tl (j := j) (r := l ++ r) w
    exact ih w
end KLM
