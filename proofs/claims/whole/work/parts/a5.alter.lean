/-! an object is altered, by both -/
def ak_pl (l : List (Int × Int)) (w : Int) (g : Bool) (k : Nat) : Bool := match l[k]? with
  | some y => decide (y.2 = w) && (decide (y.1 = 2) == g)
  | none => false
/-- where the slot (g false) or the parent (g true) w stands in a row -/
def ak_look (l : List (Int × Int)) (w : Int) (g : Bool) : Int := ak_fst (ak_pl l w g) l.length 0
theorem ak_look_of {l : List (Int × Int)} {w : Int} {g : Bool} {K W : Nat → Int} {b : Nat} (h : ∀ k x, l[k]? = some x → K (b + k) = x.1 ∧ W (b + k) = x.2) : ak_fst (ak_ps K W b w g) l.length 0 = ak_look l w g := by
  unfold ak_look
  refine ak_fst_congr (fun k _ hk => ?_)
  have hk2 := List.getElem?_eq_getElem (show k < l.length by omega)
  obtain ⟨h1, h2⟩ := h k _ hk2
  unfold ak_ps ak_pl
  rw [hk2, h1, h2]
theorem ak_look_some {l : List (Int × Int)} {w : Int} {g : Bool} (h : 0 ≤ ak_look l w g) : ∃ k y, k < l.length ∧ ak_look l w g = (k : Int) ∧ l[k]? = some y ∧ y.2 = w ∧ (decide (y.1 = 2) = g) := by
  obtain ⟨k, -, h2, h3, h4, -⟩ := ak_fst_some h
  have hk : k < l.length := by omega
  have hk2 := List.getElem?_eq_getElem hk
  refine ⟨k, l[k], hk, h3, hk2, ?_⟩
  unfold ak_pl at h4
  rw [hk2] at h4
  simp at h4
  exact h4
theorem ak_look_neg {l : List (Int × Int)} {w : Int} {g : Bool} (h : ak_look l w g < 0) : ak_look l w g = -1 := ak_fst_neg h
section ALT
variable {e : ak_X3} {d S O B Mt o s k : Nat} {ρ ρ2 : List Nat} {T : Nat → List (Int × Int)} {sh : Nat → Nat} {h hc hm : ak_S} {Q : Int → ak_S → Prop} {X : Nat → ak_S → Prop} {op x sv wv sv' wv' : Int} {y : Int × Int}
theorem am_c156_slot (W : ak_Tok S T O) (C : ak_tC S T h) (ho : o < 200) (h34 : h.1 34 o = (s : Int)) (hs : s < S) (hop : op = 0 ∨ op = 1)
    (q1 : ∀ k y, k < (T s).length → (T s)[k]? = some y → ak_look (T s) x false = (k : Int) → (y.1 = op → Q 0 (ak_hd h o k sv wv)) ∧ (y.1 ≠ op → Q 7 h))
    (q2 : ak_look (T s) x false < 0 → ak_MI e 0 (d + 2) ρ 157 [am_r 33, am_i (o : Int), am_i op, am_i x, am_i sv, am_l wv] h (fun v h1 => Q v h1) (fun _ _ => False)) :
    ak_MI e 0 (d + 3) ρ 156 [am_r 33, am_i op, am_i (o : Int), am_i x, am_i sv, am_l wv] h Q X := by
  have hS := W.1.2.1
  have hn2 := (W.2.1 s hs).1
  have b1 : 0 ≤ (o : Int) ∧ (o : Int) < 200 := by omega
  have L := ak_look_of (w := x) (g := false) (C.2 s hs).2.1
  refine ak_MI_of (Nat.le_of_ble_eq_true rfl) (am_k156_0 ⟨b1, fun _ => ?_, fun g => by omega⟩)
  rw [ak_natn, h34]
  refine am_s153 (d := d + 1) (by omega) (C.2 s hs).1 hn2 ?_
  rw [L]
  have go : ak_W0 e 0 (d + 2) 156 ρ 78 [some (am_r 33), none, some (am_i (o : Int)), some (am_i x), some (am_i sv), some (am_l wv), none, some (am_i (s : Int)), some (am_i (ak_look (T s) x false)), none] [am_i op] h (ak_qi Q X) := by
    refine am_k156_78 ⟨fun g => ?_, fun g => q2 g⟩
    obtain ⟨k, y, k1, k2, k3, k4, k5⟩ := ak_look_some g
    have c := (C.2 s hs).2.1 k y k3
    have r := q1 k y k1 k3 k2
    rw [k2, ak_w12 (show 12 * s + k < 1000000 by omega), ak_natn, c.1]
    exact ⟨fun g => by omega, fun _ => ⟨by omega, fun g => am_s155 (d := d + 1) ho (by omega) (r.1 g), fun g => r.2 g⟩⟩
  refine am_k156_30 ⟨fun g => by omega, fun _ => ⟨fun _ => ⟨fun g0 => ⟨fun g => by omega, fun g => ?_⟩, fun g => ?_⟩, fun g => by omega⟩⟩
  · rw [g] at go; exact go
  · rw [g] at go; exact go
theorem am_c156_link (W : ak_Tok S T O) (C : ak_tC S T h) (ho : o < 200) (h34 : h.1 34 o = (s : Int)) (hs : s < S)
    (q1 : 0 ≤ ak_look (T s) x true → Q 7 h)
    (q2 : ak_look (T s) x true < 0 → ak_MI e 0 (d + 2) ρ 157 [am_r 33, am_i (o : Int), am_i 2, am_i x, am_i sv, am_l wv] h (fun v h1 => Q v h1) (fun _ _ => False)) :
    ak_MI e 0 (d + 3) ρ 156 [am_r 33, am_i 3, am_i (o : Int), am_i x, am_i sv, am_l wv] h Q X := by
  have hS := W.1.2.1
  have hn2 := (W.2.1 s hs).1
  have b1 : 0 ≤ (o : Int) ∧ (o : Int) < 200 := by omega
  have L := ak_look_of (w := x) (g := true) (C.2 s hs).2.1
  refine ak_MI_of (Nat.le_of_ble_eq_true rfl) (am_k156_0 ⟨b1, fun g => absurd g (by decide), fun _ => ?_⟩)
  rw [ak_natn, h34]
  refine am_s154 (d := d + 1) (by omega) (C.2 s hs).1 hn2 ?_
  rw [L]
  exact am_k156_30 ⟨fun g => absurd g (by decide), fun _ => ⟨fun _ => ⟨fun _ => ⟨fun _ => am_k156_78 ⟨fun g => ⟨fun _ => q1 g, fun g => absurd rfl g⟩, fun g => q2 g⟩, fun g => absurd g (by decide)⟩, fun g => absurd g (by decide)⟩, fun g => absurd g (by decide)⟩⟩
theorem am_c156_drop {g : Bool} (W : ak_Tok S T O) (C : ak_tC S T h) (ho : o < 200) (h34 : h.1 34 o = (s : Int)) (hs : s < S) (hop : op = if g = true then 4 else 2)
    (q1 : ak_look (T s) x g < 0 → Q 7 h)
    (q2 : ∀ k y, k < (T s).length → (T s)[k]? = some y → ak_look (T s) x g = (k : Int) → ak_MI e 0 (d + 2) ρ 158 [am_r 33, am_i (o : Int), am_i (k : Int)] h (fun v h1 => Q v h1) (fun _ _ => False)) :
    ak_MI e 0 (d + 3) ρ 156 [am_r 33, am_i op, am_i (o : Int), am_i x, am_i sv, am_l wv] h Q X := by
  have hS := W.1.2.1
  have hn2 := (W.2.1 s hs).1
  have b1 : 0 ≤ (o : Int) ∧ (o : Int) < 200 := by omega
  have L := ak_look_of (w := x) (g := g) (C.2 s hs).2.1
  refine ak_MI_of (Nat.le_of_ble_eq_true rfl) (am_k156_0 ⟨b1, ?_⟩)
  rw [ak_natn, h34]
  have go : (0 ≤ ak_look (T s) x g → ak_MI e 0 (d + 2) ρ 158 [am_r 33, am_i (o : Int), am_i (ak_look (T s) x g)] h (fun v h1 => Q v h1) (fun _ _ => False)) ∧ (ak_look (T s) x g < 0 → Q 7 h) := by
    refine ⟨fun z => ?_, q1⟩
    obtain ⟨k, y, k1, k2, k3, -⟩ := ak_look_some z
    rw [k2]
    exact q2 k y k1 k3 k2
  cases g with
  | true =>
    rw [if_pos rfl] at hop
    subst hop
    refine ⟨fun z => absurd z (by decide), fun _ => am_s154 (d := d + 1) (by omega) (C.2 s hs).1 hn2 ?_⟩
    rw [L]
    exact am_k156_30 ⟨fun z => absurd z (by decide), fun _ => ⟨fun z => absurd rfl z, fun _ => go⟩⟩
  | false =>
    rw [if_neg (by decide)] at hop
    subst hop
    refine ⟨fun _ => am_s153 (d := d + 1) (by omega) (C.2 s hs).1 hn2 ?_, fun z => absurd z (by decide)⟩
    rw [L]
    exact am_k156_30 ⟨fun _ => go, fun z => absurd rfl z⟩
/-- the item at place k of the object o holds another value -/
def ak_hdM (h : ak_S) (o a : Nat) (sv wv : Int) : ak_S := (am_up h.1 145 (12 * o + a) sv, am_up h.2.1 146 (12 * o + a) wv, h.2.2)
theorem am_m297_slot {l : List (Int × Int)} (hl : l.length ≤ 12) (ho : o < 200) (V : ak_ob l o h) (hop : op = 0 ∨ op = 1)
    (q1 : ∀ k y, k < l.length → l[k]? = some y → ak_look l x false = (k : Int) → (y.1 = op → Q 0 (ak_hdM h o k sv wv)) ∧ (y.1 ≠ op → Q 7 h))
    (q2 : ak_look l x false < 0 → ak_MI e 1 (d + 7) ρ 243 [am_r 110, am_i (o : Int), am_i op, am_i x, am_i sv, am_l wv] h (fun v h1 => (v = 0 → Q 8 h1) ∧ (v ≠ 0 → Q 0 h1)) (fun _ _ => False)) :
    ak_MI e 1 (d + 8) ρ 297 [am_r 110, am_i (o : Int), am_i op, am_i x, am_i sv, am_l wv] h Q X := by
  have L := ak_look_of (w := x) (g := false) V.2
  refine ak_MI_of (Nat.le_of_ble_eq_true rfl) (am_k297_0 ⟨fun _ => am_k297_13 (am_s238 (d := d + 6) (g := false) rfl ho V.1 hl (fun z => ?_) (fun k kl z => ?_)), fun z => by omega⟩)
  · rw [L] at z
    exact ⟨fun g => by omega, fun _ => ⟨fun _ => am_k297_42 ⟨fun g => absurd g (by decide), fun _ => q2 z⟩, fun g => absurd g (by decide)⟩⟩
  · rw [L] at z
    obtain ⟨k', y, k1, k2, k3, -⟩ := ak_look_some (by rw [z]; omega)
    have : k' = k := by omega
    subst this
    have c := V.2 k' y k3
    have r := q1 k' y k1 k3 z
    refine ⟨fun g => by omega, fun _ => ⟨fun g => by omega, fun _ => ?_⟩⟩
    rw [ak_natn, c.1]
    refine ⟨by omega, fun g => am_k297_42 ⟨fun _ => ?_, fun g => by omega⟩, fun g => r.2 g⟩
    rw [ak_natn]
    exact ⟨by omega, by omega, r.1 g⟩
theorem am_m297_link {l : List (Int × Int)} (hl : l.length ≤ 12) (ho : o < 200) (V : ak_ob l o h)
    (q1 : 0 ≤ ak_look l x true → Q 7 h)
    (q2 : ak_look l x true < 0 → ak_MI e 1 (d + 7) ρ 243 [am_r 110, am_i (o : Int), am_i 2, am_i x, am_i 0, am_l 0] h (fun v h1 => (v = 0 → Q 8 h1) ∧ (v ≠ 0 → Q 0 h1)) (fun _ _ => False)) :
    ak_MI e 1 (d + 8) ρ 297 [am_r 110, am_i (o : Int), am_i 3, am_i x, am_i sv, am_l wv] h Q X := by
  have L := ak_look_of (w := x) (g := true) V.2
  refine ak_MI_of (Nat.le_of_ble_eq_true rfl) (am_k297_0 ⟨fun z => absurd z (by decide), fun _ => am_k297_13 (am_s238 (d := d + 6) (g := true) rfl ho V.1 hl (fun z => ?_) (fun k kl z => ?_))⟩)
  · rw [L] at z
    exact ⟨fun _ => ⟨fun g => absurd rfl g, fun _ => ⟨fun _ => q2 z, fun g => absurd g (by decide)⟩⟩, fun g => absurd g (by decide)⟩
  · rw [L] at z
    exact ⟨fun _ => ⟨fun g => absurd rfl g, fun _ => ⟨fun g => by omega, fun _ => q1 (by omega)⟩⟩, fun g => absurd g (by decide)⟩
theorem am_m297_drop {g : Bool} {l : List (Int × Int)} (hl : l.length ≤ 12) (ho : o < 200) (V : ak_ob l o h) (hop : op = if g = true then 4 else 2)
    (q1 : ak_look l x g < 0 → Q 7 h)
    (q2 : ∀ k y, k < l.length → l[k]? = some y → ak_look l x g = (k : Int) → ak_MI e 1 (d + 7) ρ 244 [am_r 110, am_i (o : Int), am_i ((12 * o + k : Nat) : Int)] h (fun v h1 => (v = 0 → Q 8 h1) ∧ (v ≠ 0 → Q 0 h1)) (fun _ _ => False)) :
    ak_MI e 1 (d + 8) ρ 297 [am_r 110, am_i (o : Int), am_i op, am_i x, am_i sv, am_l wv] h Q X := by
  have L := ak_look_of (w := x) (g := g) V.2
  have h13 : ∀ v : Int, (v = if g = true then 1 else 0) → ak_W0 e 1 (d + 7) 297 ρ 13 [some (am_r 110), some (am_i (o : Int)), some (am_i op), some (am_i x), some (am_i sv), some (am_l wv), none, none] [am_i v, am_i x, am_i (o : Int), am_r 110] h (ak_qi Q X) := by
    intro v hv
    have o2 : 2 ≤ op ∧ op ≠ 3 := by
      cases g with
      | true => rw [if_pos rfl] at hop; omega
      | false => rw [if_neg (by decide)] at hop; omega
    refine am_k297_13 (am_s238 (d := d + 6) (g := g) hv ho V.1 hl (fun z => ?_) (fun k kl z => ?_))
    · rw [L] at z
      exact ⟨fun _ => ⟨fun _ => ⟨fun c => absurd c (by decide), fun _ => q1 z⟩, fun c => absurd c o2.2⟩, fun c => by omega⟩
    · rw [L] at z
      obtain ⟨k', y, k1, k2, k3, -⟩ := ak_look_some (by rw [z]; omega)
      have : k' = k := by omega
      subst this
      exact ⟨fun _ => ⟨fun _ => ⟨fun _ => q2 k' y k1 k3 z, fun c => by omega⟩, fun c => absurd c o2.2⟩, fun c => by omega⟩
  cases g with
  | true =>
    rw [if_pos rfl] at hop
    exact ak_MI_of (Nat.le_of_ble_eq_true rfl) (am_k297_0 ⟨fun z => by omega, fun _ => h13 1 rfl⟩)
  | false =>
    rw [if_neg (by decide)] at hop
    exact ak_MI_of (Nat.le_of_ble_eq_true rfl) (am_k297_0 ⟨fun _ => h13 0 rfl, fun z => by omega⟩)
end ALT
