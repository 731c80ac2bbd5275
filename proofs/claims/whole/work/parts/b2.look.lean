/-! a name is looked up, by both -/
def ak_sr (T : Nat → List (Int × Int)) (sh : Nat → Nat) (nm start : Int) : List Nat → Nat → Bool → Int × Int
  | [], _, _ => (-1, -1)
  | o :: r, k, c => if c = true ∧ 0 ≤ ak_look (T (sh o)) nm false then ((k : Int), (o : Int)) else ak_sr T sh nm start r (k + 1) (c || decide ((o : Int) = start - 1))
def ak_lu (T : Nat → List (Int × Int)) (sh : Nat → Nat) (O s : Nat) (nm start : Int) : Int × Int := if start = 0 ∧ 0 ≤ ak_look (T s) nm false then (0, -1) else ak_sr T sh nm start (ak_Wy T sh O s) 1 (decide (start ≤ 0))
/-- the objects that a look-up rests on -/
def ak_rst (wl : List Nat) (place : Int) : List Nat := if place < 0 then wl else wl.take place.toNat
def ak_luF (h h' : ak_S) : Prop := (∀ q k, ¬ (q = 33 ∧ (k = 9 ∨ k = 10 ∨ k = 14)) → ¬ (42 ≤ q ∧ q ≤ 43) → h'.1 q k = h.1 q k) ∧ (∀ q k, q ≠ 41 → h'.2.1 q k = h.2.1 q k) ∧ h'.2.2 = h.2.2
def ak_luM (h h' : ak_S) : Prop := (∀ q k, ¬ (q = 110 ∧ (k = 64 ∨ k = 67 ∨ k = 69 ∨ k = 70)) → ¬ (154 ≤ q ∧ q ≤ 157) → h'.1 q k = h.1 q k) ∧ h'.2 = h.2
section LOOK
variable {e : ak_X3} {d S O : Nat} {ρ : List Nat} {T : Nat → List (Int × Int)} {sh : Nat → Nat} {h h' h2 : ak_S} {v : Nat → Bool} {X : Nat → ak_S → Prop} {nm start : Int}
theorem ak_luF_trans (w : ak_luF h h') (w2 : ak_luF h' h2) : ak_luF h h2 := ⟨fun q k a b => (w2.1 q k a b).trans (w.1 q k a b), fun q k a => (w2.2.1 q k a).trans (w.2.1 q k a), w2.2.2.trans w.2.2⟩
theorem ak_wkF_lu (w : ak_wkF h h') : ak_luF h h' := ⟨fun q k a b => w.1 q k (by omega) b, w.2.1, w.2.2⟩
theorem am_s164 {Q : ak_S → Prop} {s : Nat} (W : ak_Tok S T O) (C : ak_tC S T h) (hO : O ≤ 200) (ho : ∀ o, o < O → sh o < S ∧ h.1 34 o = (sh o : Int)) (hs : s < S) (hst : -1 ≤ start ∧ start ≤ 200)
    (q : ∀ h', h'.1 33 9 = (ak_lu T sh O s nm start).1 → h'.1 33 10 = (ak_lu T sh O s nm start).2 → ak_vis O h' (fun i => decide (i ∈ ak_rst (ak_Wy T sh O s) (ak_lu T sh O s nm start).1)) → ak_luF h h' → Q h') :
    ak_MV e 0 (d + 3) ρ 164 [am_r 33, am_i (s : Int), am_i nm, am_i start] h Q X := by
  have hS := W.1.2.1
  have hs' : ∀ o, o < O → sh o < S := fun o h => (ho o h).1
  have sokT : ak_sok O [T s] := fun l hl => by
    rw [List.mem_singleton] at hl
    rw [hl]
    exact W.2.1 s hs
  have wlen := (ak_W_len W hs' _ [T s] ak_vn sokT (Nat.lt_succ_self _)).1
  have wun := ak_un_le (v := ak_vn) O
  -- the look-up's answer, when the shape's own slots are not asked or have it not
  have main : ∀ (res : Int × Int), (∀ h', h'.1 33 9 = res.1 → h'.1 33 10 = res.2 → ak_vis O h' (fun i => decide (i ∈ ak_rst (ak_Wy T sh O s) res.1)) → ak_luF h h' → Q h') →
      ∀ (rest pre : List Nat) (o k : Nat) (c : Bool) (st : List (List (Int × Int))) (v : Nat → Bool) (h1 : ak_S), ak_wk S O T h1 st v → ak_W T sh O st v = rest → pre ++ rest = ak_Wy T sh O s → pre.length = k → o < O → (∀ i, v i = decide (i ∈ pre)) → ak_sr T sh nm start (o :: rest) k c = res → h1.1 33 9 = -1 → h1.1 33 10 = -1 → ak_luF h h1 →
      ak_W0 e 0 (d + 2) 164 ρ 54 [some (am_r 33), none, some (am_i nm), some (am_i start), some (am_i (if c = true then 1 else 0)), some (am_i (o : Int)), some (am_i (k : Int))] [] h1 (ak_qv Q X) := by
    intro res q rest
    induction rest with
    | nil =>
      intro pre o k c st v h1 wk wr wp hk hoO hv sr n9 n10 f
      have kO : k ≤ O := by have := congrArg List.length wp; rw [List.length_append] at this; unfold ak_Wy at this; omega
      have next : ∀ x4 : Int, ak_sr T sh nm start [] (k + 1) (c || decide ((o : Int) = start - 1)) = res → ak_MI e 0 (d + 2) ρ 162 [am_r 33] h1 (fun v2 h2 => ak_W0 e 0 (d + 2) 164 ρ 54 [some (am_r 33), none, some (am_i nm), some (am_i start), some (am_i x4), some (am_i v2), some (am_i (am_w32 ((k : Int) + 1)))] [] h2 (ak_qv Q X)) (fun _ _ => False) := by
        intro x4 sr2
        refine am_s162 (d := d + 1) W (ak_tC_out C (fun q k hq => f.1 q k (by omega) (by omega))) hO (fun o hh => ⟨(ho o hh).1, (f.1 _ _ (by omega) (by omega)).trans (ho o hh).2⟩) wk (fun _ h2 k2 f2 => ?_) (fun o' rest' e' => by rw [wr] at e'; cases e')
        have e9 : h2.1 33 9 = -1 := (f2.1 _ _ (by omega) (by omega)).trans n9
        have e10 : h2.1 33 10 = -1 := (f2.1 _ _ (by omega) (by omega)).trans n10
        have Qh : Q h2 := by
          subst sr2
          refine q h2 e9 e10 ?_ (ak_luF_trans f (ak_wkF_lu f2))
          intro i hi
          rw [k2.2.2.1 i hi, hv i]
          show decide (i ∈ pre) = decide (i ∈ ak_rst (ak_Wy T sh O s) (-1))
          unfold ak_rst
          rw [if_pos (by decide), ← wp, List.append_nil]
        exact am_k164_54 ⟨fun _ => Qh, fun _ => ⟨fun _ => Qh, fun g => absurd g (by decide)⟩⟩
      have lookn : ¬ (c = true ∧ 0 ≤ ak_look (T (sh o)) nm false) → ak_W0 e 0 (d + 2) 164 ρ 100 [some (am_r 33), none, some (am_i nm), some (am_i start), some (am_i (if c = true then 1 else 0)), some (am_i (o : Int)), some (am_i (k : Int))] [] h1 (ak_qv Q X) := by
        intro hc
        have sr2 : ak_sr T sh nm start [] (k + 1) (c || decide ((o : Int) = start - 1)) = res := by
          rw [← sr]
          exact (if_neg hc).symm
        exact am_k164_100 ⟨fun _ => next 1 sr2, fun _ => ⟨fun _ => next 0 sr2, fun _ => next 1 sr2⟩⟩
      refine am_k164_54 ⟨fun g => by omega, fun _ => ⟨fun g => by omega, fun _ => ⟨fun g => lookn (fun z => ?_), fun g => ⟨by omega, ?_⟩⟩⟩⟩
      · rw [if_pos z.1] at g; exact absurd g (by decide)
      · have hc : c = true := by
          cases c with
          | true => rfl
          | false => exact absurd rfl g
        have C1 := ak_tC_out (h' := h1) C (fun q k hq => f.1 q k (by omega) (by omega))
        have so := hs' o hoO
        rw [ak_natn, (f.1 34 o (by omega) (by omega)).trans (ho o hoO).2]
        refine am_s153 (d := d + 1) (by omega) (C1.2 _ so).1 (W.2.1 _ so).1 ?_
        rw [ak_look_of (C1.2 _ so).2.1]
        refine ⟨fun z => lookn (fun z2 => by omega), fun z => ?_⟩
        have er : res = ((k : Int), (o : Int)) := by rw [← sr]; exact if_pos ⟨hc, z⟩
        subst er
        refine q _ ?_ ak_up_at1 (fun i hi => ?_) ⟨fun q k a b => ?_, f.2.1, f.2.2⟩
        · simp [am_up]
        · show ak_lb (h1.2.1 41 (i / 64)) (i % 64) = _
          rw [wk.2.2.1 i hi, hv i]
          show decide (i ∈ pre) = decide (i ∈ ak_rst (ak_Wy T sh O s) (k : Int))
          unfold ak_rst
          rw [if_neg (by omega), ak_natn, ← wp, ← hk, List.take_append_of_le_length (Nat.le_refl _), List.take_length]
        · exact (ak_up_out (by omega)).trans ((ak_up_out (by omega)).trans (f.1 q k a b))
    | cons o2 rest ih =>
      intro pre o k c st v h1 wk wr wp hk hoO hv sr n9 n10 f
      have kO : k + 1 ≤ O := by have := congrArg List.length wp; rw [List.length_append] at this; unfold ak_Wy at this; simp at this; omega
      have next : ∀ c2 : Bool, ak_sr T sh nm start (o2 :: rest) (k + 1) c2 = res → ak_MI e 0 (d + 2) ρ 162 [am_r 33] h1 (fun v2 h2 => ak_W0 e 0 (d + 2) 164 ρ 54 [some (am_r 33), none, some (am_i nm), some (am_i start), some (am_i (if c2 = true then 1 else 0)), some (am_i v2), some (am_i (am_w32 ((k : Int) + 1)))] [] h2 (ak_qv Q X)) (fun _ _ => False) := by
        intro c2 sr2
        refine am_s162 (d := d + 1) W (ak_tC_out C (fun q k hq => f.1 q k (by omega) (by omega))) hO (fun o hh => ⟨(ho o hh).1, (f.1 _ _ (by omega) (by omega)).trans (ho o hh).2⟩) wk (fun e' => by rw [wr] at e'; cases e') (fun o' rest' e' p1 p2 st' h2 k2 w2 f2 => ?_)
        rw [wr] at e'
        cases e'
        rw [ak_wj (show k < 1000000 by omega)]
        refine ih (pre ++ [o2]) o2 (k + 1) c2 st' (ak_mq v o2) h2 k2 w2 (by rw [List.append_assoc]; exact wp) (by rw [List.length_append, hk]; rfl) p1 (fun i => ?_) sr2 ((f2.1 _ _ (by omega) (by omega)).trans n9) ((f2.1 _ _ (by omega) (by omega)).trans n10) (ak_luF_trans f (ak_wkF_lu f2))
        unfold ak_mq
        rw [hv i, ← Bool.decide_or]
        exact decide_eq_decide.mpr ⟨fun z => by rw [List.mem_append, List.mem_singleton]; exact z.symm, fun z => by rw [List.mem_append, List.mem_singleton] at z; exact z.symm⟩
      have lookn : ¬ (c = true ∧ 0 ≤ ak_look (T (sh o)) nm false) → ak_W0 e 0 (d + 2) 164 ρ 100 [some (am_r 33), none, some (am_i nm), some (am_i start), some (am_i (if c = true then 1 else 0)), some (am_i (o : Int)), some (am_i (k : Int))] [] h1 (ak_qv Q X) := by
        intro hc
        have sr2 : ak_sr T sh nm start (o2 :: rest) (k + 1) (c || decide ((o : Int) = start - 1)) = res := by
          rw [← sr]
          exact (if_neg hc).symm
        have ew : am_w32 (start - 1) = start - 1 := ak_w _ (by omega)
        refine am_k164_100 ⟨fun g => ?_, fun g => ?_⟩
        · have hc : c = true := by
            cases c with
            | true => rfl
            | false => exact absurd rfl g
          rw [hc, Bool.true_or] at sr2
          exact next true sr2
        · have hc : c = false := by
            cases c with
            | true => exact absurd g (by decide)
            | false => rfl
          rw [hc, Bool.false_or] at sr2
          refine ⟨fun g2 => ?_, fun g2 => ?_⟩
          · rw [ew] at g2
            rw [decide_eq_false g2] at sr2
            exact next false sr2
          · rw [ew] at g2
            rw [decide_eq_true g2] at sr2
            exact next true sr2
      refine am_k164_54 ⟨fun g => by omega, fun _ => ⟨fun g => by omega, fun _ => ⟨fun g => lookn (fun z => ?_), fun g => ⟨by omega, ?_⟩⟩⟩⟩
      · rw [if_pos z.1] at g; exact absurd g (by decide)
      · have hc : c = true := by
          cases c with
          | true => rfl
          | false => exact absurd rfl g
        have C1 := ak_tC_out (h' := h1) C (fun q k hq => f.1 q k (by omega) (by omega))
        have so := hs' o hoO
        rw [ak_natn, (f.1 34 o (by omega) (by omega)).trans (ho o hoO).2]
        refine am_s153 (d := d + 1) (by omega) (C1.2 _ so).1 (W.2.1 _ so).1 ?_
        rw [ak_look_of (C1.2 _ so).2.1]
        refine ⟨fun z => lookn (fun z2 => by omega), fun z => ?_⟩
        have er : res = ((k : Int), (o : Int)) := by rw [← sr]; exact if_pos ⟨hc, z⟩
        subst er
        refine q _ ?_ ak_up_at1 (fun i hi => ?_) ⟨fun q k a b => ?_, f.2.1, f.2.2⟩
        · simp [am_up]
        · show ak_lb (h1.2.1 41 (i / 64)) (i % 64) = _
          rw [wk.2.2.1 i hi, hv i]
          show decide (i ∈ pre) = decide (i ∈ ak_rst (ak_Wy T sh O s) (k : Int))
          unfold ak_rst
          rw [if_neg (by omega), ak_natn, ← wp, ← hk, List.take_append_of_le_length (Nat.le_refl _), List.take_length]
        · exact (ak_up_out (by omega)).trans ((ak_up_out (by omega)).trans (f.1 q k a b))
  refine ak_MV_of (Nat.le_of_ble_eq_true rfl) (am_k164_0 (am_s161 (d := d) (O := O) (T := T) hs (fun h1 k1 f1 => ?_) hO))
  have G : ∀ q k, ¬ (q = 33 ∧ k = 9) → ¬ (q = 33 ∧ k = 10) → am_up (am_up h1.1 33 9 (-1)) 33 10 (-1) q k = h1.1 q k := fun q k a b => (ak_up_out b).trans (ak_up_out a)
  have V9 : am_up (am_up h1.1 33 9 (-1)) 33 10 (-1) 33 9 = -1 := by simp [am_up]
  have V10 : am_up (am_up h1.1 33 9 (-1)) 33 10 (-1) 33 10 = -1 := by simp [am_up]
  generalize hg : (am_up (am_up h1.1 33 9 (-1)) 33 10 (-1), h1.2) = h3
  have e3 : ∀ q k, h3.1 q k = am_up (am_up h1.1 33 9 (-1)) 33 10 (-1) q k := fun q k => by rw [← hg]
  have e32 : h3.2 = h1.2 := by rw [← hg]
  have F3 : ak_luF h h3 := ⟨fun q k a b => ((e3 q k).trans (G q k (by omega) (by omega))).trans (f1.1 q k (by omega) b), fun q k a => by rw [e32]; exact f1.2.1 q k a, by rw [e32]; exact f1.2.2⟩
  have K3 : ak_wk S O T h3 [T s] ak_vn := by
    refine ⟨((e3 _ _).trans (G _ _ (by omega) (by omega))).trans k1.1, ak_stk_fr k1.2.1 (fun q k b c _ => (e3 q k).trans (G q k (by omega) (by omega))), fun o hh => ?_, k1.2.2.2⟩
    rw [e32]
    exact k1.2.2.1 o hh
  have C3 := ak_tC_out (h' := h3) C (fun q k hq => F3.1 q k (by omega) (by omega))
  have n9 : h3.1 33 9 = -1 := (e3 _ _).trans V9
  have n10 : h3.1 33 10 = -1 := (e3 _ _).trans V10
  have go : ¬ (start = 0 ∧ 0 ≤ ak_look (T s) nm false) → ak_W0 e 0 (d + 2) 164 ρ 34 [some (am_r 33), none, some (am_i nm), some (am_i start), none, none, none] [] h3 (ak_qv Q X) := by
    intro hc
    have elu : ak_lu T sh O s nm start = ak_sr T sh nm start (ak_Wy T sh O s) 1 (decide (start ≤ 0)) := if_neg hc
    rw [elu] at q
    have first : ∀ c : Bool, c = decide (start ≤ 0) → ak_MI e 0 (d + 2) ρ 162 [am_r 33] h3 (fun v2 h2 => ak_W0 e 0 (d + 2) 164 ρ 54 [some (am_r 33), none, some (am_i nm), some (am_i start), some (am_i (if c = true then 1 else 0)), some (am_i v2), some (am_i 1)] [] h2 (ak_qv Q X)) (fun _ _ => False) := by
      intro c hcc
      rw [← hcc] at q
      refine am_s162 (d := d + 1) W C3 hO (fun o hh => ⟨(ho o hh).1, (F3.1 _ _ (by omega) (by omega)).trans (ho o hh).2⟩) K3 (fun e' h2 k2 f2 => ?_) (fun o' rest' e' p1 p2 st' h2 k2 w2 f2 => ?_)
      · have ew : ak_Wy T sh O s = [] := e'
        rw [ew] at q
        have Qh : Q h2 := q h2 ((f2.1 _ _ (by omega) (by omega)).trans n9) ((f2.1 _ _ (by omega) (by omega)).trans n10) (fun i hi => by
          rw [k2.2.2.1 i hi]
          show false = decide (i ∈ ak_rst [] (-1))
          unfold ak_rst
          simp) (ak_luF_trans F3 (ak_wkF_lu f2))
        exact am_k164_54 ⟨fun _ => Qh, fun _ => ⟨fun _ => Qh, fun g => absurd g (by decide)⟩⟩
      · have ew : ak_Wy T sh O s = o' :: rest' := e'
        refine main _ q rest' [o'] o' 1 c st' (ak_mq ak_vn o') h2 k2 w2 (by rw [ew]; rfl) rfl p1 (fun i => ?_) (by rw [ew]) ((f2.1 _ _ (by omega) (by omega)).trans n9) ((f2.1 _ _ (by omega) (by omega)).trans n10) (ak_luF_trans F3 (ak_wkF_lu f2))
        unfold ak_mq ak_vn
        rw [Bool.or_false]
        exact decide_eq_decide.mpr List.mem_singleton.symm
    exact am_k164_34 ⟨fun g => first false (decide_eq_false (by omega)).symm, fun g => first true (decide_eq_true g).symm⟩
  refine ⟨fun g => go (fun z => g z.1), fun g => ?_⟩
  refine am_s153 (d := d + 1) (by omega) (C3.2 s hs).1 (W.2.1 s hs).1 ?_
  rw [ak_look_of (C3.2 s hs).2.1]
  refine ⟨fun z => go (fun z2 => by omega), fun z => ?_⟩
  have elu : ak_lu T sh O s nm start = (0, -1) := if_pos ⟨g, z⟩
  rw [elu] at q
  have G9 : ∀ q k, ¬ (q = 33 ∧ k = 9) → am_up h3.1 33 9 0 q k = h3.1 q k := fun q k a => ak_up_out a
  refine q (am_up h3.1 33 9 0, h3.2) ak_up_at1 ((G9 _ _ (by omega)).trans n10) (fun i hi => ?_) ⟨fun q k a b => (G9 q k (by omega)).trans (F3.1 q k a b), F3.2.1, F3.2.2⟩
  show ak_lb (h3.2.1 41 (i / 64)) (i % 64) = decide (i ∈ ak_rst (ak_Wy T sh O s) 0)
  rw [K3.2.2.1 i hi]
  unfold ak_rst
  rw [if_neg (by decide)]
  rfl
end LOOK
