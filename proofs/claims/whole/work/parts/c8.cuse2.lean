/-! what is remembered, by the one; a site is used, by the one -/
def ak_tb (Et : List ak_E) (en : ak_E) : List ak_E := if ak_fnd (ak_f3 en.1 en.2.1 en.2.2.1) Et < Et.length then Et else if Et.length < 128 then Et ++ [en] else [en]
/-- a miss is remembered: state, own entries, table -/
def ak_rm (M sv : Int) (E Et : List ak_E) (en : ak_E) : Int × List ak_E × List ak_E := if M = 1 ∨ (E.length = 0 ∧ sv ≤ 1) then (1, [en], Et) else if E.length < 4 ∧ sv ≠ 3 then (2, E ++ [en], Et) else (3, [], ak_tb Et en)
/-- whether it is remembered already -/
def ak_hit (sv : Int) (E Et : List ak_E) (en : ak_E) : Bool := if sv = 3 then decide (ak_fnd (ak_f3 en.1 en.2.1 en.2.2.1) Et < Et.length) else decide (ak_fnd (ak_f3 en.1 en.2.1 en.2.2.1) E < E.length)
/-- a use: state, own entries, table -/
def ak_us (M sv : Int) (E Et : List ak_E) (en : ak_E) : Int × List ak_E × List ak_E := if M = 0 ∨ ak_hit sv E Et en = true then (sv, E, Et) else ak_rm M sv E Et en
def ak_us2 (M us : Int) : Int := if M = 0 then us else am_w32 (us + 1)
def ak_us3 (M sv ms : Int) (E Et : List ak_E) (en : ak_E) : Int := if M = 0 ∨ ak_hit sv E Et en = true then ms else am_w32 (ms + 1)
def ak_us5 (M sv ts : Int) (E : List ak_E) (en : ak_E) : Int := if M = 0 then ts else if sv = 3 then am_w32 (ts + 1) else ak_inc (ak_tst (ak_f3 en.1 en.2.1 en.2.2.1) E) ts
def ak_rmF (i : Nat) (h h' : ak_S) : Prop := (∀ q k, ¬ (q = 44 ∧ k = 4) → ¬ (q = 45 ∧ ((20 * i ≤ k ∧ k < 20 * i + 20) ∨ 3000 ≤ k)) → ¬ (q = 47 ∧ (k = 6 * i ∨ k = 6 * i + 1)) → h'.1 q k = h.1 q k) ∧ (∀ q k, ¬ (q = 46 ∧ ((16 * i ≤ k ∧ k < 16 * i + 16) ∨ 2400 ≤ k)) → h'.2.1 q k = h.2.1 q k) ∧ h'.2.2 = h.2.2
def ak_usF (i : Nat) (h h' : ak_S) : Prop := (∀ q k, ¬ (q = 33 ∧ (k = 9 ∨ k = 10 ∨ k = 14)) → ¬ (42 ≤ q ∧ q ≤ 43) → ¬ (q = 44 ∧ (k = 4 ∨ k = 7 ∨ k = 8)) → ¬ (q = 45 ∧ ((20 * i ≤ k ∧ k < 20 * i + 20) ∨ 3000 ≤ k)) → ¬ (q = 47 ∧ 6 * i ≤ k ∧ k < 6 * i + 6) → h'.1 q k = h.1 q k) ∧ (∀ q k, q ≠ 41 → ¬ (q = 46 ∧ ((16 * i ≤ k ∧ k < 16 * i + 16) ∨ 2400 ≤ k)) → h'.2.1 q k = h.2.1 q k) ∧ h'.2.2 = h.2.2
section CUSE2
variable {e : ak_X3} {d i : Nat} {ρ : List Nat} {R : ak_E → List Nat} {h h' h2 : ak_S} {E Et : List ak_E} {X : Nat → ak_S → Prop} {en : ak_E}
theorem ak_gC_snoc {first : Nat} (B : ak_gC R first E h) (c : ak_eC h' (first + E.length) en) (b : ak_eB h' (first + E.length) (R en)) (f : ak_wrF (first + E.length) h h') : ak_gC R first (E ++ [en]) h' := by
  intro k x hx
  by_cases hk : k = E.length
  · subst hk
    rw [ak_get_snoc] at hx
    cases hx
    exact ⟨c, b⟩
  · have hk2 := ak_get_none hx
    rw [List.length_append] at hk2
    simp at hk2
    rw [ak_get_snoc_lt (by omega)] at hx
    exact ak_gC_fr B (fun j a b => f.1 45 j (by omega)) (fun j a b => f.2.1 46 j (by omega)) k x hx
theorem ak_gC_one {first : Nat} (c : ak_eC h first en) (b : ak_eB h first (R en)) : ak_gC R first [en] h := by
  intro k x hx
  have hk := ak_get_none hx
  have : k = 0 := by simp at hk; omega
  subst this
  cases hx
  exact ⟨c, b⟩
theorem ak_gC_nil {first : Nat} : ak_gC R first [] h := fun k x hx => by simp at hx
theorem am_s114 {Q : ak_S → Prop} {M sv : Int} (hi : i < 150) (hE : E.length ≤ 4) (B : ak_gC R (4 * i) E h) (n1 : h.1 47 (6 * i + 1) = (E.length : Int)) (n0 : h.1 47 (6 * i) = sv) (nM : h.1 44 6 = M) (hEt : Et.length ≤ 128) (Bt : ak_gC R 600 Et h) (n4 : h.1 44 4 = (Et.length : Int))
    (n9 : h.1 33 9 = en.2.2.2.1) (n10 : h.1 33 10 = en.2.2.2.2) (v : ak_vis 0 h (fun i => decide (i ∈ R en)))
    (q : ∀ h', ak_gC R (4 * i) (ak_rm M sv E Et en).2.1 h' → h'.1 47 (6 * i + 1) = ((ak_rm M sv E Et en).2.1.length : Int) → h'.1 47 (6 * i) = (ak_rm M sv E Et en).1 → ak_gC R 600 (ak_rm M sv E Et en).2.2 h' → h'.1 44 4 = ((ak_rm M sv E Et en).2.2.length : Int) → ak_rmF i h h' → Q h') :
    ak_MV e 0 (d + 2) ρ 114 [am_r 44, am_r 33, am_i (i : Int), am_i en.2.1, am_i (en.1 : Int), am_i en.2.2.1] h Q X := by
  -- the first row is written
  have one : (M = 1 ∨ (E.length = 0 ∧ sv ≤ 1)) → ak_W0 e 0 (d + 1) 114 ρ 43 [some (am_r 44), some (am_r 33), some (am_i (i : Int)), some (am_i en.2.1), some (am_i (en.1 : Int)), some (am_i en.2.2.1), some (am_i (am_w32 ((i : Int) * 6))), none] [] h (ak_qv Q X) := by
    intro hc
    have er : ak_rm M sv E Et en = (1, [en], Et) := if_pos hc
    rw [er] at q
    refine am_k114_43 ?_
    rw [show am_w32 (am_w32 ((i : Int) * 6) + 0) = ((6 * i : Nat) : Int) from ak_w6c (c := 0) (by omega), show am_w32 (am_w32 ((i : Int) * 6) + 1) = ((6 * i + 1 : Nat) : Int) from ak_w6c (c := 1) (by omega), ak_natn, ak_natn]
    have F : ∀ q k, ¬ (q = 47 ∧ (k = 6 * i ∨ k = 6 * i + 1)) → am_up (am_up h.1 47 (6 * i) 1) 47 (6 * i + 1) 1 q k = h.1 q k := fun q k a => (ak_up_out (by omega)).trans (ak_up_out (by omega))
    have V0 : am_up (am_up h.1 47 (6 * i) 1) 47 (6 * i + 1) 1 47 (6 * i) = 1 := by simp [am_up]
    refine ⟨by omega, by omega, ak_MI_of (Nat.le_of_ble_eq_true rfl) (am_k108_0 ⟨fun _ => ?_, fun g => by omega⟩)⟩
    rw [show am_w32 ((i : Int) * 4) = ((4 * i : Nat) : Int) from ak_w4 (by omega)]
    refine am_s115 (d := d) (l := R en) (by omega) ((F 33 9 (by omega)).trans n9) ((F 33 10 (by omega)).trans n10) v (fun h3 c3 b3 f3 => ?_)
    exact q h3 (ak_gC_one c3 b3) ((f3.1 _ _ (by omega)).trans ak_up_at1) ((f3.1 _ _ (by omega)).trans V0) (ak_gC_fr Bt (fun k a b => (f3.1 45 k (by omega)).trans (F 45 k (by omega))) (fun k a b => f3.2.1 46 k (by omega))) ((f3.1 _ _ (by omega)).trans ((F _ _ (by omega)).trans n4))
      ⟨fun q k a b c => (f3.1 q k (by omega)).trans (F q k c), fun q k a => f3.2.1 q k (by omega), f3.2.2⟩
  -- the table
  have tbl : ak_rm M sv E Et en = (3, [], ak_tb Et en) → ak_W0 e 0 (d + 1) 114 ρ 142 [some (am_r 44), some (am_r 33), none, some (am_i en.2.1), some (am_i (en.1 : Int)), some (am_i en.2.2.1), some (am_i (am_w32 ((i : Int) * 6))), none] [] h (ak_qv Q X) := by
    intro er
    rw [er] at q
    refine am_k114_142 ?_
    rw [show am_w32 (am_w32 ((i : Int) * 6) + 0) = ((6 * i : Nat) : Int) from ak_w6c (c := 0) (by omega), show am_w32 (am_w32 ((i : Int) * 6) + 1) = ((6 * i + 1 : Nat) : Int) from ak_w6c (c := 1) (by omega), ak_natn, ak_natn]
    have F : ∀ q k, ¬ (q = 47 ∧ (k = 6 * i ∨ k = 6 * i + 1)) → am_up (am_up h.1 47 (6 * i) 3) 47 (6 * i + 1) 0 q k = h.1 q k := fun q k a => (ak_up_out (by omega)).trans (ak_up_out (by omega))
    have V0 : am_up (am_up h.1 47 (6 * i) 3) 47 (6 * i + 1) 0 47 (6 * i) = 3 := by simp [am_up]
    have V1 : am_up (am_up h.1 47 (6 * i) 3) 47 (6 * i + 1) 0 47 (6 * i + 1) = 0 := by simp [am_up]
    have Bt2 : ak_gC R 600 Et (am_up (am_up h.1 47 (6 * i) 3) 47 (6 * i + 1) 0, h.2) := ak_gC_fr Bt (fun k a b => F 45 k (by omega)) (fun k a b => rfl)
    have n42 : am_up (am_up h.1 47 (6 * i) 3) 47 (6 * i + 1) 0 44 4 = (Et.length : Int) := (F _ _ (by omega)).trans n4
    refine ⟨by omega, by omega, am_s113 (d := d) hEt Bt2 n42 ⟨fun g => ?_, fun g => ?_⟩⟩
    · have hl : ak_fnd (ak_f3 en.1 en.2.1 en.2.2.1) Et < Et.length := by
        by_cases z : ak_fnd (ak_f3 en.1 en.2.1 en.2.2.1) Et < Et.length
        · exact z
        · rw [if_neg z] at g; exact absurd g (by decide)
      have et : ak_tb Et en = Et := if_pos hl
      rw [et] at q
      exact q _ ak_gC_nil V1 V0 Bt2 n42 ⟨fun q k a b c => F q k c, fun q k a => rfl, rfl⟩
    · have hl : ¬ ak_fnd (ak_f3 en.1 en.2.1 en.2.2.1) Et < Et.length := by
        intro z
        rw [if_pos z] at g; omega
      have F2 : ∀ x q k, ¬ (q = 44 ∧ k = 4) → am_up (am_up (am_up h.1 47 (6 * i) 3) 47 (6 * i + 1) 0) 44 4 x q k = am_up (am_up h.1 47 (6 * i) 3) 47 (6 * i + 1) 0 q k := fun x q k a => ak_up_out a
      dsimp only
      rw [n42, ak_wj (show Et.length < 1000000 by omega), show am_w32 (am_w32 (600 + ((Et.length + 1 : Nat) : Int)) - 1) = ((600 + Et.length : Nat) : Int) from by rw [ak_w (600 + ((Et.length + 1 : Nat) : Int)) (by omega), ak_w _ (by omega)]; omega, show am_w32 (am_w32 (600 + 1) - 1) = ((600 + 0 : Nat) : Int) from by decide]
      refine ⟨fun g2 => ?_, fun g2 => ?_⟩
      · have hl2 : Et.length < 128 := by omega
        have et : ak_tb Et en = Et ++ [en] := by unfold ak_tb; rw [if_neg hl, if_pos hl2]
        rw [et] at q
        generalize hg : ((am_up (am_up (am_up h.1 47 (6 * i) 3) 47 (6 * i + 1) 0) 44 4 ((Et.length + 1 : Nat) : Int), h.2) : ak_S) = h4
        have e4 : ∀ q k, ¬ (q = 44 ∧ k = 4) → h4.1 q k = am_up (am_up h.1 47 (6 * i) 3) 47 (6 * i + 1) 0 q k := fun q k a => by rw [← hg]; exact F2 _ q k a
        have e44 : h4.1 44 4 = ((Et.length + 1 : Nat) : Int) := by rw [← hg]; exact ak_up_at1
        have e42 : h4.2 = h.2 := by rw [← hg]
        refine am_s115 (d := d) (l := R en) (by omega) ((e4 33 9 (by omega)).trans ((F 33 9 (by omega)).trans n9)) ((e4 33 10 (by omega)).trans ((F 33 10 (by omega)).trans n10)) (fun o ho => by rw [e42]; exact v o ho) (fun h3 c3 b3 f3 => ?_)
        refine q h3 ak_gC_nil ((f3.1 _ _ (by omega)).trans ((e4 _ _ (by omega)).trans V1)) ((f3.1 _ _ (by omega)).trans ((e4 _ _ (by omega)).trans V0)) (ak_gC_snoc (show ak_gC R 600 Et h4 from ak_gC_fr Bt2 (fun k a b => e4 45 k (by omega)) (fun k a b => by rw [e42])) c3 b3 f3) ?_ ⟨fun q k a b c => (f3.1 q k (by omega)).trans ((e4 q k a).trans (F q k c)), fun q k a => (f3.2.1 q k (by omega)).trans (by rw [e42]), f3.2.2.trans (by rw [e42])⟩
        rw [List.length_append]
        exact (f3.1 _ _ (by omega)).trans e44
      · have hl2 : ¬ Et.length < 128 := by omega
        have et : ak_tb Et en = [en] := by unfold ak_tb; rw [if_neg hl, if_neg hl2]
        rw [et] at q
        generalize hg : ((am_up (am_up (am_up h.1 47 (6 * i) 3) 47 (6 * i + 1) 0) 44 4 1, h.2) : ak_S) = h4
        have e4 : ∀ q k, ¬ (q = 44 ∧ k = 4) → h4.1 q k = am_up (am_up h.1 47 (6 * i) 3) 47 (6 * i + 1) 0 q k := fun q k a => by rw [← hg]; exact F2 _ q k a
        have e44 : h4.1 44 4 = 1 := by rw [← hg]; exact ak_up_at1
        have e42 : h4.2 = h.2 := by rw [← hg]
        refine am_s115 (d := d) (l := R en) (by omega) ((e4 33 9 (by omega)).trans ((F 33 9 (by omega)).trans n9)) ((e4 33 10 (by omega)).trans ((F 33 10 (by omega)).trans n10)) (fun o ho => by rw [e42]; exact v o ho) (fun h3 c3 b3 f3 => ?_)
        exact q h3 ak_gC_nil ((f3.1 _ _ (by omega)).trans ((e4 _ _ (by omega)).trans V1)) ((f3.1 _ _ (by omega)).trans ((e4 _ _ (by omega)).trans V0)) (ak_gC_one c3 b3) ((f3.1 _ _ (by omega)).trans e44) ⟨fun q k a b c => (f3.1 q k (by omega)).trans ((e4 q k a).trans (F q k c)), fun q k a => (f3.2.1 q k (by omega)).trans (by rw [e42]), f3.2.2.trans (by rw [e42])⟩
  -- one more own row
  have more : ¬ (M = 1 ∨ (E.length = 0 ∧ sv ≤ 1)) → ak_W0 e 0 (d + 1) 114 ρ 80 [some (am_r 44), some (am_r 33), some (am_i (i : Int)), some (am_i en.2.1), some (am_i (en.1 : Int)), some (am_i en.2.2.1), some (am_i (am_w32 ((i : Int) * 6))), some (am_i (E.length : Int))] [] h (ak_qv Q X) := by
    intro hc
    refine am_k114_80 ?_
    rw [show am_w32 (am_w32 ((i : Int) * 6) + 0) = ((6 * i : Nat) : Int) from ak_w6c (c := 0) (by omega), show am_w32 (am_w32 ((i : Int) * 6) + 1) = ((6 * i + 1 : Nat) : Int) from ak_w6c (c := 1) (by omega), ak_natn, ak_natn, n0]
    refine ⟨fun g => tbl ((if_neg hc).trans (if_neg (fun z => by omega))), fun g => ⟨by omega, fun g2 => tbl ((if_neg hc).trans (if_neg (fun z => z.2 g2))), fun g2 => ⟨by omega, by omega, ak_MI_of (Nat.le_of_ble_eq_true rfl) (am_k108_0 ⟨fun _ => ?_, fun g => by omega⟩)⟩⟩⟩
    have er : ak_rm M sv E Et en = (2, E ++ [en], Et) := (if_neg hc).trans (if_pos ⟨by omega, g2⟩)
    rw [er] at q
    rw [show am_w32 (am_w32 ((i : Int) * 4) + (E.length : Int)) = ((4 * i + E.length : Nat) : Int) from ak_w4c (by omega), ak_wj (show E.length < 1000000 by omega)]
    have F : ∀ q k, ¬ (q = 47 ∧ (k = 6 * i ∨ k = 6 * i + 1)) → am_up (am_up h.1 47 (6 * i) 2) 47 (6 * i + 1) ((E.length + 1 : Nat) : Int) q k = h.1 q k := fun q k a => (ak_up_out (by omega)).trans (ak_up_out (by omega))
    have V0 : am_up (am_up h.1 47 (6 * i) 2) 47 (6 * i + 1) ((E.length + 1 : Nat) : Int) 47 (6 * i) = 2 := by simp [am_up]
    refine am_s115 (d := d) (l := R en) (by omega) ((F 33 9 (by omega)).trans n9) ((F 33 10 (by omega)).trans n10) v (fun h3 c3 b3 f3 => ?_)
    have B2 : ak_gC R (4 * i) E (am_up (am_up h.1 47 (6 * i) 2) 47 (6 * i + 1) ((E.length + 1 : Nat) : Int), h.2) := ak_gC_fr B (fun k a b => F 45 k (by omega)) (fun k a b => rfl)
    refine q h3 (ak_gC_snoc B2 c3 b3 f3) ?_ ((f3.1 _ _ (by omega)).trans V0) (ak_gC_fr Bt (fun k a b => (f3.1 45 k (by omega)).trans (F 45 k (by omega))) (fun k a b => f3.2.1 46 k (by omega))) ((f3.1 _ _ (by omega)).trans ((F _ _ (by omega)).trans n4))
      ⟨fun q k a b c => (f3.1 q k (by omega)).trans (F q k c), fun q k a => f3.2.1 q k (by omega), f3.2.2⟩
    rw [List.length_append]
    exact (f3.1 _ _ (by omega)).trans ak_up_at1
  refine ak_MV_of (Nat.le_of_ble_eq_true rfl) (am_k114_0 ?_)
  rw [show am_w32 (am_w32 ((i : Int) * 6) + 0) = ((6 * i : Nat) : Int) from ak_w6c (c := 0) (by omega), show am_w32 (am_w32 ((i : Int) * 6) + 1) = ((6 * i + 1 : Nat) : Int) from ak_w6c (c := 1) (by omega), ak_natn, ak_natn, n0, n1, nM]
  refine ⟨by omega, fun g => one (Or.inl g), fun g => ⟨fun g2 => more (fun z => by omega), fun g2 => ⟨by omega, fun g3 => more (fun z => by omega), fun g3 => one (Or.inr ⟨by omega, g3⟩)⟩⟩⟩
end CUSE2
section CUSE3
variable {e : ak_X3} {d i S O s : Nat} {ρ : List Nat} {T : Nat → List (Int × Int)} {sh : Nat → Nat} {h h' h2 : ak_S} {E Et : List ak_E} {X : Nat → ak_S → Prop} {nm st : Int}
/-- the entry that a use asks for -/
def ak_en (T : Nat → List (Int × Int)) (sh : Nat → Nat) (O s : Nat) (nm st : Int) : ak_E := (s, nm, st, ak_lu T sh O s nm st)
theorem am_s111 {Q : ak_S → Prop} {M sv us ms ts : Int} (W : ak_Tok S T O) (C : ak_tC S T h) (hO : O ≤ 200) (ho : ∀ o, o < O → sh o < S ∧ h.1 34 o = (sh o : Int)) (hs : s < S) (hst : -1 ≤ st ∧ st ≤ 200)
    (hi : i < 150) (hE : E.length ≤ 4) (B : ak_gC (ak_er T sh O) (4 * i) E h) (n1 : h.1 47 (6 * i + 1) = (E.length : Int)) (n0 : h.1 47 (6 * i) = sv) (nM : h.1 44 6 = M) (hEt : Et.length ≤ 128) (Bt : ak_gC (ak_er T sh O) 600 Et h) (n4 : h.1 44 4 = (Et.length : Int))
    (n2 : h.1 47 (6 * i + 2) = us) (n3 : h.1 47 (6 * i + 3) = ms) (n5 : h.1 47 (6 * i + 5) = ts) (hnm : ∀ en, en ∈ E → en.2.1 = nm) (hok : ∀ en, en ∈ E ∨ en ∈ Et → ak_eok S O T sh en)
    (q : ∀ h', ak_gC (ak_er T sh O) (4 * i) (ak_us M sv E Et (ak_en T sh O s nm st)).2.1 h' → h'.1 47 (6 * i + 1) = ((ak_us M sv E Et (ak_en T sh O s nm st)).2.1.length : Int) → h'.1 47 (6 * i) = (ak_us M sv E Et (ak_en T sh O s nm st)).1 → ak_gC (ak_er T sh O) 600 (ak_us M sv E Et (ak_en T sh O s nm st)).2.2 h' → h'.1 44 4 = ((ak_us M sv E Et (ak_en T sh O s nm st)).2.2.length : Int) →
      h'.1 47 (6 * i + 2) = ak_us2 M us → h'.1 47 (6 * i + 3) = ak_us3 M sv ms E Et (ak_en T sh O s nm st) → h'.1 47 (6 * i + 5) = ak_us5 M sv ts E (ak_en T sh O s nm st) → h'.1 47 (6 * i + 4) = h.1 47 (6 * i + 4) → h'.1 44 7 = (ak_lu T sh O s nm st).1 → h'.1 44 8 = (ak_lu T sh O s nm st).2 → ak_usF i h h' → Q h') :
    ak_MV e 0 (d + 4) ρ 111 [am_r 44, am_r 33, am_i (i : Int), am_i nm, am_i (s : Int), am_i st] h Q X := by
  have F78 : ∀ (h1 : ak_S) (a b : Int) q k, ¬ (q = 44 ∧ (k = 7 ∨ k = 8)) → am_up (am_up h1.1 44 7 a) 44 8 b q k = h1.1 q k := fun h1 a b q k z => (ak_up_out (by omega)).trans (ak_up_out (by omega))
  have V7 : ∀ (h1 : ak_S) (a b : Int), am_up (am_up h1.1 44 7 a) 44 8 b 44 7 = a := fun h1 a b => by simp [am_up]
  have V8 : ∀ (h1 : ak_S) (a b : Int), am_up (am_up h1.1 44 7 a) 44 8 b 44 8 = b := fun h1 a b => by simp [am_up]
  -- the entries that are asked
  have ef : ak_fnd (ak_f2 s st) E = ak_fnd (ak_f3 s nm st) E := ak_fnd_congr E (fun en he => by
    unfold ak_f2 ak_f3
    rw [decide_eq_true (hnm en he), Bool.true_and])
  have et : ak_tst (ak_f2 s st) E = ak_tst (ak_f3 s nm st) E := by unfold ak_tst; rw [ef]
  have hitv : ∀ (l : List ak_E), (∀ en, en ∈ l → ak_eok S O T sh en) → ak_fnd (ak_f3 s nm st) l < l.length → ∃ en, l[ak_fnd (ak_f3 s nm st) l]? = some en ∧ en.2.2.2 = ak_lu T sh O s nm st := by
    intro l hl hlt
    obtain ⟨en, a, b⟩ := ak_fnd_get l hlt
    obtain ⟨b1, b2, b3⟩ := ak_f3_iff.mp b
    refine ⟨en, a, ?_⟩
    rw [(hl en (List.mem_of_getElem? a)).2.1.2, b1, b2, b3]
  -- behind the search
  have tail : M ≠ 0 → ∀ (h1 : ak_S) (x7 : Int), (∀ q k, ¬ (q = 47 ∧ (k = 6 * i + 2 ∨ k = 6 * i + 5)) → h1.1 q k = h.1 q k) → h1.2 = h.2 → h1.1 47 (6 * i + 2) = am_w32 (us + 1) → h1.1 47 (6 * i + 5) = ak_us5 M sv ts E (ak_en T sh O s nm st) →
      ((ak_hit sv E Et (ak_en T sh O s nm st) = true ∧ ∃ r : Nat, r < 728 ∧ x7 = (r : Int) ∧ h.1 45 (5 * r + 2) = (ak_lu T sh O s nm st).1 ∧ h.1 45 (5 * r + 3) = (ak_lu T sh O s nm st).2) ∨ (ak_hit sv E Et (ak_en T sh O s nm st) = false ∧ x7 = -1)) →
      ak_W0 e 0 (d + 3) 111 ρ 114 [some (am_r 44), some (am_r 33), some (am_i (i : Int)), some (am_i nm), some (am_i (s : Int)), some (am_i st), some (am_i (am_w32 ((i : Int) * 6))), some (am_i x7)] [] h1 (ak_qv Q X) := by
    intro hM h1 x7 f f2 m2 m5 hx
    have e2 : ak_us2 M us = am_w32 (us + 1) := if_neg hM
    rcases hx with ⟨hh, r, hr, hx, v2, v3⟩ | ⟨hh, hx⟩
    · subst hx
      have e1 : ak_us M sv E Et (ak_en T sh O s nm st) = (sv, E, Et) := if_pos (Or.inr hh)
      have e3 : ak_us3 M sv ms E Et (ak_en T sh O s nm st) = ms := if_pos (Or.inr hh)
      rw [e1, e2, e3] at q
      clear e1 e2 e3
      refine am_k111_114 ⟨fun g => by omega, fun _ => ?_⟩
      rw [show am_w32 (am_w32 ((r : Int) * 5) + 2) = ((5 * r + 2 : Nat) : Int) from ak_w5c (c := 2) (by omega), show am_w32 (am_w32 ((r : Int) * 5) + 3) = ((5 * r + 3 : Nat) : Int) from ak_w5c (c := 3) (by omega), ak_natn, ak_natn, f 45 _ (by omega), f 45 _ (by omega), v2, v3]
      have FF := F78 h1 (ak_lu T sh O s nm st).1 (ak_lu T sh O s nm st).2
      refine ⟨by omega, by omega, q (am_up (am_up h1.1 44 7 (ak_lu T sh O s nm st).1) 44 8 (ak_lu T sh O s nm st).2, h1.2) (ak_gC_fr B (fun k a b => (FF 45 k (by omega)).trans (f 45 k (by omega))) (fun k a b => by show h1.2.1 46 k = _; rw [f2])) ?_ ?_ (ak_gC_fr Bt (fun k a b => (FF 45 k (by omega)).trans (f 45 k (by omega))) (fun k a b => by show h1.2.1 46 k = _; rw [f2])) ?_ ?_ ?_ ?_ ?_ (V7 h1 (ak_lu T sh O s nm st).1 (ak_lu T sh O s nm st).2) (V8 h1 (ak_lu T sh O s nm st).1 (ak_lu T sh O s nm st).2) ⟨fun q k a b c d' e' => (FF q k (by omega)).trans (f q k (by omega)), fun q k a b => by show h1.2.1 q k = _; rw [f2], by show h1.2.2 = _; rw [f2]⟩⟩
      · exact (FF _ _ (by omega)).trans ((f _ _ (by omega)).trans n1)
      · exact (FF _ _ (by omega)).trans ((f _ _ (by omega)).trans n0)
      · exact (FF _ _ (by omega)).trans ((f _ _ (by omega)).trans n4)
      · exact (FF _ _ (by omega)).trans m2
      · exact (FF _ _ (by omega)).trans ((f _ _ (by omega)).trans n3)
      · exact (FF _ _ (by omega)).trans m5
      · exact (FF 47 (6 * i + 4) (by omega)).trans (f 47 (6 * i + 4) (by omega))
    · have hnot : ¬ (M = 0 ∨ ak_hit sv E Et (ak_en T sh O s nm st) = true) := fun z => by
        rcases z with z | z
        · exact hM z
        · rw [hh] at z; exact absurd z (by decide)
      have e1 : ak_us M sv E Et (ak_en T sh O s nm st) = ak_rm M sv E Et (ak_en T sh O s nm st) := if_neg hnot
      have e3 : ak_us3 M sv ms E Et (ak_en T sh O s nm st) = am_w32 (ms + 1) := if_neg hnot
      rw [e1, e2, e3] at q
      clear e1 e2 e3
      subst hx
      refine am_k111_114 ⟨fun _ => ?_, fun g => absurd g (by decide)⟩
      rw [show am_w32 (am_w32 ((i : Int) * 6) + 3) = ((6 * i + 3 : Nat) : Int) from ak_w6c (c := 3) (by omega), ak_natn, f 47 (6 * i + 3) (by omega), n3]
      have F3 : ∀ q k, ¬ (q = 47 ∧ k = 6 * i + 3) → am_up h1.1 47 (6 * i + 3) (am_w32 (ms + 1)) q k = h1.1 q k := fun q k z => ak_up_out z
      have V3 : am_up h1.1 47 (6 * i + 3) (am_w32 (ms + 1)) 47 (6 * i + 3) = am_w32 (ms + 1) := by simp [am_up]
      refine ⟨by omega, by omega, am_s164 (d := d) W (ak_tC_out C (fun q k hq => (F3 q k (by omega)).trans (f q k (by omega)))) hO (fun o hh => ⟨(ho o hh).1, (F3 _ _ (by omega)).trans ((f _ _ (by omega)).trans (ho o hh).2)⟩) hs hst (fun h3 l9 l10 lv f3 => ?_)⟩
      have G : ∀ q k, ¬ (q = 33 ∧ (k = 9 ∨ k = 10 ∨ k = 14)) → ¬ (42 ≤ q ∧ q ≤ 43) → ¬ (q = 44 ∧ (k = 7 ∨ k = 8)) → ¬ (q = 47 ∧ (k = 6 * i + 2 ∨ k = 6 * i + 5 ∨ k = 6 * i + 3)) → am_up (am_up h3.1 44 7 (h3.1 33 9)) 44 8 (h3.1 33 10) q k = h.1 q k := fun q k a b c c' => (F78 h3 _ _ q k c).trans ((f3.1 q k a b).trans ((F3 q k (by omega)).trans (f q k (by omega))))
      have G47 : ∀ k, am_up (am_up h3.1 44 7 (h3.1 33 9)) 44 8 (h3.1 33 10) 47 k = am_up h1.1 47 (6 * i + 3) (am_w32 (ms + 1)) 47 k := fun k => (F78 h3 _ _ 47 k (by omega)).trans (f3.1 47 k (by omega) (by omega))
      have J : ∀ q k, q ≠ 41 → h3.2.1 q k = h.2.1 q k := fun q k a => (f3.2.1 q k a).trans (by show h1.2.1 q k = _; rw [f2])
      have W9 : am_up (am_up h3.1 44 7 (h3.1 33 9)) 44 8 (h3.1 33 10) 33 9 = h3.1 33 9 := F78 h3 _ _ 33 9 (by omega)
      have W10 : am_up (am_up h3.1 44 7 (h3.1 33 9)) 44 8 (h3.1 33 10) 33 10 = h3.1 33 10 := F78 h3 _ _ 33 10 (by omega)
      have X7 := V7 h3 (h3.1 33 9) (h3.1 33 10)
      have X8 := V8 h3 (h3.1 33 9) (h3.1 33 10)
      have hg : ∃ h4 : ak_S, h4 = (am_up (am_up h3.1 44 7 (h3.1 33 9)) 44 8 (h3.1 33 10), h3.2) := ⟨_, rfl⟩
      obtain ⟨h4, hg⟩ := hg
      have g1 : h4.1 = am_up (am_up h3.1 44 7 (h3.1 33 9)) 44 8 (h3.1 33 10) := by rw [hg]
      have g2 : h4.2 = h3.2 := by rw [hg]
      rw [← g1] at G G47 W9 W10 X7 X8
      rw [← hg]
      clear hg g1
      have := am_s114 (e := e) (d := d + 1) (ρ := ρ) (R := ak_er T sh O) (h := h4) (E := E) (Et := Et) (X := fun _ _ => False) (en := ak_en T sh O s nm st) (Q := Q) (M := M) (sv := sv) hi hE (ak_gC_fr B (fun k a b => G 45 k (by omega) (by omega) (by omega) (by omega)) (fun k a b => by rw [g2]; exact J 46 k (by omega))) ((G _ _ (by omega) (by omega) (by omega) (by omega)).trans n1) ((G _ _ (by omega) (by omega) (by omega) (by omega)).trans n0) ((G _ _ (by omega) (by omega) (by omega) (by omega)).trans nM) hEt (ak_gC_fr Bt (fun k a b => G 45 k (by omega) (by omega) (by omega) (by omega)) (fun k a b => by rw [g2]; exact J 46 k (by omega))) ((G _ _ (by omega) (by omega) (by omega) (by omega)).trans n4)
        (W9.trans l9) (W10.trans l10) (fun o ho => by rw [g2]; exact lv o ho) (fun h5 k1 k2 k3 k4 k5 f5 => ?_)
      · exact this
      · refine q h5 k1 k2 k3 k4 k5 ?_ ?_ ?_ ?_ ?_ ?_ ⟨fun q k a b c c2 c3 => (f5.1 q k (by omega) (by omega) (by omega)).trans (G q k a b (by omega) (by omega)), fun q k a b => (f5.2.1 q k b).trans (by rw [g2]; exact J q k a), f5.2.2.trans (by rw [g2]; exact f3.2.2.trans (by show h1.2.2 = _; rw [f2]))⟩
        · exact (f5.1 _ _ (by omega) (by omega) (by omega)).trans ((G47 _).trans ((F3 _ _ (by omega)).trans m2))
        · exact (f5.1 _ _ (by omega) (by omega) (by omega)).trans ((G47 _).trans V3)
        · exact (f5.1 _ _ (by omega) (by omega) (by omega)).trans ((G47 _).trans ((F3 _ _ (by omega)).trans m5))
        · exact (f5.1 _ _ (by omega) (by omega) (by omega)).trans (G _ _ (by omega) (by omega) (by omega) (by omega))
        · exact (f5.1 _ _ (by omega) (by omega) (by omega)).trans (X7.trans l9)
        · exact (f5.1 _ _ (by omega) (by omega) (by omega)).trans (X8.trans l10)
  refine ak_MV_of (Nat.le_of_ble_eq_true rfl) (am_k111_0 ?_)
  rw [nM]
  refine ⟨fun hM => ?_, fun hM => ?_⟩
  · rw [show am_w32 (am_w32 ((i : Int) * 6) + 2) = ((6 * i + 2 : Nat) : Int) from ak_w6c (c := 2) (by omega), show am_w32 (am_w32 ((i : Int) * 6) + 0) = ((6 * i : Nat) : Int) from ak_w6c (c := 0) (by omega), ak_natn, ak_natn, n2]
    have F2 : ∀ q k, ¬ (q = 47 ∧ k = 6 * i + 2) → am_up h.1 47 (6 * i + 2) (am_w32 (us + 1)) q k = h.1 q k := fun q k z => ak_up_out z
    have V2 : am_up h.1 47 (6 * i + 2) (am_w32 (us + 1)) 47 (6 * i + 2) = am_w32 (us + 1) := by simp [am_up]
    have hg : ∃ h4 : ak_S, h4 = (am_up h.1 47 (6 * i + 2) (am_w32 (us + 1)), h.2) := ⟨_, rfl⟩
    obtain ⟨h4, hg⟩ := hg
    have g1 : h4.1 = am_up h.1 47 (6 * i + 2) (am_w32 (us + 1)) := by rw [hg]
    have g2 : h4.2 = h.2 := by rw [hg]
    rw [← g1] at F2 V2
    rw [← hg, ← g1]
    clear hg g1
    rw [F2 47 (6 * i) (by omega), n0]
    have B4 : ak_gC (ak_er T sh O) (4 * i) E h4 := ak_gC_fr B (fun k a b => F2 45 k (by omega)) (fun k a b => by rw [g2])
    have Bt4 : ak_gC (ak_er T sh O) 600 Et h4 := ak_gC_fr Bt (fun k a b => F2 45 k (by omega)) (fun k a b => by rw [g2])
    refine ⟨by omega, by omega, by omega, fun g => ?_, fun g => ?_⟩
    · refine ak_MI_deep (show d + 2 ≤ d + 3 by omega) (am_s112 (d := d) hi hE B4 ((F2 _ _ (by omega)).trans n1) ((F2 _ _ (by omega)).trans n5) (fun h5 m5 f5 f52 => ?_))
      rw [ef]
      rw [et] at m5
      have eh : ak_hit sv E Et (ak_en T sh O s nm st) = decide (ak_fnd (ak_f3 s nm st) E < E.length) := if_neg g
      have e5 : ak_us5 M sv ts E (ak_en T sh O s nm st) = ak_inc (ak_tst (ak_f3 s nm st) E) ts := (if_neg hM).trans (if_neg g)
      have e50 : h5.1 47 (6 * i) = sv := (f5 _ _ (by omega)).trans ((F2 _ _ (by omega)).trans n0)
      refine am_k111_86 ?_
      rw [show am_w32 (am_w32 ((i : Int) * 6) + 0) = ((6 * i : Nat) : Int) from ak_w6c (c := 0) (by omega), ak_natn, e50]
      refine ⟨by omega, fun _ => ?_, fun z => absurd z g⟩
      refine tail hM h5 _ (fun q k a => (f5 q k (by omega)).trans (F2 q k (by omega))) (f52.trans g2) ((f5 _ _ (by omega)).trans V2) (by rw [e5]; exact m5) ?_
      by_cases hlt : ak_fnd (ak_f3 s nm st) E < E.length
      · rw [if_pos hlt]
        obtain ⟨en, a, b⟩ := hitv E (fun en he => hok en (Or.inl he)) hlt
        obtain ⟨⟨c1, c2, c3, c4, c5⟩, -⟩ := B _ en a
        refine Or.inl ⟨by rw [eh]; exact decide_eq_true hlt, 4 * i + ak_fnd (ak_f3 s nm st) E, by omega, rfl, by rw [c3, b], by rw [c4, b]⟩
      · rw [if_neg hlt]
        exact Or.inr ⟨by rw [eh]; exact decide_eq_false hlt, rfl⟩
    · refine ak_MI_deep (show d + 1 ≤ d + 3 by omega) (am_s113 (d := d) hEt Bt4 ((F2 _ _ (by omega)).trans n4) ?_)
      have eh : ak_hit sv E Et (ak_en T sh O s nm st) = decide (ak_fnd (ak_f3 s nm st) Et < Et.length) := if_pos g
      have e5 : ak_us5 M sv ts E (ak_en T sh O s nm st) = am_w32 (ts + 1) := (if_neg hM).trans (if_pos g)
      have e50 : h4.1 47 (6 * i) = sv := (F2 _ _ (by omega)).trans n0
      have e55 : h4.1 47 (6 * i + 5) = ts := (F2 _ _ (by omega)).trans n5
      refine am_k111_86 ?_
      rw [show am_w32 (am_w32 ((i : Int) * 6) + 0) = ((6 * i : Nat) : Int) from ak_w6c (c := 0) (by omega), show am_w32 (am_w32 ((i : Int) * 6) + 5) = ((6 * i + 5 : Nat) : Int) from ak_w6c (c := 5) (by omega), ak_natn, ak_natn, e50, e55]
      have F5 : ∀ q k, ¬ (q = 47 ∧ k = 6 * i + 5) → am_up h4.1 47 (6 * i + 5) (am_w32 (ts + 1)) q k = h4.1 q k := fun q k z => ak_up_out z
      refine ⟨by omega, fun z => absurd g z, fun _ => ⟨by omega, by omega, ?_⟩⟩
      refine tail hM (am_up h4.1 47 (6 * i + 5) (am_w32 (ts + 1)), h4.2) _ (fun q k a => (F5 q k (by omega)).trans (F2 q k (by omega))) g2 ((F5 _ _ (by omega)).trans V2) (by rw [e5]; exact ak_up_at1) ?_
      by_cases hlt : ak_fnd (ak_f3 s nm st) Et < Et.length
      · rw [if_pos hlt]
        obtain ⟨en, a, b⟩ := hitv Et (fun en he => hok en (Or.inr he)) hlt
        obtain ⟨⟨c1, c2, c3, c4, c5⟩, -⟩ := Bt _ en a
        refine Or.inl ⟨by rw [eh]; exact decide_eq_true hlt, 600 + ak_fnd (ak_f3 s nm st) Et, by omega, rfl, by rw [c3, b], by rw [c4, b]⟩
      · rw [if_neg hlt]
        exact Or.inr ⟨by rw [eh]; exact decide_eq_false hlt, rfl⟩
  · subst hM
    have e1 : ak_us 0 sv E Et (ak_en T sh O s nm st) = (sv, E, Et) := if_pos (Or.inl rfl)
    have e2 : ak_us2 0 us = us := if_pos rfl
    have e3 : ak_us3 0 sv ms E Et (ak_en T sh O s nm st) = ms := if_pos (Or.inl rfl)
    have e5 : ak_us5 0 sv ts E (ak_en T sh O s nm st) = ts := if_pos rfl
    rw [e1, e2, e3, e5] at q
    refine am_s164 (d := d) W C hO ho hs hst (fun h3 l9 l10 lv f3 => ?_)
    have G : ∀ q k, ¬ (q = 33 ∧ (k = 9 ∨ k = 10 ∨ k = 14)) → ¬ (42 ≤ q ∧ q ≤ 43) → ¬ (q = 44 ∧ (k = 7 ∨ k = 8)) → am_up (am_up h3.1 44 7 (h3.1 33 9)) 44 8 (h3.1 33 10) q k = h.1 q k := fun q k a b c => (F78 h3 _ _ q k c).trans (f3.1 q k a b)
    exact q (am_up (am_up h3.1 44 7 (h3.1 33 9)) 44 8 (h3.1 33 10), h3.2) (ak_gC_fr B (fun k a b => G 45 k (by omega) (by omega) (by omega)) (fun k a b => f3.2.1 46 k (by omega))) ((G _ _ (by omega) (by omega) (by omega)).trans n1) ((G _ _ (by omega) (by omega) (by omega)).trans n0) (ak_gC_fr Bt (fun k a b => G 45 k (by omega) (by omega) (by omega)) (fun k a b => f3.2.1 46 k (by omega))) ((G _ _ (by omega) (by omega) (by omega)).trans n4)
      ((G _ _ (by omega) (by omega) (by omega)).trans n2) ((G _ _ (by omega) (by omega) (by omega)).trans n3) ((G _ _ (by omega) (by omega) (by omega)).trans n5) (G 47 (6 * i + 4) (by omega) (by omega) (by omega)) ((V7 h3 (h3.1 33 9) (h3.1 33 10)).trans l9) ((V8 h3 (h3.1 33 9) (h3.1 33 10)).trans l10) ⟨fun q k a b c c2 c3 => G q k a b (by omega), fun q k a b => f3.2.1 q k a, f3.2.2⟩
end CUSE3
