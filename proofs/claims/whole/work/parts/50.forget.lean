/-! forgetting, manner -/
def ak_zC (h : ak_S) (i : Nat) : ak_S := (fun p k => if p = 47 ∧ k < i then 0 else h.1 p k, h.2)
def ak_zM (h : ak_S) (i : Nat) : ak_S := (fun p k => if (158 ≤ p ∧ p ≤ 163) ∧ k < i then 0 else h.1 p k, h.2)
def ak_fC (h : ak_S) : ak_S := (am_up (ak_zC h 900).1 44 4 0, h.2)
def ak_fM (h : ak_S) : ak_S := (am_up (ak_zM h 150).1 110 78 0, h.2)
theorem ak_zC_step {h : ak_S} {i : Nat} : (am_up (ak_zC h i).1 47 i 0, (ak_zC h i).2) = ak_zC h (i + 1) := by
  unfold ak_zC
  dsimp only
  congr 1
  funext p k
  simp only [am_up]
  by_cases hp : p = 47
  · rw [if_pos hp]
    by_cases hk : k = i
    · rw [if_pos hk, if_pos ⟨hp, by omega⟩]
    · rw [if_neg hk]
      by_cases hk2 : k < i
      · rw [if_pos ⟨hp, hk2⟩, if_pos ⟨hp, by omega⟩]
      · rw [if_neg (fun z => hk2 z.2), if_neg (fun z => hk2 (by omega))]
  · rw [if_neg hp, if_neg (fun z => hp z.1), if_neg (fun z => hp z.1)]
theorem ak_zM_step {h : ak_S} {i : Nat} : (am_up (am_up (am_up (am_up (am_up (am_up (ak_zM h i).1 158 i 0) 159 i 0) 160 i 0) 161 i 0) 162 i 0) 163 i 0, (ak_zM h i).2) = ak_zM h (i + 1) := by
  unfold ak_zM
  dsimp only
  congr 1
  funext p k
  simp only [am_up]
  by_cases hp : 158 ≤ p ∧ p ≤ 163
  · by_cases hk : k = i
    · rw [if_pos (show (158 ≤ p ∧ p ≤ 163) ∧ k < i + 1 from ⟨hp, by omega⟩), if_pos hk, if_pos hk, if_pos hk, if_pos hk, if_pos hk, if_pos hk]
      have : p = 158 ∨ p = 159 ∨ p = 160 ∨ p = 161 ∨ p = 162 ∨ p = 163 := by omega
      rcases this with h1 | h1 | h1 | h1 | h1 | h1 <;> simp [h1]
    · rw [if_neg hk, if_neg hk, if_neg hk, if_neg hk, if_neg hk, if_neg hk]
      have e1 : ((158 ≤ p ∧ p ≤ 163) ∧ k < i) ↔ ((158 ≤ p ∧ p ≤ 163) ∧ k < i + 1) := ⟨fun z => ⟨z.1, by omega⟩, fun z => ⟨z.1, by omega⟩⟩
      simp only [e1]
      split <;> split <;> split <;> split <;> split <;> split <;> rfl
  · have n1 : ∀ q, 158 ≤ q → q ≤ 163 → p ≠ q := fun q a b z => hp ⟨by omega, by omega⟩
    rw [if_neg (n1 163 (by omega) (by omega)), if_neg (n1 162 (by omega) (by omega)), if_neg (n1 161 (by omega) (by omega)), if_neg (n1 160 (by omega) (by omega)), if_neg (n1 159 (by omega) (by omega)), if_neg (n1 158 (by omega) (by omega)), if_neg (fun z => hp z.1), if_neg (fun z => hp z.1)]
theorem ak_zC_0 {h : ak_S} : ak_zC h 0 = h := by
  unfold ak_zC
  simp
theorem ak_zM_0 {h : ak_S} : ak_zM h 0 = h := by
  unfold ak_zM
  simp
theorem ak_natn {n : Nat} : ((n : Int)).toNat = n := Int.toNat_natCast n
theorem am_s363a {e : ak_X3} {d : Nat} {ρ : List Nat} {h : ak_S} {Q : ak_S → Prop} {X : Nat → ak_S → Prop} (w : Q (ak_zC h 900)) : ak_MV e 0 (d + 1) ρ 363 [am_r 47, am_i 0] h Q X := by
  have lp : ∀ (c i : Nat), i + c = 900 → ak_W0 e 0 d 363 ρ 5 [some (am_r 47), some (am_i 0), some (am_i (i : Int)), some (am_i 900)] [] (ak_zC h i) (ak_qv Q X) := by
    intro c
    induction c with
    | zero =>
      intro i hi
      have : i = 900 := by omega
      subst this
      exact am_k363a_5 ⟨fun _ => w, fun z => absurd z (by decide)⟩
    | succ c ih =>
      intro i hi
      refine am_k363a_5 ⟨fun z => absurd z (by omega), fun _ => ⟨⟨by omega, by omega⟩, ?_⟩⟩
      rw [ak_wj (show i < 1000000 by omega), ak_natn, ak_zC_step]
      exact ih (i + 1) (by omega)
  refine ak_MV_of (Nat.le_of_ble_eq_true rfl) (am_k363a_0 ?_)
  have := lp 900 0 rfl
  rw [ak_zC_0] at this
  exact this
theorem am_s107 {e : ak_X3} {d : Nat} {ρ : List Nat} {h : ak_S} {Q : ak_S → Prop} {X : Nat → ak_S → Prop} (w : Q (ak_fC h)) : ak_MV e 0 (d + 2) ρ 107 [am_r 44] h Q X :=
  ak_MV_of (Nat.le_of_ble_eq_true rfl) (am_k107_0 (am_s363a w))
theorem am_s252 {e : ak_X3} {d : Nat} {ρ : List Nat} {h : ak_S} {Q : ak_S → Prop} {X : Nat → ak_S → Prop} (w : Q (ak_fM h)) : ak_MV e 1 (d + 1) ρ 252 [am_r 110] h Q X := by
  have lp : ∀ (c i : Nat), i + c = 150 → ak_W0 e 1 d 252 ρ 2 [some (am_r 110), some (am_i (i : Int))] [] (ak_zM h i) (ak_qv Q X) := by
    intro c
    induction c with
    | zero =>
      intro i hi
      have : i = 150 := by omega
      subst this
      exact am_k252_2 ⟨fun _ => w, fun z => absurd z (by decide)⟩
    | succ c ih =>
      intro i hi
      have b : 0 ≤ (i : Int) ∧ (i : Int) < 150 := by omega
      refine am_k252_2 ⟨fun z => absurd z (by omega), fun _ => ⟨b, b, b, b, b, b, ?_⟩⟩
      rw [ak_wj (show i < 1000000 by omega), ak_natn, ak_zM_step]
      exact ih (i + 1) (by omega)
  refine ak_MV_of (Nat.le_of_ble_eq_true rfl) (am_k252_0 ?_)
  have := lp 150 0 rfl
  rw [ak_zM_0] at this
  exact this
theorem am_manner {e : ak_X3} {d ρ1 ρ2 u : Nat} (hu : u = 0 ∨ u = 1) {hc hm : ak_S} {x : Int} {R : ak_S → ak_S → Prop}
    (R1 : 0 ≤ x → x ≤ 2 → R (ak_fC (am_up hc.1 44 6 x, hc.2)) (ak_fM (am_up (am_up hm.1 110 0 0) 110 71 x, hm.2))) (R2 : R (ak_th hc) (ak_no hm 1)) : ak_cV e (d + 3) [ak_T u, ρ1, ρ2, ak_T u, ak_T u + 1] 169 300 [am_i x] hc hm [(1, 1)] R := by
  have no : x < 0 ∨ 2 < x → ak_MV e 1 (d + 3) [ak_T u, ρ1, ρ2, ak_T u, ak_T u + 1] 300 (am_r 110 :: [am_i x]) hm (fun hm' => R (ak_th hc) hm' ∧ hm'.1 110 0 = 1) ak_F := by
    intro hx
    exact ak_MV_of (Nat.le_of_ble_eq_true rfl) (am_k300_0 ⟨fun _ => ⟨fun z => absurd z (by decide), fun _ => ⟨R2, rfl⟩⟩, fun h0 => ⟨fun h1 => absurd hx (by omega), fun _ => ⟨fun z => absurd z (by decide), fun _ => ⟨R2, rfl⟩⟩⟩⟩)
  refine ak_MV_of (Nat.le_of_ble_eq_true rfl) (am_k169_0 hu ⟨fun h0 => ⟨1, by decide, no (Or.inl h0)⟩, fun h0 => ⟨fun h1 => ?_, fun h1 => ⟨1, by decide, no (Or.inr h1)⟩⟩⟩)
  refine am_s107 (ak_MV_of (Nat.le_of_ble_eq_true rfl) (am_k300_0 ⟨fun z => absurd z (by omega), fun _ => ⟨fun _ => ⟨fun _ => ?_, fun z => absurd z (by decide)⟩, fun z => absurd z (by omega)⟩⟩))
  refine am_s252 ⟨R1 h0 h1, ?_⟩
  show am_up (ak_zM (am_up (am_up hm.1 110 0 0) 110 71 x, hm.2) 150).1 110 78 0 110 0 = 0
  simp [am_up, ak_zM]
def ak_cF (e : ak_X3) (d : Nat) (ρ : List Nat) (hc hm : ak_S) (R : ak_S → ak_S → Prop) : Prop :=
  ak_MV e 0 d ρ 170 [am_r 1] hc (fun hc' => ak_MV e 1 d ρ 301 [am_r 110] hm (fun hm' => R hc' hm') ak_F) ak_F
theorem am_forget {e : ak_X3} {d ρ1 ρ2 u : Nat} (hu : u = 0 ∨ u = 1) {hc hm : ak_S} {R : ak_S → ak_S → Prop} (R1 : R (ak_fC hc) (ak_fM (ak_no hm 0))) : ak_cF e (d + 3) [ak_T u, ρ1, ρ2, ak_T u, ak_T u + 1] hc hm R :=
  ak_MV_of (Nat.le_of_ble_eq_true rfl) (am_k170_0 hu (am_s107 (ak_MV_of (Nat.le_of_ble_eq_true rfl) (am_k301_0 (am_s252 R1)))))
theorem am_lc349a {e : ak_X3} {d : Nat} {ρ : List Nat} {hc hm : ak_S} {o : Int} {R : ak_S → ak_S → Prop} {Q : ak_S → Prop} (P : ak_cF e d ρ hc hm R)
    (hk : ∀ hc' hm' o', R hc' hm' → Q (ak_mrg hc' hm' o')) :
    ak_MV e 2 (d + 1) ρ 170 [am_r 1] (ak_mrg hc hm o) (fun h1 => ak_MV e 2 (d + 1) ρ 301 [am_r 110] h1 Q (fun _ _ => False)) (fun _ _ => False) :=
  ak_MV_up0 (ak_MV_deep (Nat.le_succ d) (ak_MV_imp P (fun hc' q => ak_MV_up1 (ak_MV_deep (Nat.le_succ d) (ak_MV_imp q (fun hm' r => hk _ _ _ r) (fun _ _ z => z.elim)))) (fun _ _ z => z.elim)))
/-- load: the references change -/
def ak_cL (e : ak_X3) (d : Nat) (ρ : List Nat) (hc hm : ak_S) (R : List Nat → ak_S → ak_S → Prop) : Prop :=
  ak_M1 e 0 d ρ 168 [am_r 1] hc (fun ρ' x => ∃ v hc', x = .inl (some (.inl v), hc') ∧ ak_MI e 1 d ρ' 237 [am_r 110] hm (fun b hm' => R ρ' hc' hm' ∧ v = b) ak_F)
theorem ak_k1_ok {e : ak_X3} {r d j : Nat} {ρ : List Nat} {Q : ak_R3 → Prop} {Q' : List Nat → ak_R3 → Prop} {C : Nat → Option am_E} {hl : List am_HE} {rt pc : Nat} {ls : am_L} {st : List am_V} {h : ak_S} (hc : am_co am_P j = C ∧ am_hl am_P j = hl ∧ am_rtag (am_re am_P j) = rt) (n : Nat) (lab : List (Nat × List Bool)) (hQ : ∀ x, Q x → Q' ρ x)
    (w : am3_ev e r d ρ C hl rt lab (fun pc ls st h => ak_W1 e r d j ρ pc ls st h Q') Q n pc ls st h) : ak_W1 e r d j ρ pc ls st h Q' := by
  obtain ⟨rfl, rfl, rfl⟩ := hc
  exact am3_ev_ok (fun _ _ _ _ q => q) hQ n pc ls st h w
theorem am_lc300 {e : ak_X3} {d : Nat} {ρ : List Nat} {hc hm : ak_S} {o : Int} {R : List Nat → ak_S → ak_S → Prop} {Q : List Nat → ak_R3 → Prop} {x4 : Int} (P : ak_cL e d ρ hc hm R)
    (hk : ∀ ρ' hc' hm' o', R ρ' hc' hm' → ak_W1 e 2 (d + 1) 0 ρ' 23 [some (am_r (am_SP + 2)), some (am_r 1), some (am_r 110), some (am_r 211), some (am_i (am_w32 (x4 + 6))), none, none, none] [] (ak_mrg hc' hm' o') Q) :
    ak_W1 e 2 (d + 1) 0 ρ 300 [some (am_r (am_SP + 2)), some (am_r 1), some (am_r 110), some (am_r 211), some (am_i x4), none, none, none] [] (ak_mrg hc hm o) Q := by
  refine ak_W1_nrm (st' := [am_r 1]) (ls' := [some (am_r (am_SP + 2)), some (am_r 1), some (am_r 110), some (am_r 211), some (am_i x4), none, none, none]) (h' := ak_mrg hc hm o) rfl rfl (fun g hg => rfl) ?_
  have P2 : ak_M1 e 2 (d + 1) ρ 168 [am_r 1] (ak_mrg hc hm o) (fun ρ' x => ∃ v hc', x = .inl (some (.inl v), ak_mrg hc' hm o) ∧ ak_MI e 1 d ρ' 237 [am_r 110] hm (fun b hm' => R ρ' hc' hm' ∧ v = b) ak_F) :=
    ak_M1_up0 (ak_M1_imp (ak_M1_deep (Nat.le_succ d) P) (fun ρ' x ⟨v, hc', q1, q2⟩ => ⟨v, hc', by rw [q1]; rfl, q2⟩))
  refine ak_W1_aft (i := 168) (ar := [am_r 1]) (s := []) rfl (fun g call k hg => rfl) P2 (fun ρ' v h' q => ?_) (fun ρ' x h' q => ?_)
  · obtain ⟨v2, hc', q1, q2⟩ := q
    cases q1
    refine ak_W1_nrm (st' := [am_r 110, am_i v2]) (ls' := [some (am_r (am_SP + 2)), some (am_r 1), some (am_r 110), some (am_r 211), some (am_i x4), none, none, none]) (h' := ak_mrg hc' hm o) rfl rfl (fun g hg => rfl) ?_
    have P3 : ak_M1 e 2 (d + 1) ρ' 237 [am_r 110] (ak_mrg hc' hm o) (ak_q0 ρ' (ak_qi (fun b h => ∃ hm', h = ak_mrg hc' hm' o ∧ R ρ' hc' hm' ∧ v2 = b) ak_F)) :=
      ak_MI_up1 (ak_MI_deep (Nat.le_succ d) (ak_MI_imp q2 (fun b hm' r => ⟨hm', rfl, r⟩) (fun _ _ z => z.elim)))
    refine ak_W1_aft (i := 237) (ar := [am_r 110]) (s := [am_i v2]) rfl (fun g call k hg => rfl) P3 (fun ρ2 b h' q => ?_) (fun ρ2 x h' q => ?_)
    · obtain ⟨rfl, q⟩ := q
      rcases b with - | b | b | b
      · exact q.elim
      · obtain ⟨hm', rfl, r, rfl⟩ := q
        refine ak_k1_ok (Q := fun x => Q ρ2 x) am_cc0 400 [(23, [true, true, true, true, true, false, false, false])] (fun x q => q) ?_
        exact (⟨fun _ => hk _ _ _ _ r, fun z => absurd rfl z⟩ : (v2 = v2 → ak_W1 e 2 (d + 1) 0 ρ2 23 [some (am_r (am_SP + 2)), some (am_r 1), some (am_r 110), some (am_r 211), some (am_i (am_w32 (x4 + 6))), none, none, none] [] (ak_mrg hc' hm' o) Q) ∧ (v2 ≠ v2 → ((0 : Int) = 0 ∨ (0 : Int) = 1) ∧ Q ρ2 (.inl (some (.inl 0), ak_mrg hc' hm' o))))
      · exact q.elim
      · exact q.elim
    · exact q.2.elim
  · obtain ⟨v2, hc', q1, q2⟩ := q
    cases q1
