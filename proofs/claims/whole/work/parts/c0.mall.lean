/-! all of makeVoid, of the other -/
/-- what went from the sites below n -/
def ak_gl (R : ak_E → List Nat) (o : Nat) (E : Nat → List ak_E) : Nat → List (Int × Int × Int × Int)
  | 0 => []
  | n + 1 => ak_gl R o E n ++ ((E n).filter (fun en => !ak_kp R o en)).map (ak_gg (n : Int))
/-- the entries when the sites below i are done -/
def ak_Ec (R : ak_E → List Nat) (o : Nat) (E : Nat → List ak_E) (i j : Nat) : List ak_E := if j < i then (E j).filter (ak_kp R o) else E j
def ak_Vc (R : ak_E → List Nat) (o : Nat) (E : Nat → List ak_E) (V : Nat → Int) (i j : Nat) : Int := if j < i then am_w32 (V j + (((E j).length : Int) - (((E j).filter (ak_kp R o)).length : Int))) else V j
/-- what making void changes, told finely -/
def ak_fVs (NS : Nat) (h h' : ak_S) : Prop := (∀ q k, ¬ (q = 110 ∧ (k = 64 ∨ k = 67 ∨ k = 78 ∨ k = 84)) → ¬ (154 ≤ q ∧ q ≤ 157) → ¬ (164 ≤ q ∧ q ≤ 172) → ¬ ((q = 159 ∨ q = 162) ∧ k < NS) → h'.1 q k = h.1 q k) ∧ h'.2 = h.2
section MALL
variable {e : ak_X3} {d S O o NS us : Nat} {ρ : List Nat} {T : Nat → List (Int × Int)} {sh : Nat → Nat} {h h' h2 : ak_S} {E : Nat → List ak_E} {Et : List ak_E} {V : Nat → Int} {R : ak_E → List Nat} {X : Nat → ak_S → Prop}
theorem ak_gl_len (hE : ∀ i, i < NS → (E i).length ≤ 4) : ∀ n, n ≤ NS → (ak_gl R o E n).length ≤ 4 * n := by
  intro n
  induction n with
  | zero => intro _; exact Nat.le_refl _
  | succ n ih =>
    intro hn
    unfold ak_gl
    rw [List.length_append, List.length_map]
    have := ih (by omega)
    have := hE n (by omega)
    have := List.length_filter_le (fun en => !ak_kp R o en) (E n)
    omega
theorem am_s256 {Q : ak_S → Prop} (W : ak_Tok S T O) (hO : O ≤ 200) (CT : ak_CT S O T sh h) (hus : h.1 110 3 = (us : Int)) (hus2 : us < 2) (hNS : h.1 127 us = (NS : Int)) (hNS2 : NS ≤ 150)
    (B : ∀ i, i < NS → (E i).length ≤ 4 ∧ ak_gM (4 * i) (E i) h ∧ (∀ en, en ∈ E i → ak_eok S O T sh en) ∧ h.1 159 i = ((E i).length : Int) ∧ h.1 162 i = V i ∧ am_w32 (V i) = V i)
    (Bt : Et.length ≤ 128 ∧ ak_gM 600 Et h ∧ (∀ en, en ∈ Et → ak_eok S O T sh en) ∧ h.1 110 78 = (Et.length : Int))
    (q : ∀ h', ak_CT S O T sh h' → (∀ i, i < NS → ak_gM (4 * i) ((E i).filter (ak_kp (ak_er T sh O) o)) h' ∧ h'.1 159 i = (((E i).filter (ak_kp (ak_er T sh O) o)).length : Int) ∧ h'.1 162 i = am_w32 (V i + (((E i).length : Int) - (((E i).filter (ak_kp (ak_er T sh O) o)).length : Int)))) →
      ak_gM 600 (Et.filter (ak_kp (ak_er T sh O) o)) h' → h'.1 110 78 = ((Et.filter (ak_kp (ak_er T sh O) o)).length : Int) → ak_gnM (ak_gl (ak_er T sh O) o E NS ++ (Et.filter (fun en => !ak_kp (ak_er T sh O) o en)).map (ak_gg (-1))) h' → ak_fVs NS h h' → Q h') :
    ak_MV e 1 (d + 5) ρ 256 [am_r 110, am_i (o : Int)] h Q X := by
  have lp : ∀ (c i : Nat) (h1 : ak_S), i + c = NS → ak_CT S O T sh h1 → (∀ j, j < NS → ak_gM (4 * j) (ak_Ec (ak_er T sh O) o E i j) h1 ∧ h1.1 159 j = ((ak_Ec (ak_er T sh O) o E i j).length : Int) ∧ h1.1 162 j = ak_Vc (ak_er T sh O) o E V i j) →
      ak_gM 600 Et h1 → h1.1 110 78 = (Et.length : Int) → ak_gnM (ak_gl (ak_er T sh O) o E i) h1 → ak_fVs NS h h1 → ak_W0 e 1 (d + 4) 256 ρ 7 [some (am_r 110), some (am_i (o : Int)), some (am_i (i : Int)), none, none] [] h1 (ak_qv Q X) := by
    intro c
    induction c with
    | zero =>
      intro i h1 hi ct bs bt b78 gn f
      have : i = NS := by omega
      subst this
      have n3 : h1.1 110 3 = (us : Int) := (f.1 _ _ (by omega) (by omega) (by omega) (by omega)).trans hus
      have n127 : h1.1 127 us = (i : Int) := (f.1 _ _ (by omega) (by omega) (by omega) (by omega)).trans hNS
      have gl := ak_gl_len (R := ak_er T sh O) (o := o) (fun j hj => (B j hj).1) i (Nat.le_refl _)
      refine am_k256_7 ?_
      rw [n3, ak_natn, n127]
      refine ⟨by omega, fun _ => am_m115 (d := d) W hO ct Bt.1 bt Bt.2.2.1 gn (by have := Bt.1; omega) b78 (fun h3 ct3 g3 gn3 f3 => ?_), fun g => by omega⟩
      have F : ∀ q k, ¬ (q = 110 ∧ k = 78) → am_up h3.1 110 78 ((Et.filter (ak_kp (ak_er T sh O) o)).length : Int) q k = h3.1 q k := fun q k a => ak_up_out a
      refine q (am_up h3.1 110 78 ((Et.filter (ak_kp (ak_er T sh O) o)).length : Int), h3.2) (ak_CT_fr ct3 (fun q k hq => F q k (by omega))) (fun j hj => ?_) (ak_gM_fr g3 (fun q k a b c d => F q k (by omega))) ak_up_at1 (ak_gnM_fr gn3 (fun q k hq => F q k (by omega))) ⟨fun q k a b c d' => (F q k (by omega)).trans ((f3.1 q k (by omega) b (by omega) (by omega)).trans (f.1 q k a b c d')), f3.2.trans f.2⟩
      obtain ⟨z1, z2, z3⟩ := bs j hj
      unfold ak_Ec at z1 z2
      unfold ak_Vc at z3
      rw [if_pos hj] at z1 z2 z3
      have hl := (B j hj).1
      have hf := List.length_filter_le (ak_kp (ak_er T sh O) o) (E j)
      exact ⟨ak_gM_fr z1 (fun q k a b c d' => (F q k (by omega)).trans (f3.1 q k (by omega) (by omega) (by omega) (by omega))), (F _ _ (by omega)).trans ((f3.1 _ _ (by omega) (by omega) (by omega) (by omega)).trans z2), (F _ _ (by omega)).trans ((f3.1 _ _ (by omega) (by omega) (by omega) (by omega)).trans z3)⟩
    | succ c ih =>
      intro i h1 hi ct bs bt b78 gn f
      have hiN : i < NS := by omega
      have n3 : h1.1 110 3 = (us : Int) := (f.1 _ _ (by omega) (by omega) (by omega) (by omega)).trans hus
      have n127 : h1.1 127 us = (NS : Int) := (f.1 _ _ (by omega) (by omega) (by omega) (by omega)).trans hNS
      have gl := ak_gl_len (R := ak_er T sh O) (o := o) (fun j hj => (B j hj).1) i (by omega)
      obtain ⟨y1, y2, y3, y4, y5, y6⟩ := B i hiN
      obtain ⟨z1, z2, z3⟩ := bs i hiN
      have eE : ak_Ec (ak_er T sh O) o E i i = E i := if_neg (Nat.lt_irrefl _)
      have eV : ak_Vc (ak_er T sh O) o E V i i = V i := if_neg (Nat.lt_irrefl _)
      rw [eE] at z1 z2
      rw [eV] at z3
      have z3' : h1.1 162 i = am_w32 (V i) := z3.trans y6.symm
      refine am_k256_7 ?_
      rw [n3, ak_natn, n127]
      refine ⟨by omega, fun g => by omega, fun _ => am_m25 (d := d) W hO ct (by omega) y1 z1 y3 gn (by omega) z2 z3' (fun h3 ct3 g3 gn3 n162 f3 => ?_)⟩
      have F : ∀ q k, ¬ (q = 159 ∧ k = i) → am_up h3.1 159 i (((E i).filter (ak_kp (ak_er T sh O) o)).length : Int) q k = h3.1 q k := fun q k a => ak_up_out a
      have hf := List.length_filter_le (ak_kp (ak_er T sh O) o) (E i)
      refine ih (i + 1) (am_up h3.1 159 i (((E i).filter (ak_kp (ak_er T sh O) o)).length : Int), h3.2) (by omega) (ak_CT_fr ct3 (fun q k hq => F q k (by omega))) (fun j hj => ?_) (ak_gM_fr bt (fun q k a b c d' => (F q k (by omega)).trans (f3.1 q k (by omega) (by omega) (by omega) (by omega) (by omega)))) ((F _ _ (by omega)).trans ((f3.1 _ _ (by omega) (by omega) (by omega) (by omega) (by omega)).trans b78)) (ak_gnM_fr gn3 (fun q k hq => F q k (by omega)))
        ⟨fun q k a b c d' => (F q k (by omega)).trans ((f3.1 q k (by omega) b (by omega) (by omega) (by omega)).trans (f.1 q k a b c d')), f3.2.trans f.2⟩
      by_cases hji : j = i
      · subst hji
        have eE2 : ak_Ec (ak_er T sh O) o E (j + 1) j = (E j).filter (ak_kp (ak_er T sh O) o) := if_pos (Nat.lt_succ_self _)
        have eV2 : ak_Vc (ak_er T sh O) o E V (j + 1) j = am_w32 (V j + (((E j).length : Int) - (((E j).filter (ak_kp (ak_er T sh O) o)).length : Int))) := if_pos (Nat.lt_succ_self _)
        rw [eE2, eV2]
        exact ⟨ak_gM_fr g3 (fun q k a b c d' => F q k (by omega)), ak_up_at1, (F _ _ (by omega)).trans n162⟩
      · have eE2 : ak_Ec (ak_er T sh O) o E (i + 1) j = ak_Ec (ak_er T sh O) o E i j := by
          unfold ak_Ec
          by_cases hlt : j < i
          · rw [if_pos hlt, if_pos (by omega)]
          · rw [if_neg hlt, if_neg (by omega)]
        have eV2 : ak_Vc (ak_er T sh O) o E V (i + 1) j = ak_Vc (ak_er T sh O) o E V i j := by
          unfold ak_Vc
          by_cases hlt : j < i
          · rw [if_pos hlt, if_pos (by omega)]
          · rw [if_neg hlt, if_neg (by omega)]
        rw [eE2, eV2]
        obtain ⟨x1, x2, x3⟩ := bs j hj
        have hl : (ak_Ec (ak_er T sh O) o E i j).length ≤ 4 := by
          have h4 := (B j hj).1
          have h5 := List.length_filter_le (ak_kp (ak_er T sh O) o) (E j)
          unfold ak_Ec
          split <;> omega
        exact ⟨ak_gM_fr x1 (fun q k a b c d' => (F q k (by omega)).trans (f3.1 q k (by omega) (by omega) (by omega) (by omega) (by omega))), (F _ _ (by omega)).trans ((f3.1 _ _ (by omega) (by omega) (by omega) (by omega) (by omega)).trans x2), (F _ _ (by omega)).trans ((f3.1 _ _ (by omega) (by omega) (by omega) (by omega) (by omega)).trans x3)⟩
  refine ak_MV_of (Nat.le_of_ble_eq_true rfl) (am_k256_0 ?_)
  have F : ∀ q k, ¬ (q = 110 ∧ k = 84) → am_up h.1 110 84 0 q k = h.1 q k := fun q k a => ak_up_out a
  refine lp NS 0 (am_up h.1 110 84 0, h.2) (by omega) (ak_CT_fr CT (fun q k hq => F q k (by omega))) (fun j hj => ?_) (ak_gM_fr Bt.2.1 (fun q k a b c d' => F q k (by omega))) ((F _ _ (by omega)).trans Bt.2.2.2) ⟨ak_up_at1, fun j g hg => by simp [ak_gl] at hg⟩ ⟨fun q k a b c d' => F q k (by omega), rfl⟩
  obtain ⟨y1, y2, y3, y4, y5, y6⟩ := B j hj
  exact ⟨ak_gM_fr y2 (fun q k a b c d' => F q k (by omega)), (F _ _ (by omega)).trans y4, (F _ _ (by omega)).trans y5⟩
end MALL
