/-! the other drops the entries of a site that rest on an object -/
theorem ak_w32_add {a b : Int} : am_w32 (am_w32 a + b) = am_w32 (a + b) := by unfold am_w32; omega
/-- the other's world, as far as ways need it -/
def ak_CT (S O : Nat) (T : Nat → List (Int × Int)) (sh : Nat → Nat) (h : ak_S) : Prop := ak_tM S T h ∧ (∀ o, o < O → sh o < S ∧ ak_ob (T (sh o)) o h) ∧ ak_ly S O T sh h
/-- what sifting rows a up to b of the site i changes -/
def ak_sfM (i a b : Nat) (h h' : ak_S) : Prop := (∀ q k, ¬ (q = 110 ∧ (k = 64 ∨ k = 67 ∨ k = 84)) → ¬ (154 ≤ q ∧ q ≤ 157) → ¬ (164 ≤ q ∧ q ≤ 168 ∧ a ≤ k ∧ k < b) → ¬ (169 ≤ q ∧ q ≤ 172) → ¬ (q = 162 ∧ k = i) → h'.1 q k = h.1 q k) ∧ h'.2 = h.2
section MVOID
variable {e : ak_X3} {d S O o i : Nat} {ρ : List Nat} {T : Nat → List (Int × Int)} {sh : Nat → Nat} {h h' h2 : ak_S} {E : List ak_E} {G : List (Int × Int × Int × Int)} {X : Nat → ak_S → Prop}
theorem ak_CT_fr (w : ak_CT S O T sh h) (f : ∀ q k, (q = 110 ∧ (k = 53 ∨ k = 64 ∨ k = 67)) ∨ (141 ≤ q ∧ q ≤ 149) ∨ q = 154 ∨ q = 157 → h'.1 q k = h.1 q k) : ak_CT S O T sh h' := by
  obtain ⟨w1, w2, w3⟩ := w
  refine ⟨⟨(f _ _ (by omega)).trans w1.1, fun s hs => ⟨(f _ _ (by omega)).trans (w1.2 s hs).1, fun k x hx => ?_⟩⟩, fun o ho => ⟨(w2 o ho).1, (f _ _ (by omega)).trans (w2 o ho).2.1, fun k x hx => ?_⟩, ak_ly_fr w3 (fun q k hq => f q k (by omega))⟩
  · rw [f 148 _ (by omega), f 149 _ (by omega)]
    exact (w1.2 s hs).2 k x hx
  · rw [f 143 _ (by omega), f 144 _ (by omega)]
    exact (w2 o ho).2.2 k x hx
theorem ak_CT_ly (w : ak_CT S O T sh h) (f : ak_lyF h h') (L : ak_ly S O T sh h') : ak_CT S O T sh h' := by
  obtain ⟨w1, w2, w3⟩ := w
  refine ⟨⟨(f.1 _ _ (by omega) (by omega)).trans w1.1, fun s hs => ⟨(f.1 _ _ (by omega) (by omega)).trans (w1.2 s hs).1, fun k x hx => ?_⟩⟩, fun o ho => ⟨(w2 o ho).1, ak_ob_ly (w2 o ho).2 f⟩, L⟩
  rw [f.1 148 _ (by omega) (by omega), f.1 149 _ (by omega) (by omega)]
  exact (w1.2 s hs).2 k x hx
theorem ak_gM_tail {first k : Nat} {en : ak_E} (w : ak_gM (first + k) (en :: E) h) : ak_gM (first + (k + 1)) E h := by
  intro j x hx
  have := w (j + 1) x hx
  rw [show first + (k + 1) + j = first + k + (j + 1) by omega]
  exact this
theorem ak_gM_fr {first : Nat} (w : ak_gM first E h) (f : ∀ q k, 164 ≤ q → q ≤ 168 → first ≤ k → k < first + E.length → h'.1 q k = h.1 q k) : ak_gM first E h' := fun k en hk => ak_eM_fr (w k en hk) (fun q a b => f q _ a b (by omega) (by have := ak_get_none hk; omega))
theorem ak_gnM_fr (w : ak_gnM G h) (f : ∀ q k, (q = 110 ∧ k = 84) ∨ (169 ≤ q ∧ q ≤ 172) → h'.1 q k = h.1 q k) : ak_gnM G h' := ⟨(f _ _ (by omega)).trans w.1, fun j g hg => ⟨(f _ _ (by omega)).trans (w.2 j g hg).1, (f _ _ (by omega)).trans (w.2 j g hg).2.1, (f _ _ (by omega)).trans (w.2 j g hg).2.2.1, (f _ _ (by omega)).trans (w.2 j g hg).2.2.2⟩⟩
theorem am_m25 {Q : ak_S → Prop} {V : Int} (W : ak_Tok S T O) (hO : O ≤ 200) (CT : ak_CT S O T sh h) (hi : i < 150) (hE : E.length ≤ 4) (B : ak_gM (4 * i) E h) (K : ∀ en, en ∈ E → ak_eok S O T sh en) (N : ak_gnM G h) (hG : G.length + E.length ≤ 728) (h159 : h.1 159 i = (E.length : Int)) (h162 : h.1 162 i = am_w32 V)
    (q : ∀ h', ak_CT S O T sh h' → ak_gM (4 * i) (E.filter (ak_kp (ak_er T sh O) o)) h' → ak_gnM (G ++ (E.filter (fun en => !ak_kp (ak_er T sh O) o en)).map (ak_gg (i : Int))) h' → h'.1 162 i = am_w32 (V + ((E.length : Int) - ((E.filter (ak_kp (ak_er T sh O) o)).length : Int))) → ak_sfM i (4 * i) (4 * i + E.length) h h' →
      ak_W0 e 1 (d + 4) 256 ρ 7 [some (am_r 110), some (am_i (o : Int)), some (am_i ((i + 1 : Nat) : Int)), none, none] [] (am_up h'.1 159 i ((E.filter (ak_kp (ak_er T sh O) o)).length : Int), h'.2) (ak_qv Q X)) :
    ak_W0 e 1 (d + 4) 256 ρ 25 [some (am_r 110), some (am_i (o : Int)), some (am_i (i : Int)), some (am_i 0), some (am_i 0)] [] h (ak_qv Q X) := by
  have lp : ∀ (rest Kp : List ak_E) (Gn : List (Int × Int × Int × Int)) (k : Nat) (h1 : ak_S), k + rest.length = E.length → Kp.length ≤ k → ak_gM (4 * i) Kp h1 → ak_gM (4 * i + k) rest h1 → (∀ en, en ∈ rest → ak_eok S O T sh en) → ak_gnM Gn h1 → Gn.length + rest.length ≤ 728 → ak_CT S O T sh h1 → h1.1 159 i = (E.length : Int) → h1.1 162 i = am_w32 (V + ((k : Int) - (Kp.length : Int))) → ak_sfM i (4 * i) (4 * i + E.length) h h1 →
      Kp ++ rest.filter (ak_kp (ak_er T sh O) o) = E.filter (ak_kp (ak_er T sh O) o) → Gn ++ (rest.filter (fun en => !ak_kp (ak_er T sh O) o en)).map (ak_gg (i : Int)) = G ++ (E.filter (fun en => !ak_kp (ak_er T sh O) o en)).map (ak_gg (i : Int)) →
      ak_W0 e 1 (d + 4) 256 ρ 25 [some (am_r 110), some (am_i (o : Int)), some (am_i (i : Int)), some (am_i (Kp.length : Int)), some (am_i (k : Int))] [] h1 (ak_qv Q X) := by
    intro rest
    induction rest with
    | nil =>
      intro Kp Gn k h1 hk hK gK _ _ gN _ ct n159 n162 f e1 e2
      have hk2 : k = E.length := by simpa using hk
      simp at e1 e2
      refine am_k256_25 ⟨by omega, fun _ => ⟨by omega, ?_⟩, fun g => ?_⟩
      · rw [ak_natn, ak_wj (show i < 1000000 by omega)]
        subst e2
        rw [hk2] at n162
        rw [← e1] at q
        exact q h1 ct gK gN n162 f
      · rw [ak_natn, n159] at g; omega
    | cons en rest ih =>
      intro Kp Gn k h1 hk hK gK gR eok gN hN ct n159 n162 f e1 e2
      have hk2 : k + rest.length + 1 = E.length := by simp at hk; omega
      have hN2 : Gn.length + rest.length + 1 ≤ 728 := by simp at hN; omega
      have c1 : ak_eM h1 (4 * i + k) en := gR 0 en rfl
      have hok := eok en (List.mem_cons_self ..)
      have eok' : ∀ en, en ∈ rest → ak_eok S O T sh en := fun x hx => eok x (List.mem_cons_of_mem _ hx)
      refine am_k256_25 ⟨by omega, fun g => ?_, fun _ => ?_⟩
      · rw [ak_natn, n159] at g; omega
      · rw [show am_w32 (am_w32 (4 * (i : Int)) + (k : Int)) = ((4 * i + k : Nat) : Int) from ak_wmul (c := 4) (by omega), show am_w32 (am_w32 (4 * (i : Int)) + (Kp.length : Int)) = ((4 * i + Kp.length : Nat) : Int) from ak_wmul (c := 4) (by omega), ak_wj (show k < 1000000 by omega), ak_wj (show Kp.length < 1000000 by omega)]
        refine am_s253 (d := d) (o := o) W hO ct.1 ct.2.1 ct.2.2 c1 hok (by omega) (fun h2 L2 f2 => ⟨fun g => ?_, fun g => ?_⟩)
        · have hno : o ∉ ak_er T sh O en := fun z => by rw [if_pos z] at g; exact absurd g (by decide)
          have hkp : ak_kp (ak_er T sh O) o en = true := decide_eq_true hno
          have ct2 := ak_CT_ly ct f2 L2
          refine am_s255 (d := d + 3) (r2 := 4 * i + Kp.length) (ak_eM_fr c1 (fun q a b => f2.1 q _ (by omega) (by omega))) (by omega) (by omega) (fun h3 m3 f3 f32 => ?_)
          have eK : ((Kp ++ [en]).length : Int) = ((Kp.length + 1 : Nat) : Int) := by rw [List.length_append]; rfl
          rw [← eK]
          have F : ∀ q j, ¬ (q = 110 ∧ (j = 64 ∨ j = 67)) → ¬ (154 ≤ q ∧ q ≤ 157) → ¬ (164 ≤ q ∧ q ≤ 168 ∧ j = 4 * i + Kp.length) → h3.1 q j = h1.1 q j := fun q j a b c => (f3 q j c).trans (f2.1 q j a b)
          refine ih (Kp ++ [en]) Gn (k + 1) h3 (by omega) (by rw [List.length_append]; simp; omega) (fun j x hx => ?_) (fun j x hx => ?_) eok' (ak_gnM_fr gN (fun q j hq => F q j (by omega) (by omega) (by omega))) (by omega) (ak_CT_fr ct2 (fun q j hq => f3 q j (by omega))) ((F _ _ (by omega) (by omega) (by omega)).trans n159) ?_ ⟨fun q j a b c d' e' => (F q j (by omega) b (by omega)).trans (f.1 q j a b c d' e'), by rw [f32, f2.2]; exact f.2⟩ ?_ ?_
          · by_cases hj : j = Kp.length
            · subst hj
              rw [ak_get_snoc] at hx
              cases hx
              exact m3
            · have hj2 := ak_get_none hx
              rw [List.length_append] at hj2
              simp at hj2
              rw [ak_get_snoc_lt (by omega)] at hx
              exact ak_eM_fr (gK j x hx) (fun q a b => F q _ (by omega) (by omega) (by omega))
          · exact ak_eM_fr (ak_gM_tail gR j x hx) (fun q a b => F q _ (by omega) (by omega) (by omega))
          · refine (F _ _ (by omega) (by omega) (by omega)).trans (n162.trans ?_)
            rw [eK]
            congr 1
            omega
          · rw [← e1, List.filter_cons, if_pos hkp, List.append_assoc]; rfl
          · rw [← e2, List.filter_cons, if_neg (by rw [hkp]; decide)]
        · have hin : o ∈ ak_er T sh O en := by
            by_cases z : o ∈ ak_er T sh O en
            · exact z
            · rw [if_neg z] at g; exact absurd rfl g
          have hkp : ak_kp (ak_er T sh O) o en = false := decide_eq_false (fun z => z hin)
          have ct2 := ak_CT_ly ct f2 L2
          refine am_s254 (d := d + 3) (site := (i : Int)) (ak_eM_fr c1 (fun q a b => f2.1 q _ (by omega) (by omega))) (ak_gnM_fr gN (fun q j hq => f2.1 q j (by omega) (by omega))) (by omega) (by omega) (fun h3 g3 f3 f32 => ⟨by omega, by omega, ?_⟩)
          have F : ∀ q j, ¬ (q = 110 ∧ (j = 64 ∨ j = 67 ∨ j = 84)) → ¬ (154 ≤ q ∧ q ≤ 157) → ¬ (169 ≤ q ∧ q ≤ 172) → h3.1 q j = h1.1 q j := fun q j a b c => (f3 q j c (by omega)).trans (f2.1 q j (by omega) b)
          rw [ak_natn, F 162 i (by omega) (by omega) (by omega), n162, ak_w32_add]
          have F4 : ∀ q j, ¬ (q = 162 ∧ j = i) → am_up h3.1 162 i (am_w32 (V + ((k : Int) - (Kp.length : Int)) + 1)) q j = h3.1 q j := fun q j a => ak_up_out a
          refine ih Kp (Gn ++ [ak_gg (i : Int) en]) (k + 1) (am_up h3.1 162 i (am_w32 (V + ((k : Int) - (Kp.length : Int)) + 1)), h3.2) (by omega) (by omega) (fun j x hx => ak_eM_fr (gK j x hx) (fun q a b => (F4 q _ (by omega)).trans (F q _ (by omega) (by omega) (by omega)))) (fun j x hx => ak_eM_fr (ak_gM_tail gR j x hx) (fun q a b => (F4 q _ (by omega)).trans (F q _ (by omega) (by omega) (by omega)))) eok' (ak_gnM_fr g3 (fun q j hq => F4 q j (by omega))) (by rw [List.length_append]; simp; omega) (ak_CT_fr ct2 (fun q j hq => (F4 q j (by omega)).trans (f3 q j (by omega) (by omega)))) ((F4 _ _ (by omega)).trans ((F _ _ (by omega) (by omega) (by omega)).trans n159)) ?_ ⟨fun q j a b c d' e' => (F4 q j e').trans ((F q j a b d').trans (f.1 q j a b c d' e')), by show h3.2 = _; rw [f32, f2.2]; exact f.2⟩ ?_ ?_
          · refine ak_up_at1.trans ?_
            congr 1
            omega
          · rw [← e1, List.filter_cons, if_neg (by rw [hkp]; decide)]
          · rw [← e2, List.filter_cons, if_pos (by rw [hkp]; rfl), List.append_assoc]; rfl
  have := lp E [] G 0 h (by omega) (Nat.le_refl _) (fun j x hx => by simp at hx) B K N hG CT h159 (by rw [h162]; congr 1; simp) ⟨fun _ _ _ _ _ _ _ => rfl, rfl⟩ rfl rfl
  exact this
end MVOID
