/-! the other drops the entries of the table that rest on an object; all of makeVoid -/
section MTAB
variable {e : ak_X3} {d S O o : Nat} {ρ : List Nat} {T : Nat → List (Int × Int)} {sh : Nat → Nat} {h h' h2 : ak_S} {E : List ak_E} {G : List (Int × Int × Int × Int)} {X : Nat → ak_S → Prop}
/-- what sifting the table changes -/
def ak_sfT (h h' : ak_S) : Prop := (∀ q k, ¬ (q = 110 ∧ (k = 64 ∨ k = 67 ∨ k = 84)) → ¬ (154 ≤ q ∧ q ≤ 157) → ¬ (164 ≤ q ∧ q ≤ 168 ∧ 600 ≤ k) → ¬ (169 ≤ q ∧ q ≤ 172) → h'.1 q k = h.1 q k) ∧ h'.2 = h.2
theorem am_m115 {Q : ak_S → Prop} (W : ak_Tok S T O) (hO : O ≤ 200) (CT : ak_CT S O T sh h) (hE : E.length ≤ 128) (B : ak_gM 600 E h) (K : ∀ en, en ∈ E → ak_eok S O T sh en) (N : ak_gnM G h) (hG : G.length + E.length ≤ 728) (h78 : h.1 110 78 = (E.length : Int))
    (q : ∀ h', ak_CT S O T sh h' → ak_gM 600 (E.filter (ak_kp (ak_er T sh O) o)) h' → ak_gnM (G ++ (E.filter (fun en => !ak_kp (ak_er T sh O) o en)).map (ak_gg (-1))) h' → ak_sfT h h' → Q (am_up h'.1 110 78 ((E.filter (ak_kp (ak_er T sh O) o)).length : Int), h'.2)) :
    ak_W0 e 1 (d + 4) 256 ρ 115 [some (am_r 110), some (am_i (o : Int)), some (am_i 0), some (am_i 0), none] [] h (ak_qv Q X) := by
  have lp : ∀ (rest Kp : List ak_E) (Gn : List (Int × Int × Int × Int)) (k : Nat) (h1 : ak_S), k + rest.length = E.length → Kp.length ≤ k → ak_gM 600 Kp h1 → ak_gM (600 + k) rest h1 → (∀ en, en ∈ rest → ak_eok S O T sh en) → ak_gnM Gn h1 → Gn.length + rest.length ≤ 728 → ak_CT S O T sh h1 → h1.1 110 78 = (E.length : Int) → ak_sfT h h1 →
      Kp ++ rest.filter (ak_kp (ak_er T sh O) o) = E.filter (ak_kp (ak_er T sh O) o) → Gn ++ (rest.filter (fun en => !ak_kp (ak_er T sh O) o en)).map (ak_gg (-1)) = G ++ (E.filter (fun en => !ak_kp (ak_er T sh O) o en)).map (ak_gg (-1)) →
      ak_W0 e 1 (d + 4) 256 ρ 115 [some (am_r 110), some (am_i (o : Int)), some (am_i (Kp.length : Int)), some (am_i (k : Int)), none] [] h1 (ak_qv Q X) := by
    intro rest
    induction rest with
    | nil =>
      intro Kp Gn k h1 hk hK gK _ _ gN _ ct n78 f e1 e2
      have hk2 : k = E.length := by simpa using hk
      simp at e1 e2
      refine am_k256_115 ⟨fun _ => ?_, fun g => ?_⟩
      · subst e2
        rw [← e1] at q
        exact q h1 ct gK gN f
      · rw [n78] at g; omega
    | cons en rest ih =>
      intro Kp Gn k h1 hk hK gK gR eok gN hN ct n78 f e1 e2
      have hk2 : k + rest.length + 1 = E.length := by simp at hk; omega
      have hN2 : Gn.length + rest.length + 1 ≤ 728 := by simp at hN; omega
      have c1 : ak_eM h1 (600 + k) en := gR 0 en rfl
      have hok := eok en (List.mem_cons_self ..)
      have eok' : ∀ en, en ∈ rest → ak_eok S O T sh en := fun x hx => eok x (List.mem_cons_of_mem _ hx)
      refine am_k256_115 ⟨fun g => ?_, fun _ => ?_⟩
      · rw [n78] at g; omega
      · rw [show am_w32 (600 + (k : Int)) = ((600 + k : Nat) : Int) from by rw [ak_w _ (by omega)]; omega, show am_w32 (600 + (Kp.length : Int)) = ((600 + Kp.length : Nat) : Int) from by rw [ak_w _ (by omega)]; omega, ak_wj (show k < 1000000 by omega), ak_wj (show Kp.length < 1000000 by omega)]
        refine am_s253 (d := d) (o := o) W hO ct.1 ct.2.1 ct.2.2 c1 hok (by omega) (fun h2 L2 f2 => ⟨fun g => ?_, fun g => ?_⟩)
        · have hno : o ∉ ak_er T sh O en := fun z => by rw [if_pos z] at g; exact absurd g (by decide)
          have hkp : ak_kp (ak_er T sh O) o en = true := decide_eq_true hno
          have ct2 := ak_CT_ly ct f2 L2
          refine am_s255 (d := d + 3) (r2 := 600 + Kp.length) (ak_eM_fr c1 (fun q a b => f2.1 q _ (by omega) (by omega))) (by omega) (by omega) (fun h3 m3 f3 f32 => ?_)
          have eK : ((Kp ++ [en]).length : Int) = ((Kp.length + 1 : Nat) : Int) := by rw [List.length_append]; rfl
          rw [← eK]
          have F : ∀ q j, ¬ (q = 110 ∧ (j = 64 ∨ j = 67)) → ¬ (154 ≤ q ∧ q ≤ 157) → ¬ (164 ≤ q ∧ q ≤ 168 ∧ j = 600 + Kp.length) → h3.1 q j = h1.1 q j := fun q j a b c => (f3 q j c).trans (f2.1 q j a b)
          refine ih (Kp ++ [en]) Gn (k + 1) h3 (by omega) (by rw [List.length_append]; simp; omega) (fun j x hx => ?_) (fun j x hx => ?_) eok' (ak_gnM_fr gN (fun q j hq => F q j (by omega) (by omega) (by omega))) (by omega) (ak_CT_fr ct2 (fun q j hq => f3 q j (by omega))) ((F _ _ (by omega) (by omega) (by omega)).trans n78) ⟨fun q j a b c d' => (F q j (by omega) b (by omega)).trans (f.1 q j a b c d'), by rw [f32, f2.2]; exact f.2⟩ ?_ ?_
          · by_cases hj : j = Kp.length
            · subst hj
              rw [ak_get_snoc] at hx
              cases hx
              exact m3
            · have hj2 := ak_get_none hx
              rw [List.length_append] at hj2
              simp at hj2
              rw [ak_get_snoc_lt (by omega)] at hx
              exact ak_eM_fr (gK j x hx) (fun q a b => F q _ (by omega) (by omega) (by omega))
          · exact ak_eM_fr (ak_gM_tail gR j x hx) (fun q a b => F q _ (by omega) (by omega) (by omega))
          · rw [← e1, List.filter_cons, if_pos hkp, List.append_assoc]; rfl
          · rw [← e2, List.filter_cons, if_neg (by rw [hkp]; decide)]
        · have hin : o ∈ ak_er T sh O en := by
            by_cases z : o ∈ ak_er T sh O en
            · exact z
            · rw [if_neg z] at g; exact absurd rfl g
          have hkp : ak_kp (ak_er T sh O) o en = false := decide_eq_false (fun z => z hin)
          have ct2 := ak_CT_ly ct f2 L2
          refine am_s254 (d := d + 3) (site := -1) (ak_eM_fr c1 (fun q a b => f2.1 q _ (by omega) (by omega))) (ak_gnM_fr gN (fun q j hq => f2.1 q j (by omega) (by omega))) (by omega) (by omega) (fun h3 g3 f3 f32 => ?_)
          have F : ∀ q j, ¬ (q = 110 ∧ (j = 64 ∨ j = 67 ∨ j = 84)) → ¬ (154 ≤ q ∧ q ≤ 157) → ¬ (169 ≤ q ∧ q ≤ 172) → h3.1 q j = h1.1 q j := fun q j a b c => (f3 q j c (by omega)).trans (f2.1 q j (by omega) b)
          refine ih Kp (Gn ++ [ak_gg (-1) en]) (k + 1) h3 (by omega) (by omega) (fun j x hx => ak_eM_fr (gK j x hx) (fun q a b => F q _ (by omega) (by omega) (by omega))) (fun j x hx => ak_eM_fr (ak_gM_tail gR j x hx) (fun q a b => F q _ (by omega) (by omega) (by omega))) eok' g3 (by rw [List.length_append]; simp; omega) (ak_CT_fr ct2 (fun q j hq => f3 q j (by omega) (by omega))) ((F _ _ (by omega) (by omega) (by omega)).trans n78) ⟨fun q j a b c d' => (F q j a b d').trans (f.1 q j a b c d'), by rw [f32, f2.2]; exact f.2⟩ ?_ ?_
          · rw [← e1, List.filter_cons, if_neg (by rw [hkp]; decide)]
          · rw [← e2, List.filter_cons, if_pos (by rw [hkp]; rfl), List.append_assoc]; rfl
  exact lp E [] G 0 h (by omega) (Nat.le_refl _) (fun j x hx => by simp at hx) B K N hG CT h78 ⟨fun _ _ _ _ _ _ => rfl, rfl⟩ rfl rfl
end MTAB
