/-! the other looks a name up -/
section MLOOK
variable {e : ak_X3} {d S O : Nat} {ρ : List Nat} {T : Nat → List (Int × Int)} {sh : Nat → Nat} {h h' h2 : ak_S} {v : Nat → Bool} {X : Nat → ak_S → Prop} {nm start : Int}
theorem ak_lyF_lu (w : ak_lyF h h') : ak_luM h h' := ⟨fun q k a b => w.1 q k (by omega) b, w.2⟩
theorem ak_luM_trans (w : ak_luM h h') (w2 : ak_luM h' h2) : ak_luM h h2 := ⟨fun q k a b => (w2.1 q k a b).trans (w.1 q k a b), w2.2.trans w.2⟩
theorem ak_wyS_fr {w : List Nat} (L : ak_wyS h w) (f : ∀ q k, (q = 110 ∧ k = 64) ∨ q = 154 ∨ q = 157 → h'.1 q k = h.1 q k) : ak_wyS h' w := by
  obtain ⟨l1, l2, l3, l4⟩ := L
  refine ⟨(f _ _ (by omega)).trans l1, l2, fun k o hk => ⟨(f _ _ (by omega)).trans (l3 k o hk).1, (l3 k o hk).2⟩, fun x hx => ?_⟩
  rw [f 157 x (by omega)]
  exact l4 x hx
theorem ak_ly_fr (L : ak_ly S O T sh h) (f : ∀ q k, (q = 110 ∧ (k = 64 ∨ k = 67)) ∨ q = 154 ∨ q = 157 → h'.1 q k = h.1 q k) : ak_ly S O T sh h' := by
  obtain ⟨w, l1, l2⟩ := L
  refine ⟨w, ak_wyS_fr l1 (fun q k hq => f q k (by omega)), ?_⟩
  rw [f 110 67 (by omega)]
  exact l2
theorem am_s251 {Q : ak_S → Prop} {s : Nat} (W : ak_Tok S T O) (hO : O ≤ 200) (M : ak_tM S T h) (hob : ∀ o, o < O → sh o < S ∧ ak_ob (T (sh o)) o h) (L : ak_ly S O T sh h) (hs : s < S) (hst : -1 ≤ start ∧ start ≤ 200)
    (q : ∀ h', h'.1 110 69 = (ak_lu T sh O s nm start).1 → h'.1 110 70 = (ak_lu T sh O s nm start).2 → ak_ly S O T sh h' → ak_luM h h' → Q h') : ak_MV e 1 (d + 4) ρ 251 [am_r 110, am_i (s : Int), am_i nm, am_i start] h Q X := by
  have hS := W.1.2.1
  have hs' : ∀ o, o < O → sh o < S := fun o h => (hob o h).1
  have sokT : ak_sok O [T s] := fun l hl => by
    rw [List.mem_singleton] at hl
    rw [hl]
    exact W.2.1 s hs
  have wl := ak_W_len W hs' _ [T s] ak_vn sokT (Nat.lt_succ_self _)
  have wmem : ∀ o, o ∈ ak_Wy T sh O s → o < O := fun o h => (wl.2 o h).1
  -- the search along the way
  have find : ∀ (res : Int × Int) (h1 : ak_S), (∀ h', h'.1 110 69 = res.1 → h'.1 110 70 = res.2 → ak_ly S O T sh h' → ak_luM h h' → Q h') → ak_wyS h1 (ak_Wy T sh O s) → h1.1 110 67 = (s : Int) → h1.1 110 69 = -1 → h1.1 110 70 = -1 → ak_luM h h1 →
      ∀ (c j : Nat), j + c = (ak_Wy T sh O s).length ∨ (c = 0 ∧ (ak_Wy T sh O s).length ≤ j ∧ j ≤ 300) → ak_sr T sh nm start ((ak_Wy T sh O s).drop j) (j + 1) true = res → ak_W0 e 1 (d + 3) 251 ρ 76 [some (am_r 110), none, some (am_i nm), none, none, some (am_i (j : Int))] [] h1 (ak_qv Q X) := by
    intro res h1 q L1 h67 n69 n70 f c
    have LY : ak_ly S O T sh h1 := ⟨_, L1, Or.inr ⟨s, hs, h67, rfl⟩⟩
    induction c with
    | zero =>
      intro j hj sr
      have hj2 : (ak_Wy T sh O s).length ≤ j := by omega
      refine am_k251_76 ⟨fun _ => ?_, fun g => ?_⟩
      · rw [List.drop_eq_nil_of_le hj2] at sr
        subst sr
        exact q h1 n69 n70 LY f
      · rw [L1.1] at g; omega
    | succ c ih =>
      intro j hj sr
      have hj2 : j < (ak_Wy T sh O s).length := by omega
      have hl := L1.2.1
      have hx := List.getElem?_eq_getElem hj2
      obtain ⟨b1, b2⟩ := L1.2.2.1 j _ hx
      have hm := wmem _ (List.getElem_mem hj2)
      rw [List.drop_eq_getElem_cons hj2] at sr
      generalize (ak_Wy T sh O s)[j] = o at b1 b2 sr hm
      have OB : ak_ob (T (sh o)) o h1 := by
        have := (hob o hm).2
        refine ⟨(f.1 _ _ (by omega) (by omega)).trans this.1, fun k x hx => ?_⟩
        rw [f.1 143 _ (by omega) (by omega), f.1 144 _ (by omega) (by omega)]
        exact this.2 k x hx
      have lk := ak_look_of (w := nm) (g := false) OB.2
      refine am_k251_76 ⟨fun g => ?_, fun _ => ⟨by omega, ?_⟩⟩
      · rw [L1.1] at g; omega
      · rw [ak_natn, b1, ak_wj (show j < 1000000 by omega)]
        refine am_s238 (d := d + 2) (g := false) rfl b2 OB.1 (W.2.1 _ (hs' o hm)).1 (fun z => ?_) (fun k kl z => ?_)
        · rw [lk] at z
          refine ⟨fun g => absurd g (by decide), fun _ => ih (j + 1) (by omega) ?_⟩
          rw [← sr]
          exact (if_neg (fun z2 => by have := z2.2; omega)).symm
        · rw [lk] at z
          have er : res = (((j + 1 : Nat) : Int), (o : Int)) := by
            rw [← sr]
            exact if_pos ⟨rfl, by omega⟩
          subst er
          have G : ∀ q k, ¬ (q = 110 ∧ k = 69) → ¬ (q = 110 ∧ k = 70) → am_up (am_up h1.1 110 69 ((j + 1 : Nat) : Int)) 110 70 (o : Int) q k = h1.1 q k := fun q k a b => (ak_up_out b).trans (ak_up_out a)
          refine ⟨fun _ => ⟨by omega, ?_⟩, fun g => by omega⟩
          rw [b1]
          refine q (am_up (am_up h1.1 110 69 ((j + 1 : Nat) : Int)) 110 70 (o : Int), h1.2) ?_ ak_up_at1 (ak_ly_fr LY (fun q k hq => G q k (by omega) (by omega))) ⟨fun q k a b => (G q k (by omega) (by omega)).trans (f.1 q k a b), f.2⟩
          show am_up (am_up h1.1 110 69 ((j + 1 : Nat) : Int)) 110 70 (o : Int) 110 69 = _
          simp [am_up]
  have skip : ∀ (res : Int × Int) (h1 : ak_S), (∀ h', h'.1 110 69 = res.1 → h'.1 110 70 = res.2 → ak_ly S O T sh h' → ak_luM h h' → Q h') → ak_wyS h1 (ak_Wy T sh O s) → h1.1 110 67 = (s : Int) → h1.1 110 69 = -1 → h1.1 110 70 = -1 → ak_luM h h1 →
      ∀ (c j : Nat), j + c = (ak_Wy T sh O s).length → ak_sr T sh nm start ((ak_Wy T sh O s).drop j) (j + 1) false = res → ak_W0 e 1 (d + 3) 251 ρ 41 [some (am_r 110), none, some (am_i nm), some (am_i start), some (am_i (j : Int)), none] [] h1 (ak_qv Q X) := by
    intro res h1 q L1 h67 n69 n70 f c
    induction c with
    | zero =>
      intro j hj sr
      have hl := L1.2.1
      refine am_k251_41 ⟨fun _ => ?_, fun g => ?_⟩
      · rw [ak_wj (show j < 1000000 by omega)]
        refine find res h1 q L1 h67 n69 n70 f 0 (j + 1) (Or.inr ⟨rfl, by omega, by omega⟩) ?_
        rw [List.drop_eq_nil_of_le (by omega)] at sr ⊢
        exact sr
      · rw [L1.1] at g; omega
    | succ c ih =>
      intro j hj sr
      have hj2 : j < (ak_Wy T sh O s).length := by omega
      have hl := L1.2.1
      have hx := List.getElem?_eq_getElem hj2
      obtain ⟨b1, b2⟩ := L1.2.2.1 j _ hx
      rw [List.drop_eq_getElem_cons hj2] at sr
      generalize (ak_Wy T sh O s)[j] = o at b1 b2 sr
      have sr2 : ak_sr T sh nm start ((ak_Wy T sh O s).drop (j + 1)) (j + 1 + 1) (false || decide ((o : Int) = start - 1)) = res := by
        rw [← sr]
        exact (if_neg (fun z => absurd z.1 (by decide))).symm
      rw [Bool.false_or] at sr2
      have ew : am_w32 (start - 1) = start - 1 := ak_w _ (by omega)
      refine am_k251_41 ⟨fun g => ?_, fun _ => ⟨by omega, fun g => ?_, fun g => ?_⟩⟩
      · rw [L1.1] at g; omega
      · rw [ak_natn, b1, ew] at g
        rw [decide_eq_true g] at sr2
        rw [ak_wj (show j < 1000000 by omega)]
        exact find res h1 q L1 h67 n69 n70 f c (j + 1) (Or.inl (by omega)) sr2
      · rw [ak_natn, b1, ew] at g
        rw [decide_eq_false g] at sr2
        rw [ak_wj (show j < 1000000 by omega)]
        exact ih (j + 1) (by omega) sr2
  have G0 : ∀ q k, ¬ (q = 110 ∧ k = 69) → ¬ (q = 110 ∧ k = 70) → am_up (am_up h.1 110 69 (-1)) 110 70 (-1) q k = h.1 q k := fun q k a b => (ak_up_out b).trans (ak_up_out a)
  have V69 : am_up (am_up h.1 110 69 (-1)) 110 70 (-1) 110 69 = -1 := by simp [am_up]
  have V70 : am_up (am_up h.1 110 69 (-1)) 110 70 (-1) 110 70 = -1 := by simp [am_up]
  generalize hg : (am_up (am_up h.1 110 69 (-1)) 110 70 (-1), h.2) = h0
  have e0 : ∀ q k, h0.1 q k = am_up (am_up h.1 110 69 (-1)) 110 70 (-1) q k := fun q k => by rw [← hg]
  have e02 : h0.2 = h.2 := by rw [← hg]
  have F0 : ak_luM h h0 := ⟨fun q k a b => (e0 q k).trans (G0 q k (by omega) (by omega)), e02⟩
  have M0 : ak_tM S T h0 := by
    refine ⟨(F0.1 _ _ (by omega) (by omega)).trans M.1, fun s hs => ⟨(F0.1 _ _ (by omega) (by omega)).trans (M.2 s hs).1, fun k x hx => ?_⟩⟩
    rw [F0.1 148 _ (by omega) (by omega), F0.1 149 _ (by omega) (by omega)]
    exact (M.2 s hs).2 k x hx
  have hob0 : ∀ o, o < O → sh o < S ∧ ak_ob (T (sh o)) o h0 := fun o ho => ⟨(hob o ho).1, (F0.1 _ _ (by omega) (by omega)).trans (hob o ho).2.1, fun k x hx => by
    rw [F0.1 143 _ (by omega) (by omega), F0.1 144 _ (by omega) (by omega)]
    exact (hob o ho).2.2 k x hx⟩
  have L0 : ak_ly S O T sh h0 := ak_ly_fr L (fun q k hq => (e0 q k).trans (G0 q k (by omega) (by omega)))
  have n69 : h0.1 110 69 = -1 := (e0 _ _).trans V69
  have n70 : h0.1 110 70 = -1 := (e0 _ _).trans V70
  have go : ¬ (start = 0 ∧ 0 ≤ ak_look (T s) nm false) → ak_MV e 1 (d + 3) ρ 248 [am_r 110, am_i (s : Int)] h0 (fun h1 => (start ≤ 0 → ak_W0 e 1 (d + 3) 251 ρ 76 [some (am_r 110), none, some (am_i nm), none, none, some (am_i 0)] [] h1 (ak_qv Q X)) ∧ (0 < start → ak_W0 e 1 (d + 3) 251 ρ 41 [some (am_r 110), none, some (am_i nm), some (am_i start), some (am_i 0), none] [] h1 (ak_qv Q X))) (fun _ _ => False) := by
    intro hc
    have elu : ak_lu T sh O s nm start = ak_sr T sh nm start (ak_Wy T sh O s) 1 (decide (start ≤ 0)) := if_neg hc
    rw [elu] at q
    refine am_s248 (d := d) W hO M0 hob0 L0 hs (fun h1 L1 h67 f1 => ⟨fun g => ?_, fun g => ?_⟩)
    · rw [decide_eq_true g] at q
      exact find _ h1 q L1 h67 ((f1.1 _ _ (by omega) (by omega)).trans n69) ((f1.1 _ _ (by omega) (by omega)).trans n70) (ak_luM_trans F0 (ak_lyF_lu f1)) _ 0 (Or.inl (Nat.zero_add _)) rfl
    · rw [decide_eq_false (by omega)] at q
      exact skip _ h1 q L1 h67 ((f1.1 _ _ (by omega) (by omega)).trans n69) ((f1.1 _ _ (by omega) (by omega)).trans n70) (ak_luM_trans F0 (ak_lyF_lu f1)) _ 0 (Nat.zero_add _) rfl
  refine ak_MV_of (Nat.le_of_ble_eq_true rfl) (am_k251_0 ?_)
  rw [hg]
  refine ⟨fun g => go (fun z => g z.1), fun g => ?_⟩
  have lk := ak_look_of (w := nm) (g := false) (M0.2 s hs).2
  refine am_s250 (d := d + 2) (by omega) (M0.2 s hs).1 (W.2.1 s hs).1 (fun k hk => ?_) (fun z => ⟨fun _ => ?_, fun g2 => absurd rfl g2⟩) (fun z => ⟨fun g2 => absurd g2 (by decide), fun _ => ?_⟩)
  · have hx := List.getElem?_eq_getElem hk
    have := (W.2.1 s hs).2 _ (List.getElem_mem hk)
    rw [((M0.2 s hs).2 k _ hx).1]
    exact ⟨this.1, this.2.1⟩
  · rw [lk] at z
    exact go (fun z2 => by have := z2.2; omega)
  · rw [lk] at z
    have elu : ak_lu T sh O s nm start = (0, -1) := if_pos ⟨g, z⟩
    rw [elu] at q
    have G9 : ∀ q k, ¬ (q = 110 ∧ k = 69) → am_up h0.1 110 69 0 q k = h0.1 q k := fun q k a => ak_up_out a
    exact q (am_up h0.1 110 69 0, h0.2) ak_up_at1 ((G9 _ _ (by omega)).trans n70) (ak_ly_fr L0 (fun q k hq => G9 q k (by omega))) ⟨fun q k a b => (G9 q k (by omega)).trans (F0.1 q k a b), F0.2⟩
end MLOOK
