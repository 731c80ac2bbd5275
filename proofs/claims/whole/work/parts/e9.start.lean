/-! the relation at the start; all but the run -/
section STT
set_option maxRecDepth 100000 in
theorem ak_h0_i : am2_it (fun _ _ => (0 : Int)) 0 am_hC2_I 1 8 = 0 ∧ am2_it (fun _ _ => (0 : Int)) 0 am_hC2_I 110 4 = 0 ∧ am2_it (fun _ _ => (0 : Int)) 0 am_hC2_I 110 3 = 0 ∧ am2_it (fun _ _ => (0 : Int)) 0 am_hC2_I 3 1 = 0 ∧ am2_it (fun _ _ => (0 : Int)) 0 am_hC2_I 110 2 = 0 ∧ am2_it (fun _ _ => (0 : Int)) 0 am_hC2_I 44 6 = 0 ∧ am2_it (fun _ _ => (0 : Int)) 0 am_hC2_I 110 71 = 0 ∧ am2_it (fun _ _ => (0 : Int)) 0 am_hC2_I 110 64 = 0 ∧ am2_it (fun _ _ => (0 : Int)) 0 am_hC2_I 69 7 = 0 ∧ am2_it (fun _ _ => (0 : Int)) 0 am_hC2_I 69 8 = 0 := by decide +kernel
set_option maxRecDepth 100000 in
theorem ak_h0_s : ∀ x, x < 200 → am2_it (fun _ _ => (0 : Int)) 0 am_hC2_I 157 x = 0 := by decide +kernel
set_option maxRecDepth 100000 in
theorem ak_h0_k : ∀ k, k < 192 → am2_it (fun _ _ => (0 : Int)) 0 am_hC2_I 137 k = ak_keys.getD k 0 := by decide +kernel
set_option maxRecDepth 100000 in
theorem ak_h0_w : ∀ k, k < 24 → am2_it (fun _ _ => (0 : Int)) 0 am_hC2_J 5 k = ak_kws.getD k 0 := by decide +kernel
theorem ak_Rl0 : ak_Rl 0 ak_ρ0 ak_h0 ak_h0 := by
  have e1 : ∀ p k, ak_h0.1 p k = am2_it (fun _ _ => (0 : Int)) 0 am_hC2_I p k := fun p k => congrFun (congrFun ak_h0_1 p) k
  have e2 : ∀ p k, ak_h0.2.1 p k = am2_it (fun _ _ => (0 : Int)) 0 am_hC2_J p k := fun p k => rfl
  obtain ⟨i1, i2, i3, i4, i5, i6, i7, i8, i9, i10⟩ := ak_h0_i
  refine ⟨⟨Nat.le_refl _, Nat.le_refl _⟩, 1, 0, 10, 0, Or.inr ⟨rfl, rfl⟩, rfl, ⟨by decide, (e1 _ _).trans i3, ⟨0, by decide, (e1 _ _).trans i4, (e1 _ _).trans i5, fun k hk => absurd hk (Nat.not_lt_zero _)⟩, ?_, ⟨[], (e1 _ _).trans i8, by decide, fun k o h => (by cases h), fun x hx => Or.inl ((e1 _ _).trans (ak_h0_s x hx))⟩, fun k hk => (e1 _ _).trans (ak_h0_k k hk), fun k hk => (e2 _ _).trans (ak_h0_w k hk)⟩, Or.inl ⟨(e1 _ _).trans i1, (e1 _ _).trans i2⟩, ⟨(e1 _ _).trans i9, (e1 _ _).trans i10⟩⟩
  rw [e1 44 6, e1 110 71, i6, i7]
  exact ⟨rfl, by decide, by decide⟩
theorem ak_cV_imp {e : ak_X3} {d : Nat} {ρ : List Nat} {a m : Nat} {ar : List am_V} {hc hm : ak_S} {cd : List (Nat × Int)} {R R' : ak_S → ak_S → Prop} (w : ak_cV e d ρ a m ar hc hm cd R) (h : ∀ x y, R x y → R' x y) : ak_cV e d ρ a m ar hc hm cd R' :=
  ak_MV_imp w (fun hc' q => ak_MV_imp q (fun hm' r => ⟨h _ _ r.1, r.2⟩) (fun _ _ z => z)) (fun x hc' ⟨c, q1, q2⟩ => ⟨c, q1, ak_MV_imp q2 (fun hm' r => ⟨h _ _ r.1, r.2⟩) (fun _ _ z => z)⟩)
theorem ak_calls_imp {e : ak_X3} {d : Nat} {ρ : List Nat} {hc hm : ak_S} {R R' : List Nat → ak_S → ak_S → Prop} (w : ak_calls e d ρ hc hm R) (h : ∀ ρ x y, R ρ x y → R' ρ x y) : ak_calls e d ρ hc hm R' := by
  obtain ⟨w1, w2, w3, w4, w5, w6, w7, w8, w9, w10, w11, w12, w13, w14, w15, w16, w17, w18, w19, w20, w21, w22, w23, w24, w25, w26⟩ := w
  refine ⟨fun x0 x1 x2 x3 x4 g0 g1 g2 g3 g4 => ak_cI_imp (w1 x0 x1 x2 x3 x4 g0 g1 g2 g3 g4) (h ρ), fun x0 g0 => ak_cV_imp (w2 x0 g0) (h ρ), fun x0 g0 => ak_cV_imp (w3 x0 g0) (h ρ), fun x0 x1 x2 g0 g1 g2 => ak_cI_imp (w4 x0 x1 x2 g0 g1 g2) (h ρ),
    fun x0 g0 => ak_cJ_imp (w5 x0 g0) (h ρ),
    fun x0 x1 g0 g1 => ak_cJ_imp (w6 x0 x1 g0 g1) (h ρ),
    fun x0 x1 g0 g1 => ak_cJ_imp (w7 x0 x1 g0 g1) (h ρ),
    fun x0 x1 g0 g1 => ak_cJ_imp (w8 x0 x1 g0 g1) (h ρ),
    fun x0 g0 => ak_cI_imp (w9 x0 g0) (h ρ),
    fun x0 x1 x2 x3 g0 g1 g2 g3 => ak_cI_imp (w10 x0 x1 x2 x3 g0 g1 g2 g3) (h ρ),
    fun x0 g0 => ak_cI_imp (w11 x0 g0) (h ρ),
    fun x0 x1 g0 g1 => ak_cI_imp (w12 x0 x1 g0 g1) (h ρ),
    fun x0 g0 => ak_cI_imp (w13 x0 g0) (h ρ),
    fun x0 x1 g0 g1 => ak_cI_imp (w14 x0 x1 g0 g1) (h ρ),
    fun x0 x1 x2 g0 g1 g2 => ak_cI_imp (w15 x0 x1 x2 g0 g1 g2) (h ρ),
    fun x0 x1 x2 g0 g1 g2 => ak_cJ_imp (w16 x0 x1 x2 g0 g1 g2) (h ρ),
    fun x0 x1 g0 g1 => ak_cI_imp (w17 x0 x1 g0 g1) (h ρ),
    fun x0 x1 x2 g0 g1 g2 => ak_cI_imp (w18 x0 x1 x2 g0 g1 g2) (h ρ),
    fun x0 x1 g0 g1 => ak_cI_imp (w19 x0 x1 g0 g1) (h ρ),
    fun x0 x1 x2 g0 g1 g2 => ak_cI_imp (w20 x0 x1 x2 g0 g1 g2) (h ρ),
    fun x0 x1 x2 g0 g1 g2 => ak_cZ_imp (w21 x0 x1 x2 g0 g1 g2) (h ρ),
    ak_cI_imp w22 (h ρ),
    fun x0 x1 g0 g1 => ak_cI_imp (w23 x0 x1 g0 g1) (h ρ),
    ak_cI_imp w24 (h ρ),
    ak_MV_imp w25 (fun hc' q => ak_MV_imp q (fun hm' r => h ρ _ _ r) (fun _ _ z => z)) (fun _ _ z => z),
    ak_M1_imp w26 (fun ρ' x ⟨v, hc', q1, q2⟩ => ⟨v, hc', q1, ak_MI_imp q2 (fun b hm' r => ⟨h ρ' _ _ r.1, r.2⟩) (fun _ _ z => z)⟩)⟩
/-- all follows from the run -/
theorem am_from_run {L : Nat} (hL : L ≤ 3072) {X : Nat → Int} (hX : ∀ k, ak_r32 (X k)) (hrun : ak_RUN (L, X) (500 + 443)) :
    ∃ (d F N : Nat) (h' : am_H), d ≤ 1000 ∧ am_run (am_ro L) am_fty am_nf (am_na am_P) (am_rc am_P) (am_co am_P 0) (am_hdf []) 2 (am_exec am_P (am_ro L) F d) N 0 (am_ent 8 [am_r (am_SP + 2)]) [] (am_h0 X) = some (.inl (some (.inl 1), h')) ∧ am_hc h' ≤ 601024 ∧ am_hs h' ≤ 7293034 :=
  am_fin (d := 500 + 443) hL hX (by decide) (by decide) (Rel := fun n ρ hc hm => ak_Rl n ρ hc hm ∧ n ≤ 512) ⟨ak_Rl0, by decide⟩ (fun n ρ hc hm hn w => by
    have hn2 : n + 1 ≤ 512 := by omega
    refine ⟨⟨ak_Rl_mono w.1, hn2⟩, ?_⟩
    exact ak_calls_imp (am_calls (d := 500) hrun w.1) (fun ρ x y q => ⟨q, hn2⟩)) (fun n ρ hc hm w => by
    have := w.1.1
    have := w.2
    omega)
end STT
