/-! the sites do not mind a new object -/
section STN
variable {S O NS us t : Nat} {T : Nat → List (Int × Int)} {sh : Nat → Nat} {hc hm : ak_S} {E : Nat → List ak_E} {Et : List ak_E} {G : List (Int × Int × Int × Int)}
theorem ak_ST_more (w : ak_ST S O NS us T sh E Et G hc hm) (W : ak_Tok S T O) (hs : ∀ i, i < O → sh i < S) (ht : t < S) : ak_ST S (O + 1) NS us T (ak_sh sh O t) E Et G hc hm := by
  obtain ⟨u, si, ⟨⟨t1, t2⟩, t3, t4⟩, g, m, ly⟩ := w
  have hs2 : ∀ i, i < O + 1 → ak_sh sh O t i < S := fun i h => by
    unfold ak_sh
    by_cases hio : i = O
    · rw [if_pos hio]; exact ht
    · rw [if_neg hio]; exact hs i (by omega)
  have wy : ∀ s, s < S → ak_Wy T (ak_sh sh O t) (O + 1) s = ak_Wy T sh O s := fun s h => ak_Wy_new W hs (ak_Tok_mono W (by omega)) hs2 (by omega) (fun i hi => by
    unfold ak_sh
    rw [if_neg (show ¬ i = O by omega)]) h rfl
  have er : ∀ en, ak_eok S O T sh en → ak_er T (ak_sh sh O t) (O + 1) en = ak_er T sh O en := fun en h => by unfold ak_er; rw [wy _ h.1]
  have ek : ∀ en, ak_eok S O T sh en → ak_eok S (O + 1) T (ak_sh sh O t) en := fun en h => ⟨h.1, ⟨h.2.1.1, h.2.1.2.trans (ak_lu_new W hs (ak_Tok_mono W (by omega)) hs2 (by omega) (fun i hi => by
    unfold ak_sh
    rw [if_neg (show ¬ i = O by omega)]) h.1 rfl).symm⟩, by rw [wy _ h.1]; exact h.2.2⟩
  refine ⟨u, fun i hi => ?_, ⟨⟨t1, fun en he => ek en (t2 en he)⟩, ak_gC_congr t3 (fun en he => er en (t2 en he)), t4⟩, g, m, ?_⟩
  · obtain ⟨⟨a1, a2, a3⟩, ⟨b1, b2⟩, x⟩ := si i hi
    exact ⟨⟨a1, a2, fun en he => ek en (a3 en he)⟩, ⟨ak_gC_congr b1 (fun en he => er en (a3 en he)), b2⟩, x⟩
  · obtain ⟨wl, l1, l2⟩ := ly
    refine ⟨wl, l1, ?_⟩
    rcases l2 with l2 | ⟨s, z1, z2, z3⟩
    · exact Or.inl l2
    · exact Or.inr ⟨s, z1, z2, by rw [wy s z1]; exact z3⟩
end STN
