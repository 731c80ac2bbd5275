/-! the law, call by call: out of what both sides do, on to the next call -/
theorem am_lw327 {e : ak_X3} {d : Nat} {ρ : List Nat} {hc hm : ak_S} {o : Int} {Q : Int → ak_S → Prop} {X : Nat → ak_S → Prop} {x1 x2 x3 x4 x5 : Int} (w : ak_MI e 0 d ρ 166 [am_r 1, am_i x1, am_i x2, am_i x3, am_i x4, am_i x5] hc (fun v hc' => Q 0 (ak_mrg hc' hm v)) (fun x hc' => ∃ c, (x, c) ∈ ([(3, 1)] : List (Nat × Int)) ∧ Q c (ak_mrg hc' hm o))) : ak_MI e 2 (d + 1) ρ 327 [am_r 1, am_i x1, am_i x2, am_i x3, am_i x4, am_i x5, am_r 211] (ak_mrg hc hm o) Q X := by
  refine ak_MI_of (Nat.le_of_ble_eq_true rfl) (am_k327_0 (ak_MI_up0 (ak_MI_imp w (fun v hc' q => ?_) (fun x hc' q => ?_))))
  · exact ⟨⟨by decide, by decide⟩, (congrArg (Q 0) ak_mrg_out).mpr q⟩
  · obtain ⟨c, h1, h2⟩ := q
    simp only [List.mem_cons, List.not_mem_nil, Prod.mk.injEq, or_false] at h1
    rcases h1 with ⟨rfl, rfl⟩
    · exact ⟨fun h => absurd h (by decide), fun h => absurd h (by decide), fun h => absurd h (by decide), fun _ => h2, by decide⟩
theorem am_lw328 {e : ak_X3} {d : Nat} {ρ : List Nat} {hc hm : ak_S} {o : Int} {Q : Int → ak_S → Prop} {X : Nat → ak_S → Prop} {x1 : Int} (w : ak_MV e 0 d ρ 167 [am_r 1, am_i x1] hc (fun hc' => Q 0 (ak_mrg hc' hm o)) (fun x hc' => ∃ c, (x, c) ∈ ([(1, 1)] : List (Nat × Int)) ∧ Q c (ak_mrg hc' hm o))) : ak_MI e 2 (d + 1) ρ 328 [am_r 1, am_i x1] (ak_mrg hc hm o) Q X := by
  refine ak_MI_of (Nat.le_of_ble_eq_true rfl) (am_k328_0 (ak_MV_up0 (ak_MV_imp w (fun hc' q => ?_) (fun x hc' q => ?_))))
  · exact q
  · obtain ⟨c, h1, h2⟩ := q
    simp only [List.mem_cons, List.not_mem_nil, Prod.mk.injEq, or_false] at h1
    rcases h1 with ⟨rfl, rfl⟩
    · exact ⟨fun h => absurd h (by decide), fun _ => h2, fun h => absurd h (by decide), fun h => absurd h (by decide), by decide⟩
theorem am_lw329 {e : ak_X3} {d : Nat} {ρ : List Nat} {hc hm : ak_S} {o : Int} {Q : Int → ak_S → Prop} {X : Nat → ak_S → Prop} {x1 : Int} (w : ak_MV e 0 d ρ 169 [am_r 1, am_i x1] hc (fun hc' => Q 0 (ak_mrg hc' hm o)) (fun x hc' => ∃ c, (x, c) ∈ ([(1, 1)] : List (Nat × Int)) ∧ Q c (ak_mrg hc' hm o))) : ak_MI e 2 (d + 1) ρ 329 [am_r 1, am_i x1] (ak_mrg hc hm o) Q X := by
  refine ak_MI_of (Nat.le_of_ble_eq_true rfl) (am_k329_0 (ak_MV_up0 (ak_MV_imp w (fun hc' q => ?_) (fun x hc' q => ?_))))
  · exact q
  · obtain ⟨c, h1, h2⟩ := q
    simp only [List.mem_cons, List.not_mem_nil, Prod.mk.injEq, or_false] at h1
    rcases h1 with ⟨rfl, rfl⟩
    · exact ⟨fun h => absurd h (by decide), fun _ => h2, fun h => absurd h (by decide), fun h => absurd h (by decide), by decide⟩
theorem am_lw330 {e : ak_X3} {d : Nat} {ρ : List Nat} {hc hm : ak_S} {o : Int} {Q : Int → ak_S → Prop} {X : Nat → ak_S → Prop} {x1 x2 x4 : Int} (w : ak_MI e 0 d ρ 171 [am_r 1, am_i x1, am_l x2, am_l x4] hc (fun v hc' => Q 0 (ak_mrg hc' hm v)) (fun x hc' => ∃ c, (x, c) ∈ ([(0, 1), (1, 2)] : List (Nat × Int)) ∧ Q c (ak_mrg hc' hm o))) : ak_MI e 2 (d + 1) ρ 330 [am_r 1, am_i x1, am_l x2, am_l x4, am_r 211] (ak_mrg hc hm o) Q X := by
  refine ak_MI_of (Nat.le_of_ble_eq_true rfl) (am_k330_0 (ak_MI_up0 (ak_MI_imp w (fun v hc' q => ?_) (fun x hc' q => ?_))))
  · exact ⟨⟨by decide, by decide⟩, (congrArg (Q 0) ak_mrg_out).mpr q⟩
  · obtain ⟨c, h1, h2⟩ := q
    simp only [List.mem_cons, List.not_mem_nil, Prod.mk.injEq, or_false] at h1
    rcases h1 with ⟨rfl, rfl⟩ | ⟨rfl, rfl⟩
    · exact ⟨fun _ => h2, fun h => absurd h (by decide), fun h => absurd h (by decide), fun h => absurd h (by decide), by decide⟩
    · exact ⟨fun h => absurd h (by decide), fun _ => h2, fun h => absurd h (by decide), fun h => absurd h (by decide), by decide⟩
theorem am_lw331 {e : ak_X3} {d : Nat} {ρ : List Nat} {hc hm : ak_S} {o : Int} {Q : Int → ak_S → Prop} {X : Nat → ak_S → Prop} {x1 : Int} (w : ak_MJ e 0 d ρ 172 [am_r 1, am_i x1] hc (fun v hc' => Q 0 (ak_mrg hc' hm v)) (fun x hc' => ∃ c, (x, c) ∈ ([(0, 1), (1, 2)] : List (Nat × Int)) ∧ Q c (ak_mrg hc' hm o))) : ak_MI e 2 (d + 1) ρ 331 [am_r 1, am_i x1, am_r 211] (ak_mrg hc hm o) Q X := by
  refine ak_MI_of (Nat.le_of_ble_eq_true rfl) (am_k331_0 (ak_MJ_up0 (ak_MJ_imp w (fun v hc' q => ?_) (fun x hc' q => ?_))))
  · exact ⟨⟨by decide, by decide⟩, (congrArg (Q 0) ak_mrg_out).mpr q⟩
  · obtain ⟨c, h1, h2⟩ := q
    simp only [List.mem_cons, List.not_mem_nil, Prod.mk.injEq, or_false] at h1
    rcases h1 with ⟨rfl, rfl⟩ | ⟨rfl, rfl⟩
    · exact ⟨fun _ => h2, fun h => absurd h (by decide), fun h => absurd h (by decide), fun h => absurd h (by decide), by decide⟩
    · exact ⟨fun h => absurd h (by decide), fun _ => h2, fun h => absurd h (by decide), fun h => absurd h (by decide), by decide⟩
theorem am_lw332 {e : ak_X3} {d : Nat} {ρ : List Nat} {hc hm : ak_S} {o : Int} {Q : Int → ak_S → Prop} {X : Nat → ak_S → Prop} {x1 x2 : Int} (w : ak_MJ e 0 d ρ 173 [am_r 1, am_i x1, am_i x2] hc (fun v hc' => Q 0 (ak_mrg hc' hm v)) (fun x hc' => ∃ c, (x, c) ∈ ([(0, 1), (1, 3), (2, 2)] : List (Nat × Int)) ∧ Q c (ak_mrg hc' hm o))) : ak_MI e 2 (d + 1) ρ 332 [am_r 1, am_i x1, am_i x2, am_r 211] (ak_mrg hc hm o) Q X := by
  refine ak_MI_of (Nat.le_of_ble_eq_true rfl) (am_k332_0 (ak_MJ_up0 (ak_MJ_imp w (fun v hc' q => ?_) (fun x hc' q => ?_))))
  · exact ⟨⟨by decide, by decide⟩, (congrArg (Q 0) ak_mrg_out).mpr q⟩
  · obtain ⟨c, h1, h2⟩ := q
    simp only [List.mem_cons, List.not_mem_nil, Prod.mk.injEq, or_false] at h1
    rcases h1 with ⟨rfl, rfl⟩ | ⟨rfl, rfl⟩ | ⟨rfl, rfl⟩
    · exact ⟨fun _ => h2, fun h => absurd h (by decide), fun h => absurd h (by decide), fun h => absurd h (by decide), by decide⟩
    · exact ⟨fun h => absurd h (by decide), fun _ => h2, fun h => absurd h (by decide), fun h => absurd h (by decide), by decide⟩
    · exact ⟨fun h => absurd h (by decide), fun h => absurd h (by decide), fun _ => h2, fun h => absurd h (by decide), by decide⟩
theorem am_lw333 {e : ak_X3} {d : Nat} {ρ : List Nat} {hc hm : ak_S} {o : Int} {Q : Int → ak_S → Prop} {X : Nat → ak_S → Prop} {x1 x2 : Int} (w : ak_MJ e 0 d ρ 174 [am_r 1, am_i x1, am_i x2] hc (fun v hc' => Q 0 (ak_mrg hc' hm v)) (fun x hc' => ∃ c, (x, c) ∈ ([(0, 1), (1, 3), (2, 2)] : List (Nat × Int)) ∧ Q c (ak_mrg hc' hm o))) : ak_MI e 2 (d + 1) ρ 333 [am_r 1, am_i x1, am_i x2, am_r 211] (ak_mrg hc hm o) Q X := by
  refine ak_MI_of (Nat.le_of_ble_eq_true rfl) (am_k333_0 (ak_MJ_up0 (ak_MJ_imp w (fun v hc' q => ?_) (fun x hc' q => ?_))))
  · exact ⟨⟨by decide, by decide⟩, (congrArg (Q 0) ak_mrg_out).mpr q⟩
  · obtain ⟨c, h1, h2⟩ := q
    simp only [List.mem_cons, List.not_mem_nil, Prod.mk.injEq, or_false] at h1
    rcases h1 with ⟨rfl, rfl⟩ | ⟨rfl, rfl⟩ | ⟨rfl, rfl⟩
    · exact ⟨fun _ => h2, fun h => absurd h (by decide), fun h => absurd h (by decide), fun h => absurd h (by decide), by decide⟩
    · exact ⟨fun h => absurd h (by decide), fun _ => h2, fun h => absurd h (by decide), fun h => absurd h (by decide), by decide⟩
    · exact ⟨fun h => absurd h (by decide), fun h => absurd h (by decide), fun _ => h2, fun h => absurd h (by decide), by decide⟩
theorem am_lw334 {e : ak_X3} {d : Nat} {ρ : List Nat} {hc hm : ak_S} {o : Int} {Q : Int → ak_S → Prop} {X : Nat → ak_S → Prop} {x1 x2 : Int} (w : ak_MJ e 0 d ρ 175 [am_r 1, am_i x1, am_i x2] hc (fun v hc' => Q 0 (ak_mrg hc' hm v)) (fun x hc' => ∃ c, (x, c) ∈ ([(0, 1), (1, 3), (2, 2)] : List (Nat × Int)) ∧ Q c (ak_mrg hc' hm o))) : ak_MI e 2 (d + 1) ρ 334 [am_r 1, am_i x1, am_i x2, am_r 211] (ak_mrg hc hm o) Q X := by
  refine ak_MI_of (Nat.le_of_ble_eq_true rfl) (am_k334_0 (ak_MJ_up0 (ak_MJ_imp w (fun v hc' q => ?_) (fun x hc' q => ?_))))
  · exact ⟨⟨by decide, by decide⟩, (congrArg (Q 0) ak_mrg_out).mpr q⟩
  · obtain ⟨c, h1, h2⟩ := q
    simp only [List.mem_cons, List.not_mem_nil, Prod.mk.injEq, or_false] at h1
    rcases h1 with ⟨rfl, rfl⟩ | ⟨rfl, rfl⟩ | ⟨rfl, rfl⟩
    · exact ⟨fun _ => h2, fun h => absurd h (by decide), fun h => absurd h (by decide), fun h => absurd h (by decide), by decide⟩
    · exact ⟨fun h => absurd h (by decide), fun _ => h2, fun h => absurd h (by decide), fun h => absurd h (by decide), by decide⟩
    · exact ⟨fun h => absurd h (by decide), fun h => absurd h (by decide), fun _ => h2, fun h => absurd h (by decide), by decide⟩
theorem am_lw335 {e : ak_X3} {d : Nat} {ρ : List Nat} {hc hm : ak_S} {o : Int} {Q : Int → ak_S → Prop} {X : Nat → ak_S → Prop} {x1 : Int} (w : ak_MI e 0 d ρ 176 [am_r 1, am_i x1] hc (fun v hc' => Q 0 (ak_mrg hc' hm v)) (fun x hc' => ∃ c, (x, c) ∈ ([(0, 1), (2, 2)] : List (Nat × Int)) ∧ Q c (ak_mrg hc' hm o))) : ak_MI e 2 (d + 1) ρ 335 [am_r 1, am_i x1, am_r 211] (ak_mrg hc hm o) Q X := by
  refine ak_MI_of (Nat.le_of_ble_eq_true rfl) (am_k335_0 (ak_MI_up0 (ak_MI_imp w (fun v hc' q => ?_) (fun x hc' q => ?_))))
  · exact ⟨⟨by decide, by decide⟩, (congrArg (Q 0) ak_mrg_out).mpr q⟩
  · obtain ⟨c, h1, h2⟩ := q
    simp only [List.mem_cons, List.not_mem_nil, Prod.mk.injEq, or_false] at h1
    rcases h1 with ⟨rfl, rfl⟩ | ⟨rfl, rfl⟩
    · exact ⟨fun _ => h2, fun h => absurd h (by decide), fun h => absurd h (by decide), fun h => absurd h (by decide), by decide⟩
    · exact ⟨fun h => absurd h (by decide), fun h => absurd h (by decide), fun _ => h2, fun h => absurd h (by decide), by decide⟩
theorem am_lw336 {e : ak_X3} {d : Nat} {ρ : List Nat} {hc hm : ak_S} {o : Int} {Q : Int → ak_S → Prop} {X : Nat → ak_S → Prop} {x1 x2 x3 x4 : Int} (w : ak_MI e 0 d ρ 177 [am_r 1, am_i x1, am_i x2, am_i x3, am_l x4] hc (fun v hc' => Q 0 (ak_mrg hc' hm v)) (fun x hc' => ∃ c, (x, c) ∈ ([(0, 1), (1, 2), (2, 3)] : List (Nat × Int)) ∧ Q c (ak_mrg hc' hm o))) : ak_MI e 2 (d + 1) ρ 336 [am_r 1, am_i x1, am_i x2, am_i x3, am_l x4, am_r 211] (ak_mrg hc hm o) Q X := by
  refine ak_MI_of (Nat.le_of_ble_eq_true rfl) (am_k336_0 (ak_MI_up0 (ak_MI_imp w (fun v hc' q => ?_) (fun x hc' q => ?_))))
  · exact ⟨⟨by decide, by decide⟩, (congrArg (Q 0) ak_mrg_out).mpr q⟩
  · obtain ⟨c, h1, h2⟩ := q
    simp only [List.mem_cons, List.not_mem_nil, Prod.mk.injEq, or_false] at h1
    rcases h1 with ⟨rfl, rfl⟩ | ⟨rfl, rfl⟩ | ⟨rfl, rfl⟩
    · exact ⟨fun _ => h2, fun h => absurd h (by decide), fun h => absurd h (by decide), fun h => absurd h (by decide), by decide⟩
    · exact ⟨fun h => absurd h (by decide), fun _ => h2, fun h => absurd h (by decide), fun h => absurd h (by decide), by decide⟩
    · exact ⟨fun h => absurd h (by decide), fun h => absurd h (by decide), fun _ => h2, fun h => absurd h (by decide), by decide⟩
theorem am_lw337 {e : ak_X3} {d : Nat} {ρ : List Nat} {hc hm : ak_S} {o : Int} {Q : Int → ak_S → Prop} {X : Nat → ak_S → Prop} {x1 : Int} (w : ak_MI e 0 d ρ 178 [am_r 1, am_i x1] hc (fun v hc' => Q 0 (ak_mrg hc' hm v)) (fun x hc' => ∃ c, (x, c) ∈ ([(0, 1), (1, 2)] : List (Nat × Int)) ∧ Q c (ak_mrg hc' hm o))) : ak_MI e 2 (d + 1) ρ 337 [am_r 1, am_i x1, am_r 211] (ak_mrg hc hm o) Q X := by
  refine ak_MI_of (Nat.le_of_ble_eq_true rfl) (am_k337_0 (ak_MI_up0 (ak_MI_imp w (fun v hc' q => ?_) (fun x hc' q => ?_))))
  · exact ⟨⟨by decide, by decide⟩, (congrArg (Q 0) ak_mrg_out).mpr q⟩
  · obtain ⟨c, h1, h2⟩ := q
    simp only [List.mem_cons, List.not_mem_nil, Prod.mk.injEq, or_false] at h1
    rcases h1 with ⟨rfl, rfl⟩ | ⟨rfl, rfl⟩
    · exact ⟨fun _ => h2, fun h => absurd h (by decide), fun h => absurd h (by decide), fun h => absurd h (by decide), by decide⟩
    · exact ⟨fun h => absurd h (by decide), fun _ => h2, fun h => absurd h (by decide), fun h => absurd h (by decide), by decide⟩
theorem am_lw338 {e : ak_X3} {d : Nat} {ρ : List Nat} {hc hm : ak_S} {o : Int} {Q : Int → ak_S → Prop} {X : Nat → ak_S → Prop} {x1 x2 : Int} (w : ak_MI e 0 d ρ 179 [am_r 1, am_i x1, am_i x2] hc (fun v hc' => Q 0 (ak_mrg hc' hm v)) (fun x hc' => ∃ c, (x, c) ∈ ([(0, 1), (2, 2)] : List (Nat × Int)) ∧ Q c (ak_mrg hc' hm o))) : ak_MI e 2 (d + 1) ρ 338 [am_r 1, am_i x1, am_i x2, am_r 211] (ak_mrg hc hm o) Q X := by
  refine ak_MI_of (Nat.le_of_ble_eq_true rfl) (am_k338_0 (ak_MI_up0 (ak_MI_imp w (fun v hc' q => ?_) (fun x hc' q => ?_))))
  · exact ⟨⟨by decide, by decide⟩, (congrArg (Q 0) ak_mrg_out).mpr q⟩
  · obtain ⟨c, h1, h2⟩ := q
    simp only [List.mem_cons, List.not_mem_nil, Prod.mk.injEq, or_false] at h1
    rcases h1 with ⟨rfl, rfl⟩ | ⟨rfl, rfl⟩
    · exact ⟨fun _ => h2, fun h => absurd h (by decide), fun h => absurd h (by decide), fun h => absurd h (by decide), by decide⟩
    · exact ⟨fun h => absurd h (by decide), fun h => absurd h (by decide), fun _ => h2, fun h => absurd h (by decide), by decide⟩
theorem am_lw339 {e : ak_X3} {d : Nat} {ρ : List Nat} {hc hm : ak_S} {o : Int} {Q : Int → ak_S → Prop} {X : Nat → ak_S → Prop} {x1 : Int} (w : ak_MI e 0 d ρ 180 [am_r 1, am_i x1] hc (fun v hc' => Q 0 (ak_mrg hc' hm v)) (fun x hc' => ∃ c, (x, c) ∈ ([(0, 1), (2, 2)] : List (Nat × Int)) ∧ Q c (ak_mrg hc' hm o))) : ak_MI e 2 (d + 1) ρ 339 [am_r 1, am_i x1, am_r 211] (ak_mrg hc hm o) Q X := by
  refine ak_MI_of (Nat.le_of_ble_eq_true rfl) (am_k339_0 (ak_MI_up0 (ak_MI_imp w (fun v hc' q => ?_) (fun x hc' q => ?_))))
  · exact ⟨⟨by decide, by decide⟩, (congrArg (Q 0) ak_mrg_out).mpr q⟩
  · obtain ⟨c, h1, h2⟩ := q
    simp only [List.mem_cons, List.not_mem_nil, Prod.mk.injEq, or_false] at h1
    rcases h1 with ⟨rfl, rfl⟩ | ⟨rfl, rfl⟩
    · exact ⟨fun _ => h2, fun h => absurd h (by decide), fun h => absurd h (by decide), fun h => absurd h (by decide), by decide⟩
    · exact ⟨fun h => absurd h (by decide), fun h => absurd h (by decide), fun _ => h2, fun h => absurd h (by decide), by decide⟩
theorem am_lw340 {e : ak_X3} {d : Nat} {ρ : List Nat} {hc hm : ak_S} {o : Int} {Q : Int → ak_S → Prop} {X : Nat → ak_S → Prop} {x1 x2 : Int} (w : ak_MI e 0 d ρ 181 [am_r 1, am_i x1, am_i x2] hc (fun v hc' => Q 0 (ak_mrg hc' hm v)) (fun x hc' => ∃ c, (x, c) ∈ ([(0, 1), (1, 3), (2, 2)] : List (Nat × Int)) ∧ Q c (ak_mrg hc' hm o))) : ak_MI e 2 (d + 1) ρ 340 [am_r 1, am_i x1, am_i x2, am_r 211] (ak_mrg hc hm o) Q X := by
  refine ak_MI_of (Nat.le_of_ble_eq_true rfl) (am_k340_0 (ak_MI_up0 (ak_MI_imp w (fun v hc' q => ?_) (fun x hc' q => ?_))))
  · exact ⟨⟨by decide, by decide⟩, (congrArg (Q 0) ak_mrg_out).mpr q⟩
  · obtain ⟨c, h1, h2⟩ := q
    simp only [List.mem_cons, List.not_mem_nil, Prod.mk.injEq, or_false] at h1
    rcases h1 with ⟨rfl, rfl⟩ | ⟨rfl, rfl⟩ | ⟨rfl, rfl⟩
    · exact ⟨fun _ => h2, fun h => absurd h (by decide), fun h => absurd h (by decide), fun h => absurd h (by decide), by decide⟩
    · exact ⟨fun h => absurd h (by decide), fun _ => h2, fun h => absurd h (by decide), fun h => absurd h (by decide), by decide⟩
    · exact ⟨fun h => absurd h (by decide), fun h => absurd h (by decide), fun _ => h2, fun h => absurd h (by decide), by decide⟩
theorem am_lw341 {e : ak_X3} {d : Nat} {ρ : List Nat} {hc hm : ak_S} {o : Int} {Q : Int → ak_S → Prop} {X : Nat → ak_S → Prop} {x1 x2 x3 : Int} (w : ak_MI e 0 d ρ 182 [am_r 1, am_i x1, am_i x2, am_i x3] hc (fun v hc' => Q 0 (ak_mrg hc' hm v)) (fun x hc' => ∃ c, (x, c) ∈ ([(0, 1), (2, 2)] : List (Nat × Int)) ∧ Q c (ak_mrg hc' hm o))) : ak_MI e 2 (d + 1) ρ 341 [am_r 1, am_i x1, am_i x2, am_i x3, am_r 211] (ak_mrg hc hm o) Q X := by
  refine ak_MI_of (Nat.le_of_ble_eq_true rfl) (am_k341_0 (ak_MI_up0 (ak_MI_imp w (fun v hc' q => ?_) (fun x hc' q => ?_))))
  · exact ⟨⟨by decide, by decide⟩, (congrArg (Q 0) ak_mrg_out).mpr q⟩
  · obtain ⟨c, h1, h2⟩ := q
    simp only [List.mem_cons, List.not_mem_nil, Prod.mk.injEq, or_false] at h1
    rcases h1 with ⟨rfl, rfl⟩ | ⟨rfl, rfl⟩
    · exact ⟨fun _ => h2, fun h => absurd h (by decide), fun h => absurd h (by decide), fun h => absurd h (by decide), by decide⟩
    · exact ⟨fun h => absurd h (by decide), fun h => absurd h (by decide), fun _ => h2, fun h => absurd h (by decide), by decide⟩
theorem am_lw342 {e : ak_X3} {d : Nat} {ρ : List Nat} {hc hm : ak_S} {o : Int} {Q : Int → ak_S → Prop} {X : Nat → ak_S → Prop} {x1 x2 x3 : Int} (w : ak_MJ e 0 d ρ 183 [am_r 1, am_i x1, am_i x2, am_i x3] hc (fun v hc' => Q 0 (ak_mrg hc' hm v)) (fun x hc' => ∃ c, (x, c) ∈ ([(0, 1), (1, 3), (2, 2)] : List (Nat × Int)) ∧ Q c (ak_mrg hc' hm o))) : ak_MI e 2 (d + 1) ρ 342 [am_r 1, am_i x1, am_i x2, am_i x3, am_r 211] (ak_mrg hc hm o) Q X := by
  refine ak_MI_of (Nat.le_of_ble_eq_true rfl) (am_k342_0 (ak_MJ_up0 (ak_MJ_imp w (fun v hc' q => ?_) (fun x hc' q => ?_))))
  · exact ⟨⟨by decide, by decide⟩, (congrArg (Q 0) ak_mrg_out).mpr q⟩
  · obtain ⟨c, h1, h2⟩ := q
    simp only [List.mem_cons, List.not_mem_nil, Prod.mk.injEq, or_false] at h1
    rcases h1 with ⟨rfl, rfl⟩ | ⟨rfl, rfl⟩ | ⟨rfl, rfl⟩
    · exact ⟨fun _ => h2, fun h => absurd h (by decide), fun h => absurd h (by decide), fun h => absurd h (by decide), by decide⟩
    · exact ⟨fun h => absurd h (by decide), fun _ => h2, fun h => absurd h (by decide), fun h => absurd h (by decide), by decide⟩
    · exact ⟨fun h => absurd h (by decide), fun h => absurd h (by decide), fun _ => h2, fun h => absurd h (by decide), by decide⟩
theorem am_lw343 {e : ak_X3} {d : Nat} {ρ : List Nat} {hc hm : ak_S} {o : Int} {Q : Int → ak_S → Prop} {X : Nat → ak_S → Prop} {x1 x2 : Int} (w : ak_MI e 0 d ρ 184 [am_r 1, am_i x1, am_i x2] hc (fun v hc' => Q 0 (ak_mrg hc' hm v)) (fun x hc' => ∃ c, (x, c) ∈ ([(0, 1), (2, 2)] : List (Nat × Int)) ∧ Q c (ak_mrg hc' hm o))) : ak_MI e 2 (d + 1) ρ 343 [am_r 1, am_i x1, am_i x2, am_r 211] (ak_mrg hc hm o) Q X := by
  refine ak_MI_of (Nat.le_of_ble_eq_true rfl) (am_k343_0 (ak_MI_up0 (ak_MI_imp w (fun v hc' q => ?_) (fun x hc' q => ?_))))
  · exact ⟨⟨by decide, by decide⟩, (congrArg (Q 0) ak_mrg_out).mpr q⟩
  · obtain ⟨c, h1, h2⟩ := q
    simp only [List.mem_cons, List.not_mem_nil, Prod.mk.injEq, or_false] at h1
    rcases h1 with ⟨rfl, rfl⟩ | ⟨rfl, rfl⟩
    · exact ⟨fun _ => h2, fun h => absurd h (by decide), fun h => absurd h (by decide), fun h => absurd h (by decide), by decide⟩
    · exact ⟨fun h => absurd h (by decide), fun h => absurd h (by decide), fun _ => h2, fun h => absurd h (by decide), by decide⟩
theorem am_lw344 {e : ak_X3} {d : Nat} {ρ : List Nat} {hc hm : ak_S} {o : Int} {Q : Int → ak_S → Prop} {X : Nat → ak_S → Prop} {x1 x2 x3 : Int} (w : ak_MI e 0 d ρ 185 [am_r 1, am_i x1, am_i x2, am_i x3] hc (fun v hc' => Q 0 (ak_mrg hc' hm v)) (fun x hc' => ∃ c, (x, c) ∈ ([(0, 1), (1, 3), (2, 2)] : List (Nat × Int)) ∧ Q c (ak_mrg hc' hm o))) : ak_MI e 2 (d + 1) ρ 344 [am_r 1, am_i x1, am_i x2, am_i x3, am_r 211] (ak_mrg hc hm o) Q X := by
  refine ak_MI_of (Nat.le_of_ble_eq_true rfl) (am_k344_0 (ak_MI_up0 (ak_MI_imp w (fun v hc' q => ?_) (fun x hc' q => ?_))))
  · exact ⟨⟨by decide, by decide⟩, (congrArg (Q 0) ak_mrg_out).mpr q⟩
  · obtain ⟨c, h1, h2⟩ := q
    simp only [List.mem_cons, List.not_mem_nil, Prod.mk.injEq, or_false] at h1
    rcases h1 with ⟨rfl, rfl⟩ | ⟨rfl, rfl⟩ | ⟨rfl, rfl⟩
    · exact ⟨fun _ => h2, fun h => absurd h (by decide), fun h => absurd h (by decide), fun h => absurd h (by decide), by decide⟩
    · exact ⟨fun h => absurd h (by decide), fun _ => h2, fun h => absurd h (by decide), fun h => absurd h (by decide), by decide⟩
    · exact ⟨fun h => absurd h (by decide), fun h => absurd h (by decide), fun _ => h2, fun h => absurd h (by decide), by decide⟩
theorem am_lw345 {e : ak_X3} {d : Nat} {ρ : List Nat} {hc hm : ak_S} {o : Int} {Q : Int → ak_S → Prop} {X : Nat → ak_S → Prop} {x1 x2 : Int} (w : ak_MI e 0 d ρ 186 [am_r 1, am_i x1, am_i x2] hc (fun v hc' => Q 0 (ak_mrg hc' hm v)) (fun x hc' => ∃ c, (x, c) ∈ ([(0, 1), (1, 3), (2, 2)] : List (Nat × Int)) ∧ Q c (ak_mrg hc' hm o))) : ak_MI e 2 (d + 1) ρ 345 [am_r 1, am_i x1, am_i x2, am_r 211] (ak_mrg hc hm o) Q X := by
  refine ak_MI_of (Nat.le_of_ble_eq_true rfl) (am_k345_0 (ak_MI_up0 (ak_MI_imp w (fun v hc' q => ?_) (fun x hc' q => ?_))))
  · exact ⟨⟨by decide, by decide⟩, (congrArg (Q 0) ak_mrg_out).mpr q⟩
  · obtain ⟨c, h1, h2⟩ := q
    simp only [List.mem_cons, List.not_mem_nil, Prod.mk.injEq, or_false] at h1
    rcases h1 with ⟨rfl, rfl⟩ | ⟨rfl, rfl⟩ | ⟨rfl, rfl⟩
    · exact ⟨fun _ => h2, fun h => absurd h (by decide), fun h => absurd h (by decide), fun h => absurd h (by decide), by decide⟩
    · exact ⟨fun h => absurd h (by decide), fun _ => h2, fun h => absurd h (by decide), fun h => absurd h (by decide), by decide⟩
    · exact ⟨fun h => absurd h (by decide), fun h => absurd h (by decide), fun _ => h2, fun h => absurd h (by decide), by decide⟩
theorem am_lw346 {e : ak_X3} {d : Nat} {ρ : List Nat} {hc hm : ak_S} {o : Int} {Q : Int → ak_S → Prop} {X : Nat → ak_S → Prop} {x1 x2 x3 : Int} (w : ak_MI e 0 d ρ 187 [am_r 1, am_i x1, am_i x2, am_i x3] hc (fun v hc' => Q 0 (ak_mrg hc' hm v)) (fun x hc' => ∃ c, (x, c) ∈ ([(0, 1), (1, 3), (2, 2)] : List (Nat × Int)) ∧ Q c (ak_mrg hc' hm o))) : ak_MI e 2 (d + 1) ρ 346 [am_r 1, am_i x1, am_i x2, am_i x3, am_r 211] (ak_mrg hc hm o) Q X := by
  refine ak_MI_of (Nat.le_of_ble_eq_true rfl) (am_k346_0 (ak_MI_up0 (ak_MI_imp w (fun v hc' q => ?_) (fun x hc' q => ?_))))
  · exact ⟨⟨by decide, by decide⟩, (congrArg (Q 0) ak_mrg_out).mpr q⟩
  · obtain ⟨c, h1, h2⟩ := q
    simp only [List.mem_cons, List.not_mem_nil, Prod.mk.injEq, or_false] at h1
    rcases h1 with ⟨rfl, rfl⟩ | ⟨rfl, rfl⟩ | ⟨rfl, rfl⟩
    · exact ⟨fun _ => h2, fun h => absurd h (by decide), fun h => absurd h (by decide), fun h => absurd h (by decide), by decide⟩
    · exact ⟨fun h => absurd h (by decide), fun _ => h2, fun h => absurd h (by decide), fun h => absurd h (by decide), by decide⟩
    · exact ⟨fun h => absurd h (by decide), fun h => absurd h (by decide), fun _ => h2, fun h => absurd h (by decide), by decide⟩
theorem am_lw347 {e : ak_X3} {d : Nat} {ρ : List Nat} {hc hm : ak_S} {o : Int} {Q : Int → ak_S → Prop} {X : Nat → ak_S → Prop} {x1 x2 x3 : Int} (w : ak_MI e 0 d ρ 188 [am_r 1, am_i x1, am_i x2, am_i x3] hc (fun v hc' => (v = 0 ∨ v = 1) ∧ Q 0 (ak_mrg hc' hm v)) (fun x hc' => ∃ c, (x, c) ∈ ([(0, 1), (2, 2)] : List (Nat × Int)) ∧ Q c (ak_mrg hc' hm o))) : ak_MI e 2 (d + 1) ρ 347 [am_r 1, am_i x1, am_i x2, am_i x3, am_r 211] (ak_mrg hc hm o) Q X := by
  refine ak_MI_of (Nat.le_of_ble_eq_true rfl) (am_k347_0 (ak_MI_up0 (ak_MI_imp w (fun v hc' q => ?_) (fun x hc' q => ?_))))
  · constructor
    · intro hv; subst hv; exact ⟨⟨by decide, by decide⟩, (congrArg (Q 0) ak_mrg_out).mpr q.2⟩
    · intro hv; obtain ⟨h0 | h0, q⟩ := q
      · exact absurd h0 hv
      · subst h0; exact ⟨⟨by decide, by decide⟩, (congrArg (Q 0) ak_mrg_out).mpr q⟩
  · obtain ⟨c, h1, h2⟩ := q
    simp only [List.mem_cons, List.not_mem_nil, Prod.mk.injEq, or_false] at h1
    rcases h1 with ⟨rfl, rfl⟩ | ⟨rfl, rfl⟩
    · exact ⟨fun _ => h2, fun h => absurd h (by decide), fun h => absurd h (by decide), fun h => absurd h (by decide), by decide⟩
    · exact ⟨fun h => absurd h (by decide), fun h => absurd h (by decide), fun _ => h2, fun h => absurd h (by decide), by decide⟩
theorem am_lw348 {e : ak_X3} {d : Nat} {ρ : List Nat} {hc hm : ak_S} {o : Int} {Q : Int → ak_S → Prop} {X : Nat → ak_S → Prop} (w : ak_MI e 0 d ρ 189 [am_r 1] hc (fun v hc' => Q 0 (ak_mrg hc' hm v)) (fun x hc' => ∃ c, (x, c) ∈ ([(0, 1)] : List (Nat × Int)) ∧ Q c (ak_mrg hc' hm o))) : ak_MI e 2 (d + 1) ρ 348 [am_r 1, am_r 211] (ak_mrg hc hm o) Q X := by
  refine ak_MI_of (Nat.le_of_ble_eq_true rfl) (am_k348_0 (ak_MI_up0 (ak_MI_imp w (fun v hc' q => ?_) (fun x hc' q => ?_))))
  · exact ⟨⟨by decide, by decide⟩, (congrArg (Q 0) ak_mrg_out).mpr q⟩
  · obtain ⟨c, h1, h2⟩ := q
    simp only [List.mem_cons, List.not_mem_nil, Prod.mk.injEq, or_false] at h1
    rcases h1 with ⟨rfl, rfl⟩
    · exact ⟨fun _ => h2, fun h => absurd h (by decide), fun h => absurd h (by decide), fun h => absurd h (by decide), by decide⟩
theorem am_lw349 {e : ak_X3} {d : Nat} {ρ : List Nat} {hc hm : ak_S} {o : Int} {Q : Int → ak_S → Prop} {X : Nat → ak_S → Prop} {x1 x2 : Int} (w : ak_MI e 0 d ρ 190 [am_r 1, am_i x1, am_i x2] hc (fun v hc' => Q 0 (ak_mrg hc' hm v)) (fun x hc' => ∃ c, (x, c) ∈ ([(0, 1), (1, 3), (2, 2)] : List (Nat × Int)) ∧ Q c (ak_mrg hc' hm o))) : ak_MI e 2 (d + 1) ρ 349 [am_r 1, am_i x1, am_i x2, am_r 211] (ak_mrg hc hm o) Q X := by
  refine ak_MI_of (Nat.le_of_ble_eq_true rfl) (am_k349_0 (ak_MI_up0 (ak_MI_imp w (fun v hc' q => ?_) (fun x hc' q => ?_))))
  · exact ⟨⟨by decide, by decide⟩, (congrArg (Q 0) ak_mrg_out).mpr q⟩
  · obtain ⟨c, h1, h2⟩ := q
    simp only [List.mem_cons, List.not_mem_nil, Prod.mk.injEq, or_false] at h1
    rcases h1 with ⟨rfl, rfl⟩ | ⟨rfl, rfl⟩ | ⟨rfl, rfl⟩
    · exact ⟨fun _ => h2, fun h => absurd h (by decide), fun h => absurd h (by decide), fun h => absurd h (by decide), by decide⟩
    · exact ⟨fun h => absurd h (by decide), fun _ => h2, fun h => absurd h (by decide), fun h => absurd h (by decide), by decide⟩
    · exact ⟨fun h => absurd h (by decide), fun h => absurd h (by decide), fun _ => h2, fun h => absurd h (by decide), by decide⟩
theorem am_lw350 {e : ak_X3} {d : Nat} {ρ : List Nat} {hc hm : ak_S} {o : Int} {Q : Int → ak_S → Prop} {X : Nat → ak_S → Prop} (w : ak_MI e 0 d ρ 191 [am_r 1] hc (fun v hc' => Q 0 (ak_mrg hc' hm v)) (fun x hc' => ∃ c, (x, c) ∈ ([(0, 1)] : List (Nat × Int)) ∧ Q c (ak_mrg hc' hm o))) : ak_MI e 2 (d + 1) ρ 350 [am_r 1, am_r 211] (ak_mrg hc hm o) Q X := by
  refine ak_MI_of (Nat.le_of_ble_eq_true rfl) (am_k350_0 (ak_MI_up0 (ak_MI_imp w (fun v hc' q => ?_) (fun x hc' q => ?_))))
  · exact ⟨⟨by decide, by decide⟩, (congrArg (Q 0) ak_mrg_out).mpr q⟩
  · obtain ⟨c, h1, h2⟩ := q
    simp only [List.mem_cons, List.not_mem_nil, Prod.mk.injEq, or_false] at h1
    rcases h1 with ⟨rfl, rfl⟩
    · exact ⟨fun _ => h2, fun h => absurd h (by decide), fun h => absurd h (by decide), fun h => absurd h (by decide), by decide⟩
