/-! the law, call by call: cases -/
theorem am_lc160 {e : ak_X3} {d : Nat} {ρ : List Nat} {hc hm : ak_S} {o : Int} {R : ak_S → ak_S → Prop} {Q : List Nat → ak_R3 → Prop} {x4 : Int} (hb : ∀ k : Int, 1 ≤ k → k ≤ 5 → 0 ≤ am_w32 (x4 + k) ∧ am_w32 (x4 + k) < (e.1 : Int))
    (P : ak_cI e d ρ 166 199 [am_i (am_I0 e.2 (am_SP + 2) (am_w32 (x4 + 1)).toNat), am_i (am_I0 e.2 (am_SP + 2) (am_w32 (x4 + 2)).toNat), am_i (am_I0 e.2 (am_SP + 2) (am_w32 (x4 + 3)).toNat), am_i (am_I0 e.2 (am_SP + 2) (am_w32 (x4 + 4)).toNat), am_i (am_I0 e.2 (am_SP + 2) (am_w32 (x4 + 5)).toNat)] hc hm [(3, 1)] R)
    (hk : ∀ hc' hm' o', R hc' hm' → ak_W1 e 2 (d + 1) 0 ρ 23 [some (am_r (am_SP + 2)), some (am_r 1), some (am_r 110), some (am_r 211), some (am_i (am_w32 (x4 + 6))), none, none, none] [] (ak_mrg hc' hm' o') Q) :
    ak_W1 e 2 (d + 1) 0 ρ 160 [some (am_r (am_SP + 2)), some (am_r 1), some (am_r 110), some (am_r 211), some (am_i x4), none, none, none] [] (ak_mrg hc hm o) Q := by
  refine am_j0_160 (⟨hb 1 (by decide) (by decide), hb 2 (by decide) (by decide), hb 3 (by decide) (by decide), hb 4 (by decide) (by decide), hb 5 (by decide) (by decide), am_lw327 (ak_MI_imp P (fun v hc' q => ?_) (fun x hc' q => ?_))⟩)
  · exact ⟨hb 1 (by decide) (by decide), hb 2 (by decide) (by decide), hb 3 (by decide) (by decide), hb 4 (by decide) (by decide), hb 5 (by decide) (by decide), ak_MI_up1 (ak_MI_deep (Nat.le_succ d) (ak_MI_imp q (fun b hm' r => ak_MI_up1 (am_s197 (⟨fun ht => ⟨fun h => absurd rfl h, fun _ => ⟨⟨by decide, by decide⟩, fun _ => hk _ _ _ r.1, fun hn => absurd (ak_lsign0.mpr (ak_mrg_o.trans r.2.2)) hn⟩⟩, fun ht => absurd r.2.1 ht⟩))) (fun _ _ h => h.elim)))⟩
  · obtain ⟨c, h1, q⟩ := q
    refine ⟨c, h1, ⟨hb 1 (by decide) (by decide), hb 2 (by decide) (by decide), hb 3 (by decide) (by decide), hb 4 (by decide) (by decide), hb 5 (by decide) (by decide), ak_MI_up1 (ak_MI_deep (Nat.le_succ d) (ak_MI_imp q (fun b hm' r => ak_MI_up1 (am_s197 ?_)) (fun _ _ h => h.elim)))⟩⟩
    refine ⟨fun ht => ⟨fun _ => hk _ _ _ r.1, fun h0 => ?_⟩, fun ht => absurd r.2 ht⟩
    exfalso
    subst h0
    simp at h1
theorem am_lc264 {e : ak_X3} {d : Nat} {ρ : List Nat} {hc hm : ak_S} {o : Int} {R : ak_S → ak_S → Prop} {Q : List Nat → ak_R3 → Prop} {x4 : Int} (hb : ∀ k : Int, 1 ≤ k → k ≤ 5 → 0 ≤ am_w32 (x4 + k) ∧ am_w32 (x4 + k) < (e.1 : Int))
    (P : ak_cV e d ρ 167 200 [am_i (am_I0 e.2 (am_SP + 2) (am_w32 (x4 + 1)).toNat)] hc hm [(1, 1)] R)
    (hk : ∀ hc' hm' o', R hc' hm' → ak_W1 e 2 (d + 1) 0 ρ 23 [some (am_r (am_SP + 2)), some (am_r 1), some (am_r 110), some (am_r 211), some (am_i (am_w32 (x4 + 6))), none, none, none] [] (ak_mrg hc' hm' o') Q) :
    ak_W1 e 2 (d + 1) 0 ρ 264 [some (am_r (am_SP + 2)), some (am_r 1), some (am_r 110), some (am_r 211), some (am_i x4), none, none, none] [] (ak_mrg hc hm o) Q := by
  refine am_j0_264 (⟨hb 1 (by decide) (by decide), am_lw328 (ak_MV_imp P (fun hc' q => ?_) (fun x hc' q => ?_))⟩)
  · exact ⟨hb 1 (by decide) (by decide), ak_MV_up1 (ak_MV_deep (Nat.le_succ d) (ak_MV_imp q (fun hm' r => ak_MI_up1 (am_s197 (⟨fun _ => hk _ _ _ r.1, fun ht => absurd r.2 ht⟩))) (fun _ _ h => h.elim)))⟩
  · obtain ⟨c, h1, q⟩ := q
    refine ⟨c, h1, ⟨hb 1 (by decide) (by decide), ak_MV_up1 (ak_MV_deep (Nat.le_succ d) (ak_MV_imp q (fun hm' r => ak_MI_up1 (am_s197 ?_)) (fun _ _ h => h.elim)))⟩⟩
    exact ⟨fun _ => hk _ _ _ r.1, fun ht => absurd r.2 ht⟩
theorem am_lc313 {e : ak_X3} {d : Nat} {ρ : List Nat} {hc hm : ak_S} {o : Int} {R : ak_S → ak_S → Prop} {Q : List Nat → ak_R3 → Prop} {x4 : Int} (hb : ∀ k : Int, 1 ≤ k → k ≤ 5 → 0 ≤ am_w32 (x4 + k) ∧ am_w32 (x4 + k) < (e.1 : Int))
    (P : ak_cV e d ρ 169 300 [am_i (am_I0 e.2 (am_SP + 2) (am_w32 (x4 + 1)).toNat)] hc hm [(1, 1)] R)
    (hk : ∀ hc' hm' o', R hc' hm' → ak_W1 e 2 (d + 1) 0 ρ 23 [some (am_r (am_SP + 2)), some (am_r 1), some (am_r 110), some (am_r 211), some (am_i (am_w32 (x4 + 6))), none, none, none] [] (ak_mrg hc' hm' o') Q) :
    ak_W1 e 2 (d + 1) 0 ρ 313 [some (am_r (am_SP + 2)), some (am_r 1), some (am_r 110), some (am_r 211), some (am_i x4), none, none, none] [] (ak_mrg hc hm o) Q := by
  refine am_j0_313 (⟨hb 1 (by decide) (by decide), am_lw329 (ak_MV_imp P (fun hc' q => ?_) (fun x hc' q => ?_))⟩)
  · exact ⟨hb 1 (by decide) (by decide), ak_MV_up1 (ak_MV_deep (Nat.le_succ d) (ak_MV_imp q (fun hm' r => ak_MI_up1 (am_s197 (⟨fun _ => hk _ _ _ r.1, fun ht => absurd r.2 ht⟩))) (fun _ _ h => h.elim)))⟩
  · obtain ⟨c, h1, q⟩ := q
    refine ⟨c, h1, ⟨hb 1 (by decide) (by decide), ak_MV_up1 (ak_MV_deep (Nat.le_succ d) (ak_MV_imp q (fun hm' r => ak_MI_up1 (am_s197 ?_)) (fun _ _ h => h.elim)))⟩⟩
    exact ⟨fun _ => hk _ _ _ r.1, fun ht => absurd r.2 ht⟩
theorem am_lc360 {e : ak_X3} {d : Nat} {ρ : List Nat} {hc hm : ak_S} {o : Int} {R : ak_S → ak_S → Prop} {Q : List Nat → ak_R3 → Prop} {x4 : Int} (hb : ∀ k : Int, 1 ≤ k → k ≤ 5 → 0 ≤ am_w32 (x4 + k) ∧ am_w32 (x4 + k) < (e.1 : Int))
    (P : ak_cI e d ρ 171 302 [am_i (am_I0 e.2 (am_SP + 2) (am_w32 (x4 + 1)).toNat), am_l ((Int64.ofInt ((Int64.ofInt (am_I0 e.2 (am_SP + 2) (am_w32 (x4 + 2)).toNat) <<< ((Int32.ofInt 32).toInt64 &&& 63)).toInt) ||| Int64.ofInt ((Int64.ofInt (am_I0 e.2 (am_SP + 2) (am_w32 (x4 + 3)).toNat) &&& Int64.ofInt 4294967295).toInt)).toInt), am_l ((Int64.ofInt ((Int64.ofInt (am_I0 e.2 (am_SP + 2) (am_w32 (x4 + 4)).toNat) <<< ((Int32.ofInt 32).toInt64 &&& 63)).toInt) ||| Int64.ofInt ((Int64.ofInt (am_I0 e.2 (am_SP + 2) (am_w32 (x4 + 5)).toNat) &&& Int64.ofInt 4294967295).toInt)).toInt)] hc hm [(0, 1), (1, 2)] R)
    (hk : ∀ hc' hm' o', R hc' hm' → ak_W1 e 2 (d + 1) 0 ρ 23 [some (am_r (am_SP + 2)), some (am_r 1), some (am_r 110), some (am_r 211), some (am_i (am_w32 (x4 + 6))), none, none, none] [] (ak_mrg hc' hm' o') Q) :
    ak_W1 e 2 (d + 1) 0 ρ 360 [some (am_r (am_SP + 2)), some (am_r 1), some (am_r 110), some (am_r 211), some (am_i x4), none, none, none] [] (ak_mrg hc hm o) Q := by
  refine am_j0_360 (⟨hb 1 (by decide) (by decide), hb 2 (by decide) (by decide), hb 3 (by decide) (by decide), hb 4 (by decide) (by decide), hb 5 (by decide) (by decide), am_lw330 (ak_MI_imp P (fun v hc' q => ?_) (fun x hc' q => ?_))⟩)
  · exact ⟨hb 1 (by decide) (by decide), hb 2 (by decide) (by decide), hb 3 (by decide) (by decide), hb 4 (by decide) (by decide), hb 5 (by decide) (by decide), ak_MI_up1 (ak_MI_deep (Nat.le_succ d) (ak_MI_imp q (fun b hm' r => ak_MI_up1 (am_s197 (⟨fun ht => ⟨fun h => absurd rfl h, fun _ => ⟨⟨by decide, by decide⟩, fun _ => hk _ _ _ r.1, fun hn => absurd (ak_lsign0.mpr (ak_mrg_o.trans r.2.2)) hn⟩⟩, fun ht => absurd r.2.1 ht⟩))) (fun _ _ h => h.elim)))⟩
  · obtain ⟨c, h1, q⟩ := q
    refine ⟨c, h1, ⟨hb 1 (by decide) (by decide), hb 2 (by decide) (by decide), hb 3 (by decide) (by decide), hb 4 (by decide) (by decide), hb 5 (by decide) (by decide), ak_MI_up1 (ak_MI_deep (Nat.le_succ d) (ak_MI_imp q (fun b hm' r => ak_MI_up1 (am_s197 ?_)) (fun _ _ h => h.elim)))⟩⟩
    refine ⟨fun ht => ⟨fun _ => hk _ _ _ r.1, fun h0 => ?_⟩, fun ht => absurd r.2 ht⟩
    exfalso
    subst h0
    simp at h1
theorem am_lc504 {e : ak_X3} {d : Nat} {ρ : List Nat} {hc hm : ak_S} {o : Int} {R : ak_S → ak_S → Prop} {Q : List Nat → ak_R3 → Prop} {x4 : Int} (hb : ∀ k : Int, 1 ≤ k → k ≤ 5 → 0 ≤ am_w32 (x4 + k) ∧ am_w32 (x4 + k) < (e.1 : Int))
    (P : ak_cJ e d ρ 172 303 [am_i (am_I0 e.2 (am_SP + 2) (am_w32 (x4 + 1)).toNat)] hc hm [(0, 1), (1, 2)] R)
    (hk : ∀ hc' hm' o', R hc' hm' → ak_W1 e 2 (d + 1) 0 ρ 23 [some (am_r (am_SP + 2)), some (am_r 1), some (am_r 110), some (am_r 211), some (am_i (am_w32 (x4 + 6))), none, none, none] [] (ak_mrg hc' hm' o') Q) :
    ak_W1 e 2 (d + 1) 0 ρ 504 [some (am_r (am_SP + 2)), some (am_r 1), some (am_r 110), some (am_r 211), some (am_i x4), none, none, none] [] (ak_mrg hc hm o) Q := by
  refine am_j0_504 (⟨hb 1 (by decide) (by decide), am_lw331 (ak_MJ_imp P (fun v hc' q => ?_) (fun x hc' q => ?_))⟩)
  · exact ⟨hb 1 (by decide) (by decide), ak_MJ_up1 (ak_MJ_deep (Nat.le_succ d) (ak_MJ_imp q (fun b hm' r => ak_MI_up1 (am_s197 (⟨fun ht => ⟨fun h => absurd rfl h, fun _ => ⟨⟨by decide, by decide⟩, fun _ => hk _ _ _ r.1, fun hn => absurd (ak_lsign0.mpr (ak_mrg_o.trans r.2.2)) hn⟩⟩, fun ht => absurd r.2.1 ht⟩))) (fun _ _ h => h.elim)))⟩
  · obtain ⟨c, h1, q⟩ := q
    refine ⟨c, h1, ⟨hb 1 (by decide) (by decide), ak_MJ_up1 (ak_MJ_deep (Nat.le_succ d) (ak_MJ_imp q (fun b hm' r => ak_MI_up1 (am_s197 ?_)) (fun _ _ h => h.elim)))⟩⟩
    refine ⟨fun ht => ⟨fun _ => hk _ _ _ r.1, fun h0 => ?_⟩, fun ht => absurd r.2 ht⟩
    exfalso
    subst h0
    simp at h1
theorem am_lc559 {e : ak_X3} {d : Nat} {ρ : List Nat} {hc hm : ak_S} {o : Int} {R : ak_S → ak_S → Prop} {Q : List Nat → ak_R3 → Prop} {x4 : Int} (hb : ∀ k : Int, 1 ≤ k → k ≤ 5 → 0 ≤ am_w32 (x4 + k) ∧ am_w32 (x4 + k) < (e.1 : Int))
    (P : ak_cJ e d ρ 173 304 [am_i (am_I0 e.2 (am_SP + 2) (am_w32 (x4 + 1)).toNat), am_i (am_I0 e.2 (am_SP + 2) (am_w32 (x4 + 2)).toNat)] hc hm [(0, 1), (1, 3), (2, 2)] R)
    (hk : ∀ hc' hm' o', R hc' hm' → ak_W1 e 2 (d + 1) 0 ρ 23 [some (am_r (am_SP + 2)), some (am_r 1), some (am_r 110), some (am_r 211), some (am_i (am_w32 (x4 + 6))), none, none, none] [] (ak_mrg hc' hm' o') Q) :
    ak_W1 e 2 (d + 1) 0 ρ 559 [some (am_r (am_SP + 2)), some (am_r 1), some (am_r 110), some (am_r 211), some (am_i x4), none, none, none] [] (ak_mrg hc hm o) Q := by
  refine am_j0_559 (⟨hb 1 (by decide) (by decide), hb 2 (by decide) (by decide), am_lw332 (ak_MJ_imp P (fun v hc' q => ?_) (fun x hc' q => ?_))⟩)
  · exact ⟨hb 1 (by decide) (by decide), hb 2 (by decide) (by decide), ak_MJ_up1 (ak_MJ_deep (Nat.le_succ d) (ak_MJ_imp q (fun b hm' r => ak_MI_up1 (am_s197 (⟨fun ht => ⟨fun h => absurd rfl h, fun _ => ⟨⟨by decide, by decide⟩, fun _ => hk _ _ _ r.1, fun hn => absurd (ak_lsign0.mpr (ak_mrg_o.trans r.2.2)) hn⟩⟩, fun ht => absurd r.2.1 ht⟩))) (fun _ _ h => h.elim)))⟩
  · obtain ⟨c, h1, q⟩ := q
    refine ⟨c, h1, ⟨hb 1 (by decide) (by decide), hb 2 (by decide) (by decide), ak_MJ_up1 (ak_MJ_deep (Nat.le_succ d) (ak_MJ_imp q (fun b hm' r => ak_MI_up1 (am_s197 ?_)) (fun _ _ h => h.elim)))⟩⟩
    refine ⟨fun ht => ⟨fun _ => hk _ _ _ r.1, fun h0 => ?_⟩, fun ht => absurd r.2 ht⟩
    exfalso
    subst h0
    simp at h1
theorem am_lc626 {e : ak_X3} {d : Nat} {ρ : List Nat} {hc hm : ak_S} {o : Int} {R : ak_S → ak_S → Prop} {Q : List Nat → ak_R3 → Prop} {x4 : Int} (hb : ∀ k : Int, 1 ≤ k → k ≤ 5 → 0 ≤ am_w32 (x4 + k) ∧ am_w32 (x4 + k) < (e.1 : Int))
    (P : ak_cJ e d ρ 174 305 [am_i (am_I0 e.2 (am_SP + 2) (am_w32 (x4 + 1)).toNat), am_i (am_I0 e.2 (am_SP + 2) (am_w32 (x4 + 2)).toNat)] hc hm [(0, 1), (1, 3), (2, 2)] R)
    (hk : ∀ hc' hm' o', R hc' hm' → ak_W1 e 2 (d + 1) 0 ρ 23 [some (am_r (am_SP + 2)), some (am_r 1), some (am_r 110), some (am_r 211), some (am_i (am_w32 (x4 + 6))), none, none, none] [] (ak_mrg hc' hm' o') Q) :
    ak_W1 e 2 (d + 1) 0 ρ 626 [some (am_r (am_SP + 2)), some (am_r 1), some (am_r 110), some (am_r 211), some (am_i x4), none, none, none] [] (ak_mrg hc hm o) Q := by
  refine am_j0_626 (⟨hb 1 (by decide) (by decide), hb 2 (by decide) (by decide), am_lw333 (ak_MJ_imp P (fun v hc' q => ?_) (fun x hc' q => ?_))⟩)
  · exact ⟨hb 1 (by decide) (by decide), hb 2 (by decide) (by decide), ak_MJ_up1 (ak_MJ_deep (Nat.le_succ d) (ak_MJ_imp q (fun b hm' r => ak_MI_up1 (am_s197 (⟨fun ht => ⟨fun h => absurd rfl h, fun _ => ⟨⟨by decide, by decide⟩, fun _ => hk _ _ _ r.1, fun hn => absurd (ak_lsign0.mpr (ak_mrg_o.trans r.2.2)) hn⟩⟩, fun ht => absurd r.2.1 ht⟩))) (fun _ _ h => h.elim)))⟩
  · obtain ⟨c, h1, q⟩ := q
    refine ⟨c, h1, ⟨hb 1 (by decide) (by decide), hb 2 (by decide) (by decide), ak_MJ_up1 (ak_MJ_deep (Nat.le_succ d) (ak_MJ_imp q (fun b hm' r => ak_MI_up1 (am_s197 ?_)) (fun _ _ h => h.elim)))⟩⟩
    refine ⟨fun ht => ⟨fun _ => hk _ _ _ r.1, fun h0 => ?_⟩, fun ht => absurd r.2 ht⟩
    exfalso
    subst h0
    simp at h1
theorem am_lc693 {e : ak_X3} {d : Nat} {ρ : List Nat} {hc hm : ak_S} {o : Int} {R : ak_S → ak_S → Prop} {Q : List Nat → ak_R3 → Prop} {x4 : Int} (hb : ∀ k : Int, 1 ≤ k → k ≤ 5 → 0 ≤ am_w32 (x4 + k) ∧ am_w32 (x4 + k) < (e.1 : Int))
    (P : ak_cJ e d ρ 175 306 [am_i (am_I0 e.2 (am_SP + 2) (am_w32 (x4 + 1)).toNat), am_i (am_I0 e.2 (am_SP + 2) (am_w32 (x4 + 2)).toNat)] hc hm [(0, 1), (1, 3), (2, 2)] R)
    (hk : ∀ hc' hm' o', R hc' hm' → ak_W1 e 2 (d + 1) 0 ρ 23 [some (am_r (am_SP + 2)), some (am_r 1), some (am_r 110), some (am_r 211), some (am_i (am_w32 (x4 + 6))), none, none, none] [] (ak_mrg hc' hm' o') Q) :
    ak_W1 e 2 (d + 1) 0 ρ 693 [some (am_r (am_SP + 2)), some (am_r 1), some (am_r 110), some (am_r 211), some (am_i x4), none, none, none] [] (ak_mrg hc hm o) Q := by
  refine am_j0_693 (⟨hb 1 (by decide) (by decide), hb 2 (by decide) (by decide), am_lw334 (ak_MJ_imp P (fun v hc' q => ?_) (fun x hc' q => ?_))⟩)
  · exact ⟨hb 1 (by decide) (by decide), hb 2 (by decide) (by decide), ak_MJ_up1 (ak_MJ_deep (Nat.le_succ d) (ak_MJ_imp q (fun b hm' r => ak_MI_up1 (am_s197 (⟨fun ht => ⟨fun h => absurd rfl h, fun _ => ⟨⟨by decide, by decide⟩, fun _ => hk _ _ _ r.1, fun hn => absurd (ak_lsign0.mpr (ak_mrg_o.trans r.2.2)) hn⟩⟩, fun ht => absurd r.2.1 ht⟩))) (fun _ _ h => h.elim)))⟩
  · obtain ⟨c, h1, q⟩ := q
    refine ⟨c, h1, ⟨hb 1 (by decide) (by decide), hb 2 (by decide) (by decide), ak_MJ_up1 (ak_MJ_deep (Nat.le_succ d) (ak_MJ_imp q (fun b hm' r => ak_MI_up1 (am_s197 ?_)) (fun _ _ h => h.elim)))⟩⟩
    refine ⟨fun ht => ⟨fun _ => hk _ _ _ r.1, fun h0 => ?_⟩, fun ht => absurd r.2 ht⟩
    exfalso
    subst h0
    simp at h1
theorem am_lc760 {e : ak_X3} {d : Nat} {ρ : List Nat} {hc hm : ak_S} {o : Int} {R : ak_S → ak_S → Prop} {Q : List Nat → ak_R3 → Prop} {x4 : Int} (hb : ∀ k : Int, 1 ≤ k → k ≤ 5 → 0 ≤ am_w32 (x4 + k) ∧ am_w32 (x4 + k) < (e.1 : Int))
    (P : ak_cI e d ρ 176 307 [am_i (am_I0 e.2 (am_SP + 2) (am_w32 (x4 + 1)).toNat)] hc hm [(0, 1), (2, 2)] R)
    (hk : ∀ hc' hm' o', R hc' hm' → ak_W1 e 2 (d + 1) 0 ρ 23 [some (am_r (am_SP + 2)), some (am_r 1), some (am_r 110), some (am_r 211), some (am_i (am_w32 (x4 + 6))), none, none, none] [] (ak_mrg hc' hm' o') Q) :
    ak_W1 e 2 (d + 1) 0 ρ 760 [some (am_r (am_SP + 2)), some (am_r 1), some (am_r 110), some (am_r 211), some (am_i x4), none, none, none] [] (ak_mrg hc hm o) Q := by
  refine am_j0_760 (⟨hb 1 (by decide) (by decide), am_lw335 (ak_MI_imp P (fun v hc' q => ?_) (fun x hc' q => ?_))⟩)
  · exact ⟨hb 1 (by decide) (by decide), ak_MI_up1 (ak_MI_deep (Nat.le_succ d) (ak_MI_imp q (fun b hm' r => ak_MI_up1 (am_s197 (⟨fun ht => ⟨fun h => absurd rfl h, fun _ => ⟨⟨by decide, by decide⟩, fun _ => hk _ _ _ r.1, fun hn => absurd (ak_lsign0.mpr (ak_mrg_o.trans r.2.2)) hn⟩⟩, fun ht => absurd r.2.1 ht⟩))) (fun _ _ h => h.elim)))⟩
  · obtain ⟨c, h1, q⟩ := q
    refine ⟨c, h1, ⟨hb 1 (by decide) (by decide), ak_MI_up1 (ak_MI_deep (Nat.le_succ d) (ak_MI_imp q (fun b hm' r => ak_MI_up1 (am_s197 ?_)) (fun _ _ h => h.elim)))⟩⟩
    refine ⟨fun ht => ⟨fun _ => hk _ _ _ r.1, fun h0 => ?_⟩, fun ht => absurd r.2 ht⟩
    exfalso
    subst h0
    simp at h1
theorem am_lc816 {e : ak_X3} {d : Nat} {ρ : List Nat} {hc hm : ak_S} {o : Int} {R : ak_S → ak_S → Prop} {Q : List Nat → ak_R3 → Prop} {x4 : Int} (hb : ∀ k : Int, 1 ≤ k → k ≤ 5 → 0 ≤ am_w32 (x4 + k) ∧ am_w32 (x4 + k) < (e.1 : Int))
    (P : ak_cI e d ρ 177 310 [am_i (am_I0 e.2 (am_SP + 2) (am_w32 (x4 + 1)).toNat), am_i (am_I0 e.2 (am_SP + 2) (am_w32 (x4 + 2)).toNat), am_i (am_I0 e.2 (am_SP + 2) (am_w32 (x4 + 3)).toNat), am_l ((Int64.ofInt ((Int64.ofInt (am_I0 e.2 (am_SP + 2) (am_w32 (x4 + 4)).toNat) <<< ((Int32.ofInt 32).toInt64 &&& 63)).toInt) ||| Int64.ofInt ((Int64.ofInt (am_I0 e.2 (am_SP + 2) (am_w32 (x4 + 5)).toNat) &&& Int64.ofInt 4294967295).toInt)).toInt)] hc hm [(0, 1), (1, 2), (2, 3)] R)
    (hk : ∀ hc' hm' o', R hc' hm' → ak_W1 e 2 (d + 1) 0 ρ 23 [some (am_r (am_SP + 2)), some (am_r 1), some (am_r 110), some (am_r 211), some (am_i (am_w32 (x4 + 6))), none, none, none] [] (ak_mrg hc' hm' o') Q) :
    ak_W1 e 2 (d + 1) 0 ρ 816 [some (am_r (am_SP + 2)), some (am_r 1), some (am_r 110), some (am_r 211), some (am_i x4), none, none, none] [] (ak_mrg hc hm o) Q := by
  refine am_j0_816 (⟨hb 1 (by decide) (by decide), hb 2 (by decide) (by decide), hb 3 (by decide) (by decide), hb 4 (by decide) (by decide), hb 5 (by decide) (by decide), am_lw336 (ak_MI_imp P (fun v hc' q => ?_) (fun x hc' q => ?_))⟩)
  · exact ⟨hb 1 (by decide) (by decide), hb 2 (by decide) (by decide), hb 3 (by decide) (by decide), hb 4 (by decide) (by decide), hb 5 (by decide) (by decide), ak_MI_up1 (ak_MI_deep (Nat.le_succ d) (ak_MI_imp q (fun b hm' r => ak_MI_up1 (am_s197 (⟨fun ht => ⟨fun h => absurd rfl h, fun _ => ⟨⟨by decide, by decide⟩, fun _ => hk _ _ _ r.1, fun hn => absurd (ak_lsign0.mpr (ak_mrg_o.trans r.2.2)) hn⟩⟩, fun ht => absurd r.2.1 ht⟩))) (fun _ _ h => h.elim)))⟩
  · obtain ⟨c, h1, q⟩ := q
    refine ⟨c, h1, ⟨hb 1 (by decide) (by decide), hb 2 (by decide) (by decide), hb 3 (by decide) (by decide), hb 4 (by decide) (by decide), hb 5 (by decide) (by decide), ak_MI_up1 (ak_MI_deep (Nat.le_succ d) (ak_MI_imp q (fun b hm' r => ak_MI_up1 (am_s197 ?_)) (fun _ _ h => h.elim)))⟩⟩
    refine ⟨fun ht => ⟨fun _ => hk _ _ _ r.1, fun h0 => ?_⟩, fun ht => absurd r.2 ht⟩
    exfalso
    subst h0
    simp at h1
theorem am_lc940 {e : ak_X3} {d : Nat} {ρ : List Nat} {hc hm : ak_S} {o : Int} {R : ak_S → ak_S → Prop} {Q : List Nat → ak_R3 → Prop} {x4 : Int} (hb : ∀ k : Int, 1 ≤ k → k ≤ 5 → 0 ≤ am_w32 (x4 + k) ∧ am_w32 (x4 + k) < (e.1 : Int))
    (P : ak_cI e d ρ 178 311 [am_i (am_I0 e.2 (am_SP + 2) (am_w32 (x4 + 1)).toNat)] hc hm [(0, 1), (1, 2)] R)
    (hk : ∀ hc' hm' o', R hc' hm' → ak_W1 e 2 (d + 1) 0 ρ 23 [some (am_r (am_SP + 2)), some (am_r 1), some (am_r 110), some (am_r 211), some (am_i (am_w32 (x4 + 6))), none, none, none] [] (ak_mrg hc' hm' o') Q) :
    ak_W1 e 2 (d + 1) 0 ρ 940 [some (am_r (am_SP + 2)), some (am_r 1), some (am_r 110), some (am_r 211), some (am_i x4), none, none, none] [] (ak_mrg hc hm o) Q := by
  refine am_j0_940 (⟨hb 1 (by decide) (by decide), am_lw337 (ak_MI_imp P (fun v hc' q => ?_) (fun x hc' q => ?_))⟩)
  · exact ⟨hb 1 (by decide) (by decide), ak_MI_up1 (ak_MI_deep (Nat.le_succ d) (ak_MI_imp q (fun b hm' r => ak_MI_up1 (am_s197 (⟨fun ht => ⟨fun h => absurd rfl h, fun _ => ⟨⟨by decide, by decide⟩, fun _ => hk _ _ _ r.1, fun hn => absurd (ak_lsign0.mpr (ak_mrg_o.trans r.2.2)) hn⟩⟩, fun ht => absurd r.2.1 ht⟩))) (fun _ _ h => h.elim)))⟩
  · obtain ⟨c, h1, q⟩ := q
    refine ⟨c, h1, ⟨hb 1 (by decide) (by decide), ak_MI_up1 (ak_MI_deep (Nat.le_succ d) (ak_MI_imp q (fun b hm' r => ak_MI_up1 (am_s197 ?_)) (fun _ _ h => h.elim)))⟩⟩
    refine ⟨fun ht => ⟨fun _ => hk _ _ _ r.1, fun h0 => ?_⟩, fun ht => absurd r.2 ht⟩
    exfalso
    subst h0
    simp at h1
theorem am_lc996 {e : ak_X3} {d : Nat} {ρ : List Nat} {hc hm : ak_S} {o : Int} {R : ak_S → ak_S → Prop} {Q : List Nat → ak_R3 → Prop} {x4 : Int} (hb : ∀ k : Int, 1 ≤ k → k ≤ 5 → 0 ≤ am_w32 (x4 + k) ∧ am_w32 (x4 + k) < (e.1 : Int))
    (P : ak_cI e d ρ 179 312 [am_i (am_I0 e.2 (am_SP + 2) (am_w32 (x4 + 1)).toNat), am_i (am_I0 e.2 (am_SP + 2) (am_w32 (x4 + 2)).toNat)] hc hm [(0, 1), (2, 2)] R)
    (hk : ∀ hc' hm' o', R hc' hm' → ak_W1 e 2 (d + 1) 0 ρ 23 [some (am_r (am_SP + 2)), some (am_r 1), some (am_r 110), some (am_r 211), some (am_i (am_w32 (x4 + 6))), none, none, none] [] (ak_mrg hc' hm' o') Q) :
    ak_W1 e 2 (d + 1) 0 ρ 996 [some (am_r (am_SP + 2)), some (am_r 1), some (am_r 110), some (am_r 211), some (am_i x4), none, none, none] [] (ak_mrg hc hm o) Q := by
  refine am_j0_996 (⟨hb 1 (by decide) (by decide), hb 2 (by decide) (by decide), am_lw338 (ak_MI_imp P (fun v hc' q => ?_) (fun x hc' q => ?_))⟩)
  · exact ⟨hb 1 (by decide) (by decide), hb 2 (by decide) (by decide), ak_MI_up1 (ak_MI_deep (Nat.le_succ d) (ak_MI_imp q (fun b hm' r => ak_MI_up1 (am_s197 (⟨fun ht => ⟨fun h => absurd rfl h, fun _ => ⟨⟨by decide, by decide⟩, fun _ => hk _ _ _ r.1, fun hn => absurd (ak_lsign0.mpr (ak_mrg_o.trans r.2.2)) hn⟩⟩, fun ht => absurd r.2.1 ht⟩))) (fun _ _ h => h.elim)))⟩
  · obtain ⟨c, h1, q⟩ := q
    refine ⟨c, h1, ⟨hb 1 (by decide) (by decide), hb 2 (by decide) (by decide), ak_MI_up1 (ak_MI_deep (Nat.le_succ d) (ak_MI_imp q (fun b hm' r => ak_MI_up1 (am_s197 ?_)) (fun _ _ h => h.elim)))⟩⟩
    refine ⟨fun ht => ⟨fun _ => hk _ _ _ r.1, fun h0 => ?_⟩, fun ht => absurd r.2 ht⟩
    exfalso
    subst h0
    simp at h1
theorem am_lc1064 {e : ak_X3} {d : Nat} {ρ : List Nat} {hc hm : ak_S} {o : Int} {R : ak_S → ak_S → Prop} {Q : List Nat → ak_R3 → Prop} {x4 : Int} (hb : ∀ k : Int, 1 ≤ k → k ≤ 5 → 0 ≤ am_w32 (x4 + k) ∧ am_w32 (x4 + k) < (e.1 : Int))
    (P : ak_cI e d ρ 180 313 [am_i (am_I0 e.2 (am_SP + 2) (am_w32 (x4 + 1)).toNat)] hc hm [(0, 1), (2, 2)] R)
    (hk : ∀ hc' hm' o', R hc' hm' → ak_W1 e 2 (d + 1) 0 ρ 23 [some (am_r (am_SP + 2)), some (am_r 1), some (am_r 110), some (am_r 211), some (am_i (am_w32 (x4 + 6))), none, none, none] [] (ak_mrg hc' hm' o') Q) :
    ak_W1 e 2 (d + 1) 0 ρ 1064 [some (am_r (am_SP + 2)), some (am_r 1), some (am_r 110), some (am_r 211), some (am_i x4), none, none, none] [] (ak_mrg hc hm o) Q := by
  refine am_j0_1064 (⟨hb 1 (by decide) (by decide), am_lw339 (ak_MI_imp P (fun v hc' q => ?_) (fun x hc' q => ?_))⟩)
  · exact ⟨hb 1 (by decide) (by decide), ak_MI_up1 (ak_MI_deep (Nat.le_succ d) (ak_MI_imp q (fun b hm' r => ak_MI_up1 (am_s197 (⟨fun ht => ⟨fun h => absurd rfl h, fun _ => ⟨⟨by decide, by decide⟩, fun _ => hk _ _ _ r.1, fun hn => absurd (ak_lsign0.mpr (ak_mrg_o.trans r.2.2)) hn⟩⟩, fun ht => absurd r.2.1 ht⟩))) (fun _ _ h => h.elim)))⟩
  · obtain ⟨c, h1, q⟩ := q
    refine ⟨c, h1, ⟨hb 1 (by decide) (by decide), ak_MI_up1 (ak_MI_deep (Nat.le_succ d) (ak_MI_imp q (fun b hm' r => ak_MI_up1 (am_s197 ?_)) (fun _ _ h => h.elim)))⟩⟩
    refine ⟨fun ht => ⟨fun _ => hk _ _ _ r.1, fun h0 => ?_⟩, fun ht => absurd r.2 ht⟩
    exfalso
    subst h0
    simp at h1
theorem am_lc1120 {e : ak_X3} {d : Nat} {ρ : List Nat} {hc hm : ak_S} {o : Int} {R : ak_S → ak_S → Prop} {Q : List Nat → ak_R3 → Prop} {x4 : Int} (hb : ∀ k : Int, 1 ≤ k → k ≤ 5 → 0 ≤ am_w32 (x4 + k) ∧ am_w32 (x4 + k) < (e.1 : Int))
    (P : ak_cI e d ρ 181 314 [am_i (am_I0 e.2 (am_SP + 2) (am_w32 (x4 + 1)).toNat), am_i (am_I0 e.2 (am_SP + 2) (am_w32 (x4 + 2)).toNat)] hc hm [(0, 1), (1, 3), (2, 2)] R)
    (hk : ∀ hc' hm' o', R hc' hm' → ak_W1 e 2 (d + 1) 0 ρ 23 [some (am_r (am_SP + 2)), some (am_r 1), some (am_r 110), some (am_r 211), some (am_i (am_w32 (x4 + 6))), none, none, none] [] (ak_mrg hc' hm' o') Q) :
    ak_W1 e 2 (d + 1) 0 ρ 1120 [some (am_r (am_SP + 2)), some (am_r 1), some (am_r 110), some (am_r 211), some (am_i x4), none, none, none] [] (ak_mrg hc hm o) Q := by
  refine am_j0_1120 (⟨hb 1 (by decide) (by decide), hb 2 (by decide) (by decide), am_lw340 (ak_MI_imp P (fun v hc' q => ?_) (fun x hc' q => ?_))⟩)
  · exact ⟨hb 1 (by decide) (by decide), hb 2 (by decide) (by decide), ak_MI_up1 (ak_MI_deep (Nat.le_succ d) (ak_MI_imp q (fun b hm' r => ak_MI_up1 (am_s197 (⟨fun ht => ⟨fun h => absurd rfl h, fun _ => ⟨⟨by decide, by decide⟩, fun _ => hk _ _ _ r.1, fun hn => absurd (ak_lsign0.mpr (ak_mrg_o.trans r.2.2)) hn⟩⟩, fun ht => absurd r.2.1 ht⟩))) (fun _ _ h => h.elim)))⟩
  · obtain ⟨c, h1, q⟩ := q
    refine ⟨c, h1, ⟨hb 1 (by decide) (by decide), hb 2 (by decide) (by decide), ak_MI_up1 (ak_MI_deep (Nat.le_succ d) (ak_MI_imp q (fun b hm' r => ak_MI_up1 (am_s197 ?_)) (fun _ _ h => h.elim)))⟩⟩
    refine ⟨fun ht => ⟨fun _ => hk _ _ _ r.1, fun h0 => ?_⟩, fun ht => absurd r.2 ht⟩
    exfalso
    subst h0
    simp at h1
theorem am_lc1188 {e : ak_X3} {d : Nat} {ρ : List Nat} {hc hm : ak_S} {o : Int} {R : ak_S → ak_S → Prop} {Q : List Nat → ak_R3 → Prop} {x4 : Int} (hb : ∀ k : Int, 1 ≤ k → k ≤ 5 → 0 ≤ am_w32 (x4 + k) ∧ am_w32 (x4 + k) < (e.1 : Int))
    (P : ak_cI e d ρ 182 315 [am_i (am_I0 e.2 (am_SP + 2) (am_w32 (x4 + 1)).toNat), am_i (am_I0 e.2 (am_SP + 2) (am_w32 (x4 + 2)).toNat), am_i (am_I0 e.2 (am_SP + 2) (am_w32 (x4 + 3)).toNat)] hc hm [(0, 1), (2, 2)] R)
    (hk : ∀ hc' hm' o', R hc' hm' → ak_W1 e 2 (d + 1) 0 ρ 23 [some (am_r (am_SP + 2)), some (am_r 1), some (am_r 110), some (am_r 211), some (am_i (am_w32 (x4 + 6))), none, none, none] [] (ak_mrg hc' hm' o') Q) :
    ak_W1 e 2 (d + 1) 0 ρ 1188 [some (am_r (am_SP + 2)), some (am_r 1), some (am_r 110), some (am_r 211), some (am_i x4), none, none, none] [] (ak_mrg hc hm o) Q := by
  refine am_j0_1188 (⟨hb 1 (by decide) (by decide), hb 2 (by decide) (by decide), hb 3 (by decide) (by decide), am_lw341 (ak_MI_imp P (fun v hc' q => ?_) (fun x hc' q => ?_))⟩)
  · exact ⟨hb 1 (by decide) (by decide), hb 2 (by decide) (by decide), hb 3 (by decide) (by decide), ak_MI_up1 (ak_MI_deep (Nat.le_succ d) (ak_MI_imp q (fun b hm' r => ak_MI_up1 (am_s197 (⟨fun ht => ⟨fun h => absurd rfl h, fun _ => ⟨⟨by decide, by decide⟩, fun _ => hk _ _ _ r.1, fun hn => absurd (ak_lsign0.mpr (ak_mrg_o.trans r.2.2)) hn⟩⟩, fun ht => absurd r.2.1 ht⟩))) (fun _ _ h => h.elim)))⟩
  · obtain ⟨c, h1, q⟩ := q
    refine ⟨c, h1, ⟨hb 1 (by decide) (by decide), hb 2 (by decide) (by decide), hb 3 (by decide) (by decide), ak_MI_up1 (ak_MI_deep (Nat.le_succ d) (ak_MI_imp q (fun b hm' r => ak_MI_up1 (am_s197 ?_)) (fun _ _ h => h.elim)))⟩⟩
    refine ⟨fun ht => ⟨fun _ => hk _ _ _ r.1, fun h0 => ?_⟩, fun ht => absurd r.2 ht⟩
    exfalso
    subst h0
    simp at h1
theorem am_lc1268 {e : ak_X3} {d : Nat} {ρ : List Nat} {hc hm : ak_S} {o : Int} {R : ak_S → ak_S → Prop} {Q : List Nat → ak_R3 → Prop} {x4 : Int} (hb : ∀ k : Int, 1 ≤ k → k ≤ 5 → 0 ≤ am_w32 (x4 + k) ∧ am_w32 (x4 + k) < (e.1 : Int))
    (P : ak_cJ e d ρ 183 316 [am_i (am_I0 e.2 (am_SP + 2) (am_w32 (x4 + 1)).toNat), am_i (am_I0 e.2 (am_SP + 2) (am_w32 (x4 + 2)).toNat), am_i (am_I0 e.2 (am_SP + 2) (am_w32 (x4 + 3)).toNat)] hc hm [(0, 1), (1, 3), (2, 2)] R)
    (hk : ∀ hc' hm' o', R hc' hm' → ak_W1 e 2 (d + 1) 0 ρ 23 [some (am_r (am_SP + 2)), some (am_r 1), some (am_r 110), some (am_r 211), some (am_i (am_w32 (x4 + 6))), none, none, none] [] (ak_mrg hc' hm' o') Q) :
    ak_W1 e 2 (d + 1) 0 ρ 1268 [some (am_r (am_SP + 2)), some (am_r 1), some (am_r 110), some (am_r 211), some (am_i x4), none, none, none] [] (ak_mrg hc hm o) Q := by
  refine am_j0_1268 (⟨hb 1 (by decide) (by decide), hb 2 (by decide) (by decide), hb 3 (by decide) (by decide), am_lw342 (ak_MJ_imp P (fun v hc' q => ?_) (fun x hc' q => ?_))⟩)
  · exact ⟨hb 1 (by decide) (by decide), hb 2 (by decide) (by decide), hb 3 (by decide) (by decide), ak_MJ_up1 (ak_MJ_deep (Nat.le_succ d) (ak_MJ_imp q (fun b hm' r => ak_MI_up1 (am_s197 (⟨fun ht => ⟨fun h => absurd rfl h, fun _ => ⟨⟨by decide, by decide⟩, fun _ => hk _ _ _ r.1, fun hn => absurd (ak_lsign0.mpr (ak_mrg_o.trans r.2.2)) hn⟩⟩, fun ht => absurd r.2.1 ht⟩))) (fun _ _ h => h.elim)))⟩
  · obtain ⟨c, h1, q⟩ := q
    refine ⟨c, h1, ⟨hb 1 (by decide) (by decide), hb 2 (by decide) (by decide), hb 3 (by decide) (by decide), ak_MJ_up1 (ak_MJ_deep (Nat.le_succ d) (ak_MJ_imp q (fun b hm' r => ak_MI_up1 (am_s197 ?_)) (fun _ _ h => h.elim)))⟩⟩
    refine ⟨fun ht => ⟨fun _ => hk _ _ _ r.1, fun h0 => ?_⟩, fun ht => absurd r.2 ht⟩
    exfalso
    subst h0
    simp at h1
theorem am_lc1347 {e : ak_X3} {d : Nat} {ρ : List Nat} {hc hm : ak_S} {o : Int} {R : ak_S → ak_S → Prop} {Q : List Nat → ak_R3 → Prop} {x4 : Int} (hb : ∀ k : Int, 1 ≤ k → k ≤ 5 → 0 ≤ am_w32 (x4 + k) ∧ am_w32 (x4 + k) < (e.1 : Int))
    (P : ak_cI e d ρ 184 317 [am_i (am_I0 e.2 (am_SP + 2) (am_w32 (x4 + 1)).toNat), am_i (am_I0 e.2 (am_SP + 2) (am_w32 (x4 + 2)).toNat)] hc hm [(0, 1), (2, 2)] R)
    (hk : ∀ hc' hm' o', R hc' hm' → ak_W1 e 2 (d + 1) 0 ρ 23 [some (am_r (am_SP + 2)), some (am_r 1), some (am_r 110), some (am_r 211), some (am_i (am_w32 (x4 + 6))), none, none, none] [] (ak_mrg hc' hm' o') Q) :
    ak_W1 e 2 (d + 1) 0 ρ 1347 [some (am_r (am_SP + 2)), some (am_r 1), some (am_r 110), some (am_r 211), some (am_i x4), none, none, none] [] (ak_mrg hc hm o) Q := by
  refine am_j0_1347 (⟨hb 1 (by decide) (by decide), hb 2 (by decide) (by decide), am_lw343 (ak_MI_imp P (fun v hc' q => ?_) (fun x hc' q => ?_))⟩)
  · exact ⟨hb 1 (by decide) (by decide), hb 2 (by decide) (by decide), ak_MI_up1 (ak_MI_deep (Nat.le_succ d) (ak_MI_imp q (fun b hm' r => ak_MI_up1 (am_s197 (⟨fun ht => ⟨fun h => absurd rfl h, fun _ => ⟨⟨by decide, by decide⟩, fun _ => hk _ _ _ r.1, fun hn => absurd (ak_lsign0.mpr (ak_mrg_o.trans r.2.2)) hn⟩⟩, fun ht => absurd r.2.1 ht⟩))) (fun _ _ h => h.elim)))⟩
  · obtain ⟨c, h1, q⟩ := q
    refine ⟨c, h1, ⟨hb 1 (by decide) (by decide), hb 2 (by decide) (by decide), ak_MI_up1 (ak_MI_deep (Nat.le_succ d) (ak_MI_imp q (fun b hm' r => ak_MI_up1 (am_s197 ?_)) (fun _ _ h => h.elim)))⟩⟩
    refine ⟨fun ht => ⟨fun _ => hk _ _ _ r.1, fun h0 => ?_⟩, fun ht => absurd r.2 ht⟩
    exfalso
    subst h0
    simp at h1
theorem am_lc1415 {e : ak_X3} {d : Nat} {ρ : List Nat} {hc hm : ak_S} {o : Int} {R : ak_S → ak_S → Prop} {Q : List Nat → ak_R3 → Prop} {x4 : Int} (hb : ∀ k : Int, 1 ≤ k → k ≤ 5 → 0 ≤ am_w32 (x4 + k) ∧ am_w32 (x4 + k) < (e.1 : Int))
    (P : ak_cI e d ρ 185 318 [am_i (am_I0 e.2 (am_SP + 2) (am_w32 (x4 + 1)).toNat), am_i (am_I0 e.2 (am_SP + 2) (am_w32 (x4 + 2)).toNat), am_i (am_I0 e.2 (am_SP + 2) (am_w32 (x4 + 3)).toNat)] hc hm [(0, 1), (1, 3), (2, 2)] R)
    (hk : ∀ hc' hm' o', R hc' hm' → ak_W1 e 2 (d + 1) 0 ρ 23 [some (am_r (am_SP + 2)), some (am_r 1), some (am_r 110), some (am_r 211), some (am_i (am_w32 (x4 + 6))), none, none, none] [] (ak_mrg hc' hm' o') Q) :
    ak_W1 e 2 (d + 1) 0 ρ 1415 [some (am_r (am_SP + 2)), some (am_r 1), some (am_r 110), some (am_r 211), some (am_i x4), none, none, none] [] (ak_mrg hc hm o) Q := by
  refine am_j0_1415 (⟨hb 1 (by decide) (by decide), hb 2 (by decide) (by decide), hb 3 (by decide) (by decide), am_lw344 (ak_MI_imp P (fun v hc' q => ?_) (fun x hc' q => ?_))⟩)
  · exact ⟨hb 1 (by decide) (by decide), hb 2 (by decide) (by decide), hb 3 (by decide) (by decide), ak_MI_up1 (ak_MI_deep (Nat.le_succ d) (ak_MI_imp q (fun b hm' r => ak_MI_up1 (am_s197 (⟨fun ht => ⟨fun h => absurd rfl h, fun _ => ⟨⟨by decide, by decide⟩, fun _ => hk _ _ _ r.1, fun hn => absurd (ak_lsign0.mpr (ak_mrg_o.trans r.2.2)) hn⟩⟩, fun ht => absurd r.2.1 ht⟩))) (fun _ _ h => h.elim)))⟩
  · obtain ⟨c, h1, q⟩ := q
    refine ⟨c, h1, ⟨hb 1 (by decide) (by decide), hb 2 (by decide) (by decide), hb 3 (by decide) (by decide), ak_MI_up1 (ak_MI_deep (Nat.le_succ d) (ak_MI_imp q (fun b hm' r => ak_MI_up1 (am_s197 ?_)) (fun _ _ h => h.elim)))⟩⟩
    refine ⟨fun ht => ⟨fun _ => hk _ _ _ r.1, fun h0 => ?_⟩, fun ht => absurd r.2 ht⟩
    exfalso
    subst h0
    simp at h1
theorem am_lc1495 {e : ak_X3} {d : Nat} {ρ : List Nat} {hc hm : ak_S} {o : Int} {R : ak_S → ak_S → Prop} {Q : List Nat → ak_R3 → Prop} {x4 : Int} (hb : ∀ k : Int, 1 ≤ k → k ≤ 5 → 0 ≤ am_w32 (x4 + k) ∧ am_w32 (x4 + k) < (e.1 : Int))
    (P : ak_cI e d ρ 186 319 [am_i (am_I0 e.2 (am_SP + 2) (am_w32 (x4 + 1)).toNat), am_i (am_I0 e.2 (am_SP + 2) (am_w32 (x4 + 2)).toNat)] hc hm [(0, 1), (1, 3), (2, 2)] R)
    (hk : ∀ hc' hm' o', R hc' hm' → ak_W1 e 2 (d + 1) 0 ρ 23 [some (am_r (am_SP + 2)), some (am_r 1), some (am_r 110), some (am_r 211), some (am_i (am_w32 (x4 + 6))), none, none, none] [] (ak_mrg hc' hm' o') Q) :
    ak_W1 e 2 (d + 1) 0 ρ 1495 [some (am_r (am_SP + 2)), some (am_r 1), some (am_r 110), some (am_r 211), some (am_i x4), none, none, none] [] (ak_mrg hc hm o) Q := by
  refine am_j0_1495 (⟨hb 1 (by decide) (by decide), hb 2 (by decide) (by decide), am_lw345 (ak_MI_imp P (fun v hc' q => ?_) (fun x hc' q => ?_))⟩)
  · exact ⟨hb 1 (by decide) (by decide), hb 2 (by decide) (by decide), ak_MI_up1 (ak_MI_deep (Nat.le_succ d) (ak_MI_imp q (fun b hm' r => ak_MI_up1 (am_s197 (⟨fun ht => ⟨fun h => absurd rfl h, fun _ => ⟨⟨by decide, by decide⟩, fun _ => hk _ _ _ r.1, fun hn => absurd (ak_lsign0.mpr (ak_mrg_o.trans r.2.2)) hn⟩⟩, fun ht => absurd r.2.1 ht⟩))) (fun _ _ h => h.elim)))⟩
  · obtain ⟨c, h1, q⟩ := q
    refine ⟨c, h1, ⟨hb 1 (by decide) (by decide), hb 2 (by decide) (by decide), ak_MI_up1 (ak_MI_deep (Nat.le_succ d) (ak_MI_imp q (fun b hm' r => ak_MI_up1 (am_s197 ?_)) (fun _ _ h => h.elim)))⟩⟩
    refine ⟨fun ht => ⟨fun _ => hk _ _ _ r.1, fun h0 => ?_⟩, fun ht => absurd r.2 ht⟩
    exfalso
    subst h0
    simp at h1
theorem am_lc1563 {e : ak_X3} {d : Nat} {ρ : List Nat} {hc hm : ak_S} {o : Int} {R : ak_S → ak_S → Prop} {Q : List Nat → ak_R3 → Prop} {x4 : Int} (hb : ∀ k : Int, 1 ≤ k → k ≤ 5 → 0 ≤ am_w32 (x4 + k) ∧ am_w32 (x4 + k) < (e.1 : Int))
    (P : ak_cI e d ρ 187 321 [am_i (am_I0 e.2 (am_SP + 2) (am_w32 (x4 + 1)).toNat), am_i (am_I0 e.2 (am_SP + 2) (am_w32 (x4 + 2)).toNat), am_i (am_I0 e.2 (am_SP + 2) (am_w32 (x4 + 3)).toNat)] hc hm [(0, 1), (1, 3), (2, 2)] R)
    (hk : ∀ hc' hm' o', R hc' hm' → ak_W1 e 2 (d + 1) 0 ρ 23 [some (am_r (am_SP + 2)), some (am_r 1), some (am_r 110), some (am_r 211), some (am_i (am_w32 (x4 + 6))), none, none, none] [] (ak_mrg hc' hm' o') Q) :
    ak_W1 e 2 (d + 1) 0 ρ 1563 [some (am_r (am_SP + 2)), some (am_r 1), some (am_r 110), some (am_r 211), some (am_i x4), none, none, none] [] (ak_mrg hc hm o) Q := by
  refine am_j0_1563 (⟨hb 1 (by decide) (by decide), hb 2 (by decide) (by decide), hb 3 (by decide) (by decide), am_lw346 (ak_MI_imp P (fun v hc' q => ?_) (fun x hc' q => ?_))⟩)
  · exact ⟨hb 1 (by decide) (by decide), hb 2 (by decide) (by decide), hb 3 (by decide) (by decide), ak_MI_up1 (ak_MI_deep (Nat.le_succ d) (ak_MI_imp q (fun b hm' r => ak_MI_up1 (am_s197 (⟨fun ht => ⟨fun h => absurd rfl h, fun _ => ⟨⟨by decide, by decide⟩, fun _ => hk _ _ _ r.1, fun hn => absurd (ak_lsign0.mpr (ak_mrg_o.trans r.2.2)) hn⟩⟩, fun ht => absurd r.2.1 ht⟩))) (fun _ _ h => h.elim)))⟩
  · obtain ⟨c, h1, q⟩ := q
    refine ⟨c, h1, ⟨hb 1 (by decide) (by decide), hb 2 (by decide) (by decide), hb 3 (by decide) (by decide), ak_MI_up1 (ak_MI_deep (Nat.le_succ d) (ak_MI_imp q (fun b hm' r => ak_MI_up1 (am_s197 ?_)) (fun _ _ h => h.elim)))⟩⟩
    refine ⟨fun ht => ⟨fun _ => hk _ _ _ r.1, fun h0 => ?_⟩, fun ht => absurd r.2 ht⟩
    exfalso
    subst h0
    simp at h1
theorem am_lc1643 {e : ak_X3} {d : Nat} {ρ : List Nat} {hc hm : ak_S} {o : Int} {R : ak_S → ak_S → Prop} {Q : List Nat → ak_R3 → Prop} {x4 : Int} (hb : ∀ k : Int, 1 ≤ k → k ≤ 5 → 0 ≤ am_w32 (x4 + k) ∧ am_w32 (x4 + k) < (e.1 : Int))
    (P : ak_cZ e d ρ 188 322 [am_i (am_I0 e.2 (am_SP + 2) (am_w32 (x4 + 1)).toNat), am_i (am_I0 e.2 (am_SP + 2) (am_w32 (x4 + 2)).toNat), am_i (am_I0 e.2 (am_SP + 2) (am_w32 (x4 + 3)).toNat)] hc hm [(0, 1), (2, 2)] R)
    (hk : ∀ hc' hm' o', R hc' hm' → ak_W1 e 2 (d + 1) 0 ρ 23 [some (am_r (am_SP + 2)), some (am_r 1), some (am_r 110), some (am_r 211), some (am_i (am_w32 (x4 + 6))), none, none, none] [] (ak_mrg hc' hm' o') Q) :
    ak_W1 e 2 (d + 1) 0 ρ 1643 [some (am_r (am_SP + 2)), some (am_r 1), some (am_r 110), some (am_r 211), some (am_i x4), none, none, none] [] (ak_mrg hc hm o) Q := by
  refine am_j0_1643 (⟨hb 1 (by decide) (by decide), hb 2 (by decide) (by decide), hb 3 (by decide) (by decide), am_lw347 (ak_MI_imp P (fun v hc' q => ?_) (fun x hc' q => ?_))⟩)
  · exact ⟨q.1, ⟨hb 1 (by decide) (by decide), hb 2 (by decide) (by decide), hb 3 (by decide) (by decide), ak_MI_up1 (ak_MI_deep (Nat.le_succ d) (ak_MI_imp q.2 (fun b hm' r => ak_MI_up1 (am_s197 (⟨fun ht => ⟨fun h => absurd rfl h, fun _ => ⟨⟨by decide, by decide⟩, ⟨fun h0 => ⟨fun _ => hk _ _ _ r.1, fun hn => absurd (ak_lsign0.mpr (ak_mrg_o.trans (r.2.2.trans h0))) hn⟩, fun h0 => ⟨fun _ => hk _ _ _ r.1, fun hn => absurd (ak_lsign0.mpr (ak_mrg_o.trans (q.1.resolve_left (fun z => h0 (r.2.2.symm.trans z))))) hn⟩⟩⟩⟩, fun ht => absurd r.2.1 ht⟩))) (fun _ _ h => h.elim)))⟩⟩
  · obtain ⟨c, h1, q⟩ := q
    refine ⟨c, h1, ⟨hb 1 (by decide) (by decide), hb 2 (by decide) (by decide), hb 3 (by decide) (by decide), ak_MI_up1 (ak_MI_deep (Nat.le_succ d) (ak_MI_imp q (fun b hm' r => ak_MI_up1 (am_s197 ?_)) (fun _ _ h => h.elim)))⟩⟩
    refine ⟨fun ht => ⟨fun _ => hk _ _ _ r.1, fun h0 => ?_⟩, fun ht => absurd r.2 ht⟩
    exfalso
    subst h0
    simp at h1
theorem am_lc1730 {e : ak_X3} {d : Nat} {ρ : List Nat} {hc hm : ak_S} {o : Int} {R : ak_S → ak_S → Prop} {Q : List Nat → ak_R3 → Prop} {x4 : Int} (hb : ∀ k : Int, 1 ≤ k → k ≤ 5 → 0 ≤ am_w32 (x4 + k) ∧ am_w32 (x4 + k) < (e.1 : Int))
    (P : ak_cI e d ρ 189 323 [] hc hm [(0, 1)] R)
    (hk : ∀ hc' hm' o', R hc' hm' → ak_W1 e 2 (d + 1) 0 ρ 23 [some (am_r (am_SP + 2)), some (am_r 1), some (am_r 110), some (am_r 211), some (am_i (am_w32 (x4 + 6))), none, none, none] [] (ak_mrg hc' hm' o') Q) :
    ak_W1 e 2 (d + 1) 0 ρ 1730 [some (am_r (am_SP + 2)), some (am_r 1), some (am_r 110), some (am_r 211), some (am_i x4), none, none, none] [] (ak_mrg hc hm o) Q := by
  refine am_j0_1730 (am_lw348 (ak_MI_imp P (fun v hc' q => ?_) (fun x hc' q => ?_)))
  · exact ak_MI_up1 (ak_MI_deep (Nat.le_succ d) (ak_MI_imp q (fun b hm' r => ak_MI_up1 (am_s197 (⟨fun ht => ⟨fun h => absurd rfl h, fun _ => ⟨⟨by decide, by decide⟩, fun _ => hk _ _ _ r.1, fun hn => absurd (ak_lsign0.mpr (ak_mrg_o.trans r.2.2)) hn⟩⟩, fun ht => absurd r.2.1 ht⟩))) (fun _ _ h => h.elim)))
  · obtain ⟨c, h1, q⟩ := q
    refine ⟨c, h1, ak_MI_up1 (ak_MI_deep (Nat.le_succ d) (ak_MI_imp q (fun b hm' r => ak_MI_up1 (am_s197 ?_)) (fun _ _ h => h.elim)))⟩
    refine ⟨fun ht => ⟨fun _ => hk _ _ _ r.1, fun h0 => ?_⟩, fun ht => absurd r.2 ht⟩
    exfalso
    subst h0
    simp at h1
theorem am_lc1774 {e : ak_X3} {d : Nat} {ρ : List Nat} {hc hm : ak_S} {o : Int} {R : ak_S → ak_S → Prop} {Q : List Nat → ak_R3 → Prop} {x4 : Int} (hb : ∀ k : Int, 1 ≤ k → k ≤ 5 → 0 ≤ am_w32 (x4 + k) ∧ am_w32 (x4 + k) < (e.1 : Int))
    (P : ak_cI e d ρ 190 324 [am_i (am_I0 e.2 (am_SP + 2) (am_w32 (x4 + 1)).toNat), am_i (am_I0 e.2 (am_SP + 2) (am_w32 (x4 + 2)).toNat)] hc hm [(0, 1), (1, 3), (2, 2)] R)
    (hk : ∀ hc' hm' o', R hc' hm' → ak_W1 e 2 (d + 1) 0 ρ 23 [some (am_r (am_SP + 2)), some (am_r 1), some (am_r 110), some (am_r 211), some (am_i (am_w32 (x4 + 6))), none, none, none] [] (ak_mrg hc' hm' o') Q) :
    ak_W1 e 2 (d + 1) 0 ρ 1774 [some (am_r (am_SP + 2)), some (am_r 1), some (am_r 110), some (am_r 211), some (am_i x4), none, none, none] [] (ak_mrg hc hm o) Q := by
  refine am_j0_1774 (⟨hb 1 (by decide) (by decide), hb 2 (by decide) (by decide), am_lw349 (ak_MI_imp P (fun v hc' q => ?_) (fun x hc' q => ?_))⟩)
  · exact ⟨hb 1 (by decide) (by decide), hb 2 (by decide) (by decide), ak_MI_up1 (ak_MI_deep (Nat.le_succ d) (ak_MI_imp q (fun b hm' r => ak_MI_up1 (am_s197 (⟨fun ht => ⟨fun h => absurd rfl h, fun _ => ⟨⟨by decide, by decide⟩, fun _ => hk _ _ _ r.1, fun hn => absurd (ak_lsign0.mpr (ak_mrg_o.trans r.2.2)) hn⟩⟩, fun ht => absurd r.2.1 ht⟩))) (fun _ _ h => h.elim)))⟩
  · obtain ⟨c, h1, q⟩ := q
    refine ⟨c, h1, ⟨hb 1 (by decide) (by decide), hb 2 (by decide) (by decide), ak_MI_up1 (ak_MI_deep (Nat.le_succ d) (ak_MI_imp q (fun b hm' r => ak_MI_up1 (am_s197 ?_)) (fun _ _ h => h.elim)))⟩⟩
    refine ⟨fun ht => ⟨fun _ => hk _ _ _ r.1, fun h0 => ?_⟩, fun ht => absurd r.2 ht⟩
    exfalso
    subst h0
    simp at h1
theorem am_lc1842 {e : ak_X3} {d : Nat} {ρ : List Nat} {hc hm : ak_S} {o : Int} {R : ak_S → ak_S → Prop} {Q : List Nat → ak_R3 → Prop} {x4 : Int} (hb : ∀ k : Int, 1 ≤ k → k ≤ 5 → 0 ≤ am_w32 (x4 + k) ∧ am_w32 (x4 + k) < (e.1 : Int))
    (P : ak_cI e d ρ 191 326 [] hc hm [(0, 1)] R)
    (hk : ∀ hc' hm' o', R hc' hm' → ak_W1 e 2 (d + 1) 0 ρ 23 [some (am_r (am_SP + 2)), some (am_r 1), some (am_r 110), some (am_r 211), some (am_i (am_w32 (x4 + 6))), none, none, none] [] (ak_mrg hc' hm' o') Q) :
    ak_W1 e 2 (d + 1) 0 ρ 1842 [some (am_r (am_SP + 2)), some (am_r 1), some (am_r 110), some (am_r 211), some (am_i x4), none, none, none] [] (ak_mrg hc hm o) Q := by
  refine am_j0_1842 (am_lw350 (ak_MI_imp P (fun v hc' q => ?_) (fun x hc' q => ?_)))
  · exact ak_MI_up1 (ak_MI_deep (Nat.le_succ d) (ak_MI_imp q (fun b hm' r => ak_MI_up1 (am_s197 (⟨fun ht => ⟨fun h => absurd rfl h, fun _ => ⟨⟨by decide, by decide⟩, fun _ => hk _ _ _ r.1, fun hn => absurd (ak_lsign0.mpr (ak_mrg_o.trans r.2.2)) hn⟩⟩, fun ht => absurd r.2.1 ht⟩))) (fun _ _ h => h.elim)))
  · obtain ⟨c, h1, q⟩ := q
    refine ⟨c, h1, ak_MI_up1 (ak_MI_deep (Nat.le_succ d) (ak_MI_imp q (fun b hm' r => ak_MI_up1 (am_s197 ?_)) (fun _ _ h => h.elim)))⟩
    refine ⟨fun ht => ⟨fun _ => hk _ _ _ r.1, fun h0 => ?_⟩, fun ht => absurd r.2 ht⟩
    exfalso
    subst h0
    simp at h1
