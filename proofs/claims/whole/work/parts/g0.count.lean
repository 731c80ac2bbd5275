/-! the run: there is room -/
section CNT
variable {s us O B Mt : Nat} {φ hr lv mt : Nat → Nat} {Us FR V : List Nat} {h0 m0 hc hm : ak_S}
theorem ak_sub_len : ∀ {l l' : List Nat}, l.Nodup → (∀ x, x ∈ l → x ∈ l') → l.length ≤ l'.length := by
  intro l
  induction l with
  | nil => intro l' _ _; exact Nat.zero_le _
  | cons a l ih =>
    intro l' nd h
    have nd2 := List.nodup_cons.mp nd
    have ha : a ∈ l' := h a List.mem_cons_self
    have := ih (l' := l'.erase a) nd2.2 (fun x hx => (List.mem_erase_of_ne (show x ≠ a from fun z => nd2.1 (by rw [← z]; exact hx))).mpr (h x (List.mem_cons_of_mem _ hx)))
    rw [List.length_erase_of_mem ha] at this
    have p : 0 < l'.length := List.length_pos_of_mem ha
    rw [List.length_cons]
    omega
/-- the other has a free frame -/
theorem ak_fre_M (w : ak_fre φ Us FR hc hm) : ∃ f, f < 564 ∧ hm.1 173 f = 0 := by
  obtain ⟨w1, w2, w3, w4, w5, w6, w7⟩ := w
  have hU : Us.length ≤ 560 := by
    have := ak_sub_len (l := Us) (l' := List.range 560) (List.nodup_append.mp w3).2.1 (fun x hx => List.mem_range.mpr ((w4 x).mp (List.mem_append_right _ hx)))
    rw [List.length_range] at this
    exact this
  rcases Classical.em (∃ f, f < 564 ∧ f ∉ Us.map φ) with ⟨f, h1, h2⟩ | hn
  · exact ⟨f, h1, (w7 f h1).2 h2⟩
  · exfalso
    have := ak_sub_len (l := List.range 564) (l' := Us.map φ) List.nodup_range (fun x hx => by
      rcases Classical.em (x ∈ Us.map φ) with g | g
      · exact g
      · exact absurd ⟨x, List.mem_range.mp hx, g⟩ hn)
    rw [List.length_range, List.length_map] at this
    omega
/-- the one has a free room -/
theorem ak_fre_C (w : ak_RM s us O B Mt φ hr lv mt Us FR V h0 m0 hc hm) (hV : V.length < 60) : 0 < FR.length := by
  obtain ⟨⟨w1, w2, w3, w4, w5, w6, w7⟩, wr, ⟨b1, b2, b3, b4, b5⟩⟩ := w
  have h1 := ak_sub_len (l := List.range 560) (l' := FR ++ Us) List.nodup_range (fun x hx => (w4 x).mpr (List.mem_range.mp hx))
  have h2 := ak_sub_len (l := Us) (l' := V ++ (List.range B).map (fun i => (hc.1 62 i).toNat)) (List.nodup_append.mp w3).2.1 (fun x hx => by
    rcases (wr x hx).2.2.2.2.1 with ⟨g, _⟩ | ⟨_, _, _, g⟩
    · exact List.mem_append_left _ g
    · obtain ⟨i, z1, z2⟩ := b5 x hx g
      exact List.mem_append_right _ (List.mem_map.mpr ⟨i, List.mem_range.mpr z1, by rw [z2]; exact Int.toNat_natCast _⟩))
  rw [List.length_range, List.length_append] at h1
  rw [List.length_append, List.length_map, List.length_range] at h2
  omega
end CNT
