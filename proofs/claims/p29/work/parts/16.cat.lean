theorem am_covers {f t hp ct pc : Nat} : covers (⟨f, t, hp, ct⟩ : ExceptionTableEntry) pc = true ↔ (f ≤ pc ∧ pc < t) := by
  unfold covers
  simp
section AMJ
variable {p : Program} {l : Launch} {e : Env} {R : Room} {s : State} {m : MethodId} {args : Array Value} {below : List Frame} {meth : Method} {c : Code} {H : Heap} {locs : List Loc} {cells slots : Nat} {Q : State → Prop}
variable {cc : ByteArray} {pc : Nat} {jls : Array Slot} {ρ : am_A} {ro : Nat → Option (Nat × Nat)} {D : va_G} {A : Nat → Prop} {h : am_H} {own : String} {rest : List Value}
variable {Qc : Array Value → State → Outcome → State → Prop} {XC : String → State → State → Prop} {mc ms : Nat}
/-- a thrown exception: caught here, or it goes on to the caller -/
theorem am_thrown (hexec : p.tables.exec = Jvm.exec) (hb : c.code = cc) (hown : s.vm.findClass own = some m.cls) (hts : ∀ w ∈ lw_tblG, w.before args s = true) (hgs : am_gs A ρ s s.heap) (hlocks : meth.locks = false) {hl : List am_HE} (hhl : am_hlok own cc hl) (hxt : c.exceptionTable.toList = tableOf (am_hh hl)) {E : Nat} (hE : E < 3) {q : Addr} {ce : Cell}
    (hcell : H[q]? = some ce) (hv : ce.vm = .none) (hcl : s.vm.findClass (am_xn E) = some ce.cls) {ls : am_L} (hls : lv_has jls ls.length (am_lr ρ ls))
    (ko : am_hdf hl pc E = some none → vx_W p l e R s m args below meth c H locs cells slots Q (F0 m pc jls rest) q)
    (kc : ∀ g k, am_hdf hl pc E = some (some (g, k)) → ∃ l2, am_st ls k (.inr (.inr 0)) = some l2 ∧ ∀ jls', lv_has jls' ls.length (am_lr ρ (l2.set k none)) → W p l e R s m args below meth c H locs cells slots Q (F0 m g jls' [])) :
    vx_W p l e R s m args below meth c H locs cells slots Q (F0 m pc jls rest) q := by
  rcases am_hd_split hgs.2.2.2.2.2.2.2 (pc := pc) hE hl hhl with ⟨h1, -⟩ | ⟨pre, y, suf, h1, h2, h3, h4, h5⟩
  · exact ko h1
  · obtain ⟨l2, hst, kk⟩ := kc _ _ h4
    have hy := hhl y (by rw [h1]; exact List.mem_append_right _ List.mem_cons_self)
    obtain ⟨y1, y2, y3, y4, y5⟩ := hy
    rw [h3] at y3 y4
    have hsplit : c.exceptionTable.toList = tableOf (am_hh pre) ++ (⟨y.1, y.2.1, y.2.2.1, y.2.2.2.1⟩ : ExceptionTableEntry) :: tableOf (am_hh suf) := by
      rw [hxt, h1]
      unfold am_hh tableOf
      simp
    refine vx_catch (own := own) (name := am_xn E) (E := am_xn E) hown (tableOf (am_hh pre)) ⟨y.1, y.2.1, y.2.2.1, y.2.2.2.1⟩ (tableOf (am_hh suf)) hsplit ?_ (am_covers.mpr h2) y1 (hts _ y3) (hts _ y4) hcell hv hcl ?_
    · intro z hz
      unfold am_hh tableOf at hz
      rw [List.map_map] at hz
      obtain ⟨z0, hz0, rfl⟩ := List.mem_map.mp hz
      have hz1 := hhl z0 (by rw [h1]; exact List.mem_append_left _ hz0)
      rcases h5 z0 hz0 with q1 | q1
      · left
        cases hcv : covers _ pc with
        | false => rfl
        | true => exact absurd (am_covers.mp hcv) q1
      · exact Or.inr ⟨hz1.1, am_xn z0.2.2.2.2.1, hts _ hz1.2.2.1, q1⟩
    · have hle : ∀ jls', lv_has jls' ls.length ((y.2.2.2.2.2.2, Value.ref q) :: (am_lr ρ ls).filter (fun x => !(x.1 == y.2.2.2.2.2.2) && !(x.1 + 1 == y.2.2.2.2.2.2 && x.2.category == 2))) → lv_has jls' ls.length (am_lr ρ (l2.set y.2.2.2.2.2.2 none)) := by
        intro jls' hj
        refine ⟨hj.1, hj.2.1, fun x hx => ?_⟩
        obtain ⟨w, g1, g2⟩ := am_lr_inv hx
        have hne : x.1 ≠ y.2.2.2.2.2.2 := by
          intro hq
          obtain ⟨-, g3⟩ := am_get_lt g1
          rw [hq] at g3
          by_cases hlt : y.2.2.2.2.2.2 < l2.length
          · rw [List.getElem?_set_self hlt] at g3; cases g3
          · rw [List.getElem?_eq_none_iff.mpr (by rw [List.length_set]; omega)] at g3; cases g3
        have g4 : am_get l2 x.1 = some w := by
          obtain ⟨-, g3⟩ := am_get_lt g1
          rw [List.getElem?_set_ne (fun z => hne z.symm)] at g3
          exact am_get_of g3
        rcases am_st_get hst g4 with ⟨q1, -⟩ | ⟨-, -, q3, q4⟩
        · exact absurd q1 hne
        · refine hj.2.2 x (List.mem_cons.mpr (Or.inr (List.mem_filter.mpr ⟨?_, ?_⟩)))
          · have := am_lr_mem (ρ := ρ) q3
            rw [← g2] at this
            exact this
          · have e5 : x.2.category = am_cat w := by rw [g2, am_rep_cat]
            by_cases q5 : x.1 + 1 = y.2.2.2.2.2.2
            · have := q4 q5
              simp [hne, e5, this]
            · simp [hne, q5]
      obtain ⟨-, hkl, -⟩ := am_st_len hst
      rcases y5 with ⟨k, d1, d2, d3⟩ | ⟨d1, d3⟩
      · rw [d3] at kk
        exact lv_astore_n hexec hb d1 d2.symm hls hkl rfl (fun jl hjl => kk jl (hle jl hjl))
      · rw [d3] at kk
        exact lv_astore hexec hb d1 hls hkl rfl (fun jl hjl => kk jl (hle jl hjl))
end AMJ
