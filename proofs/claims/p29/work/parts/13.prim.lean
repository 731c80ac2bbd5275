/-- what the code's rows must say of a call of a member that is taken as one step -/
def am_pok (own : String) (idx a : Nat) (sta : Bool) : Prop := match a with
  | 900 => sta = true ∧ Jvm.Cond.methodLink own idx Lib.Math.max.name ∈ lw_tblG ∧ Jvm.Cond.static Lib.Math.max.name ∈ lw_tblG ∧ Jvm.Cond.initialized "java/lang/Math" ∈ lw_tblG ∧ Jvm.Cond.code Lib.Math.max.name Lib.Math.max.code 2 (some .int) ∈ lw_tblG
  | 901 => sta = true ∧ Jvm.Cond.methodLink own idx Lib.Math.min.name ∈ lw_tblG ∧ Jvm.Cond.static Lib.Math.min.name ∈ lw_tblG ∧ Jvm.Cond.initialized "java/lang/Math" ∈ lw_tblG ∧ Jvm.Cond.code Lib.Math.min.name Lib.Math.min.code 2 (some .int) ∈ lw_tblG
  | 902 => sta = true ∧ Jvm.Cond.methodLink own idx Lib.MathLoose.min_long.x ∈ lw_tblG ∧ Jvm.Cond.static Lib.MathLoose.min_long.x ∈ lw_tblG ∧ Jvm.Cond.initialized "java/lang/Math" ∈ lw_tblG ∧ Jvm.Cond.code Lib.MathLoose.min_long.x Lib.MathLoose.min_long.code 4 (some .long) ∈ lw_tblG
  | 903 => sta = false ∧ Jvm.Cond.methodLink own idx Lib.objectInit ∈ lw_tblG ∧ Jvm.Cond.instanceMethod Lib.objectInit ∈ lw_tblG ∧ Jvm.Cond.code Lib.objectInit ⟨#[0xb1]⟩ 1 none ∈ lw_tblG
  | 904 => sta = true ∧ Jvm.Cond.methodLink own idx arraycopyName ∈ lw_tblG ∧ Jvm.Cond.native arraycopyName ∈ lw_tblG ∧ Jvm.Cond.static arraycopyName ∈ lw_tblG ∧ Jvm.Cond.initialized "java/lang/System" ∈ lw_tblG
  | _ => False
theorem am_cats_rep (ρ : am_A) (st : List am_V) : ((st.map (am_rep ρ)).map fun v => v.category).sum = am_cats st := by
  unfold am_cats
  rw [List.map_map]
  refine congrArg List.sum (List.map_congr_left fun v _ => am_rep_cat ρ v)
theorem am_cats_cons (v : am_V) (st : List am_V) : am_cats (v :: st) = am_cat v + am_cats st := by
  unfold am_cats; simp
theorem am_cpy_ne {α : Type} {f : Nat → Nat → α} {p q sp dp n r : Nat} (h : r ≠ q) : am_cpy f p q sp dp n r = f r := by
  funext j; unfold am_cpy; rw [if_neg h]
section AMP
variable {p : Program} {l : Launch} {e : Env} {R : Room} {s : State} {m : MethodId} {args : Array Value} {below : List Frame} {meth : Method} {c : Code} {H : Heap} {locs : List Loc} {cells slots : Nat} {Q : State → Prop}
variable {cc : ByteArray} {pc : Nat} {jls : Array Slot} {ρ : am_A} {ro : Nat → Option (Nat × Nat)} {D : va_G} {A : Nat → Prop} {h : am_H} {own : String} {rest : List Value}
theorem am_prim_sound (hexec : p.tables.exec = Jvm.exec) (hb : c.code = cc) (hml : c.maxLocals = jls.size) (hown : s.vm.findClass own = some m.cls) (hts : ∀ w ∈ lw_tblG, w.before args s = true) (hK : va_K D am_cl [] s) (hf : 1 ≤ R.frames) (hlo : 200 ≤ R.locals) (hcc : cells ≤ R.cells) (hss : slots ≤ R.slots)
    {a idx : Nat} {sta : Bool} {st st' : List am_V} {h' : am_H} (hp : am_prim ro a st h = some (st', h')) (hd : decode cc pc = .ok (if sta = true then .invokestatic idx else .invokespecial idx, 3)) (hpk : am_pok own idx a sta) (hcat : am_cats st ≤ 40) (hok : am_oks h.1.length st) (hC : am_CR ro D A s ρ h H locs) :
    am_oks h'.1.length st' ∧ h'.1 = h.1 ∧ am_hc h' = am_hc h ∧ am_hs h' = am_hs h ∧ am_okh h' ∧ (∀ q, am_SP ≤ q → h'.2.1 q = h.2.1 q ∧ h'.2.2.2.1 q = h.2.2.2.1 q) ∧
    ((∀ (H' : Heap) (locs' : List Loc), am_CR ro D A s ρ h' H' locs' → W p l e R s m args below meth c H' locs' cells slots Q (F0 m (pc + 3) jls (st'.map (am_rep ρ)))) →
      W p l e R s m args below meth c H locs cells slots Q (F0 m pc jls (st.map (am_rep ρ)))) := by
  have hokh := hC.2.2.2.2.1
  unfold am_prim at hp
  split at hp
  · cases hx : am_ii (fun x y => if x < y then y else x) st with
    | none => rw [hx] at hp; cases hp
    | some r0 =>
      rw [hx] at hp
      cases hp
      obtain ⟨x, y, r, rfl, rfl⟩ := am_ii_inv hx
      obtain ⟨hy, hok⟩ := am_oks_cons.mp hok
      obtain ⟨hx1, hok⟩ := am_oks_cons.mp hok
      obtain ⟨q0, q1, q2, q3, q4⟩ := hpk
      subst q0
      rw [am_cats_cons, am_cats_cons] at hcat
      refine ⟨am_oks_cons.mpr ⟨?_, hok⟩, rfl, rfl, rfl, hokh, fun q _ => ⟨rfl, rfl⟩, fun k => ?_⟩
      · show am_ok h.1.length _
        split <;> assumption
      · refine va_mmax hexec hb hml hown (hts _ q1) (hts _ q2) (hts _ q3) (hts _ q4) hf (by rw [am_cats_rep]; omega) hcc hss hd ?_
        have k2 := k H locs hC
        have e9 : (if Int32.ofInt x < Int32.ofInt y then Int32.ofInt y else Int32.ofInt x) = Int32.ofInt (if x < y then y else x) := by
          simp only [am_lt32 hx1.1 hx1.2 hy.1 hy.2]
          split <;> rfl
        rw [e9]
        exact k2
  · cases hx : am_ii (fun x y => if x < y then x else y) st with
    | none => rw [hx] at hp; cases hp
    | some r0 =>
      rw [hx] at hp
      cases hp
      obtain ⟨x, y, r, rfl, rfl⟩ := am_ii_inv hx
      obtain ⟨hy, hok⟩ := am_oks_cons.mp hok
      obtain ⟨hx1, hok⟩ := am_oks_cons.mp hok
      obtain ⟨q0, q1, q2, q3, q4⟩ := hpk
      subst q0
      rw [am_cats_cons, am_cats_cons] at hcat
      refine ⟨am_oks_cons.mpr ⟨?_, hok⟩, rfl, rfl, rfl, hokh, fun q _ => ⟨rfl, rfl⟩, fun k => ?_⟩
      · show am_ok h.1.length _
        split <;> assumption
      · refine va_mmin hexec hb hml hown (hts _ q1) (hts _ q2) (hts _ q3) (hts _ q4) hf (by rw [am_cats_rep]; omega) hcc hss hd ?_
        have k2 := k H locs hC
        have e9 : (if Int32.ofInt y < Int32.ofInt x then Int32.ofInt y else Int32.ofInt x) = Int32.ofInt (if x < y then x else y) := by
          simp only [am_lt32 hy.1 hy.2 hx1.1 hx1.2]
          split
          · rw [if_neg (by omega)]
          · split
            · rfl
            · rw [show x = y by omega]
        rw [e9]
        exact k2
  · cases hx : am_ll (fun x y => if y < x then y else x) st with
    | none => rw [hx] at hp; cases hp
    | some r0 =>
      rw [hx] at hp
      cases hp
      obtain ⟨x, y, r, rfl, rfl⟩ := am_ll_inv hx
      obtain ⟨hy, hok⟩ := am_oks_cons.mp hok
      obtain ⟨hx1, hok⟩ := am_oks_cons.mp hok
      obtain ⟨q0, q1, q2, q3, q4⟩ := hpk
      subst q0
      rw [am_cats_cons, am_cats_cons] at hcat
      refine ⟨am_oks_cons.mpr ⟨?_, hok⟩, rfl, rfl, rfl, hokh, fun q _ => ⟨rfl, rfl⟩, fun k => ?_⟩
      · show am_ok h.1.length _
        split <;> assumption
      · refine va_mmin_long hexec hb hml hown (hts _ q1) (hts _ q2) (hts _ q3) (hts _ q4) hf (by rw [am_cats_rep]; omega) hcc hss hd ?_
        have k2 := k H locs hC
        have e9 : (if Int64.ofInt y < Int64.ofInt x then Int64.ofInt y else Int64.ofInt x) = Int64.ofInt (if y < x then y else x) := by
          simp only [am_lt64 hy.1 hy.2 hx1.1 hx1.2]
          split <;> rfl
        rw [e9]
        exact k2
  · split at hp
    · rename_i q r
      split at hp
      · cases hp
      · rename_i h0
        cases hp
        obtain ⟨hy, hok2⟩ := am_oks_cons.mp hok
        obtain ⟨q0, q1, q2, q3⟩ := hpk
        subst q0
        rw [am_cats_cons] at hcat
        refine ⟨hok2, rfl, rfl, rfl, hokh, fun q _ => ⟨rfl, rfl⟩, fun k => ?_⟩
        have k2 := k H locs hC
        obtain ⟨i, rfl⟩ : ∃ i, q = i + 1 := ⟨q - 1, by omega⟩
        rw [List.map_cons, am_rep_lt (by omega)]
        refine W.objInit hexec hb hown (hts _ q1) (hts _ q2) (hts _ q3) rfl hml.symm rfl hd hf ?_ k2
        show 2 * 0 + _ + 12 ≤ _
        rw [am_cats_rep]
        omega
    · cases hp
  · split at hp
    · rename_i n dp q sp p0 r
      split at hp
      · rename_i c0 m0 d0 k0 hk1 hk2
        split at hp
        · rename_i hg
          obtain ⟨⟨g1, g2, g3, g4⟩, g5, g6, g7, g8, g9⟩ := hg
          subst g1
          obtain ⟨hn, hok⟩ := am_oks_cons.mp hok
          obtain ⟨hdp, hok⟩ := am_oks_cons.mp hok
          obtain ⟨hq, hok⟩ := am_oks_cons.mp hok
          obtain ⟨hsp, hok⟩ := am_oks_cons.mp hok
          obtain ⟨hp0, hokr⟩ := am_oks_cons.mp hok
          obtain ⟨i, rfl, hi⟩ := am_kind_own hk1 g2
          obtain ⟨j, rfl, hj⟩ := am_kind_own hk2 g3
          obtain ⟨q0, w1, w2, w3, w4⟩ := hpk
          subst q0
          rw [am_cats_cons, am_cats_cons, am_cats_cons, am_cats_cons, am_cats_cons] at hcat
          have hl1 := (hokh.2.2.2.1 i _ _ hi).2
          have hl2 := (hokh.2.2.2.1 j _ _ hj).2
          have c1 := am_clamp g5 (show sp < 2147483648 by omega)
          have c2 := am_clamp g6 (show dp < 2147483648 by omega)
          have c3 := am_clamp g7 (show n < 2147483648 by omega)
          have ng : ∀ z : Int, 0 ≤ z → z < 2147483648 → ¬ Int32.ofInt z < 0 := by
            intro z hz1 hz2 hz3
            have := (am_lt32 (a := z) (b := 0) (by omega) (by omega) (by omega) (by omega)).mp hz3
            omega
          have hak1 := hC.2.2.2.1 i _ _ hi (by omega)
          have hak2 := hC.2.2.2.1 j _ _ hj (by omega)
          have hK2 : va_K D am_cl [(ρ.2.2 (i + 1), am_aty c0), (ρ.2.2 (j + 1), am_aty c0)] s := ⟨hK.1, fun t x hx => by
            have ht : t < 2 := (List.getElem?_eq_some_iff.mp hx).1
            match t, ht with
            | 0, _ => cases hx; exact hak1
            | 1, _ => cases hx; exact hak2⟩
          have hat1 := am_wl_at (ρ := ρ) hi
          have hat2 := am_wl_at (ρ := ρ) hj
          rcases g4 with g4 | g4
          · subst g4
            rw [if_pos rfl] at hp
            cases hp
            rw [am_ce_long] at hat1 hat2
            have okn : am_okh (h.1, h.2.1, am_cpy h.2.2.1 (i + 1) (j + 1) sp.toNat dp.toNat n.toNat, h.2.2.2) := by
              refine ⟨hokh.1, fun x y => ?_, hokh.2.2.1, hokh.2.2.2.1, hokh.2.2.2.2⟩
              show -9223372036854775808 ≤ am_cpy _ _ _ _ _ _ _ _ ∧ am_cpy _ _ _ _ _ _ _ _ < 9223372036854775808
              unfold am_cpy
              split
              · split
                · exact hokh.2.1 _ _
                · exact hokh.2.1 _ _
              · exact hokh.2.1 _ _
            refine ⟨hokr, rfl, rfl, rfl, okn, fun q _ => ⟨rfl, rfl⟩, fun k => ?_⟩
            rw [List.map_cons, List.map_cons, List.map_cons, List.map_cons, List.map_cons, am_rep_lt g2, am_rep_lt g3]
            refine va_copyl hexec hb hml hown (hts _ w1) (hts _ w2) (hts _ w3) (hts _ w4) hK2 hC.1 hC.2.1 hC.2.2.1 i j 0 1 hat1 hat2 rfl rfl rfl (ng _ g5 (by omega)) (ng _ g6 (by omega)) (ng _ g7 (by omega)) (by rw [c1, c3]; omega) (by rw [c2, c3]; omega) (fun _ _ => rfl) hf ?_ hd (fun H1 locs1 q1 q2 q3 => k H1 locs1 ?_)
            · rw [am_cats_rep]
              have : nativeFrameWords "java/lang/System" "arraycopy" 5 ≤ 100 := by decide +kernel
              omega
            · rw [c1, c2, c3] at q1 q2
              refine am_CR_set hC hj rfl (fun _ _ => rfl) (fun q hq => am_cpy_ne hq) (fun _ _ => rfl) okn ?_ q1 q2 q3
              rw [am_ce_long]
              refine congrArg (fun f => (Sum.inl (ρ.2.2 (j + 1), k0, Sum.inr (Sum.inl f)) : va_E)) ?_
              funext t
              show va_cpy _ _ _ _ _ t = Int64.ofInt (am_cpy h.2.2.1 (i + 1) (j + 1) sp.toNat dp.toNat n.toNat (j + 1) t)
              unfold va_cpy am_cpy
              rw [if_pos rfl]
              split <;> rfl
          · subst g4
            rw [if_neg (by omega)] at hp
            cases hp
            rw [am_ce_int (by omega)] at hat1 hat2
            have okn : am_okh (h.1, am_cpy h.2.1 (i + 1) (j + 1) sp.toNat dp.toNat n.toNat, h.2.2) := by
              refine ⟨fun x y => ?_, hokh.2.1, hokh.2.2.1, hokh.2.2.2.1, hokh.2.2.2.2⟩
              show -2147483648 ≤ am_cpy _ _ _ _ _ _ _ _ ∧ am_cpy _ _ _ _ _ _ _ _ < 2147483648
              unfold am_cpy
              split
              · split
                · exact hokh.1 _ _
                · exact hokh.1 _ _
              · exact hokh.1 _ _
            refine ⟨hokr, rfl, rfl, rfl, okn, fun q hq => ⟨am_cpy_ne (by omega), rfl⟩, fun k => ?_⟩
            rw [List.map_cons, List.map_cons, List.map_cons, List.map_cons, List.map_cons, am_rep_lt g2, am_rep_lt g3]
            refine va_copyi hexec hb hml hown (hts _ w1) (hts _ w2) (hts _ w3) (hts _ w4) hK2 hC.1 hC.2.1 hC.2.2.1 i j 0 1 hat1 hat2 rfl rfl rfl (ng _ g5 (by omega)) (ng _ g6 (by omega)) (ng _ g7 (by omega)) (by rw [c1, c3]; omega) (by rw [c2, c3]; omega) (fun _ _ => rfl) hf ?_ hd (fun H1 locs1 q1 q2 q3 => k H1 locs1 ?_)
            · rw [am_cats_rep]
              have : nativeFrameWords "java/lang/System" "arraycopy" 5 ≤ 100 := by decide +kernel
              omega
            · rw [c1, c2, c3] at q1 q2
              refine am_CR_set hC hj rfl (fun q hq => am_cpy_ne hq) (fun _ _ => rfl) (fun _ _ => rfl) okn ?_ q1 q2 q3
              rw [am_ce_int (by omega)]
              refine congrArg (fun f => (Sum.inl (ρ.2.2 (j + 1), k0, Sum.inl f) : va_E)) ?_
              funext t
              show va_cpy _ _ _ _ _ t = Int32.ofInt (am_cpy h.2.1 (i + 1) (j + 1) sp.toNat dp.toNat n.toNat (j + 1) t)
              unfold va_cpy am_cpy
              rw [if_pos rfl]
              split <;> rfl
        · cases hp
      · cases hp
    · cases hp
  · cases hp
end AMP
