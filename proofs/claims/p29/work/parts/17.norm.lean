theorem am_gs_ext {A : Nat → Prop} {ρ ρ' : am_A} {s : State} {H : Heap} (e : ρ'.2.1 = ρ.2.1) (h : am_gs A ρ s H) : am_gs A ρ' s H := by
  unfold am_gs at h ⊢
  rw [e]
  exact h
def am_loks (n : Nat) (ls : am_L) : Prop := ∀ i v, am_get ls i = some v → am_ok n v
theorem am_alu_mono {ins : Instr} {st st' : List am_V} {n : Nat} (h : am_alu ins st = some st') (hok : am_oks n st) : am_oks n st' := by
  unfold am_alu at h
  have i2 : ∀ {f : Int → Int → Int}, am_ii f st = some st' → (∀ a b, (-2147483648 ≤ a ∧ a < 2147483648) → (-2147483648 ≤ b ∧ b < 2147483648) → -2147483648 ≤ f a b ∧ f a b < 2147483648) → am_oks n st' := by
    intro f h1 h2
    obtain ⟨a, b, r, rfl, rfl⟩ := am_ii_inv h1
    obtain ⟨q1, q2⟩ := am_oks_cons.mp hok
    obtain ⟨q3, q4⟩ := am_oks_cons.mp q2
    exact am_oks_cons.mpr ⟨h2 a b q3 q1, q4⟩
  have l2 : ∀ {f : Int → Int → Int}, am_ll f st = some st' → (∀ a b, -9223372036854775808 ≤ f a b ∧ f a b < 9223372036854775808) → am_oks n st' := by
    intro f h1 h2
    obtain ⟨a, b, r, rfl, rfl⟩ := am_ll_inv h1
    obtain ⟨q1, q2⟩ := am_oks_cons.mp hok
    obtain ⟨q3, q4⟩ := am_oks_cons.mp q2
    exact am_oks_cons.mpr ⟨h2 a b, q4⟩
  have li : ∀ {f : Int → Int → Int}, am_li f st = some st' → (∀ a b, -9223372036854775808 ≤ f a b ∧ f a b < 9223372036854775808) → am_oks n st' := by
    intro f h1 h2
    obtain ⟨a, b, r, rfl, rfl⟩ := am_li_inv h1
    obtain ⟨q1, q2⟩ := am_oks_cons.mp hok
    obtain ⟨q3, q4⟩ := am_oks_cons.mp q2
    exact am_oks_cons.mpr ⟨h2 a b, q4⟩
  split at h
  · split at h
    · cases h; exact am_oks_cons.mpr ⟨⟨by omega, by omega⟩, hok⟩
    · cases h
  · split at h
    · cases h; exact am_oks_cons.mpr ⟨⟨by omega, by omega⟩, hok⟩
    · cases h
  · split at h
    · cases h; exact am_oks_cons.mpr ⟨⟨by omega, by omega⟩, hok⟩
    · cases h
  · rename_i n0
    cases h
    have := n0.isLt
    exact am_oks_cons.mpr ⟨⟨by omega, by omega⟩, hok⟩
  · exact i2 h (fun _ _ _ _ => am_w32_in _)
  · exact i2 h (fun _ _ _ _ => am_w32_in _)
  · exact i2 h (fun _ _ _ _ => am_w32_in _)
  · exact i2 h (fun _ _ _ _ => am_in32 _)
  · exact i2 h (fun _ _ _ _ => am_in32 _)
  · exact i2 h (fun _ _ _ _ => am_in32 _)
  · exact i2 h (fun _ _ _ _ => am_in32 _)
  · exact i2 h (fun _ _ _ _ => am_in32 _)
  · split at h
    · split at h
      · cases h
      · cases h
        obtain ⟨q1, q2⟩ := am_oks_cons.mp hok
        obtain ⟨q3, q4⟩ := am_oks_cons.mp q2
        exact am_oks_cons.mpr ⟨am_w32_in _, q4⟩
    · cases h
  · split at h
    · split at h
      · cases h
      · cases h
        obtain ⟨q1, q2⟩ := am_oks_cons.mp hok
        obtain ⟨q3, q4⟩ := am_oks_cons.mp q2
        exact am_oks_cons.mpr ⟨am_tmod_in32 q3.1 q3.2 q1.1 q1.2, q4⟩
    · cases h
  · split at h
    · cases h
      exact am_oks_cons.mpr ⟨am_w32_in _, (am_oks_cons.mp hok).2⟩
    · cases h
  · exact l2 h (fun _ _ => am_w64_in _)
  · exact l2 h (fun _ _ => am_w64_in _)
  · exact l2 h (fun _ _ => am_w64_in _)
  · exact l2 h (fun _ _ => am_in64 _)
  · exact l2 h (fun _ _ => am_in64 _)
  · exact l2 h (fun _ _ => am_in64 _)
  · exact li h (fun _ _ => am_in64 _)
  · exact li h (fun _ _ => am_in64 _)
  · exact li h (fun _ _ => am_in64 _)
  · split at h
    · split at h
      · cases h
      · cases h
        obtain ⟨q1, q2⟩ := am_oks_cons.mp hok
        obtain ⟨q3, q4⟩ := am_oks_cons.mp q2
        exact am_oks_cons.mpr ⟨am_w64_in _, q4⟩
    · cases h
  · split at h
    · split at h
      · cases h
      · cases h
        obtain ⟨q1, q2⟩ := am_oks_cons.mp hok
        obtain ⟨q3, q4⟩ := am_oks_cons.mp q2
        exact am_oks_cons.mpr ⟨am_tmod_in64 q3.1 q3.2 q1.1 q1.2, q4⟩
    · cases h
  · split at h
    · cases h
      exact am_oks_cons.mpr ⟨am_w64_in _, (am_oks_cons.mp hok).2⟩
    · cases h
  · split at h
    · cases h
      obtain ⟨q1, q2⟩ := am_oks_cons.mp hok
      obtain ⟨q3, q4⟩ := am_oks_cons.mp q2
      refine am_oks_cons.mpr ⟨?_, q4⟩
      show -2147483648 ≤ am_lsign _ _ ∧ am_lsign _ _ < 2147483648
      unfold am_lsign; split <;> (try split) <;> omega
    · cases h
  · split at h
    · cases h
      obtain ⟨q1, q2⟩ := am_oks_cons.mp hok
      exact am_oks_cons.mpr ⟨⟨by have := q1.1; omega, by have := q1.2; omega⟩, q2⟩
    · cases h
  · split at h
    · cases h
      exact am_oks_cons.mpr ⟨am_w32_in _, (am_oks_cons.mp hok).2⟩
    · cases h
  · split at h
    · cases h
      refine am_oks_cons.mpr ⟨?_, (am_oks_cons.mp hok).2⟩
      show -2147483648 ≤ am_w8 _ ∧ am_w8 _ < 2147483648
      unfold am_w8; omega
    · cases h
  · split at h
    · cases h
      exact am_oks_cons.mpr ⟨am_in32 _, (am_oks_cons.mp hok).2⟩
    · cases h
  · split at h
    · split at h
      · cases h
        exact am_oks_cons.mpr ⟨(am_oks_cons.mp hok).1, hok⟩
      · cases h
    · cases h
  · split at h
    · split at h
      · cases h
        exact (am_oks_cons.mp hok).2
      · cases h
    · cases h
  · split at h
    · split at h
      · cases h
        exact am_oks_cons.mpr ⟨(am_oks_cons.mp hok).1, am_oks_cons.mpr ⟨(am_oks_cons.mp (am_oks_cons.mp hok).2).1, am_oks_cons.mpr ⟨(am_oks_cons.mp hok).1, (am_oks_cons.mp (am_oks_cons.mp hok).2).2⟩⟩⟩
      · cases h
    · cases h
  · split at h
    · split at h
      · cases h
        obtain ⟨q1, q2⟩ := am_oks_cons.mp hok
        obtain ⟨q3, q4⟩ := am_oks_cons.mp q2
        obtain ⟨q5, q6⟩ := am_oks_cons.mp q4
        exact am_oks_cons.mpr ⟨q1, am_oks_cons.mpr ⟨q3, am_oks_cons.mpr ⟨q5, am_oks_cons.mpr ⟨q1, q6⟩⟩⟩⟩
      · cases h
    · cases h
  · split at h
    · split at h
      · cases h
        obtain ⟨q1, q2⟩ := am_oks_cons.mp hok
        exact am_oks_cons.mpr ⟨q1, hok⟩
      · split at h
        · split at h
          · cases h
            obtain ⟨q1, q2⟩ := am_oks_cons.mp hok
            obtain ⟨q3, q4⟩ := am_oks_cons.mp q2
            exact am_oks_cons.mpr ⟨q1, am_oks_cons.mpr ⟨q3, hok⟩⟩
          · cases h
        · cases h
    · cases h
  · cases h
section AMNS
variable {p : Program} {l : Launch} {e : Env} {R : Room} {s : State} {m : MethodId} {args : Array Value} {below : List Frame} {meth : Method} {c : Code} {H : Heap} {locs : List Loc} {cells slots : Nat} {Q : State → Prop}
variable {cc : ByteArray} {pc : Nat} {jls : Array Slot} {ρ : am_A} {ro : Nat → Option (Nat × Nat)} {D : va_G} {A : Nat → Prop} {h : am_H} {own : String} {rest : List Value}
theorem am_hp_mono {ro : Nat → Option (Nat × Nat)} {ins : Instr} {a b : Nat} {z : Int} {st st' : List am_V} {h h' : am_H} (hh : am_hp ro am_fty am_nf ins a b z st h = some (st', h')) (hok : am_oks h.1.length st) (hokh : am_okh h) (hnew : ∀ i, ins = .new i → a < 12) (hro : ∀ q k len, ro q = some (k, len) → len < 2147483648) : am_mono h h' ∧ am_oks h'.1.length st' := by
  have rfm := am_mono_rf hokh
  have one : ∀ {p k : Nat} {x : Int}, p < am_SP → -2147483648 ≤ x ∧ x < 2147483648 → am_mono h (h.1, am_up h.2.1 p k x, h.2.2) := fun hp hx => ⟨am_okh_I hokh hx, Nat.le_refl _, Nat.le_refl _, Nat.le_refl _, fun q hq => ⟨am_up_ne (by omega), rfl⟩⟩
  have two : ∀ {p k : Nat} {x : Int}, p < am_SP → -9223372036854775808 ≤ x ∧ x < 9223372036854775808 → am_mono h (h.1, h.2.1, am_up h.2.2.1 p k x, h.2.2.2) := fun hp hx => ⟨am_okh_J hokh hx, Nat.le_refl _, Nat.le_refl _, Nat.le_refl _, fun q hq => ⟨rfl, rfl⟩⟩
  have thr : ∀ {p k x : Nat}, p < am_SP → x ≤ h.1.length ∨ am_SP ≤ x → am_mono h (h.1, h.2.1, h.2.2.1, am_up h.2.2.2.1 p k x, h.2.2.2.2) := fun hp hx => ⟨am_okh_R hokh hx, Nat.le_refl _, Nat.le_refl _, Nat.le_refl _, fun q hq => ⟨rfl, am_up_ne (by omega)⟩⟩
  have dfl : ∀ {k len sl : Nat} {r : List am_V}, (k < 12 ∨ (101 ≤ k ∧ k ≤ 104)) → len < 2147483648 → h.1.length + 1 < am_SP → am_oks h.1.length r → am_mono h (am_dfl (h.1.length + 1) h k len sl) ∧ am_oks (am_dfl (h.1.length + 1) h k len sl).1.length (.inr (.inr (h.1.length + 1)) :: r) := by
    intro k len sl r q1 q2 q3 q4
    have e3 : (am_dfl (h.1.length + 1) h k len sl).1.length = h.1.length + 1 := by show (h.1 ++ [(k, len)]).length = _; simp
    exact ⟨⟨am_okh_dfl hokh q1 q2 q3, by rw [e3]; omega, Nat.le_add_right _ _, Nat.le_add_right _ _, fun q hq => ⟨am_clr_ne (by omega), am_clr_ne (by omega)⟩⟩, am_oks_cons.mpr ⟨Or.inl (by rw [e3]; exact Nat.le_refl _), fun v hv => am_ok_mono (by rw [e3]; omega) (q4 v hv)⟩⟩
  unfold am_hp at hh
  split at hh
  · split at hh
    · split at hh
      · split at hh
        · cases hh
          obtain ⟨-, hok1⟩ := am_oks_cons.mp hok
          exact ⟨rfm, am_oks_cons.mpr ⟨am_fv_ok hokh _ _ _, hok1⟩⟩
        · cases hh
      · cases hh
    · cases hh
  · split at hh
    · split at hh
      · split at hh
        · rename_i hka
          obtain ⟨hv, hok1⟩ := am_oks_cons.mp hok
          obtain ⟨hq, hok2⟩ := am_oks_cons.mp hok1
          split at hh
          · split at hh
            · cases hh; exact ⟨one hka.2 hv, hok2⟩
            · cases hh
          · split at hh
            · cases hh; exact ⟨two hka.2 hv, hok2⟩
            · cases hh
          · split at hh
            · cases hh; exact ⟨thr hka.2 hv, hok2⟩
            · cases hh
        · cases hh
      · cases hh
    · cases hh
  · split at hh
    · split at hh
      · split at hh
        · cases hh
          obtain ⟨-, hok1⟩ := am_oks_cons.mp hok
          obtain ⟨-, hok2⟩ := am_oks_cons.mp hok1
          exact ⟨rfm, am_oks_cons.mpr ⟨hokh.1 _ _, hok2⟩⟩
        · cases hh
      · cases hh
    · cases hh
  · split at hh
    · split at hh
      · split at hh
        · cases hh
          obtain ⟨-, hok1⟩ := am_oks_cons.mp hok
          obtain ⟨-, hok2⟩ := am_oks_cons.mp hok1
          exact ⟨rfm, am_oks_cons.mpr ⟨hokh.2.1 _ _, hok2⟩⟩
        · cases hh
      · cases hh
    · cases hh
  · split at hh
    · split at hh
      · split at hh
        · cases hh
          obtain ⟨-, hok1⟩ := am_oks_cons.mp hok
          obtain ⟨-, hok2⟩ := am_oks_cons.mp hok1
          exact ⟨rfm, am_oks_cons.mpr ⟨hokh.1 _ _, hok2⟩⟩
        · cases hh
      · cases hh
    · cases hh
  · split at hh
    · split at hh
      · split at hh
        · rename_i hg
          cases hh
          obtain ⟨hx, hok1⟩ := am_oks_cons.mp hok
          obtain ⟨-, hok2⟩ := am_oks_cons.mp hok1
          obtain ⟨-, hok3⟩ := am_oks_cons.mp hok2
          exact ⟨one hg.1.2 hx, hok3⟩
        · cases hh
      · cases hh
    · cases hh
  · split at hh
    · split at hh
      · split at hh
        · rename_i hg
          cases hh
          obtain ⟨hx, hok1⟩ := am_oks_cons.mp hok
          obtain ⟨-, hok2⟩ := am_oks_cons.mp hok1
          obtain ⟨-, hok3⟩ := am_oks_cons.mp hok2
          exact ⟨two hg.1.2 hx, hok3⟩
        · cases hh
      · cases hh
    · cases hh
  · split at hh
    · split at hh
      · split at hh
        · rename_i hg
          cases hh
          obtain ⟨hx, hok1⟩ := am_oks_cons.mp hok
          obtain ⟨-, hok2⟩ := am_oks_cons.mp hok1
          obtain ⟨-, hok3⟩ := am_oks_cons.mp hok2
          exact ⟨one hg.1.1 hx, hok3⟩
        · cases hh
      · cases hh
    · cases hh
  · split at hh
    · split at hh
      · rename_i k2 l2 hkind
        split at hh
        · cases hh
          obtain ⟨-, hok1⟩ := am_oks_cons.mp hok
          have hl2 : l2 < 2147483648 := by
            rcases (am_kind_lt hkind).2 with ⟨-, i, -, hi⟩ | ⟨-, q, -, hq⟩
            · exact (hokh.2.2.2.1 i _ _ hi).2
            · exact hro _ _ _ hq
          exact ⟨rfm, am_oks_cons.mpr ⟨⟨by omega, by omega⟩, hok1⟩⟩
        · cases hh
      · cases hh
    · cases hh
  · split at hh
    · rename_i hg
      cases hh
      exact dfl (Or.inl (hnew _ rfl)) (by omega) hg.2 hok
    · cases hh
  · split at hh
    · split at hh
      · rename_i hg
        obtain ⟨-, hok1⟩ := am_oks_cons.mp hok
        split at hh
        · cases hh; exact dfl (Or.inr (by omega)) (by omega) hg.2 hok1
        · cases hh; exact dfl (Or.inr (by omega)) (by omega) hg.2 hok1
        · cases hh; exact dfl (Or.inr (by omega)) (by omega) hg.2 hok1
        · cases hh; exact dfl (Or.inr (by omega)) (by omega) hg.2 hok1
        · cases hh
      · cases hh
    · cases hh
  · split at hh
    · split at hh
      · rename_i hz
        cases hh; exact ⟨rfm, am_oks_cons.mpr ⟨hz, hok⟩⟩
      · cases hh
    · cases hh; exact ⟨rfm, am_oks_cons.mpr ⟨Or.inr (Nat.le_add_right _ _), hok⟩⟩
  · split at hh
    · rename_i hz
      cases hh; exact ⟨rfm, am_oks_cons.mpr ⟨hz, hok⟩⟩
    · cases hh
  · split at hh
    · rename_i hz
      cases hh; exact ⟨rfm, am_oks_cons.mpr ⟨hz, hok⟩⟩
    · cases hh
  · split at hh
    · cases hh; exact ⟨rfm, am_oks_cons.mpr ⟨⟨by decide, by decide⟩, hok⟩⟩
    · cases hh; exact ⟨rfm, am_oks_cons.mpr ⟨Or.inr (Nat.le_add_right _ _), hok⟩⟩
  · cases hh
theorem am_loc_mono {ins : Instr} {ls ls' : am_L} {st st' : List am_V} {n : Nat} (h : am_loc ins ls st = some (ls', st')) (hok : am_oks n st) (hlok : am_loks n ls) : am_oks n st' ∧ am_loks n ls' ∧ ls'.length = ls.length := by
  have hsto : ∀ {i : Nat} {v : am_V} {l2 : am_L}, am_st ls i v = some l2 → am_ok n v → am_loks n l2 := by
    intro i v l2 h1 h2 j w h3
    rcases am_st_get h1 h3 with ⟨-, e⟩ | ⟨-, -, e, -⟩
    · rw [e]; exact h2
    · exact hlok j w e
  have sto : ∀ {i : Nat} {v : am_V} {r : List am_V}, (am_st ls i v).map (fun l => (l, r)) = some (ls', st') → am_ok n v → am_oks n r → am_oks n st' ∧ am_loks n ls' ∧ ls'.length = ls.length := by
    intro i v r h1 h2 h3
    cases hs : am_st ls i v with
    | none => rw [hs] at h1; cases h1
    | some l2 =>
      rw [hs] at h1
      cases h1
      exact ⟨h3, hsto hs h2, (am_st_len hs).1⟩
  unfold am_loc at h
  split at h
  · split at h
    · rename_i x hg; cases h; exact ⟨am_oks_cons.mpr ⟨hlok _ _ hg, hok⟩, hlok, rfl⟩
    · cases h
  · split at h
    · rename_i x hg; cases h; exact ⟨am_oks_cons.mpr ⟨hlok _ _ hg, hok⟩, hlok, rfl⟩
    · cases h
  · split at h
    · rename_i x hg; cases h; exact ⟨am_oks_cons.mpr ⟨hlok _ _ hg, hok⟩, hlok, rfl⟩
    · cases h
  · split at h
    · rename_i x hg; cases h; exact ⟨am_oks_cons.mpr ⟨hlok _ _ hg, hok⟩, hlok, rfl⟩
    · cases h
  · split at h
    · rename_i x hg; cases h; exact ⟨am_oks_cons.mpr ⟨hlok _ _ hg, hok⟩, hlok, rfl⟩
    · cases h
  · split at h
    · rename_i x hg; cases h; exact ⟨am_oks_cons.mpr ⟨hlok _ _ hg, hok⟩, hlok, rfl⟩
    · cases h
  · split at h
    · exact sto h (am_oks_cons.mp hok).1 (am_oks_cons.mp hok).2
    · cases h
  · split at h
    · exact sto h (am_oks_cons.mp hok).1 (am_oks_cons.mp hok).2
    · cases h
  · split at h
    · exact sto h (am_oks_cons.mp hok).1 (am_oks_cons.mp hok).2
    · cases h
  · split at h
    · exact sto h (am_oks_cons.mp hok).1 (am_oks_cons.mp hok).2
    · cases h
  · split at h
    · exact sto h (am_oks_cons.mp hok).1 (am_oks_cons.mp hok).2
    · cases h
  · split at h
    · exact sto h (am_oks_cons.mp hok).1 (am_oks_cons.mp hok).2
    · cases h
  · split at h
    · exact sto h (am_w32_in _) hok
    · cases h
  · cases h
/-- straight on -/
theorem am_norm_sound (hexec : p.tables.exec = Jvm.exec) (hb : c.code = cc) (hown : s.vm.findClass own = some m.cls) (hts : ∀ w ∈ lw_tblG, w.before args s = true) (hK : va_K D am_cl [] s) (hA : ∀ q, s.heap.size ≤ q → A q) (hgs : am_gs A ρ s s.heap) {ini : Bool} (hini : ini = true → meth.name = "<init>")
    {ins : Instr} {a b : Nat} {z : Int} {ls ls' : am_L} {st st' : List am_V} {h' : am_H} {len : Nat} (hh : am_norm ro am_fty am_nf ins a b z ls st h = some (ls', st', h')) (hd : decode cc pc = .ok (ins, len)) (hlen : am_len ins = len) (hok : am_oks h.1.length st) (hlok : am_loks h.1.length ls) (hhk : am_hok own ini ins a b z) (hC : am_CR ro D A s ρ h H locs) (hl : lv_has jls ls.length (am_lr ρ ls))
    (hr1 : cells + (am_hc h' - am_hc h) ≤ R.cells) (hr2 : slots + (am_hs h' - am_hs h) ≤ R.slots)
    (k : ∀ (ρ' : am_A) (H' : Heap) (locs' : List Loc) (jls' : Array Slot), am_ext h.1.length ρ ρ' → am_CR ro D A s ρ' h' H' locs' → lv_has jls' ls'.length (am_lr ρ' ls') → W p l e R s m args below meth c H' locs' (cells + (am_hc h' - am_hc h)) (slots + (am_hs h' - am_hs h)) Q (F0 m (pc + len) jls' (st'.map (am_rep ρ')))) :
      W p l e R s m args below meth c H locs cells slots Q (F0 m pc jls (st.map (am_rep ρ))) := by
  unfold am_norm at hh
  split at hh
  · rename_i l2 s2 hlo
    cases hh
    obtain ⟨-, -, -, kk⟩ := am_loc_sound (p := p) (l := l) (e := e) (R := R) (s := s) (m := m) (args := args) (below := below) (meth := meth) (H := H) (locs := locs) (cells := cells) (slots := slots) (Q := Q) hexec hb hlo hd hlen hok hlok hl
    refine kk (fun jls' hj => ?_)
    have k2 := k ρ H locs jls' (am_ext_rf _ _) hC hj
    rw [Nat.sub_self, Nat.sub_self, Nat.add_zero, Nat.add_zero] at k2
    exact k2
  · split at hh
    · rename_i s2 hal
      cases hh
      obtain ⟨-, kk⟩ := am_alu_sound (p := p) (l := l) (e := e) (R := R) (s := s) (m := m) (args := args) (below := below) (meth := meth) (H := H) (locs := locs) (cells := cells) (slots := slots) (Q := Q) (jls := jls) (ρ := ρ) hexec hb hal hd hlen hok
      refine kk ?_
      have k2 := k ρ H locs jls (am_ext_rf _ _) hC hl
      rw [Nat.sub_self, Nat.sub_self, Nat.add_zero, Nat.add_zero] at k2
      exact k2
    · split at hh
      · rename_i s2 h2 hhp
        cases hh
        obtain ⟨-, -, -, -, kk⟩ := am_hp_sound (p := p) (l := l) (e := e) (R := R) (args := args) (below := below) (cells := cells) (slots := slots) (Q := Q) (jls := jls) hexec hb hown hts hK hA hgs hini hhp hd hlen hok hhk hC hr1 hr2
        refine kk (fun ρ' H' locs' x1 x2 => ?_)
        exact k ρ' H' locs' jls x1 x2 (am_ext_lr x1 hC.2.2.2.2.1.2.2.2.2 hlok hl)
      · cases hh
theorem am_norm_mono {ro : Nat → Option (Nat × Nat)} {ins : Instr} {a b : Nat} {z : Int} {ls ls' : am_L} {st st' : List am_V} {h h' : am_H} (hh : am_norm ro am_fty am_nf ins a b z ls st h = some (ls', st', h')) (hok : am_oks h.1.length st) (hlok : am_loks h.1.length ls) (hokh : am_okh h) (hnew : ∀ i, ins = .new i → a < 12) (hro : ∀ q k len, ro q = some (k, len) → len < 2147483648) : am_mono h h' ∧ am_oks h'.1.length st' ∧ am_loks h'.1.length ls' ∧ ls'.length = ls.length := by
  unfold am_norm at hh
  split at hh
  · rename_i l2 s2 hlo
    cases hh
    obtain ⟨q1, q2, q3⟩ := am_loc_mono hlo hok hlok
    exact ⟨am_mono_rf hokh, q1, q2, q3⟩
  · split at hh
    · rename_i s2 hal
      cases hh
      exact ⟨am_mono_rf hokh, am_alu_mono hal hok, hlok, rfl⟩
    · split at hh
      · rename_i s2 h2 hhp
        cases hh
        obtain ⟨q1, q2⟩ := am_hp_mono hhp hok hokh hnew hro
        exact ⟨q1, q2, fun i v hv => am_ok_mono q1.2.1 (hlok i v hv), rfl⟩
      · cases hh
end AMNS
