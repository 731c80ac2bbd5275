def am_sup : List String := ["java/lang/RuntimeException", "java/lang/Exception"]
/-- what the code's rows must say of a throw -/
def am_thok (own : String) (cc : ByteArray) (pc x : Nat) : Prop := ∃ (ik is ic : Nat) (text : String),
  Jvm.Cond.classLink own ik (am_xn x) ∈ lw_tblG ∧ Jvm.Cond.initialized (am_xn x) ∈ lw_tblG ∧ (own, is, text) ∈ am_msgs ∧ (∀ w ∈ vx_atS own ic (am_xn x) am_sup, w ∈ lw_tblG ∧ vx_ot w = true) ∧ x < 3 ∧
  decode cc pc = .ok (.new ik, 3) ∧ decode cc (pc + 3) = .ok (.dup, 1) ∧
  ((decode cc (pc + 4) = .ok (.ldc is, 2) ∧ decode cc (pc + 6) = .ok (.invokespecial ic, 3) ∧ decode cc (pc + 9) = .ok (.athrow, 1)) ∨
   (decode cc (pc + 4) = .ok (.ldc_w is, 3) ∧ decode cc (pc + 7) = .ok (.invokespecial ic, 3) ∧ decode cc (pc + 10) = .ok (.athrow, 1)))
theorem am_sup_fit : ∀ n ∈ am_sup, Bundle.fit n = true := by decide +kernel
theorem am_xn_fit : ∀ x, x < 3 → Bundle.fit (am_xn x) = true := by decide +kernel
section AMT
variable {p : Program} {l : Launch} {e : Env} {R : Room} {s : State} {m : MethodId} {args : Array Value} {below : List Frame} {meth : Method} {c : Code} {H : Heap} {locs : List Loc} {cells slots : Nat} {Q : State → Prop}
variable {cc : ByteArray} {pc : Nat} {jls : Array Slot} {ρ : am_A} {ro : Nat → Option (Nat × Nat)} {D : va_G} {A : Nat → Prop} {h : am_H} {own : String} {rest : List Value}
variable {Qc : Array Value → State → Outcome → State → Prop} {XC : String → State → State → Prop} {mc ms : Nat}
theorem am_throw (hexec : p.tables.exec = Jvm.exec) (hb : c.code = cc) (hl : l.stackTraces = false) (hown : s.vm.findClass own = some m.cls) (hts : ∀ w ∈ lw_tblG, w.before args s = true) (hgs : am_gs A ρ s s.heap) (hS : va_S A s.heap H locs) (hsize : jls.size = c.maxLocals) {x : Nat} (ht : am_thok own cc pc x) (hout : ∀ y ∈ c.exceptionTable.toList, False) (hlocks : meth.locks = false)
    (hRf : 5 < R.frames) (hRl : (rest.map fun v => v.category).sum + 100 ≤ R.locals) (hc : cells + 1 ≤ R.cells) (hs : slots + 6 ≤ R.slots) (hmc : cells + 1 ≤ mc) (hms : slots + 6 ≤ ms)
    (hx : ∀ t : State, s.vm.Alike t.vm → H.size ≤ t.heap.size → (∀ q : Nat, q < H.size → t.heap[q]? = H[q]?) → XC (am_xn x) s t) :
    W p l e R s m args below meth c H locs cells slots (vx_MQ below Qc XC args s mc ms A) (F0 m pc jls rest) := by
  obtain ⟨ik, is, ic, text, w1, w2, w3, w4, w5, d0, d3, dd⟩ := ht
  obtain ⟨sa, hstr⟩ := hgs.2.2.2.2.2.2.1 _ w3
  have hg : ∀ w ∈ Jvm.Cond.classLink own ik (am_xn x) :: Jvm.Cond.initialized (am_xn x) :: vx_atS own ic (am_xn x) am_sup, vx_ot w = true := by
    intro w hw
    rcases List.mem_cons.mp hw with rfl | hw
    · rfl
    · rcases List.mem_cons.mp hw with rfl | hw
      · rfl
      · exact (w4 w hw).2
  rcases dd with ⟨d4, d6, d9⟩ | ⟨d4, d6, d9⟩
  · exact vx_throwS hexec hb hl hown (am_xn_fit x w5) am_sup_fit (hts _ w1) (hts _ w2) hstr (fun w hw => hts w (w4 w hw).1) hg hgs.2.2.2.2.1 hgs.2.2.2.2.2.1 hS hsize d0 d3 d4 d6 d9 (fun y hy => (hout y hy).elim) (show am_sup.length + 3 < R.frames from hRf) (show _ + (13 * (2 + 1) + 43) ≤ R.locals by omega) hc hs hlocks hx (fun z hz => hS.2.2 z hz) hmc hms
  · exact vx_throwSW hexec hb hl hown (am_xn_fit x w5) am_sup_fit (hts _ w1) (hts _ w2) hstr (fun w hw => hts w (w4 w hw).1) hg hgs.2.2.2.2.1 hgs.2.2.2.2.2.1 hS hsize d0 d3 d4 d6 d9 (fun y hy => (hout y hy).elim) (show am_sup.length + 3 < R.frames from hRf) (show _ + (13 * (2 + 1) + 43) ≤ R.locals by omega) hc hs hlocks hx (fun z hz => hS.2.2 z hz) hmc hms
/-- handlers: from, to, where, the class's place, the exception, where it goes on, the local -/
abbrev am_HE : Type := Nat × Nat × Nat × Nat × Nat × Nat × Nat
def am_hdf : List am_HE → Nat → Nat → Option (Option (Nat × Nat))
  | [], _, _ => some none
  | (f, t, _, _, x, g, k) :: r, pc, E => if f ≤ pc ∧ pc < t then (if x = E then some (some (g, k)) else am_hdf r pc E) else am_hdf r pc E
abbrev am_hh (hl : List am_HE) : List (Nat × Nat × Nat × Nat) := hl.map (fun e => (e.1, e.2.1, e.2.2.1, e.2.2.2.1))
def am_hlok (own : String) (cc : ByteArray) (hl : List am_HE) : Prop := ∀ y ∈ hl, y.2.2.2.1 ≠ 0 ∧ y.2.2.2.2.1 < 3 ∧ Jvm.Cond.classLink own y.2.2.2.1 (am_xn y.2.2.2.2.1) ∈ lw_tblG ∧ Jvm.Cond.castable (am_xn y.2.2.2.2.1) (am_xn y.2.2.2.2.1) ∈ lw_tblG ∧
  ((∃ k : Fin 4, decode cc y.2.2.1 = .ok (.astore_n k, 1) ∧ y.2.2.2.2.2.2 = k.val ∧ y.2.2.2.2.2.1 = y.2.2.1 + 1) ∨ (decode cc y.2.2.1 = .ok (.astore y.2.2.2.2.2.2, 2) ∧ y.2.2.2.2.2.1 = y.2.2.1 + 2))
theorem am_hd_split {s : State} (hnc : ∀ x y, x < 3 → y < 3 → x ≠ y → va_Nc (am_xn x) (am_xn y) s) {own : String} {cc : ByteArray} {E pc : Nat} (hE : E < 3) : ∀ (hl : List am_HE), am_hlok own cc hl →
    (am_hdf hl pc E = some none ∧ ∀ z ∈ hl, ¬ (z.1 ≤ pc ∧ pc < z.2.1) ∨ va_Nc (am_xn E) (am_xn z.2.2.2.2.1) s) ∨
    ∃ pre y suf, hl = pre ++ y :: suf ∧ (y.1 ≤ pc ∧ pc < y.2.1) ∧ y.2.2.2.2.1 = E ∧ am_hdf hl pc E = some (some (y.2.2.2.2.2.1, y.2.2.2.2.2.2)) ∧ ∀ z ∈ pre, ¬ (z.1 ≤ pc ∧ pc < z.2.1) ∨ va_Nc (am_xn E) (am_xn z.2.2.2.2.1) s
  | [], _ => Or.inl ⟨rfl, fun _ h => by cases h⟩
  | y :: r, hk => by
    have hr := am_hd_split hnc (pc := pc) hE r (fun z hz => hk z (List.mem_cons_of_mem _ hz))
    obtain ⟨f, t, hp, ct, x, g, k⟩ := y
    have hx : x < 3 := (hk _ List.mem_cons_self).2.1
    by_cases hc : f ≤ pc ∧ pc < t
    · by_cases he : x = E
      · exact Or.inr ⟨[], _, r, rfl, hc, he, by unfold am_hdf; rw [if_pos hc, if_pos he], fun _ h => by cases h⟩
      · have e1 : am_hdf ((f, t, hp, ct, x, g, k) :: r) pc E = am_hdf r pc E := by rw [am_hdf, if_pos hc, if_neg he]
        have e2 : va_Nc (am_xn E) (am_xn x) s := hnc E x hE hx (fun q => he q.symm)
        rw [e1]
        rcases hr with ⟨h1, h2⟩ | ⟨pre, y, suf, h1, h2, h3, h4, h5⟩
        · refine Or.inl ⟨h1, fun z hz => ?_⟩
          rcases List.mem_cons.mp hz with rfl | hz
          · exact Or.inr e2
          · exact h2 z hz
        · refine Or.inr ⟨_ :: pre, y, suf, by rw [h1]; rfl, h2, h3, h4, fun z hz => ?_⟩
          rcases List.mem_cons.mp hz with rfl | hz
          · exact Or.inr e2
          · exact h5 z hz
    · have e1 : am_hdf ((f, t, hp, ct, x, g, k) :: r) pc E = am_hdf r pc E := by rw [am_hdf, if_neg hc]
      rw [e1]
      rcases hr with ⟨h1, h2⟩ | ⟨pre, y, suf, h1, h2, h3, h4, h5⟩
      · refine Or.inl ⟨h1, fun z hz => ?_⟩
        rcases List.mem_cons.mp hz with rfl | hz
        · exact Or.inl hc
        · exact h2 z hz
      · refine Or.inr ⟨_ :: pre, y, suf, by rw [h1]; rfl, h2, h3, h4, fun z hz => ?_⟩
        rcases List.mem_cons.mp hz with rfl | hz
        · exact Or.inl hc
        · exact h5 z hz
end AMT
