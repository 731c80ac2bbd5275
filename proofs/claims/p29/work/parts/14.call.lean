theorem am_gs_warm {A : Nat → Prop} {ρ : am_A} {s U : State} {H H1 : Heap} (hW : s.WarmedH U.vm) (hk : ∀ q : Nat, q < H.size → ¬ A q → H1[q]? = H[q]?) (h : am_gs A ρ s H) : am_gs A ρ U H1 := by
  obtain ⟨h1, h2, -, h5, h6, h7, h8, h9⟩ := h
  exact ⟨fun e he => by obtain ⟨a, q1, q2⟩ := h1 e he; exact ⟨a, q1, vk_R.warm hW q2⟩, (va_Z.moved hW.alike h2).kept hk, trivial, (va_Z.moved hW.alike h5).kept hk, (vx_Zq.moved hW.alike h6).kept hk, (vx_Zq.moved hW.alike h7).kept hk,
    fun e he => by obtain ⟨a, q2⟩ := h8 e he; exact ⟨a, vk_R.warm hW q2⟩, fun x y q1 q2 q3 => va_Nc.moved hW.alike (h9 x y q1 q2 q3)⟩
theorem am_ak_moved {ρ : am_A} {h : am_H} {s U : State} (hv : s.vm.Alike U.vm) (ha : am_ak ρ h s) : am_ak ρ h U := fun i k len q1 q2 => ⟨arrOfT_moved hv (ha i k len q1 q2).1, (ha i k len q1 q2).2.moved hv⟩
theorem am_rof_warm {ro : Nat → Option (Nat × Nat)} {A : Nat → Prop} {ρ : am_A} {h : am_H} {s U : State} {H H1 : Heap} (hv : s.vm.Alike U.vm) (hk : ∀ q : Nat, q < H.size → ¬ A q → H1[q]? = H[q]?) (hr : am_rof ro A ρ h s H) : am_rof ro A ρ h U H1 := by
  intro q k len hq
  obtain ⟨h0, h1⟩ := hr q k len hq
  refine ⟨h0, ?_⟩
  rcases h1 with ⟨e, a, h2, hO, h3⟩ | ⟨e, t, h2, h3⟩
  · exact Or.inl ⟨e, a, h2, (va_O.moved hv hO).kept hk, fun b hb => (va_OF.moved hv (h3 b hb)).kept hk⟩
  · exact Or.inr ⟨e, t, h2, (va_T.moved hv h3).kept hk⟩
/-- what holds where a method begins -/
def am_en (ro : Nat → Option (Nat × Nat)) (D : va_G) (A : Nat → Prop) (ρ : am_A) (h : am_H) (U : State) : Prop :=
  va_K D am_cl [] U ∧ va_P D am_cl (am_wl ρ h) U.heap ∧ va_D A (am_wl ρ h) ∧ am_ak ρ h U ∧ am_rof ro A ρ h U U.heap ∧ am_gs A ρ U U.heap ∧ ∀ q, U.heap.size ≤ q → A q
theorem am_en_of {ro : Nat → Option (Nat × Nat)} {D : va_G} {A : Nat → Prop} {s U : State} {ρ : am_A} {h : am_H} {H : Heap} {locs : List Loc} (hW : s.WarmedH U.vm) (hH : U.heap = H) (hK : va_K D am_cl [] s) (hA : ∀ q, s.heap.size ≤ q → A q) (hgs : am_gs A ρ s s.heap) (hC : am_CR ro D A s ρ h H locs) : am_en ro D A ρ h U := by
  subst hH
  obtain ⟨c1, c2, c3, c4, c5, c6⟩ := hC
  exact ⟨va_K.moved hW.alike hK, c1, c2, am_ak_moved hW.alike c4, am_rof_warm hW.alike c3.2.1 c6, am_gs_warm hW c3.2.1 hgs, fun q hq => hA q (Nat.le_trans c3.1 hq)⟩
def am_Pc (ro : Nat → Option (Nat × Nat)) (D : va_G) (A : Nat → Prop) (ρ : am_A) (h : am_H) (ar : List am_V) : Array Value → State → Prop := va_Pc (ar.map (am_rep ρ)) (fun U => am_en ro D A ρ h U)
theorem am_Pc_blind {ro : Nat → Option (Nat × Nat)} {D : va_G} {A : Nat → Prop} {ρ : am_A} {h : am_H} {ar : List am_V} : FrameBlind (am_Pc ro D A ρ h ar) := fun a U g mk q => by
  obtain ⟨q0, k1, k2, k3, k4, k5, k6, k7⟩ := q
  have hW : U.WarmedH (U.calling g mk a).vm := State.WarmedH.refl U
  exact ⟨q0, va_K.moved hW.alike k1, k2, k3, am_ak_moved hW.alike k4, am_rof_warm (H1 := (U.calling g mk a).heap) hW.alike (fun _ _ _ => rfl) k5, am_gs_warm (H1 := (U.calling g mk a).heap) hW (fun _ _ _ => rfl) k6, k7⟩
def am_post (D : va_G) (A : Nat → Prop) (ρ : am_A) (n : Nat) (h' : am_H) (st t : State) : Prop := ∃ ρ' : am_A, am_ext n ρ ρ' ∧ va_P D am_cl (am_wl ρ' h') t.heap ∧ va_D A (am_wl ρ' h') ∧ am_ak ρ' h' t ∧ va_F A st t
def am_Qc (D : va_G) (A : Nat → Prop) (ρ : am_A) (n : Nat) (res : am_R) : Array Value → State → Outcome → State → Prop := fun _ st o t => ∃ v h', res = .inl (v, h') ∧ o = .returned (v.map (am_rep ρ)) ∧ am_post D A ρ n h' st t
def am_Xc (D : va_G) (A : Nat → Prop) (ρ : am_A) (n : Nat) (res : am_R) : String → State → State → Prop := fun E st t => ∃ x h', res = .inr (x, h') ∧ E = am_xn x ∧ am_post D A ρ n h' st t
def am_rh : am_R → am_H
  | .inl (_, h) => h
  | .inr (_, h) => h
/-- what a run keeps -/
def am_mono (h h' : am_H) : Prop := am_okh h' ∧ h.1.length ≤ h'.1.length ∧ am_hc h ≤ am_hc h' ∧ am_hs h ≤ am_hs h' ∧ ∀ q, am_SP ≤ q → h'.2.1 q = h.2.1 q ∧ h'.2.2.2.1 q = h.2.2.2.1 q
theorem am_mono_rf {h : am_H} (hok : am_okh h) : am_mono h h := ⟨hok, Nat.le_refl _, Nat.le_refl _, Nat.le_refl _, fun _ _ => ⟨rfl, rfl⟩⟩
theorem am_mono_tr {h h' h'' : am_H} (a : am_mono h h') (b : am_mono h' h'') : am_mono h h'' :=
  ⟨b.1, Nat.le_trans a.2.1 b.2.1, Nat.le_trans a.2.2.1 b.2.2.1, Nat.le_trans a.2.2.2.1 b.2.2.2.1, fun q hq => ⟨(b.2.2.2.2 q hq).1.trans (a.2.2.2.2 q hq).1, (b.2.2.2.2 q hq).2.trans (a.2.2.2.2 q hq).2⟩⟩
/-- an answer is an int or a long within its bounds -/
def am_vok (v : Option am_V) : Prop := ∀ w, v = some w → am_ok 0 w ∧ ∀ p, w ≠ .inr (.inr p)
def am_rok : am_R → Prop
  | .inl (v, _) => am_vok v
  | .inr (x, _) => x < 3
theorem am_vok_rep {v : Option am_V} (h : am_vok v) (ρ ρ' : am_A) : v.map (am_rep ρ) = v.map (am_rep ρ') := by
  rcases v with _ | z | z | z
  · rfl
  · rfl
  · rfl
  · exact absurd rfl ((h _ rfl).2 z)
section AMK
variable {p : Program} {l : Launch} {e : Env} {R : Room} {s : State} {m : MethodId} {args : Array Value} {below : List Frame} {meth : Method} {c : Code} {H : Heap} {locs : List Loc} {cells slots : Nat} {Q : State → Prop}
variable {cc : ByteArray} {pc : Nat} {jls : Array Slot} {ρ : am_A} {ro : Nat → Option (Nat × Nat)} {D : va_G} {A : Nat → Prop} {h : am_H} {own : String} {rest st0 : List Value} {mc ms : Nat} {a : Array Value}
theorem am_cont {res : am_R} (hr : vx_Run p l e R s m args below meth c H locs cells slots mc ms (F0 m pc jls st0) rest (am_Qc D A ρ h.1.length res a) (am_Xc D A ρ h.1.length res) A) (hC : am_CR ro D A s ρ h H locs) (hm : am_mono h (am_rh res))
    (kk : ∀ (v : Option am_V) (h' : am_H) (ρ' : am_A) (H1 : Heap) (locs1 : List Loc), res = .inl (v, h') → am_ext h.1.length ρ ρ' → am_CR ro D A s ρ' h' H1 locs1 → W p l e R s m args below meth c H1 locs1 (cells + mc) (slots + ms) Q (F0 m (pc + 3) jls ((v.map (am_rep ρ)).toList ++ rest)))
    (kx : ∀ (x : Nat) (h' : am_H) (ρ' : am_A) (H1 : Heap) (locs1 : List Loc) (q9 : Addr) (ce : Cell), res = .inr (x, h') → am_ext h.1.length ρ ρ' → am_CR ro D A s ρ' h' H1 locs1 → H1[q9]? = some ce → ce.vm = .none → s.vm.findClass (am_xn x) = some ce.cls → vx_W p l e R s m args below meth c H1 locs1 (cells + mc) (slots + ms) Q (F0 m pc jls rest) q9) :
    W p l e R s m args below meth c H locs cells slots Q (F0 m pc jls st0) := by
  obtain ⟨c1, c2, c3, c4, c5, c6⟩ := hC
  have mk : ∀ {h' : am_H} {st₀ t T' : State} {L : List Loc}, am_mono h h' → st₀.heap = H → T'.heap = t.heap → T'.vm = t.vm → s.vm.Alike T'.vm → (∀ q ∈ L, A q.base) → ∀ ρ', am_ext h.1.length ρ ρ' → va_P D am_cl (am_wl ρ' h') t.heap → va_D A (am_wl ρ' h') → am_ak ρ' h' t → va_F A st₀ t → am_CR ro D A s ρ' h' T'.heap (locs ++ L) := by
    intro h' st₀ t T' L hm h0 e1 e2 hv hL ρ' q1 q2 q3 q4 q5
    obtain ⟨k1, k2, k3⟩ := vx_keep (A0 := A) (A1 := A) (free := A) h0 e1 c3 (fun q _ z => z) (fun q z => z) hL q5
    refine ⟨by rw [e1]; exact q2, q3, k3, am_ak_moved (s := t) (U := s) (by rw [← e2]; exact hv.symm) q4, hm.1, ?_⟩
    exact am_rof_same (h := h) (am_rof_ext q1 c5 rfl c6) (fun q hq => (hm.2.2.2.2 q hq).1) (fun q hq => (hm.2.2.2.2 q hq).2)
  intro T hT X
  rcases hr T hT X with ⟨v, st₀, t, T', L, h0, X', hL, e1, e2, ⟨v', h', hres, hv, ρ', q1, q2, q3, q4, q5⟩, st⟩ | ⟨q, st₀, t, T', L, E, ce, h0, X', hL, e1, e2, ⟨x, h', hres, hE, ρ', q1, q2, q3, q4, q5⟩, hce, hcv, hcl, st⟩
  · cases hv
    have hm' : am_mono h h' := by rw [hres] at hm; exact hm
    obtain ⟨t2, a1, b1⟩ := kk v' h' ρ' T'.heap (locs ++ L) hres q1 (mk hm' h0 e1 e2 X'.warmed.alike hL ρ' q1 q2 q3 q4 q5) T' rfl X'
    exact ⟨t2, st t2 a1, b1⟩
  · have hm' : am_mono h h' := by rw [hres] at hm; exact hm
    obtain ⟨t2, a1, b1⟩ := kx x h' ρ' T'.heap (locs ++ L) q ce hres q1 (mk hm' h0 e1 e2 X'.warmed.alike hL ρ' q1 q2 q3 q4 q5) (by rw [e1]; exact hce) hcv (by rw [← hE]; exact hcl) T' rfl X'
    exact ⟨t2, st.trans a1, b1⟩
end AMK
