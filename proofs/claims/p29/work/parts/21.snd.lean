/-- where a method answers -/
def am_retok (cc : ByteArray) (rt pc : Nat) (v : Option am_V) : Prop :=
  (v = none ∧ rt = 0 ∧ decode cc pc = .ok (.return_, 1)) ∨
  (∃ x, v = some (.inl x) ∧ (-2147483648 ≤ x ∧ x < 2147483648) ∧ (rt = 1 ∨ (rt = 2 ∧ (x = 0 ∨ x = 1)) ∨ (rt = 4 ∧ -128 ≤ x ∧ x < 128) ∨ (rt = 5 ∧ 0 ≤ x ∧ x < 65536)) ∧ decode cc pc = .ok (.ireturn, 1)) ∨
  (∃ x, v = some (.inr (.inl x)) ∧ rt = 3 ∧ decode cc pc = .ok (.lreturn, 1))
def am_thrown_h (h : am_H) : am_H := (h.1, h.2.1, h.2.2.1, h.2.2.2.1, h.2.2.2.2.1 + 1, h.2.2.2.2.2 + 6)
theorem am_sub3 {a b c x : Nat} (h1 : a ≤ b) (h2 : b ≤ c) : x + (b - a) + (c - b) = x + (c - a) := by omega
section AMR
variable {p : Program} {l : Launch} {e : Env} {R : Room} {s : State} {m : MethodId} {args : Array Value} {below : List Frame} {meth : Method} {c : Code} {Q : State → Prop}
variable {cc : ByteArray} {ro : Nat → Option (Nat × Nat)} {D : va_G} {A : Nat → Prop} {own : String} {P : am_PG} {hlj : List am_HE} {ini : Bool} {rt d nL : Nat} {call : Nat → List am_V → am_H → Option am_R} {C : Nat → Option am_E} {ρ0 : am_A}
/-- what is asked of the continuations -/
def am_KR (p : Program) (l : Launch) (e : Env) (R : Room) (s : State) (m : MethodId) (args : Array Value) (below : List Frame) (meth : Method) (c : Code) (Q : State → Prop) (cc : ByteArray) (ro : Nat → Option (Nat × Nat)) (D : va_G) (A : Nat → Prop) (rt nL : Nat) (res : am_R) (ρ : am_A) (h : am_H) (cells slots : Nat) : Prop :=
  ∀ (v : Option am_V) (h' : am_H) (ρ' : am_A) (H' : Heap) (locs' : List Loc) (jls' : Array Slot) (pc' : Nat), res = .inl (v, h') → am_ext h.1.length ρ ρ' → am_CR ro D A s ρ' h' H' locs' → jls'.size = nL → am_retok cc rt pc' v → W p l e R s m args below meth c H' locs' (cells + (am_hc h' - am_hc h)) (slots + (am_hs h' - am_hs h)) Q (F0 m pc' jls' (v.map (am_rep ρ')).toList)
def am_KX (p : Program) (l : Launch) (e : Env) (R : Room) (s : State) (m : MethodId) (args : Array Value) (below : List Frame) (meth : Method) (c : Code) (Q : State → Prop) (ro : Nat → Option (Nat × Nat)) (D : va_G) (A : Nat → Prop) (hlj : List am_HE) (res : am_R) (ρ : am_A) (h : am_H) (cells slots : Nat) : Prop :=
  ∀ (x : Nat) (h' : am_H) (ρ' : am_A) (H' : Heap) (locs' : List Loc) (jls' : Array Slot) (pc' : Nat) (rest : List Value) (q : Addr) (ce : Cell), res = .inr (x, h') → am_ext h.1.length ρ ρ' → am_CR ro D A s ρ' h' H' locs' → H'[q]? = some ce → ce.vm = .none → s.vm.findClass (am_xn x) = some ce.cls → am_hdf hlj pc' x = some none → vx_W p l e R s m args below meth c H' locs' (cells + (am_hc h' - am_hc h)) (slots + (am_hs h' - am_hs h)) Q (F0 m pc' jls' rest) q
def am_KT (p : Program) (l : Launch) (e : Env) (R : Room) (s : State) (m : MethodId) (args : Array Value) (below : List Frame) (meth : Method) (c : Code) (Q : State → Prop) (own : String) (cc : ByteArray) (ro : Nat → Option (Nat × Nat)) (D : va_G) (A : Nat → Prop) (hlj : List am_HE) (nL : Nat) (res : am_R) (ρ : am_A) (h : am_H) (cells slots : Nat) : Prop :=
  ∀ (x : Nat) (h' : am_H) (ρ' : am_A) (H' : Heap) (locs' : List Loc) (jls' : Array Slot) (pc' : Nat) (rest : List Value), res = .inr (x, am_thrown_h h') → am_ext h.1.length ρ ρ' → am_CR ro D A s ρ' h' H' locs' → am_hc h ≤ am_hc h' → am_hs h ≤ am_hs h' → jls'.size = nL → am_thok own cc pc' x → hlj = [] → (rest.map fun v => v.category).sum ≤ 8 → W p l e R s m args below meth c H' locs' (cells + (am_hc h' - am_hc h)) (slots + (am_hs h' - am_hs h)) Q (F0 m pc' jls' rest)
theorem am_KR_go {rt nL : Nat} {res : am_R} {ρ ρ1 : am_A} {h h1 : am_H} {cells slots : Nat} (hk : am_KR p l e R s m args below meth c Q cc ro D A rt nL res ρ h cells slots) (he : am_ext h.1.length ρ ρ1) (hm : am_mono h h1) (hm2 : am_mono h1 (am_rh res)) : am_KR p l e R s m args below meth c Q cc ro D A rt nL res ρ1 h1 (cells + (am_hc h1 - am_hc h)) (slots + (am_hs h1 - am_hs h)) := by
  intro v h' ρ' H' locs' jls' pc' hres q1 q2 q3 q4
  have hm3 : am_mono h1 h' := by rw [hres] at hm2; exact hm2
  have := hk v h' ρ' H' locs' jls' pc' hres (am_ext_tr he q1 hm.2.1) q2 q3 q4
  rw [am_sub3 hm.2.2.1 hm3.2.2.1, am_sub3 hm.2.2.2.1 hm3.2.2.2.1]
  exact this
theorem am_KX_go {res : am_R} {ρ ρ1 : am_A} {h h1 : am_H} {cells slots : Nat} (hk : am_KX p l e R s m args below meth c Q ro D A hlj res ρ h cells slots) (he : am_ext h.1.length ρ ρ1) (hm : am_mono h h1) (hm2 : am_mono h1 (am_rh res)) : am_KX p l e R s m args below meth c Q ro D A hlj res ρ1 h1 (cells + (am_hc h1 - am_hc h)) (slots + (am_hs h1 - am_hs h)) := by
  intro x h' ρ' H' locs' jls' pc' rest q ce hres q1 q2 q3 q4 q5 q6
  have hm3 : am_mono h1 h' := by rw [hres] at hm2; exact hm2
  have := hk x h' ρ' H' locs' jls' pc' rest q ce hres (am_ext_tr he q1 hm.2.1) q2 q3 q4 q5 q6
  rw [am_sub3 hm.2.2.1 hm3.2.2.1, am_sub3 hm.2.2.2.1 hm3.2.2.2.1]
  exact this
theorem am_KT_go {nL : Nat} {res : am_R} {ρ ρ1 : am_A} {h h1 : am_H} {cells slots : Nat} (hk : am_KT p l e R s m args below meth c Q own cc ro D A hlj nL res ρ h cells slots) (he : am_ext h.1.length ρ ρ1) (hm : am_mono h h1) : am_KT p l e R s m args below meth c Q own cc ro D A hlj nL res ρ1 h1 (cells + (am_hc h1 - am_hc h)) (slots + (am_hs h1 - am_hs h)) := by
  intro x h' ρ' H' locs' jls' pc' rest hres q1 q2 g1 g2 q3 q4 q5 q6
  have := hk x h' ρ' H' locs' jls' pc' rest hres (am_ext_tr he q1 hm.2.1) q2 (Nat.le_trans hm.2.2.1 g1) (Nat.le_trans hm.2.2.2.1 g2) q3 q4 q5 q6
  rw [am_sub3 hm.2.2.1 g1, am_sub3 hm.2.2.2.1 g2]
  exact this
theorem am_map_app {ρ : am_A} {v : am_V} {ar r : List am_V} : ((v :: ar).reverse ++ r).map (am_rep ρ) = (ar.map (am_rep ρ)).reverse ++ (am_rep ρ v :: r.map (am_rep ρ)) := by simp
theorem am_map_app0 {ρ : am_A} {ar r : List am_V} : (ar.reverse ++ r).map (am_rep ρ) = (ar.map (am_rep ρ)).reverse ++ r.map (am_rep ρ) := by simp
theorem am_zero {x y : Nat} : x + (y - y) = x := by omega
set_option maxHeartbeats 4000000 in
theorem am_run_sound (hexec : p.tables.exec = Jvm.exec) (hb : c.code = cc) (hst : l.stackTraces = false) (hown : s.vm.findClass own = some m.cls) (hts : ∀ w ∈ lw_tblG, w.before args s = true) (hK : va_K D am_cl [] s) (hA : ∀ q, s.heap.size ≤ q → A q) (hgs : am_gs A ρ0 s s.heap) (hini : ini = true → meth.name = "<init>") (hlocks : meth.locks = false) (hml : c.maxLocals = nL) (hxt : c.exceptionTable.toList = tableOf (am_hh hlj)) (hhl : am_hlok own cc hlj)
    (hRf : d + 13 ≤ R.frames) (hRl : 80 * d + 580 ≤ R.locals) (hro : ∀ q k len, ro q = some (k, len) → len < 2147483648) (hC : ∀ pc e, C pc = some e → am_iok P own cc hlj ini pc e)
    (hcm : ∀ j ar h res, am_mkj P j → call j ar h = some res → am_okh h → am_oks h.1.length ar → am_mono h (am_rh res) ∧ am_rok res)
    (hcs : ∀ j ar h res, am_mkj P j → call j ar h = some res → am_okh h → am_oks h.1.length ar → ∀ ρ, vx_Met l (am_mn P j) (am_wd (am_mn P j) (am_by P j) (am_ml P j) (am_re P j) (am_hl P j) :: lw_tblG) (am_rm d (am_hc (am_rh res) - am_hc h) (am_hs (am_rh res) - am_hs h)) (am_Pc ro D A ρ h ar) (am_Qc D A ρ h.1.length res) (am_Xc D A ρ h.1.length res) (am_hc (am_rh res) - am_hc h) (am_hs (am_rh res) - am_hs h) A) :
    ∀ (N pc : Nat) (ls : am_L) (st : List am_V) (h : am_H) (res : am_R), am_run ro am_fty am_nf (am_na P) (am_rc P) C (am_hdf hlj) rt call N pc ls st h = some res → am_oks h.1.length st → am_loks h.1.length ls → ls.length = nL →
    ∀ (ρ : am_A) (H : Heap) (locs : List Loc) (cells slots : Nat) (jls : Array Slot), lv_has jls ls.length (am_lr ρ ls) → am_CR ro D A s ρ h H locs → ρ.2.1 = ρ0.2.1 → cells + (am_hc (am_rh res) - am_hc h) ≤ R.cells → slots + (am_hs (am_rh res) - am_hs h) ≤ R.slots →
      am_KR p l e R s m args below meth c Q cc ro D A rt nL res ρ h cells slots → am_KX p l e R s m args below meth c Q ro D A hlj res ρ h cells slots → am_KT p l e R s m args below meth c Q own cc ro D A hlj nL res ρ h cells slots →
      W p l e R s m args below meth c H locs cells slots Q (F0 m pc jls (st.map (am_rep ρ))) := by
  intro N
  induction N with
  | zero => intro pc ls st h res hh; cases hh
  | succ N ih =>
    intro pc ls st h res hh hok hlok hlsn ρ H locs cells slots jls hl hCR hρ hr1 hr2 hkr hkx hkt
    have hokh := hCR.2.2.2.2.1
    have hmono : ∀ {pc ls st h}, am_run ro am_fty am_nf (am_na P) (am_rc P) C (am_hdf hlj) rt call N pc ls st h = some res → am_okh h → am_oks h.1.length st → am_loks h.1.length ls → am_mono h (am_rh res) := fun q q1 q2 q3 => (am_run_mono hro hC hcm N _ _ _ _ res q q1 q2 q3).1
    have hgsρ : am_gs A ρ s s.heap := am_gs_ext hρ hgs
    -- on with the same heap
    have same : ∀ {pc' : Nat} {ls' : am_L} {st' : List am_V} {jls' : Array Slot}, am_run ro am_fty am_nf (am_na P) (am_rc P) C (am_hdf hlj) rt call N pc' ls' st' h = some res → am_oks h.1.length st' → am_loks h.1.length ls' → ls'.length = nL → lv_has jls' ls'.length (am_lr ρ ls') → W p l e R s m args below meth c H locs cells slots Q (F0 m pc' jls' (st'.map (am_rep ρ))) :=
      fun q q1 q2 q3 q4 => ih _ _ _ _ res q q1 q2 q3 ρ H locs cells slots _ q4 hCR hρ hr1 hr2 hkr hkx hkt
    -- on with a later heap
    have later : ∀ {pc' : Nat} {ls' : am_L} {st' : List am_V} {jls' : Array Slot} {h1 : am_H} {ρ1 : am_A} {H1 : Heap} {locs1 : List Loc}, am_run ro am_fty am_nf (am_na P) (am_rc P) C (am_hdf hlj) rt call N pc' ls' st' h1 = some res → am_mono h h1 → am_oks h1.1.length st' → am_loks h1.1.length ls' → ls'.length = nL → am_ext h.1.length ρ ρ1 → am_CR ro D A s ρ1 h1 H1 locs1 → lv_has jls' ls'.length (am_lr ρ1 ls') → W p l e R s m args below meth c H1 locs1 (cells + (am_hc h1 - am_hc h)) (slots + (am_hs h1 - am_hs h)) Q (F0 m pc' jls' (st'.map (am_rep ρ1))) := by
      intro pc' ls' st' jls' h1 ρ1 H1 locs1 q qm q1 q2 q3 qe qC q4
      have hm2 := hmono q qm.1 q1 q2
      refine ih _ _ _ _ res q q1 q2 q3 ρ1 H1 locs1 _ _ _ q4 qC (qe.2.1.trans hρ) ?_ ?_ (am_KR_go hkr qe qm hm2) (am_KX_go hkx qe qm hm2) (am_KT_go hkt qe qm)
      · rw [am_sub3 qm.2.2.1 hm2.2.2.1]; exact hr1
      · rw [am_sub3 qm.2.2.2.1 hm2.2.2.2.1]; exact hr2
    rw [am_run] at hh
    split at hh
    · cases hh
    · rename_i e9 he
      obtain ⟨len, ins, a, b, z⟩ := e9
      obtain ⟨hd, hctl, hnr⟩ := hC pc _ he
      have hsz : jls.size = nL := by rw [← hlsn]; exact hl.1
      have S : CallFix p m c cc nL s args lw_tblG own := ⟨hexec, hb, hml, hown, hts⟩
      unfold am_one at hh
      dsimp only at hh hctl hnr hd
      -- behind a call
      have aft : ∀ {ar rr : List am_V} {j : Nat} {o : am_R} {st0 : List Value}, am_mkj P j → call j ar h = some o → am_oks h.1.length ar → am_oks h.1.length rr → len = 3 → am_aft (am_hdf hlj) (am_run ro am_fty am_nf (am_na P) (am_rc P) C (am_hdf hlj) rt call N) pc len ls rr (some o) = some res →
          vx_Run p l e R s m args below meth c H locs cells slots (am_hc (am_rh o) - am_hc h) (am_hs (am_rh o) - am_hs h) (F0 m pc jls st0) (rr.map (am_rep ρ)) (am_Qc D A ρ h.1.length o (ar.map (am_rep ρ)).toArray) (am_Xc D A ρ h.1.length o) A → W p l e R s m args below meth c H locs cells slots Q (F0 m pc jls st0) := by
        intro ar rr j o st0 hj hcall q1 q2 hlen hh hrun
        obtain ⟨m1, v1⟩ := hcm _ _ _ _ hj hcall hokh q1
        refine am_cont hrun hCR m1 (fun v h' ρ' H1 locs1 hres x1 x2 => ?_) (fun x h' ρ' H1 locs1 q9 ce hres x1 x2 x3 x4 x5 => ?_)
        · subst hres
          have m1' : am_mono h h' := m1
          have v1' : am_vok v := v1
          unfold am_aft at hh
          dsimp only at hh
          have hst : ((v.map (am_rep ρ)).toList ++ rr.map (am_rep ρ)) = (v.toList ++ rr).map (am_rep ρ') := by
            rw [List.map_append, am_ext_reps x1 hokh.2.2.2.2 q2, am_vok_rep v1' ρ ρ']
            cases v <;> rfl
          rw [hst, ← hlen]
          exact later hh m1' (am_oks_app.mpr ⟨am_vok_list v1', fun w hw => am_ok_mono m1'.2.1 (q2 w hw)⟩) (fun i w hw => am_ok_mono m1'.2.1 (hlok i w hw)) hlsn x1 x2 (am_ext_lr x1 hokh.2.2.2.2 hlok hl)
        · subst hres
          have m1' : am_mono h h' := m1
          have v1' : x < 3 := v1
          unfold am_aft at hh
          dsimp only at hh
          refine am_thrown hexec hb hown hts hgsρ hlocks hhl hxt v1' x3 x4 x5 hl (fun g1 => ?_) (fun g k g1 => ?_)
          · rw [g1] at hh
            cases hh
            exact hkx x h' ρ' H1 locs1 jls pc _ q9 ce rfl x1 x2 x3 x4 x5 g1
          · rw [g1] at hh
            dsimp only at hh
            split at hh
            · rename_i l2 hst
              refine ⟨l2, hst, fun jl hjl => ?_⟩
              have hl2n : (l2.set k none).length = nL := by rw [List.length_set, (am_st_len hst).1]; exact hlsn
              have hl2 : am_loks h.1.length (l2.set k none) := by
                intro j2 w hj2
                obtain ⟨-, hj3⟩ := am_get_lt hj2
                by_cases hji : j2 = k
                · subst hji
                  by_cases hlt : j2 < l2.length
                  · rw [List.getElem?_set_self hlt] at hj3; cases hj3
                  · rw [List.getElem?_eq_none_iff.mpr (by rw [List.length_set]; omega)] at hj3; cases hj3
                · rw [List.getElem?_set_ne (fun z => hji z.symm)] at hj3
                  rcases am_st_get hst (am_get_of hj3) with ⟨e1, -⟩ | ⟨-, -, e1, -⟩
                  · exact absurd e1 hji
                  · exact hlok j2 w e1
              rw [hlsn] at hjl
              have hjl2 : lv_has jl (l2.set k none).length (am_lr ρ' (l2.set k none)) := by
                rw [hl2n]
                exact am_ext_lr x1 hokh.2.2.2.2 hl2 hjl
              exact later (st' := []) hh m1' (fun w hw => by cases hw) (fun i w hw => am_ok_mono m1'.2.1 (hl2 i w hw)) hl2n x1 x2 hjl2
            · cases hh
      have room : ∀ {rr : List am_V} {o : am_R}, am_oks h.1.length rr → am_mono h (am_rh o) ∧ am_rok o → am_aft (am_hdf hlj) (am_run ro am_fty am_nf (am_na P) (am_rc P) C (am_hdf hlj) rt call N) pc len ls rr (some o) = some res → cells + (am_hc (am_rh o) - am_hc h) ≤ R.cells ∧ slots + (am_hs (am_rh o) - am_hs h) ≤ R.slots := by
        intro rr o q1 q2 hh
        have m2 := am_aft_mono2 hh q1 hlok q2 (fun pc ls st h q g1 g2 g3 => am_run_mono hro hC hcm N pc ls st h res q g1 g2 g3)
        have a1 := m2.2.2.1
        have a2 := m2.2.2.2.1
        constructor <;> omega
      have jmp : ∀ {rr : List am_V} {o : Option Nat}, am_oks h.1.length rr → am_jmp (am_run ro am_fty am_nf (am_na P) (am_rc P) C (am_hdf hlj) rt call N) ls rr h o = some res → ∃ t, o = some t ∧ W p l e R s m args below meth c H locs cells slots Q (F0 m t jls (rr.map (am_rep ρ))) := by
        intro rr o q1 hh
        unfold am_jmp at hh
        split at hh
        · exact ⟨_, rfl, same hh q1 hlok hlsn hl⟩
        · cases hh
      have nx : ∀ {i : Instr}, am_nx (am_run ro am_fty am_nf (am_na P) (am_rc P) C (am_hdf hlj) rt call N) (pc + len) (am_norm ro am_fty am_nf i a b z ls st h) = some res → decode cc pc = .ok (i, len) → am_len i = len → am_hok own ini i a b z → (∀ i2, i = .new i2 → a < 12) → W p l e R s m args below meth c H locs cells slots Q (F0 m pc jls (st.map (am_rep ρ))) := by
        intro i hh hd hlen hhk hnw
        cases hn : am_norm ro am_fty am_nf i a b z ls st h with
        | none => rw [hn] at hh; cases hh
        | some x =>
          obtain ⟨l2, s2, h2⟩ := x
          rw [hn] at hh
          have hh : am_run ro am_fty am_nf (am_na P) (am_rc P) C (am_hdf hlj) rt call N (pc + len) l2 s2 h2 = some res := hh
          obtain ⟨m1, o1, o2, o3⟩ := am_norm_mono hn hok hlok hokh hnw hro
          have m2 := hmono hh m1.1 o1 o2
          refine am_norm_sound hexec hb hown hts hK hA hgsρ hini hn hd hlen hok hlok hhk hCR hl ?_ ?_ (fun ρ' H' locs' jls' x1 x2 x3 => ?_)
          · have := m2.2.2.1; have := m1.2.2.1; omega
          · have := m2.2.2.2.1; have := m1.2.2.2.1; omega
          · exact later hh m1 o1 o2 (o3.trans hlsn) x1 x2 x3
      have prm : ∀ {sta : Bool} {i : Nat}, am_nx (am_run ro am_fty am_nf (am_na P) (am_rc P) C (am_hdf hlj) rt call N) (pc + len) ((am_prim ro a st h).map (fun x => (ls, x.1, x.2))) = some res → decode cc pc = .ok (if sta = true then .invokestatic i else .invokespecial i, len) → len = 3 → am_pok own i a sta → am_cats st ≤ 40 → W p l e R s m args below meth c H locs cells slots Q (F0 m pc jls (st.map (am_rep ρ))) := by
        intro sta i hh hd hlen hpk hcat
        cases hn : am_prim ro a st h with
        | none => rw [hn] at hh; cases hh
        | some x =>
          obtain ⟨s2, h2⟩ := x
          rw [hn] at hh
          have hh : am_run ro am_fty am_nf (am_na P) (am_rc P) C (am_hdf hlj) rt call N (pc + len) ls s2 h2 = some res := hh
          rw [hlen] at hd hh
          obtain ⟨m1, o1⟩ := am_prim_mono hn hok hokh
          obtain ⟨-, e1, e2, e3, -, -, kk⟩ := am_prim_sound (p := p) (l := l) (e := e) (R := R) (args := args) (below := below) (meth := meth) (cells := cells) (slots := slots) (Q := Q) (jls := jls) hexec hb (hml.trans hsz.symm) hown hts hK (by omega) (by omega) (by omega) (by omega) hn hd hpk hcat hok hCR
          refine kk (fun H' locs' x2 => ?_)
          have := later (pc' := pc + 3) (jls' := jls) hh m1 o1 (fun i w hw => am_ok_mono m1.2.1 (hlok i w hw)) hlsn (am_ext_rf _ _) x2 hl
          rw [e2, e3, am_zero, am_zero] at this
          exact this
      split at hh
      · -- goto
        obtain ⟨t, ht, k⟩ := jmp hok hh
        rw [hctl] at hd
        exact lv_goto hexec hb hd (am_tgt_inv ht) k
      · -- if
        split at hh
        · rename_i t x r ht
          obtain ⟨ox, or⟩ := am_oks_cons.mp hok
          rw [hctl] at hd hh
          refine am_if_sound (n := h.1.length) hexec hb ox ht hd (fun q => ?_) (fun q => ?_)
          · rw [if_pos q] at hh; exact same hh or hlok hlsn hl
          · rw [if_neg q] at hh; exact same hh or hlok hlsn hl
        · cases hh
      · split at hh
        · rename_i t y x r ht
          obtain ⟨oy, or1⟩ := am_oks_cons.mp hok
          obtain ⟨ox, or⟩ := am_oks_cons.mp or1
          rw [hctl] at hd hh
          refine am_icmp_sound (n := h.1.length) hexec hb ox oy ht hd (fun q => ?_) (fun q => ?_)
          · rw [if_pos q] at hh; exact same hh or hlok hlsn hl
          · rw [if_neg q] at hh; exact same hh or hlok hlsn hl
        · cases hh
      · -- tableswitch
        split at hh
        · rename_i x r
          obtain ⟨ox, or⟩ := am_oks_cons.mp hok
          refine am_tsw_sound (n := h.1.length) hexec hb ox hd (fun q => ?_) (fun q => ?_)
          · rw [if_pos q] at hh
            exact jmp or hh
          · rw [if_neg q] at hh
            split at hh
            · rename_i off ho
              obtain ⟨t, ht, k⟩ := jmp or hh
              exact ⟨off, t, ho, ht, k⟩
            · cases hh
        · cases hh
      · -- lookupswitch
        split at hh
        · rename_i x r
          obtain ⟨ox, or⟩ := am_oks_cons.mp hok
          split at hh
          · rename_i hp
            obtain ⟨t, ht, k⟩ := jmp or hh
            exact am_lsw_sound (n := h.1.length) hexec hb ox hd hp ht k
          · cases hh
        · cases hh
      · -- ireturn
        split at hh
        · rename_i x
          split at hh
          · rename_i hrt
            cases hh
            rw [hctl] at hd
            have := hkr (some (.inl x)) h ρ H locs jls pc rfl (am_ext_rf _ _) hCR hsz (Or.inr (Or.inl ⟨x, rfl, (am_oks_cons.mp hok).1, hrt, hd⟩))
            rw [am_zero, am_zero] at this
            exact this
          · cases hh
        · cases hh
      · -- lreturn
        split at hh
        · rename_i x
          split at hh
          · rename_i hrt
            cases hh
            rw [hctl] at hd
            have := hkr (some (.inr (.inl x))) h ρ H locs jls pc rfl (am_ext_rf _ _) hCR hsz (Or.inr (Or.inr ⟨x, rfl, hrt, hd⟩))
            rw [am_zero, am_zero] at this
            exact this
          · cases hh
        · cases hh
      · -- return
        split at hh
        · split at hh
          · rename_i hrt
            cases hh
            rw [hctl] at hd
            have := hkr none h ρ H locs jls pc rfl (am_ext_rf _ _) hCR hsz (Or.inl ⟨rfl, hrt, hd⟩)
            rw [am_zero, am_zero] at this
            exact this
          · cases hh
        · cases hh
      · -- invokevirtual
        rename_i idx
        split at hh
        · rename_i p0 ar r hargs
          obtain ⟨e1, e2⟩ := am_args_inv hargs
          subst e1
          obtain ⟨o1, o2⟩ := am_oks_app.mp hok
          have o1 := am_oks_rev.mp o1
          obtain ⟨hlen, hmk, hcv⟩ := hctl
          split at hh
          · rename_i c0 ln hkind
            split at hh
            · rename_i hc
              cases hcall : call a (.inr (.inr p0) :: ar) h with
              | none => rw [hcall] at hh; cases hh
              | some o =>
                rw [hcall] at hh
                have hm1 := hcm _ _ _ _ hmk hcall hokh o1
                have hM := hcs _ _ _ _ hmk hcall hokh o1 ρ
                have hroom := room o2 hm1 hh
                rw [hlen] at hd
                have hrecv : ∃ r0, am_rep ρ (.inr (.inr p0)) = .ref r0 ∧ ∃ cellB : Cell, H[r0]? = some cellB ∧ cellB.vm.isStatics = false ∧ s.vm.findClass (am_mn P a).cls = some cellB.cls := by
                  obtain ⟨-, -, -, -, hcls, hrc⟩ := hcv
                  rcases (am_kind_lt hkind).2 with ⟨hlt, i, rfl, hi⟩ | ⟨hge, q2, rfl, hq2⟩
                  · refine ⟨_, am_rep_lt hlt, ?_⟩
                    have hk13 : c0 < 12 := by
                      have := (hokh.2.2.2.1 i _ _ hi).1
                      have := hc.1
                      omega
                    have hat := am_wl_at (ρ := ρ) hi
                    rw [am_ce_obj (by omega)] at hat
                    have := va_recv hK hCR.1 (am_cl_at c0 hk13) hat
                    rw [hcls, ← hc.1]
                    unfold am_rcn
                    rw [if_neg (by omega)]
                    exact this
                  · obtain ⟨-, hf⟩ := hCR.2.2.2.2.2 q2 _ _ hq2
                    rcases hf with ⟨e50, ad, had, hO, -⟩ | ⟨e50, -⟩
                    · refine ⟨ad, am_rep_sp had, ?_⟩
                      obtain ⟨cell, x1, x2, x3, -⟩ := hO.kept hCR.2.2.1.2.1
                      refine ⟨cell, x1, x2, ?_⟩
                      rw [hcls, ← hc.1, e50]
                      exact x3
                    · have := hc.1
                      omega
                obtain ⟨r0, hr0, hcell⟩ := hrecv
                rw [am_map_app, hr0]
                refine aft (ar := .inr (.inr p0) :: ar) hmk hcall o1 o2 hlen hh ?_
                rw [List.map_cons, hr0]
                refine am_invV S hM hmk hcv (by rw [List.length_map]; exact e2) ⟨am_Pc_blind, hcell, fun U hU hW => ⟨?_, am_en_of hW hU hK hA hgsρ hCR⟩⟩ hsz (by rw [am_cats_rep]; exact hc.2) hd hroom hRf hRl
                rw [List.map_cons, hr0]
            · cases hh
          · cases hh
        · cases hh
      · -- invokespecial
        rename_i idx
        split at hh
        · rename_i h9
          split at hh
          · rename_i hcat
            rcases hctl.2 with ⟨-, hpk⟩ | ⟨q, -⟩
            · exact prm (sta := false) hh hd hctl.1 hpk hcat
            · omega
          · cases hh
        · rename_i h9
          split at hh
          · rename_i p0 ar r hargs
            obtain ⟨e1, e2⟩ := am_args_inv hargs
            subst e1
            obtain ⟨o1, o2⟩ := am_oks_app.mp hok
            have o1 := am_oks_rev.mp o1
            split at hh
            · rename_i hc
              obtain ⟨hlen, hctl⟩ := hctl
              rcases hctl with ⟨q, -⟩ | ⟨-, hmk, hci⟩
              · exact absurd q h9
              · cases hcall : call a (.inr (.inr p0) :: ar) h with
                | none => rw [hcall] at hh; cases hh
                | some o =>
                  rw [hcall] at hh
                  have hm1 := hcm _ _ _ _ hmk hcall hokh o1
                  have hM := hcs _ _ _ _ hmk hcall hokh o1 ρ
                  have hroom := room o2 hm1 hh
                  rw [hlen] at hd
                  obtain ⟨i, rfl⟩ : ∃ i, p0 = i + 1 := ⟨p0 - 1, by have := hc.1; omega⟩
                  have hr0 := am_rep_lt (ρ := ρ) hc.2.1
                  rw [am_map_app, hr0]
                  refine aft (ar := .inr (.inr (i + 1)) :: ar) hmk hcall o1 o2 hlen hh ?_
                  rw [List.map_cons, hr0]
                  refine am_invI S hM hmk hci (by rw [List.length_map]; exact e2) ⟨am_Pc_blind, fun U hU hW => ⟨?_, am_en_of hW hU hK hA hgsρ hCR⟩⟩ hsz (by rw [am_cats_rep]; exact hc.2.2) hd hroom hRf hRl
                  rw [List.map_cons, hr0]
            · cases hh
          · cases hh
      · -- invokestatic
        rename_i idx
        split at hh
        · rename_i h9
          split at hh
          · rename_i hcat
            rcases hctl.2 with ⟨-, hpk⟩ | ⟨q, -⟩
            · exact prm (sta := true) hh hd hctl.1 hpk hcat
            · omega
          · cases hh
        · rename_i h9
          split at hh
          · rename_i ar r hargs
            obtain ⟨e1, e2⟩ := am_args_inv hargs
            subst e1
            obtain ⟨o1, o2⟩ := am_oks_app.mp hok
            have o1 := am_oks_rev.mp o1
            split at hh
            · rename_i hc
              obtain ⟨hlen, hctl⟩ := hctl
              rcases hctl with ⟨q, -⟩ | ⟨-, hmk, hcs9⟩
              · exact absurd q h9
              · cases hcall : call a ar h with
                | none => rw [hcall] at hh; cases hh
                | some o =>
                  rw [hcall] at hh
                  have hm1 := hcm _ _ _ _ hmk hcall hokh o1
                  have hM := hcs _ _ _ _ hmk hcall hokh o1 ρ
                  have hroom := room o2 hm1 hh
                  rw [hlen] at hd
                  rw [am_map_app0]
                  refine aft (ar := ar) hmk hcall o1 o2 hlen hh ?_
                  exact am_invS S hM hmk hcs9 (by rw [List.length_map]; exact e2) ⟨am_Pc_blind, fun U hU hW => ⟨rfl, am_en_of hW hU hK hA hgsρ hCR⟩⟩ hsz (by rw [am_cats_rep]; exact hc) hd hroom hRf hRl
            · cases hh
          · cases hh
      · -- new
        rename_i idx
        split at hh
        · rename_i h50
          split at hh
          · rename_i hcat
            cases hh
            rcases hctl with ⟨-, ht, hnil⟩ | ⟨q, -⟩
            · have := hkt (a - 50) h ρ H locs jls pc (st.map (am_rep ρ)) rfl (am_ext_rf _ _) hCR (Nat.le_refl _) (Nat.le_refl _) hsz ht hnil (by rw [am_cats_rep]; exact hcat)
              rw [am_zero, am_zero] at this
              exact this
            · omega
          · cases hh
        · rename_i h50
          rcases hctl with ⟨q, -⟩ | ⟨q1, q2, q3⟩
          · exact absurd q h50
          · exact nx hh hd q2.symm q3 (fun _ _ => q1)
      · rename_i n1 n2 n3 n4 n5 n6 n7 n8 n9 n10 n11 n12
        obtain ⟨q1, q2⟩ := hnr (am_nrm_of n1 n2 n3 n4 n5 n6 n7 n8 n9 n10 n11 n12)
        exact nx hh hd q1 q2 (fun i hi => (n12 i hi).elim)
end AMR
