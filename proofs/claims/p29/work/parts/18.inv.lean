/-! calls: all kinds at once -/
def am_rtag (r : Option FieldType) : Nat := match r with
  | none => 0
  | some .int => 1
  | some .boolean => 2
  | some .long => 3
  | some .byte => 4
  | some .char => 5
  | _ => 9
section AMI0
variable {p : Program} {l : Launch} {e : Env} {R : Room} {s : State} {m : MethodId} {args : Array Value} {below : List Frame} {meth : Method} {c : Code} {H : Heap} {locs : List Loc} {cells slots : Nat}
/-- a private method of a nest mate, with a table of handlers, that may throw (follows vx_callVN and vx_callVX) -/
theorem am_callVNX {T : State} (X : Stand p l e R s m args below meth c T locs cells slots) (hexec : p.tables.exec = Jvm.exec) {own C : String} {index : Nat} {host : String} {y : MethodName} {bytes : ByteArray} {maxL : Nat} {ret : Option FieldType} {hh : List (Nat × Nat × Nat × Nat)}
    (hown : s.vm.findClass own = some m.cls) (hlink : (Cond.methodLinkNest own index y host).before args s = true) (hinst : (Cond.instanceMethod y).before args s = true) (hsel : (Cond.selects C y y).before args s = true)
    (hcode : (Cond.codeWith y bytes maxL ret hh).before args s = true) (hy : y.cls ≠ "java/lang/invoke/MethodHandle" ∧ y.cls ≠ "java/lang/invoke/VarHandle")
    {W : Nat} {Pre : Pt → Array Value → Prop} {Post : Pt → Array Value → Option Value → Pt → Prop} {PostX : Pt → Array Value → Addr → Pt → Prop} (hK : vx_Back l R p e below s args y 3 W Pre Post PostX)
    {b : Addr} {cellB : Cell} (hcell : T.heap[b]? = some cellB) (hobj : cellB.vm.isStatics = false) (hcls : s.vm.findClass C = some cellB.cls)
    {g : JFrame} (hg : g.method = m) (hsize : g.locals.size = c.maxLocals) {argsL rest : List Value} (hlen : ∀ sig, parseMethodDescriptor y.desc = some sig → argsL.length = sig.parameters.length)
    (hstack : g.stack = argsL.reverse ++ .ref b :: rest) (hW : 2 * g.monitorRoom + (rest.map fun v => v.category).sum ≤ W) (hdg : decode c.code g.pc = .ok (.invokevirtual index, 3))
    (hpre : ∀ vm₁, s.WarmedH vm₁ → Pre ⟨T.setVm vm₁, locs, cells, slots⟩ (Value.ref b :: argsL).toArray) :
    (∃ (v : Option Value) (vm₁ : Vm) (B : Pt), s.WarmedH vm₁ ∧ Stand p l e R s m args below meth c B.U B.locs B.cells B.slots ∧ Post ⟨T.setVm vm₁, locs, cells, slots⟩ (Value.ref b :: argsL).toArray v B ∧
      ∀ target, Steps p.tables e below (B.U.setTop { g with pc := g.pc + 3, stack := v.toList ++ rest }) target → Steps p.tables e below (T.setTop g) target) ∨
    (∃ (q : Addr) (vm₁ : Vm) (B : Pt), s.WarmedH vm₁ ∧ Stand p l e R s m args below meth c B.U B.locs B.cells B.slots ∧ PostX ⟨T.setVm vm₁, locs, cells, slots⟩ (Value.ref b :: argsL).toArray q B ∧
      Steps p.tables e below (T.setTop g) ((B.U.setTop { g with stack := rest }).pushFrame (.throwing q))) := by
  obtain ⟨mk, methM, hnamed, hmethM, hstM, habM⟩ := Cond.instanceMethod_spec hinst
  obtain ⟨m8, methM', cM, hn8, hmethM', -, -, -, -, -, -, hsigM⟩ := Cond.codeWith_spec hcode
  cases Option.some.inj (hn8.symm.trans hnamed)
  cases hmethM.symm.trans hmethM'
  obtain ⟨c2, r2, m2, q1, q2, q3, q4, kP, hkP, hkPi⟩ := Cond.selects_spec hsel
  cases hcls.symm.trans q1
  cases (State.methodFound?_of_named hnamed hy).symm.trans q2
  cases hnamed.symm.trans q3
  have hselP : selectMethod e.platform s.vm cellB.cls mk = .method mk := by rw [Launch.admits_selectMethod X.admits]; exact q4
  obtain ⟨vm₁, X₁, hstep₁⟩ := X.invokevirtualNest hexec hown hlink hnamed hmethM hstM hkP hkPi hy (a := b) (cell := cellB) hcell
    (fun z h => by rw [h] at hobj; cases hobj) hselP hmethM habM hkP hkPi (g := g) hg (argsL := argsL) (rest := rest) (hlen _ hsigM) hstack hdg
  rcases hK m meth c ⟨T.setVm vm₁, locs, cells, slots⟩ { g with stack := rest } (.invokevirtual index) mk (Value.ref b :: argsL).toArray X₁ hg hsize hdg hW (X₁.named hnamed) (hpre vm₁ X₁.warmed) with ⟨v, B, X', hpost, hsteps⟩ | ⟨q, B, X', hpost, hsteps⟩
  · exact Or.inl ⟨v, vm₁, B, X₁.warmed, X', hpost, fun target h => hstep₁ _ fun acts => by rw [doInvoke_state]; exact hsteps.trans h⟩
  · exact Or.inr ⟨q, vm₁, B, X₁.warmed, X', hpost, hstep₁ _ fun acts => by rw [doInvoke_state]; exact hsteps⟩
theorem am_runVNX {y : MethodName} {bytes cc : ByteArray} {maxL nL mc ms n index : Nat} {ret : Option FieldType} {hh : List (Nat × Nat × Nat × Nat)} {ws : List Cond} {rm : Room} {Pc : Array Value → State → Prop} {Qc : Array Value → State → Outcome → State → Prop} {XC : String → State → State → Prop} {free : Addr → Prop} {Ts : List Cond} {own C host : String} {b : Addr} {As rest : List Value} {g : JFrame}
    (S : CallFix p m c cc nL s args Ts own) (hM : vx_Met l y ws rm Pc Qc XC mc ms free)
    (cw : (rm.cells = mc ∧ rm.slots = ms ∧ rm.frames + 1 ≤ R.frames ∧ 8 + (maxL + 11) + rm.locals ≤ R.locals ∧ (∀ w ∈ ws, ∀ (a' : Array Value) (U : State), s.WarmedH U.vm → w.before a' U = true) ∧ Cond.codeWith y bytes maxL ret hh ∈ ws) ∧
      (Cond.codeWith y bytes maxL ret hh).before args s = true ∧ (Cond.initialized y.cls).before args s = true ∧ (y.cls ≠ "java/lang/invoke/MethodHandle" ∧ y.cls ≠ "java/lang/invoke/VarHandle") ∧
      (∀ sig, parseMethodDescriptor y.desc = some sig → n = sig.parameters.length) ∧ (Cond.methodLinkNest own index y host).before args s = true ∧ (Cond.instanceMethod y).before args s = true ∧ (Cond.selects C y y).before args s = true) (hp : PreV s H C b Pc As)
    (hg : g.method = m) (hn : As.length = n) (hsize : g.locals.size = nL) (hstack : g.stack = As.reverse ++ .ref b :: rest) (hW : 2 * g.monitorRoom + (rest.map fun v => v.category).sum ≤ 8) (hdg : decode cc g.pc = .ok (.invokevirtual index, 3)) (hf : cells + mc ≤ R.cells ∧ slots + ms ≤ R.slots) :
    vx_Run p l e R s m args below meth c H locs cells slots mc ms g rest (Qc (Value.ref b :: As).toArray) XC free := by
  obtain ⟨⟨hrc, hrs, hfr, hlo, hws, hcw⟩, hcode, hini, hy, hlen, hl, hin, hse⟩ := cw
  have hK : vx_Back l R p e below s args y 3 8 (PreOf R mc ms Pc) (PostOf Qc mc ms free) (vx_Post XC mc ms free) := vx_backW (hh := hh) (bytes := bytes) (maxL := maxL) (ret := ret) hM hp.1 hrc hrs hfr hlo hws hcw (fun a' U hW => word_at hW (Or.inl (by first | rfl | simp [Cond.onTables, Cond.keeps, Cond.steady])) hini)
  obtain ⟨hx, hb, hml, ho, -⟩ := S
  obtain ⟨-, ⟨cellB, hcB, hoB, hclB⟩, hPc⟩ := hp
  intro T hT X
  rcases am_callVNX X hx (C := C) (hh := hh) (bytes := bytes) (maxL := maxL) (ret := ret) ho hl hin hse hcode hy hK (by rw [hT]; exact hcB) hoB hclB hg (hsize.trans hml.symm) (argsL := As) (rest := rest) (fun sig h => hn.trans (hlen sig h)) hstack hW (by rw [hb]; exact hdg)
    (fun vm₁ hW₁ => ⟨hf.1, hf.2, hPc (T.setVm vm₁) hT hW₁⟩) with ⟨v, vm₁, ⟨U', l2, c2, s2⟩, hW₁, X', ⟨g', mk, t, L, e1, e2, hq, h1, hL, h2, h3⟩, st⟩ | ⟨q, vm₁, ⟨U', l2, c2, s2⟩, hW₁, X', ⟨g', mk, t, L, E, ce, e1, e2, hq, hce, hcv, hcl, h1, hL, h2, h3⟩, st⟩
  · dsimp only [Pt.U, Pt.locs, Pt.cells, Pt.slots] at X' e1 e2 h1 h2 h3 st
    subst h1; subst h2; subst h3
    exact Or.inl ⟨v, (T.setVm vm₁).calling g' mk (Value.ref b :: As).toArray, t, U', L, hT, X', hL, e1, e2, hq, st⟩
  · dsimp only [Pt.U, Pt.locs, Pt.cells, Pt.slots] at X' e1 e2 h1 h2 h3 st hcl
    subst h1; subst h2; subst h3
    exact Or.inr ⟨q, (T.setVm vm₁).calling g' mk (Value.ref b :: As).toArray, t, U', L, E, ce, hT, X', hL, e1, e2, hq, hce, hcv, vx_cls hW₁ hcl, st⟩
end AMI0
/-! the program: methods' names, code, locals, answers, arguments, receivers' classes, handlers, instructions -/
def am_wd (y : MethodName) (b : ByteArray) (n : Nat) (ret : Option FieldType) (hl : List am_HE) : Jvm.Cond := if hl = [] then .code y b n ret else .codeWith y b n ret (am_hh hl)
def am_mk (y : MethodName) (b : ByteArray) (n : Nat) (ret : Option FieldType) (hl : List am_HE) : Prop :=
  am_wd y b n ret hl ∈ lw_tblG ∧ Jvm.Cond.initialized y.cls ∈ lw_tblG ∧ plainName y.cls = true ∧ (y.cls ≠ "java/lang/invoke/MethodHandle" ∧ y.cls ≠ "java/lang/invoke/VarHandle") ∧ n ≤ 60
def am_rcn (a : Nat) : String := if a = 50 then "java/lang/String" else am_C a
def am_cv (own : String) (idx : Nat) (y : MethodName) (na rc : Nat) : Prop :=
  (Jvm.Cond.methodLink own idx y ∈ lw_tblG ∨ ∃ host, Jvm.Cond.methodLinkNest own idx y host ∈ lw_tblG) ∧ Jvm.Cond.instanceMethod y ∈ lw_tblG ∧ Jvm.Cond.selects y.cls y y ∈ lw_tblG ∧ (parseMethodDescriptor y.desc).map (fun d => d.parameters.length + 1) = some na ∧ y.cls = am_rcn rc ∧ (rc < 13 ∨ rc = 50)
def am_cs (own : String) (idx : Nat) (y : MethodName) (na : Nat) (hl : List am_HE) : Prop :=
  (Jvm.Cond.methodLink own idx y ∈ lw_tblG ∨ (hl = [] ∧ ∃ host, Jvm.Cond.methodLinkNest own idx y host ∈ lw_tblG)) ∧ Jvm.Cond.static y ∈ lw_tblG ∧ (parseMethodDescriptor y.desc).map (fun d => d.parameters.length) = some na
def am_ci (own : String) (idx : Nat) (y : MethodName) (ret : Option FieldType) (na : Nat) (hl : List am_HE) : Prop :=
  (Jvm.Cond.methodLink own idx y ∈ lw_tblG ∨ ∃ host, Jvm.Cond.methodLinkNest own idx y host ∈ lw_tblG) ∧ Jvm.Cond.instanceMethod y ∈ lw_tblG ∧ y.name = "<init>" ∧ hl = [] ∧ ret = none ∧ (parseMethodDescriptor y.desc).map (fun d => d.parameters.length + 1) = some na
def am_rm (d mc ms : Nat) : Room := { frames := d + 12, cells := mc, slots := ms, locals := 80 * d + 500 }
theorem am_rm_lo (d mc ms : Nat) : (am_rm d mc ms).locals = 80 * d + 500 := rfl
theorem am_lo_ok {n d x mc ms : Nat} (h : n ≤ 60) (h2 : 80 * d + 580 ≤ x) : 8 + (n + 11) + (am_rm d mc ms).locals ≤ x := by have e := am_rm_lo d mc ms; omega
theorem am_lens {d : String} {n k : Nat} (h : (parseMethodDescriptor d).map (fun d => d.parameters.length + k) = some (n + k)) : ∀ sig, parseMethodDescriptor d = some sig → n = sig.parameters.length := by
  intro sig hs
  rw [hs] at h
  have h2 : sig.parameters.length + k = n + k := Option.some.inj h
  omega
section AMI
variable {p : Program} {l : Launch} {e : Env} {R : Room} {s : State} {m : MethodId} {args : Array Value} {below : List Frame} {meth : Method} {c : Code} {H : Heap} {locs : List Loc} {cells slots : Nat}
variable {cc : ByteArray} {pc : Nat} {jls : Array Slot} {own : String} {rest : List Value} {nL d mc ms idx : Nat} {y : MethodName} {b : ByteArray} {n : Nat} {ret : Option FieldType} {hl : List am_HE}
variable {Pc : Array Value → State → Prop} {Qc : Array Value → State → Outcome → State → Prop} {XC : String → State → State → Prop} {free : Addr → Prop}
theorem am_wsw {s : State} {args : Array Value} (hts : ∀ w ∈ lw_tblG, w.before args s = true) {w0 : Jvm.Cond} (h0 : w0 ∈ lw_tblG) : ∀ w ∈ w0 :: lw_tblG, ∀ (a' : Array Value) (U : State), s.WarmedH U.vm → w.before a' U = true := by
  intro w hw a' U hW
  have hm : w ∈ lw_tblG := by
    rcases List.mem_cons.mp hw with rfl | hw
    · exact h0
    · exact hw
  exact am_ww_use (am_tblw hm) hW (hts w hm)
theorem am_invV (S : CallFix p m c cc nL s args lw_tblG own) (hM : vx_Met l y (am_wd y b n ret hl :: lw_tblG) (am_rm d mc ms) Pc Qc XC mc ms free) (hk : am_mk y b n ret hl) {na rc : Nat} (hv : am_cv own idx y na rc) {As : List Value} {r : Nat} (hna : As.length + 1 = na) (hp : PreV s H y.cls r Pc As) (hsize : jls.size = nL)
    (hW : (rest.map fun v => v.category).sum ≤ 8) (hdg : decode cc pc = .ok (.invokevirtual idx, 3)) (hf : cells + mc ≤ R.cells ∧ slots + ms ≤ R.slots) (hRf : d + 13 ≤ R.frames) (hRl : 80 * d + 580 ≤ R.locals) :
    vx_Run p l e R s m args below meth c H locs cells slots mc ms (F0 m pc jls (As.reverse ++ .ref r :: rest)) rest (Qc (Value.ref r :: As).toArray) XC free := by
  obtain ⟨k1, k2, k3, k4, k5⟩ := hk
  obtain ⟨v1, v2, v3, v4, v5, v6⟩ := hv
  have hts := S.2.2.2.2
  have hws := am_wsw hts k1
  subst hna
  have hlen := am_lens v4
  have hfr : (am_rm d mc ms).frames + 1 ≤ R.frames := hRf
  have hlo : 8 + (n + 11) + (am_rm d mc ms).locals ≤ R.locals := am_lo_ok k5 hRl
  have hW2 : 2 * (F0 m pc jls (As.reverse ++ .ref r :: rest)).monitorRoom + (rest.map fun v => v.category).sum ≤ 8 := by show 2 * 0 + _ ≤ 8; omega
  by_cases hh : hl = []
  · have ew : am_wd y b n ret hl = .code y b n ret := if_pos hh
    rw [ew] at hM k1 hws
    rcases v1 with v1 | ⟨host, v1⟩
    · exact vx_runV (n := As.length) S hM ⟨⟨rfl, rfl, hfr, hlo, hws, List.mem_cons_self, hts _ k1, hts _ k2, k4, hlen, hts _ v1⟩, hts _ v2, hts _ v3⟩ hp rfl rfl hsize rfl hW2 hdg hf
    · exact vx_runVN (n := As.length) (C := y.cls) (host := host) S hM ⟨⟨⟨rfl, rfl, hfr, hlo, hws, List.mem_cons_self⟩, hts _ k1, hts _ k2, k4, hlen, hts _ v1⟩, hts _ v2, hts _ v3⟩ hp rfl rfl hsize rfl hW2 hdg hf
  · have ew : am_wd y b n ret hl = .codeWith y b n ret (am_hh hl) := if_neg hh
    rw [ew] at hM k1 hws
    rcases v1 with v1 | ⟨host, v1⟩
    · exact vx_runVX (n := As.length) (C := y.cls) (hh := am_hh hl) S hM ⟨⟨rfl, rfl, hfr, hlo, hws, List.mem_cons_self⟩, hts _ k1, hts _ k2, k4, hlen, hts _ v1, hts _ v2, hts _ v3⟩ hp rfl rfl hsize rfl hW2 hdg hf
    · exact am_runVNX (n := As.length) (C := y.cls) (host := host) (hh := am_hh hl) S hM ⟨⟨rfl, rfl, hfr, hlo, hws, List.mem_cons_self⟩, hts _ k1, hts _ k2, k4, hlen, hts _ v1, hts _ v2, hts _ v3⟩ hp rfl rfl hsize rfl hW2 hdg hf
theorem am_invS (S : CallFix p m c cc nL s args lw_tblG own) (hM : vx_Met l y (am_wd y b n ret hl :: lw_tblG) (am_rm d mc ms) Pc Qc XC mc ms free) (hk : am_mk y b n ret hl) {na : Nat} (hv : am_cs own idx y na hl) {As : List Value} (hna : As.length = na) (hp : PreS s H Pc As) (hsize : jls.size = nL)
    (hW : (rest.map fun v => v.category).sum ≤ 8) (hdg : decode cc pc = .ok (.invokestatic idx, 3)) (hf : cells + mc ≤ R.cells ∧ slots + ms ≤ R.slots) (hRf : d + 13 ≤ R.frames) (hRl : 80 * d + 580 ≤ R.locals) :
    vx_Run p l e R s m args below meth c H locs cells slots mc ms (F0 m pc jls (As.reverse ++ rest)) rest (Qc As.toArray) XC free := by
  obtain ⟨k1, k2, k3, k4, k5⟩ := hk
  obtain ⟨v1, v2, v4⟩ := hv
  have hts := S.2.2.2.2
  have hws := am_wsw hts k1
  subst hna
  have hlen := am_lens (k := 0) v4
  have hfr : (am_rm d mc ms).frames + 1 ≤ R.frames := hRf
  have hlo : 8 + (n + 11) + (am_rm d mc ms).locals ≤ R.locals := am_lo_ok k5 hRl
  have hW2 : 2 * (F0 m pc jls (As.reverse ++ rest)).monitorRoom + (rest.map fun v => v.category).sum ≤ 8 := by show 2 * 0 + _ ≤ 8; omega
  by_cases hh : hl = []
  · have ew : am_wd y b n ret hl = .code y b n ret := if_pos hh
    rw [ew] at hM k1 hws
    rcases v1 with v1 | ⟨-, host, v1⟩
    · exact vx_runS (n := As.length) S hM ⟨⟨rfl, rfl, hfr, hlo, hws, List.mem_cons_self, hts _ k1, hts _ k2, k4, hlen, hts _ v1⟩, hts _ v2⟩ hp rfl rfl hsize rfl hW2 hdg hf
    · exact vx_runSN (n := As.length) (host := host) S hM ⟨⟨⟨rfl, rfl, hfr, hlo, hws, List.mem_cons_self⟩, hts _ k1, hts _ k2, k4, hlen, hts _ v1⟩, hts _ v2, trivial⟩ hp rfl rfl hsize rfl hW2 hdg hf
  · have ew : am_wd y b n ret hl = .codeWith y b n ret (am_hh hl) := if_neg hh
    rw [ew] at hM k1 hws
    rcases v1 with v1 | ⟨q, -⟩
    · exact vx_runSX (n := As.length) (hh := am_hh hl) S hM ⟨⟨rfl, rfl, hfr, hlo, hws, List.mem_cons_self⟩, hts _ k1, hts _ k2, k4, hlen, hts _ v1, hts _ v2⟩ hp rfl rfl hsize rfl hW2 hdg hf
    · exact absurd q hh
theorem am_invI (S : CallFix p m c cc nL s args lw_tblG own) (hM : vx_Met l y (am_wd y b n ret hl :: lw_tblG) (am_rm d mc ms) Pc Qc XC mc ms free) (hk : am_mk y b n ret hl) {na : Nat} (hv : am_ci own idx y ret na hl) {As : List Value} {r : Nat} (hna : As.length + 1 = na) (hp : PreS s H Pc (.ref r :: As)) (hsize : jls.size = nL)
    (hW : (rest.map fun v => v.category).sum ≤ 8) (hdg : decode cc pc = .ok (.invokespecial idx, 3)) (hf : cells + mc ≤ R.cells ∧ slots + ms ≤ R.slots) (hRf : d + 13 ≤ R.frames) (hRl : 80 * d + 580 ≤ R.locals) :
    vx_Run p l e R s m args below meth c H locs cells slots mc ms (F0 m pc jls (As.reverse ++ .ref r :: rest)) rest (Qc (Value.ref r :: As).toArray) XC free := by
  obtain ⟨k1, k2, k3, k4, k5⟩ := hk
  obtain ⟨v1, v2, v3, hh, hr, v4⟩ := hv
  subst hh
  subst hr
  have hts := S.2.2.2.2
  have hws := am_wsw hts k1
  subst hna
  have hlen := am_lens v4
  have hfr : (am_rm d mc ms).frames + 1 ≤ R.frames := hRf
  have hlo : 8 + (n + 11) + (am_rm d mc ms).locals ≤ R.locals := am_lo_ok k5 hRl
  have hW2 : 2 * (F0 m pc jls (As.reverse ++ .ref r :: rest)).monitorRoom + (rest.map fun v => v.category).sum ≤ 8 := by show 2 * 0 + _ ≤ 8; omega
  rcases v1 with v1 | ⟨host, v1⟩
  · exact vx_runI (n := As.length) S hM ⟨⟨rfl, rfl, hfr, hlo, hws, List.mem_cons_self, hts _ k1, hts _ k2, k4, hlen, hts _ v1⟩, v3, hts _ v2⟩ hp rfl rfl hsize rfl hW2 hdg hf
  · exact vx_runIN (n := As.length) (host := host) S hM ⟨⟨⟨rfl, rfl, hfr, hlo, hws, List.mem_cons_self⟩, hts _ k1, hts _ k2, k4, hlen, hts _ v1⟩, v3, hts _ v2⟩ hp rfl rfl hsize rfl hW2 hdg hf
end AMI
