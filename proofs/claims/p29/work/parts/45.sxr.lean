noncomputable section
/-! the JDK's own members; one instruction; runs -/
def sx_rdN (B : sx_B) (ct : sx_Ct) : Nat → Nat → List sx_N
  | 0, _ => []
  | n + 1, k => sx_read B ct (.inl k) :: sx_rdN B ct n (k + 1)
def sx_wrN (B : sx_B) : List sx_N → Nat → sx_Ct → Option sx_Ct
  | [], _, ct => some ct
  | v :: r, k, ct => match sx_write B ct (.inl k) v with
    | some c2 => sx_wrN B r (k + 1) c2
    | none => none
def sx_rvs (e : sx_E) : List sx_N → (Nat → Int) → Prop
  | [], _ => True
  | v :: r, s => sx_rn e v (s 0) ∧ sx_rvs e r (fun i => s (i + 1))
theorem sx_rdN_ok {B : sx_B} {e : sx_E} (hB : sx_inB B e) {ct : sx_Ct} {f : Nat → Int} (h : sx_rc e ct f) : ∀ (n k : Nat), sx_rvs e (sx_rdN B ct n k) (fun i => f (k + i)) ∧ (sx_rdN B ct n k).length = n
  | 0, k => ⟨trivial, rfl⟩
  | n + 1, k => by
    obtain ⟨h1, h2⟩ := sx_rdN_ok hB h n (k + 1)
    refine ⟨⟨sx_read_ok hB h (show k + 0 = k from rfl), ?_⟩, ?_⟩
    · have e1 : (fun i => f (k + (i + 1))) = fun i => f (k + 1 + i) := by
        funext i
        rw [Nat.add_assoc, Nat.add_comm 1 i]
      show sx_rvs e _ (fun i => f (k + (i + 1)))
      rw [e1]
      exact h1
    · show (sx_rdN B ct n (k + 1)).length + 1 = n + 1
      rw [h2]
theorem sx_wrN_ok {B : sx_B} {e : sx_E} (hB : sx_inB B e) : ∀ (vs : List sx_N) (k : Nat) (ct ct' : sx_Ct) (f s : Nat → Int), sx_rc e ct f → sx_rvs e vs s → sx_wrN B vs k ct = some ct' → sx_rc e ct' (fun j => if k ≤ j ∧ j < k + vs.length then s (j - k) else f j)
  | [], k, ct, ct', f, s, h, _, hw => by
    cases hw
    have e1 : (fun j => if k ≤ j ∧ j < k + ([] : List sx_N).length then s (j - k) else f j) = f := by
      funext j
      rw [if_neg (by rw [List.length_nil]; omega)]
    rw [e1]
    exact h
  | v :: r, k, ct, ct', f, s, h, hv, hw => by
    unfold sx_wrN at hw
    split at hw
    · rename_i c2 hc2
      have h2 := sx_write_ok hB h (show sx_ri e (.inl k) k from rfl) hv.1 hc2
      have h3 := sx_wrN_ok hB r (k + 1) c2 ct' _ _ h2 hv.2 hw
      have e1 : (fun j => if k ≤ j ∧ j < k + (v :: r).length then s (j - k) else f j) = fun j => if k + 1 ≤ j ∧ j < k + 1 + r.length then s (j - (k + 1) + 1) else (if j = k then s 0 else f j) := by
        funext j
        rw [List.length_cons]
        by_cases q : j = k
        · subst q
          rw [if_pos (by omega), if_neg (by omega), if_pos rfl, Nat.sub_self]
        · by_cases q2 : k + 1 ≤ j ∧ j < k + 1 + r.length
          · rw [if_pos (by omega), if_pos q2]
            have : j - k = j - (k + 1) + 1 := by omega
            rw [this]
          · rw [if_neg (by omega), if_neg q2, if_neg q]
      rw [e1]
      exact h3
    · cases hw
def sx_prim (B : sx_B) (kd : Nat → Option (Nat × Nat)) (a : Nat) (st : List sx_V) (h : sx_H) : Option (List sx_V × sx_H) := match a with
  | 900 => (match sx_ii (fun x y => bif sx_lt x y then y else x) sx_g0 st with
    | some r => some (r, h)
    | none => none)
  | 901 => (match sx_ii (fun x y => bif sx_lt x y then x else y) sx_g0 st with
    | some r => some (r, h)
    | none => none)
  | 904 => (match st with
    | .inl (.inl (.ofNat n)) :: .inl (.inl (.ofNat dp)) :: .inr (.inr q) :: .inl (.inl (.ofNat sp)) :: .inr (.inr p) :: r => (match kd p, kd q with
      | some (c, m), some (d, k) => bif Nat.beq c d && (Nat.blt p am_SP && (Nat.blt q am_SP && ((Nat.beq c 101 || Nat.beq c 102) && (Nat.ble (sp + n) m && Nat.ble (dp + n) k)))) then
          (bif Nat.beq c 101 then (match sx_cl h.2.1 p, sx_cl h.2.1 q with
            | some cp, some cq => (match sx_wrN B (sx_rdN B cp n sp) dp cq with
              | some c2 => some (r, (h.1, sx_set2 h.2.1 q (some c2), h.2.2))
              | none => none)
            | _, _ => none)
          else (match sx_cl h.1 p, sx_cl h.1 q with
            | some cp, some cq => (match sx_wrN B (sx_rdN B cp n sp) dp cq with
              | some c2 => some (r, (sx_set2 h.1 q (some c2), h.2))
              | none => none)
            | _, _ => none)) else none
      | _, _ => none)
    | _ => none)
  | _ => none
theorem sx_cpy_at (f : Nat → Nat → Int) (p q sp dp n : Nat) : am_cpy f p q sp dp n q = fun j => if dp ≤ j ∧ j < dp + n then f p (sp + (j - dp)) else f q j := by
  funext j
  exact if_pos rfl
theorem sx_cpy_no (f : Nat → Nat → Int) {p q sp dp n r : Nat} (h : r ≠ q) : am_cpy f p q sp dp n r = f r := by
  funext j
  exact if_neg h
section SXQ
variable {B : sx_B} {e : sx_E} {K : List (Nat × Nat)} {n : Nat × Nat} {Bs : am2_B} {Z : sx_Z} {h h' : sx_H} {H : am_H} {ro : Nat → Option (Nat × Nat)} {kd : Nat → Option (Nat × Nat)} {fty : Nat → Nat → Nat} {nf : Nat → Nat}
theorem sx_prim_ok (hB : sx_inB B e) (hh : sx_HR e K n Bs Z h H) (hk : ∀ {H : am_H}, H.1 = K → ∀ {p x}, kd p = some x → am_kind ro H p = some x ∧ p ≠ 0) {a : Nat} {st st' : List sx_V} {t : List am_V} (hp : sx_prim B kd a st h = some (st', h')) (r : sx_rl e st t) :
    ∃ t' H', am_prim ro a t H = some (t', H') ∧ sx_rl e st' t' ∧ sx_HR e K n Bs Z h' H' := by
  have hK := hh.1
  unfold sx_prim at hp
  split at hp
  · split at hp
    · rename_i r2 hr
      cases hp
      obtain ⟨t', h1, h2⟩ := sx_ii_ok (f' := fun x y => if x < y then y else x) (fun x y => by
        cases q : sx_lt x y with
        | true => rw [if_pos (sx_lt_iff.mp q)]; rfl
        | false => rw [if_neg (Int.not_lt.mpr (sx_lt_no.mp q))]; rfl) (fun _ _ _ _ _ _ => sx_rn_any) hr r
      exact ⟨t', H, Option.map_eq_some_iff.mpr ⟨t', h1, rfl⟩, h2, hh⟩
    · cases hp
  · split at hp
    · rename_i r2 hr
      cases hp
      obtain ⟨t', h1, h2⟩ := sx_ii_ok (f' := fun x y => if x < y then x else y) (fun x y => by
        cases q : sx_lt x y with
        | true => rw [if_pos (sx_lt_iff.mp q)]; rfl
        | false => rw [if_neg (Int.not_lt.mpr (sx_lt_no.mp q))]; rfl) (fun _ _ _ _ _ _ => sx_rn_any) hr r
      exact ⟨t', H, Option.map_eq_some_iff.mpr ⟨t', h1, rfl⟩, h2, hh⟩
    · cases hp
  · split at hp
    · rename_i n3 dp q sp p r0
      obtain ⟨x1, t1, rfl, rx1, rA⟩ := sx_rl_ci r
      obtain ⟨x2, t2, rfl, rx2, rB⟩ := sx_rl_ci rA
      obtain ⟨t3, rfl, rC⟩ := sx_rl_cr rB
      obtain ⟨x3, t4, rfl, rx3, rD⟩ := sx_rl_ci rC
      obtain ⟨t5, rfl, rE⟩ := sx_rl_cr rD
      have rx1 : x1 = (n3 : Int) := rx1
      have rx2 : x2 = (dp : Int) := rx2
      have rx3 : x3 = (sp : Int) := rx3
      subst rx1 rx2 rx3
      split at hp
      · rename_i _ _ c m d k hc hd
        obtain ⟨h1, hp1⟩ := sx_ifs hp
        clear hp
        simp only [Bool.and_eq_true, Bool.or_eq_true, Nat.beq_eq, Nat.blt_eq, Nat.ble_eq] at h1
        obtain ⟨rfl, q2, q3, q4, q5, q6⟩ := h1
        have g1 : (c = c ∧ p < am_SP ∧ q < am_SP ∧ (c = 101 ∨ c = 102)) ∧ (0 ≤ (sp : Int) ∧ 0 ≤ (dp : Int) ∧ 0 ≤ (n3 : Int) ∧ (sp : Int) + n3 ≤ (m : Int) ∧ (dp : Int) + n3 ≤ (k : Int)) := ⟨⟨rfl, q2, q3, q4⟩, by omega, by omega, by omega, by omega, by omega⟩
        obtain ⟨a1, a2, aI, aJ, aR, ab, ac, az1, az2⟩ := hh
        rcases sx_ifb hp1 with ⟨h5, hp2⟩ | ⟨h5, hp2⟩
        · split at hp2
          · rename_i _ _ cp cq hcp hcq
            split at hp2
            · rename_i c2 hc2
              cases hp2
              refine ⟨t5, (H.1, H.2.1, am_cpy H.2.2.1 p q sp dp n3, H.2.2.2), ?_, rE, a1, a2, aI, fun w ct hq => ?_, aR, ab, ac, az1, fun w hq => ?_⟩
              · unfold am_prim
                dsimp only
                rw [(hk hK hc).1, (hk hK hd).1]
                dsimp only
                rw [if_pos g1, if_pos (Nat.eq_of_beq_eq_true h5)]
                rfl
              · show sx_rc e ct (am_cpy H.2.2.1 p q sp dp n3 w)
                rcases sx_cl_set2 hcq hq with ⟨rfl, rfl⟩ | ⟨z, hq⟩
                · rw [sx_cpy_at]
                  obtain ⟨b1, b2⟩ := sx_rdN_ok hB (aJ p cp hcp) n3 sp
                  have b3 := sx_wrN_ok hB _ _ _ _ _ _ (aJ w cq hcq) b1 hc2
                  rw [b2] at b3
                  exact b3
                · rw [sx_cpy_no _ z]
                  exact aJ w ct hq
              · show am_cpy H.2.2.1 p q sp dp n3 w = Z.2 w
                obtain ⟨g1, g2⟩ := sx_cl_none hcq hq
                rw [sx_cpy_no _ g2]
                exact az2 w g1
            · cases hp2
          · cases hp2
        · split at hp2
          · rename_i _ _ cp cq hcp hcq
            split at hp2
            · rename_i c2 hc2
              cases hp2
              refine ⟨t5, (H.1, am_cpy H.2.1 p q sp dp n3, H.2.2), ?_, rE, a1, a2, fun w ct hq => ?_, aJ, aR, fun w k2 v hq => ?_, ac, fun w hq => ?_, az2⟩
              · unfold am_prim
                dsimp only
                rw [(hk hK hc).1, (hk hK hd).1]
                dsimp only
                rw [if_pos g1, if_neg (fun w => by rw [w] at h5; cases h5)]
                rfl
              · show sx_rc e ct (am_cpy H.2.1 p q sp dp n3 w)
                rcases sx_cl_set2 hcq hq with ⟨rfl, rfl⟩ | ⟨z, hq⟩
                · rw [sx_cpy_at]
                  obtain ⟨b1, b2⟩ := sx_rdN_ok hB (aI p cp hcp) n3 sp
                  have b3 := sx_wrN_ok hB _ _ _ _ _ _ (aI w cq hcq) b1 hc2
                  rw [b2] at b3
                  exact b3
                · rw [sx_cpy_no _ z]
                  exact aI w ct hq
              · have := ab w k2 v hq
                refine ⟨this.1, ?_⟩
                show am_cpy H.2.1 p q sp dp n3 w k2 = v
                rw [sx_cpy_no _ (by omega)]
                exact this.2
              · show am_cpy H.2.1 p q sp dp n3 w = Z.1 w
                obtain ⟨g1, g2⟩ := sx_cl_none hcq hq
                rw [sx_cpy_no _ g2]
                exact az1 w g1
            · cases hp2
          · cases hp2
      · cases hp
    · cases hp
  · cases hp
end SXQ
def sx_norm (B : sx_B) (Bs : am2_B) (kd : Nat → Option (Nat × Nat)) (fty : Nat → Nat → Nat) (ins : Instr) (a b : Nat) (z : Int) (ls : sx_Lo) (st : List sx_V) (h : sx_H) : Option (sx_Lo × List sx_V × sx_H) :=
  match sx_loc B ins ls st with
  | some (l, s) => some (l, s, h)
  | none => match sx_alu B ins st with
    | some s => some (ls, s, h)
    | none => match sx_hp B Bs kd fty ins a b z st h with
      | some (s, h') => some (ls, s, h')
      | none => none
theorem sx_noloc {B : sx_B} {ins : Instr} {st s : List sx_V} (h : sx_alu B ins st = some s) : ∀ (l : am_L) (t : List am_V), am_loc ins l t = none := by
  cases ins <;> first | (intro l t; rfl) | (cases h; done)
theorem sx_noloch {B : sx_B} {Bs : am2_B} {kd : Nat → Option (Nat × Nat)} {fty : Nat → Nat → Nat} {ins : Instr} {a b : Nat} {z : Int} {st s : List sx_V} {h h' : sx_H} (hh : sx_hp B Bs kd fty ins a b z st h = some (s, h')) : ∀ (l : am_L) (t : List am_V), am_loc ins l t = none ∧ am_alu ins t = none := by
  cases ins <;> first | (intro l t; exact ⟨rfl, rfl⟩) | (cases hh; done)
section SXN
variable {B : sx_B} {e : sx_E} {K : List (Nat × Nat)} {n : Nat × Nat} {Bs : am2_B} {Z : sx_Z} {h h' : sx_H} {H : am_H} {ro : Nat → Option (Nat × Nat)} {kd : Nat → Option (Nat × Nat)} {fty : Nat → Nat → Nat} {nf : Nat → Nat}
theorem sx_norm_ok (hB : sx_inB B e) (hh : sx_HR e K n Bs Z h H) (hk : ∀ {H : am_H}, H.1 = K → ∀ {p x}, kd p = some x → am_kind ro H p = some x ∧ p ≠ 0) {ins : Instr} {a b : Nat} {z : Int} {ls ls' : sx_Lo} {st st' : List sx_V} {l : am_L} {t : List am_V} (hp : sx_norm B Bs kd fty ins a b z ls st h = some (ls', st', h')) (r1 : sx_rls e ls l) (r : sx_rl e st t) :
    ∃ l' t' H', am_norm ro fty nf ins a b z l t H = some (l', t', H') ∧ sx_rls e ls' l' ∧ sx_rl e st' t' ∧ sx_HR e K n Bs Z h' H' := by
  unfold sx_norm at hp
  unfold am_norm
  split at hp
  · rename_i q1 q2 hl
    cases hp
    obtain ⟨l', t', g1, g2, g3⟩ := sx_loc_ok hB hl r1 r
    exact ⟨l', t', H, by rw [g1], g2, g3, hh⟩
  · split at hp
    · rename_i s ha
      cases hp
      obtain ⟨t', g1, g2⟩ := sx_alu_ok hB ha r
      refine ⟨l, t', H, ?_, r1, g2, hh⟩
      rw [sx_noloc ha]
      dsimp only
      rw [g1]
    · split at hp
      · rename_i s h2 ha
        cases hp
        obtain ⟨t', H', g1, g2, g3⟩ := sx_hp_ok (nf := nf) hB hh hk ha r
        refine ⟨l, t', H', ?_, r1, g2, g3⟩
        rw [(sx_noloch ha l t).1]
        dsimp only
        rw [(sx_noloch ha l t).2]
        dsimp only
        rw [g1]
      · cases hp
end SXN
abbrev sx_R : Type := Option sx_V × sx_H
def sx_ra (e : sx_E) (a : Option sx_V) (w : Option am_V) : Prop := match a, w with
  | none, none => True
  | some x, some y => sx_rv e x y
  | _, _ => False
def sx_rr (e : sx_E) (K : List (Nat × Nat)) (n : Nat × Nat) (Bs : am2_B) (Z : sx_Z) (r : sx_R) (res : am_R) : Prop := ∃ v H, res = .inl (v, H) ∧ sx_HR e K n Bs Z r.2 H ∧ sx_ra e r.1 v
abbrev sx_K : Type := Nat → sx_Lo → List sx_V → sx_H → Option sx_R
def sx_jmp (k : sx_K) (ls : sx_Lo) (r : List sx_V) (h : sx_H) (o : Option Nat) : Option sx_R := match o with
  | some t => k t ls r h
  | none => none
def sx_nx (k : sx_K) (pc : Nat) (o : Option (sx_Lo × List sx_V × sx_H)) : Option sx_R := match o with
  | some (l, s, h) => k pc l s h
  | none => none
def sx_aft (k : sx_K) (pc : Nat) (ls : sx_Lo) (r : List sx_V) (o : Option sx_R) : Option sx_R := match o with
  | some (some v, h) => k pc ls (v :: r) h
  | some (none, h) => k pc ls r h
  | none => none
def sx_args (n : Nat) (st : List sx_V) : Option (List sx_V × List sx_V) := bif Nat.ble n st.length then some ((st.take n).reverse, st.drop n) else none
def sx_ret (rt : Nat) (x : sx_N) : Bool := Nat.beq rt 1 || ((Nat.beq rt 2 && sx_bool x) || ((Nat.beq rt 4 && sx_byte x) || (Nat.beq rt 5 && sx_char x)))
def sx_one (B : sx_B) (Bs : am2_B) (kd : Nat → Option (Nat × Nat)) (fty : Nat → Nat → Nat) (na rc : Nat → Nat) (rt : Nat) (call : Nat → List sx_V → sx_H → Option sx_R) (k : sx_K) (e : am_E) (pc : Nat) (ls : sx_Lo) (st : List sx_V) (h : sx_H) : Option sx_R :=
  match e with
  | (len, ins, a, b, z) => match ins with
    | .goto off => sx_jmp k ls st h (am_tgt pc off)
    | .ifCond c off => (match am_tgt pc off, st with
      | some t, .inl x :: r => (match sx_br B c x (.inl 0) with
        | some true => k t ls r h
        | some false => k (pc + len) ls r h
        | none => none)
      | _, _ => none)
    | .if_icmp c off => (match am_tgt pc off, st with
      | some t, .inl y :: .inl x :: r => (match sx_br B c x y with
        | some true => k t ls r h
        | some false => k (pc + len) ls r h
        | none => none)
      | _, _ => none)
    | .tableswitch d lo hi offs => (match st with
      | .inl (.inl x) :: r => if x < lo ∨ hi < x then sx_jmp k ls r h (am_tgt pc d) else (match offs[(x - lo).toNat]? with
          | some off => sx_jmp k ls r h (am_tgt pc off)
          | none => none)
      | _ => none)
    | .lookupswitch d ps => (match st with
      | .inl (.inl x) :: r => if (ps.toList.zip (ps.toList.drop 1)).all (fun (u, v) => u.1 < v.1) = true then sx_jmp k ls r h (am_tgt pc (Op.lookupswitch.offset ps.toList d x)) else none
      | _ => none)
    | .ireturn => (match st with
      | .inl x :: [] => bif sx_ret rt x then some (some (.inl x), h) else none
      | _ => none)
    | .lreturn => (match st with
      | .inr (.inl x) :: [] => bif Nat.beq rt 3 then some (some (.inr (.inl x)), h) else none
      | _ => none)
    | .return_ => (match st with
      | [] => bif Nat.beq rt 0 then some (none, h) else none
      | _ => none)
    | .invokevirtual _ => (match sx_args (na a) st with
      | some (.inr (.inr p) :: ar, r) => (match kd p with
        | some (c, _) => bif Nat.beq c (rc a) && Nat.ble (sx_cats r) 8 then sx_aft k (pc + len) ls r (call a (.inr (.inr p) :: ar) h) else none
        | none => none)
      | _ => none)
    | .invokestatic _ => bif Nat.ble 900 a then (bif Nat.ble (sx_cats st) 40 then (match sx_prim B kd a st h with
        | some (s, h2) => k (pc + len) ls s h2
        | none => none) else none) else (match sx_args (na a) st with
      | some (ar, r) => bif Nat.ble (sx_cats r) 8 then sx_aft k (pc + len) ls r (call a ar h) else none
      | none => none)
    | _ => sx_nx k (pc + len) (sx_norm B Bs kd fty ins a b z ls st h)
def sx_run (B : sx_B) (Bs : am2_B) (kd : Nat → Option (Nat × Nat)) (fty : Nat → Nat → Nat) (na rc : Nat → Nat) (C : Nat → Option am_E) (rt : Nat) (call : Nat → List sx_V → sx_H → Option sx_R) : Nat → Nat → sx_Lo → List sx_V → sx_H → Option sx_R
  | 0, _, _, _, _ => none
  | n + 1, pc, ls, st, h => match C pc with
    | none => none
    | some e => sx_one B Bs kd fty na rc rt call (sx_run B Bs kd fty na rc C rt call n) e pc ls st h
def sx_exec (P : am_PG) (B : sx_B) (Bs : am2_B) (kd : Nat → Option (Nat × Nat)) (F : Nat) : Nat → Nat → List sx_V → sx_H → Option sx_R
  | 0, _, _, _ => none
  | d + 1, j, ar, h => bif Nat.ble (sx_cats ar) (am_ml P j) then sx_run B Bs kd am_fty (am_na P) (am_rc P) (am_co P j) (am_rtag (am_re P j)) (sx_exec P B Bs kd F d) F 0 (sx_ent (am_ml P j) ar) [] h else none
section SXR
variable {B : sx_B} {e : sx_E} {K : List (Nat × Nat)} {n : Nat × Nat} {Bs : am2_B} {Z : sx_Z} {ro : Nat → Option (Nat × Nat)} {kd : Nat → Option (Nat × Nat)} {fty : Nat → Nat → Nat} {nf na rc : Nat → Nat} {hd : Nat → Nat → Option (Option (Nat × Nat))}
def sx_kok (e : sx_E) (K : List (Nat × Nat)) (n : Nat × Nat) (Bs : am2_B) (Z : sx_Z) (k : sx_K) (k' : Nat → am_L → List am_V → am_H → Option am_R) : Prop := ∀ pc ls st h r l t H, k pc ls st h = some r → sx_rls e ls l → sx_rl e st t → sx_HR e K n Bs Z h H → ∃ res, k' pc l t H = some res ∧ sx_rr e K n Bs Z r res
def sx_cok (e : sx_E) (K : List (Nat × Nat)) (n : Nat × Nat) (Bs : am2_B) (Z : sx_Z) (c : Nat → List sx_V → sx_H → Option sx_R) (c' : Nat → List am_V → am_H → Option am_R) : Prop := ∀ j ar h r t H, c j ar h = some r → sx_rl e ar t → sx_HR e K n Bs Z h H → ∃ res, c' j t H = some res ∧ sx_rr e K n Bs Z r res
theorem sx_args_ok {m : Nat} {st ar r : List sx_V} {t : List am_V} (h : sx_args m st = some (ar, r)) (hr : sx_rl e st t) : ∃ a' r', am_args m t = some (a', r') ∧ sx_rl e ar a' ∧ sx_rl e r r' := by
  unfold sx_args at h
  obtain ⟨h1, h⟩ := sx_ifs h
  cases h
  refine ⟨(t.take m).reverse, t.drop m, if_pos ?_, sx_rl_rev (sx_rl_take m hr), sx_rl_drop m hr⟩
  rw [sx_rl_len hr]
  exact Nat.le_of_ble_eq_true h1
theorem sx_aft_ok {k : sx_K} {k' : Nat → am_L → List am_V → am_H → Option am_R} (hk : sx_kok e K n Bs Z k k') {pc len : Nat} {ls : sx_Lo} {st : List sx_V} {l : am_L} {t : List am_V} {o : Option sx_R} {o' : Option am_R} {r : sx_R} (h : sx_aft k (pc + len) ls st o = some r) (ho : ∀ q, o = some q → ∃ res, o' = some res ∧ sx_rr e K n Bs Z q res) (r1 : sx_rls e ls l) (r2 : sx_rl e st t) : ∃ res, am_aft hd k' pc len l t o' = some res ∧ sx_rr e K n Bs Z r res := by
  unfold sx_aft at h
  split at h
  · obtain ⟨res, rfl, v, H, rfl, g1, g2⟩ := ho _ rfl
    cases v with
    | none => exact False.elim g2
    | some v => exact hk _ _ _ _ _ _ _ _ h r1 (show sx_rl e (_ :: _) (v :: t) from ⟨g2, r2⟩) g1
  · obtain ⟨res, rfl, v, H, rfl, g1, g2⟩ := ho _ rfl
    cases v with
    | none => exact hk _ _ _ _ _ _ _ _ h r1 r2 g1
    | some v => exact False.elim g2
  · cases h
theorem sx_jmp_ok {k : sx_K} {k' : Nat → am_L → List am_V → am_H → Option am_R} (hk : sx_kok e K n Bs Z k k') {ls : sx_Lo} {st : List sx_V} {l : am_L} {t : List am_V} {h : sx_H} {H : am_H} {o : Option Nat} {r : sx_R} (hh : sx_jmp k ls st h o = some r) (r1 : sx_rls e ls l) (r2 : sx_rl e st t) (g : sx_HR e K n Bs Z h H) : ∃ res, am_jmp k' l t H o = some res ∧ sx_rr e K n Bs Z r res := by
  cases o with
  | none => cases hh
  | some q => exact hk _ _ _ _ _ _ _ _ hh r1 r2 g
theorem sx_ret_ok {rt : Nat} {x : sx_N} {v : Int} (h : sx_ret rt x = true) (hv : sx_rn e x v) : rt = 1 ∨ (rt = 2 ∧ (v = 0 ∨ v = 1)) ∨ (rt = 4 ∧ -128 ≤ v ∧ v < 128) ∨ (rt = 5 ∧ 0 ≤ v ∧ v < 65536) := by
  unfold sx_ret at h
  simp only [Bool.or_eq_true, Bool.and_eq_true, Nat.beq_eq] at h
  rcases h with h | ⟨h1, h2⟩ | ⟨h1, h2⟩ | ⟨h1, h2⟩
  · exact Or.inl h
  · exact Or.inr (Or.inl ⟨h1, sx_bool_ok h2 hv⟩)
  · exact Or.inr (Or.inr (Or.inl ⟨h1, sx_byte_ok h2 hv⟩))
  · exact Or.inr (Or.inr (Or.inr ⟨h1, sx_char_ok h2 hv⟩))
theorem sx_one_ok (hB : sx_inB B e) (hkd : ∀ {H : am_H}, H.1 = K → ∀ {p x}, kd p = some x → am_kind ro H p = some x ∧ p ≠ 0) {rt : Nat} {call : Nat → List sx_V → sx_H → Option sx_R} {call' : Nat → List am_V → am_H → Option am_R} (hc : sx_cok e K n Bs Z call call') {k : sx_K} {k' : Nat → am_L → List am_V → am_H → Option am_R} (hk : sx_kok e K n Bs Z k k') {en : am_E} {pc : Nat} {ls : sx_Lo} {st : List sx_V} {h : sx_H} {r : sx_R} {l : am_L} {t : List am_V} {H : am_H}
    (hh : sx_one B Bs kd fty na rc rt call k en pc ls st h = some r) (r1 : sx_rls e ls l) (r2 : sx_rl e st t) (g : sx_HR e K n Bs Z h H) : ∃ res, am_one ro fty nf na rc hd rt call' k' en pc l t H = some res ∧ sx_rr e K n Bs Z r res := by
  obtain ⟨len, ins, a, b, z⟩ := en
  have hn : ∀ {pc : Nat} {ins : Instr}, sx_nx k pc (sx_norm B Bs kd fty ins a b z ls st h) = some r → ∃ res, am_nx k' pc (am_norm ro fty nf ins a b z l t H) = some res ∧ sx_rr e K n Bs Z r res := fun {pc ins} q => by
    unfold sx_nx at q
    split at q
    · rename_i l2 s2 h2 hq
      obtain ⟨l', t', H', g1, g2, g3, g4⟩ := sx_norm_ok (nf := nf) hB g hkd hq r1 r2
      rw [g1]
      exact hk _ _ _ _ _ _ _ _ q g2 g3 g4
    · cases q
  cases ins
  case goto off => exact sx_jmp_ok hk hh r1 r2 g
  case ifCond c off =>
    unfold sx_one at hh
    unfold am_one
    dsimp only at hh ⊢
    split at hh
    · rename_i tg x s ht
      obtain ⟨v, t, rfl, rx, r2⟩ := sx_rl_ci r2
      rw [ht]
      dsimp only
      split at hh
      · rename_i hb
        rw [if_pos (sx_br_ok hB hb rx (show sx_rn e (.inl 0) 0 from rfl))]
        exact hk _ _ _ _ _ _ _ _ hh r1 r2 g
      · rename_i hb
        rw [if_neg (by rw [sx_br_ok hB hb rx (show sx_rn e (.inl 0) 0 from rfl)]; exact Bool.false_ne_true)]
        exact hk _ _ _ _ _ _ _ _ hh r1 r2 g
      · cases hh
    · cases hh
  case if_icmp c off =>
    unfold sx_one at hh
    unfold am_one
    dsimp only at hh ⊢
    split at hh
    · rename_i tg y x s ht
      obtain ⟨w, t, rfl, ry, r2⟩ := sx_rl_ci r2
      obtain ⟨v, t, rfl, rx, r2⟩ := sx_rl_ci r2
      rw [ht]
      dsimp only
      split at hh
      · rename_i hb
        rw [if_pos (sx_br_ok hB hb rx ry)]
        exact hk _ _ _ _ _ _ _ _ hh r1 r2 g
      · rename_i hb
        rw [if_neg (by rw [sx_br_ok hB hb rx ry]; exact Bool.false_ne_true)]
        exact hk _ _ _ _ _ _ _ _ hh r1 r2 g
      · cases hh
    · cases hh
  case tableswitch d lo hi offs =>
    unfold sx_one at hh
    unfold am_one
    dsimp only at hh ⊢
    split at hh
    · obtain ⟨v, t1, rfl, rx, r3⟩ := sx_rl_ci r2
      cases rx
      dsimp only
      split at hh
      · rename_i hx; rw [if_pos hx]; exact sx_jmp_ok hk hh r1 r3 g
      · rename_i hx
        rw [if_neg hx]
        split at hh
        · rename_i off ho; rw [ho]; exact sx_jmp_ok hk hh r1 r3 g
        · cases hh
    · cases hh
  case lookupswitch d ps =>
    unfold sx_one at hh
    unfold am_one
    dsimp only at hh ⊢
    split at hh
    · obtain ⟨v, t1, rfl, rx, r3⟩ := sx_rl_ci r2
      cases rx
      dsimp only
      split at hh
      · rename_i hx; rw [if_pos hx]; exact sx_jmp_ok hk hh r1 r3 g
      · cases hh
    · cases hh
  case ireturn =>
    unfold sx_one at hh
    unfold am_one
    dsimp only at hh ⊢
    split at hh
    · obtain ⟨v, t, rfl, rx, r2⟩ := sx_rl_ci r2
      have := sx_rl_nil r2
      subst this
      obtain ⟨h1, hh⟩ := sx_ifs hh
      cases hh
      dsimp only
      rw [if_pos (sx_ret_ok h1 rx)]
      exact ⟨_, rfl, some (.inl v), H, rfl, g, rx⟩
    · cases hh
  case lreturn =>
    unfold sx_one at hh
    unfold am_one
    dsimp only at hh ⊢
    split at hh
    · obtain ⟨v, t, rfl, rx, r2⟩ := sx_rl_cl r2
      have := sx_rl_nil r2
      subst this
      obtain ⟨h1, hh⟩ := sx_ifs hh
      cases hh
      dsimp only
      rw [if_pos (Nat.eq_of_beq_eq_true h1)]
      exact ⟨_, rfl, some (.inr (.inl v)), H, rfl, g, rx⟩
    · cases hh
  case return_ =>
    unfold sx_one at hh
    unfold am_one
    dsimp only at hh ⊢
    split at hh
    · have := sx_rl_nil r2
      subst this
      obtain ⟨h1, hh⟩ := sx_ifs hh
      cases hh
      dsimp only
      rw [if_pos (Nat.eq_of_beq_eq_true h1)]
      exact ⟨_, rfl, none, H, rfl, g, trivial⟩
    · cases hh
  case invokevirtual i =>
    unfold sx_one at hh
    unfold am_one
    dsimp only at hh ⊢
    split at hh
    · rename_i p ar s hargs
      obtain ⟨a', r', g1, g2, g3⟩ := sx_args_ok hargs r2
      obtain ⟨ar', rfl, g4⟩ := sx_rl_cr g2
      rw [g1]
      dsimp only
      split at hh
      · rename_i c _ hk9
        rw [(hkd g.1 hk9).1]
        dsimp only
        obtain ⟨h1, hh⟩ := sx_ifs hh
        rw [Bool.and_eq_true] at h1
        rw [if_pos ⟨Nat.eq_of_beq_eq_true h1.1, by rw [sx_rl_cats g3]; exact Nat.le_of_ble_eq_true h1.2⟩]
        exact sx_aft_ok hk hh (fun q w => hc _ _ _ _ _ _ w (show sx_rl e (_ :: _) (_ :: _) from ⟨rfl, g4⟩) g) r1 g3
      · cases hh
    · cases hh
  case invokestatic i =>
    unfold sx_one at hh
    unfold am_one
    dsimp only at hh ⊢
    rcases sx_ifb hh with ⟨h9, hh⟩ | ⟨h9, hh⟩
    · rw [if_pos (Nat.le_of_ble_eq_true h9)]
      obtain ⟨h8, hh⟩ := sx_ifs hh
      rw [if_pos (by rw [sx_rl_cats r2]; exact Nat.le_of_ble_eq_true h8)]
      split at hh
      · rename_i s h2 hp
        obtain ⟨t', H', g1, g2, g3⟩ := sx_prim_ok hB g hkd hp r2
        rw [g1]
        exact hk _ _ _ _ _ _ _ _ hh r1 g2 g3
      · cases hh
    · rw [if_neg (fun w => by rw [Nat.ble_eq_true_of_le w] at h9; cases h9)]
      split at hh
      · rename_i ar s hargs
        obtain ⟨a', r', g1, g2, g3⟩ := sx_args_ok hargs r2
        rw [g1]
        dsimp only
        obtain ⟨h1, hh⟩ := sx_ifs hh
        rw [if_pos (by rw [sx_rl_cats g3]; exact Nat.le_of_ble_eq_true h1)]
        exact sx_aft_ok hk hh (fun q w => hc _ _ _ _ _ _ w g2 g) r1 g3
      · cases hh
  case invokespecial i => cases hh
  case new i => cases hh
  all_goals (revert hh; unfold sx_one am_one; dsimp only; exact fun q => hn q)
theorem sx_run_ok (hB : sx_inB B e) (hkd : ∀ {H : am_H}, H.1 = K → ∀ {p x}, kd p = some x → am_kind ro H p = some x ∧ p ≠ 0) {rt : Nat} {C : Nat → Option am_E} {call : Nat → List sx_V → sx_H → Option sx_R} {call' : Nat → List am_V → am_H → Option am_R} (hc : sx_cok e K n Bs Z call call') : ∀ m, sx_kok e K n Bs Z (sx_run B Bs kd fty na rc C rt call m) (am_run ro fty nf na rc C hd rt call' m)
  | 0 => fun _ _ _ _ _ _ _ _ h => by cases h
  | m + 1 => fun pc ls st h r l t H hh r1 r2 g => by
    rw [sx_run] at hh
    rw [am_run]
    cases hC : C pc with
    | none => rw [hC] at hh; cases hh
    | some en =>
      rw [hC] at hh
      exact sx_one_ok hB hkd hc (sx_run_ok hB hkd hc m) hh r1 r2 g
theorem sx_exec_ok {P : am_PG} (hB : sx_inB B e) (hkd : ∀ {H : am_H}, H.1 = K → ∀ {p x}, kd p = some x → am_kind ro H p = some x ∧ p ≠ 0) {F : Nat} : ∀ d, sx_cok e K n Bs Z (sx_exec P B Bs kd F d) (am_exec P ro F d)
  | 0 => fun _ _ _ _ _ _ h => by cases h
  | d + 1 => fun j ar h r t H hh r1 g => by
    rw [sx_exec] at hh
    rw [am_exec]
    obtain ⟨h1, hh⟩ := sx_ifs hh
    rw [if_pos (by rw [sx_rl_cats r1]; exact Nat.le_of_ble_eq_true h1)]
    exact sx_run_ok hB hkd (sx_exec_ok hB hkd d) F _ _ _ _ _ _ _ _ hh (sx_ent_ok r1) trivial g
end SXR
end
