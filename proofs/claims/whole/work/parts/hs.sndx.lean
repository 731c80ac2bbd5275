/-! the run: a send, what both read -/
def ak_SXc (e : ak_X3) (d ρ1 ρ2 : Nat) (c : ak_Cx) (n o A : Nat) (nm pl ho : Int) (hc hS : ak_S) : Prop := ∀ (Q : ak_S → Prop) (X : Nat → ak_S → Prop),
  (pl < 0 → ak_MI e 0 (d + 37) (ak_rc c.s ρ1 ρ2) 90 [am_r 32, am_i nm, am_i (n : Int), am_i (o : Int)] hS (fun v h3 => (v < 0 → Q h3) ∧ (0 ≤ v → ak_MV e 0 (d + 38) (ak_rc c.s ρ1 ρ2) 93 [am_r 32, am_i v] h3 Q (fun _ _ => False))) (fun _ _ => False)) →
  (0 ≤ pl → ∃ z : Nat, z < 2400 ∧ (∀ (Q : Int → ak_S → Prop) (X : Nat → ak_S → Prop), Q (z : Int) hS → ak_MI e 0 (d + 37) (ak_rc c.s ρ1 ρ2) 88 [am_r 32, am_i (o : Int), am_i nm, am_i pl, am_i ho] hS Q X) ∧
    ((hS.1 35 z ≠ 4 ∧ (n = 0 → ak_MV e 0 (d + 37) (ak_rc c.s ρ1 ρ2) 73 [am_r 32, am_i (hS.1 35 z), am_l (hS.2.1 36 z)] (am_up hS.1 32 10 (A : Int), hS.2) Q (fun _ _ => False)) ∧ (n ≠ 0 → ak_MV e 0 (d + 37) (ak_rc c.s ρ1 ρ2) 77 [am_r 32, am_i 2, am_i 0, am_l 0] hS Q (fun _ _ => False))) ∨
     (hS.1 35 z = 4 ∧ ∃ m : Nat, m < c.Mt ∧ hS.2.1 36 z = (m : Int) ∧ (hS.1 (ak_T c.s + 12) m = (n : Int) → ak_MV e 0 (d + 38) (ak_rc c.s ρ1 ρ2) 93 [am_r 32, am_i (m : Int)] (am_up (am_up (am_up (am_up hS.1 32 13 (n : Int)) 32 14 pl) 32 15 ho) 32 16 0, hS.2) Q (fun _ _ => False)) ∧ (hS.1 (ak_T c.s + 12) m ≠ (n : Int) → ak_MV e 0 (d + 37) (ak_rc c.s ρ1 ρ2) 77 [am_r 32, am_i 2, am_i 0, am_l 0] hS Q (fun _ _ => False))))) →
  ak_MV e 0 (d + 40) (ak_rc c.s ρ1 ρ2) 72 [am_r 32] hc Q X
def ak_SXm (e : ak_X3) (d : Nat) (ρ : List Nat) (c : ak_Cx) (n o y T0 T1 : Nat) (nm pl ho s x jn : Int) (hB mS : ak_S) : Prop := ∀ (Q : ak_S → Prop) (X : Nat → ak_S → Prop),
  (pl < 0 → ak_MV e 1 (d + 38) ρ 290 [am_r 110, am_i (y : Int), am_i (o : Int), am_i s, am_l x, am_i (n : Int), am_i (T0 : Int)] mS Q (fun _ _ => False)) →
  (0 ≤ pl → ∃ ih z : Nat, (if pl = 0 then (o : Int) else ho) = (ih : Int) ∧ z < 2400 ∧ (∀ (Q : Int → ak_S → Prop) (X : Nat → ak_S → Prop), Q (z : Int) mS → ak_MI e 1 (d + 38) ρ 238 [am_r 110, am_i (ih : Int), am_i nm, am_i 0] mS Q X) ∧
      ((mS.1 143 z = 0 ∧ (n = 0 → ak_MV e 1 (d + 38) ρ 265 [am_r 110, am_i (mS.1 145 z), am_l (mS.2.1 146 z)] (am_up mS.1 110 127 (T0 : Int), mS.2) Q (fun _ _ => False)) ∧ (n ≠ 0 → ak_MV e 1 (d + 38) ρ 270 [am_r 110, am_i 2] mS Q (fun _ _ => False))) ∨
       (mS.1 143 z = 1 ∧ ∃ m : Nat, m < 40 ∧ mS.2.1 146 z = (m : Int) ∧ (mS.1 126 (40 * c.us + m) = (n : Int) → ak_MI e 1 (d + 38) ρ 275 [am_r 110, am_i (m : Int), am_i s, am_l x, am_i pl, am_i ho] (am_up mS.1 110 127 (T0 : Int), mS.2) (fun v2 h' => ak_W0 e 1 (d + 38) 288 ρ 366 [some (am_r 110), none, some (am_i (n : Int)), none, none, none, none, none, none, none, some (am_i (T1 : Int)), none, none, none, none, none, some (am_i v2), some (am_i 0)] [] h' (ak_qv Q (fun _ _ => False))) (fun _ _ => False)) ∧
         (mS.1 126 (40 * c.us + m) ≠ (n : Int) → ak_MV e 1 (d + 38) ρ 270 [am_r 110, am_i 2] mS Q (fun _ _ => False))))) →
  ak_MV e 1 (d + 40) ρ 283 [am_r 110, am_i jn] hB Q X
section SNDX
variable {e : ak_X3} {d ρ1 ρ2 P W y n N i : Nat} {ρ : List Nat} {c : ak_Cx} {g : ak_Gh} {fs : List ak_Fr} {f : ak_Fr} {hc hm : ak_S} {j : ak_Jb} {r : List ak_Jb} {u l : List (Bool × Int × Int)} {v : Bool × Int × Int} {stt : Int} {kk : Bool}
theorem ak_snd_C (w : ak_RN c g (f :: fs) hc hm) (h2 : ak_mC c.s c.h0 (ak_T c.s + 2) f.pc = (if kk = true then 18 else 17)) (h3 : ak_mC c.s c.h0 (ak_T c.s + 3) f.pc = (i : Int) * 8 + (n : Int)) (hi : i < 150) (hn4 : n ≤ 4) (h104 : hm.1 110 104 = (N : Int)) (hN : N < 4000) (est : stt = if kk = true then (if hc.1 58 (g.hr f.r) = 0 then -1 else hc.1 59 (g.hr f.r) + 1) else 0) (b59 : -1 ≤ hc.1 59 (g.hr f.r) ∧ hc.1 59 (g.hr f.r) < 200) (Q : ak_S → Prop) (X : Nat → ak_S → Prop)
    (q : ak_MI e 0 (d + 38) (ak_rc c.s ρ1 ρ2) 87 [am_r 32, am_i (i : Int), am_i (n : Int), am_i stt] (ak_tkA hc fs.length f.pc N) (fun v h3 => (v < 0 → Q h3) ∧ (0 ≤ v → ak_MV e 0 (d + 38) (ak_rc c.s ρ1 ρ2) 93 [am_r 32, am_i v] h3 (fun h5 => Q h5) (fun _ _ => False))) (fun _ _ => False)) : ak_MV e 0 (d + 40) (ak_rc c.s ρ1 ρ2) 72 [am_r 32] hc Q X := by
  obtain ⟨hs, l60, fU, f5, φ5, sp0, F, L, J0, V, K0, ⟨l1, l2, l3⟩, ⟨d2, d3, d4, d5, o1, o2⟩, ⟨e1, e2, e3, e4, e5, o3⟩, ⟨x1, x2, x3, x4⟩, d72, lt1⟩ := ak_tp w
  have j2 := sp0.2.2.2.2.2.1.1.2.2.1
  obtain ⟨q1, q2⟩ := ak_i8 (i := i) (n := n) hi hn4
  cases kk with
  | true =>
    have h86 : ∀ (Q' : Int → ak_S → Prop) (X' : Nat → ak_S → Prop), Q' stt (ak_tkA hc fs.length f.pc N) → ak_MI e 0 (d + 38) (ak_rc c.s ρ1 ρ2) 86 [am_r 32] (ak_tkA hc fs.length f.pc N) Q' X' := fun Q' X' q => by
      obtain ⟨⟨hrU, h53, _⟩, _⟩ := (sp0.2.2.2.2.1.2.1 _ fU).2
      have hr5 : g.hr f.r < 560 := (sp0.2.2.2.2.1.1.2.2.2.1 _).mp (List.mem_append_right _ hrU)
      have A : ∀ q k, ¬ (q = 32 ∧ k = 12) → ¬ (q = 72 ∧ k = fs.length) → (ak_tkA hc fs.length f.pc N).1 q k = hc.1 q k := fun q k a b => ak_tkA_o a b
      have A12 := (ak_tkA_v (hc := hc) (t := fs.length) (pc := f.pc) (N := N)).2.2.1
      have f70 := F.1.2.1
      refine ak_MI_of (Nat.le_of_ble_eq_true rfl) (am_k86_0 hs ?_)
      rw [A12, ak_natn, A 70 _ (by omega) (by omega), f70, ak_natn, A 53 _ (by omega) (by omega), h53, ak_natn, A 58 _ (by omega) (by omega), A 59 _ (by omega) (by omega)]
      refine ⟨by omega, by omega, by omega, fun z => ⟨by omega, ?_⟩, fun z => ?_⟩
      · rw [ak_w (hc.1 59 (g.hr f.r) + 1) (by omega), show hc.1 59 (g.hr f.r) + 1 = stt from by rw [est, if_pos rfl, if_neg z]]
        exact q
      · have e0 : stt = -1 := by rw [est, if_pos rfl, if_pos z]
        rw [e0] at q
        exact q
    refine ak_o72 (d := d + 39) (o := 18) w h2 (fun z => absurd z (by decide)) (fun _ z => absurd z (by decide)) (fun _ _ => ?_) (fun z => absurd z (by decide)) (fun z => absurd z (by decide)) (fun z => absurd z (by decide))
    rw [h3]
    refine ak_MV_of (Nat.le_of_ble_eq_true rfl) (am_k85_0 hs ?_)
    rw [q1, q2]
    refine am_s76 (d := d + 37) (n := N) hs (j2.trans h104) (by omega) (fun _ => ⟨fun _ => ⟨fun _ => ⟨fun _ => ⟨fun z => absurd rfl z, fun _ => ?_⟩, fun z => absurd z (by decide)⟩, fun z => absurd z (by decide)⟩, fun z => absurd z (by decide)⟩) (fun z => absurd z (by omega))
    exact h86 _ _ q
  | false =>
    refine ak_o72 (d := d + 39) (o := 17) w h2 (fun z => absurd z (by decide)) (fun _ z => absurd z (by decide)) (fun _ _ => ?_) (fun z => absurd z (by decide)) (fun z => absurd z (by decide)) (fun z => absurd z (by decide))
    rw [h3]
    refine ak_MV_of (Nat.le_of_ble_eq_true rfl) (am_k85_0 hs ?_)
    rw [q1, q2]
    have e0 : stt = 0 := est
    rw [e0] at q
    exact am_s76 (d := d + 37) (n := N) hs (j2.trans h104) (by omega) (fun _ => ⟨fun _ => ⟨fun _ => ⟨fun _ => ⟨fun _ => q, fun z => absurd z (by decide)⟩, fun z => absurd z (by decide)⟩, fun z => absurd z (by decide)⟩, fun z => absurd z (by decide)⟩) (fun z => absurd z (by omega))
theorem ak_283s {hB : ak_S} {Q : ak_S → Prop} {X : Nat → ak_S → Prop} (y18 : y < 18000) (h : hB.1 114 y = 8 ∨ hB.1 114 y = 9) (m : ak_MV e 1 d ρ 288 [am_r 110, am_i (y : Int)] hB Q (fun _ _ => False)) : ak_MV e 1 (d + 1) ρ 283 [am_r 110, am_i (y : Int)] hB Q X := by
  refine ak_MV_of (Nat.le_of_ble_eq_true rfl) (am_k283_0 ?_)
  rw [ak_natn]
  exact ⟨by omega, trivial, fun _ => m, fun z => absurd z (by omega), fun _ => m, fun _ => m, fun _ => m, fun z => absurd z (by omega), fun z => absurd z (by omega), fun z => absurd z (by omega), trivial⟩
theorem ak_snd_ctx (w : ak_RN c g (f :: fs) hc hm) (fj : f.js = j :: r) (hk : j.k = 3) (hy : j.n = (y : Int)) (h114 : ak_mM c.us c.m0 114 y = (if kk = true then 8 else 9)) (h2 : ak_mC c.s c.h0 (ak_T c.s + 2) f.pc = (if kk = true then 18 else 17)) (h3 : ak_mC c.s c.h0 (ak_T c.s + 3) f.pc = (i : Int) * 8 + (n : Int)) (h117 : ak_mM c.us c.m0 117 y = (n : Int)) (h118 : ak_mM c.us c.m0 118 y = (i : Int)) (hi : i < c.z 7) (hn4 : n ≤ 4) (fv : f.vs = u ++ (v :: l)) (ul : u.length = n) (ut : ∀ z, z ∈ u → z.1 = true) (v1 : v.1 = !kk) (h104 : hm.1 110 104 = (N : Int)) (hN : N < 4000) :
    ∃ (stt nm : Int) (o T1 : Nat) (E : Nat → List ak_E) (Et : List ak_E) (hS mS : ak_S), ak_vok g.O g.B v.2.1 v.2.2 ∧ o < g.O ∧ (0 ≤ nm ∧ nm < 100) ∧ (hc.1 108 (ak_nV fs + l.length) = v.2.1 ∧ hc.2.1 109 (ak_nV fs + l.length) = v.2.2) ∧ (hc.1 32 10 = ((ak_nV fs + l.length + n + 1 : Nat) : Int) ∧ ak_nV fs + l.length + n + 1 ≤ 9060) ∧ (T1 = (if kk = true then ak_nT fs + ak_tc l else ak_nT fs + ak_tc l + 1) ∧ hm.1 110 127 = ((T1 + n : Nat) : Int) ∧ T1 + n ≤ 9060) ∧ (hm.1 129 (150 * c.us + i) = nm ∧ i < 150) ∧ (y < 18000 ∧ hm.1 118 y = (i : Int)) ∧
      ak_US c g fs f (ak_nJ fs + 1 + r.length) N E Et hc hm hS mS ∧ ak_SXc e d ρ1 ρ2 c n o (ak_nV fs + l.length) nm (ak_lu g.T g.sh g.O (g.sh o) nm stt).1 (ak_lu g.T g.sh g.O (g.sh o) nm stt).2 hc hS ∧
      ak_SXm e d ρ c n o y (ak_nT fs + ak_tc l) T1 nm (ak_lu g.T g.sh g.O (g.sh o) nm stt).1 (ak_lu g.T g.sh g.O (g.sh o) nm stt).2 v.2.1 v.2.2 j.n (ak_poM hm (ak_nJ fs + 1 + r.length)) mS := by
  obtain ⟨hs, l60, fU, f5, φ5, sp0, F, L, J0, V, K0, ⟨l1, l2, l3⟩, ⟨d2, d3, d4, d5, o1, o2⟩, ⟨e1, e2, e3, e4, e5, o3⟩, ⟨x1, x2, x3, x4⟩, d72, lt1⟩ := ak_tp w
  have y114 : ak_mM c.us c.m0 114 y = 8 ∨ ak_mM c.us c.m0 114 y = 9 := by
    rw [h114]; cases kk <;> simp
  obtain ⟨y18, yq⟩ := ak_nde (q0 := 114) (y := y) sp0 (by omega) (by rcases y114 with h | h <;> rw [h] <;> decide)
  have yO : ∀ q, 114 ≤ q → q ≤ 120 → (ak_poM hm (ak_nJ fs + 1 + r.length)).1 q y = ak_mM c.us c.m0 q y := fun q a b => (ak_poM_o (by omega)).trans (yq q a b)
  have yb : 0 ≤ (y : Int) ∧ (y : Int) < 18000 := by omega
  rw [fv] at V
  obtain ⟨⟨r1, r2, vk⟩, r3, r4, _⟩ := ak_VS_dn V
  have elen : f.vs.length = l.length + n + 1 := by rw [fv, List.length_append, List.length_cons]; omega
  have R := sp0.2.2.2.2.1.2.1
  obtain ⟨hrU, h53, h178, hlv⟩ := (R f.r fU).2.1
  obtain ⟨a56, a57, avk, a182, b59, b59'⟩ := (R (g.hr f.r) hrU).2.2.2.2.2.2 hlv
  clear R
  have φh : g.φ (g.hr f.r) < 564 := sp0.2.2.2.2.1.1.2.2.2.2.1 _ hrU
  have etc : ak_tc f.vs = n + (ak_tc l + (if v.1 = true then 1 else 0)) := by
    rw [fv, ak_tc_app ut, ul]
    rfl
  obtain ⟨T1, eT⟩ : ∃ T1 : Nat, T1 = (if kk = true then ak_nT fs + ak_tc l else ak_nT fs + ak_tc l + 1) := ⟨_, rfl⟩
  have h127 : ak_nT fs + ak_tc f.vs = T1 + n := by
    rw [etc, eT, v1]
    cases kk
    · show ak_nT fs + (n + (ak_tc l + 1)) = ak_nT fs + ak_tc l + 1 + n; omega
    · show ak_nT fs + (n + (ak_tc l + 0)) = ak_nT fs + ak_tc l + n; omega
  rw [h127] at e3 x2
  rw [elen] at d5 x1
  have hV : (if kk = true then (ak_poM hm (ak_nJ fs + 1 + r.length)).1 180 (g.φ (g.hr f.r)) else (ak_poM hm (ak_nJ fs + 1 + r.length)).1 199 (ak_nT fs + ak_tc l)) = v.2.1 ∧ (if kk = true then (ak_poM hm (ak_nJ fs + 1 + r.length)).2.1 181 (g.φ (g.hr f.r)) else (ak_poM hm (ak_nJ fs + 1 + r.length)).2.1 200 (ak_nT fs + ak_tc l)) = v.2.2 := by
    cases kk with
    | true =>
      obtain ⟨z1, z2⟩ := r4 v1
      exact ⟨(ak_poM_o (by omega)).trans (a56.symm.trans z1.symm), a57.symm.trans z2.symm⟩
    | false =>
      obtain ⟨z1, z2⟩ := r3 v1
      exact ⟨(ak_poM_o (by omega)).trans z1, z2⟩
  obtain ⟨stt, est⟩ : ∃ stt : Int, stt = if kk = true then (if hc.1 58 (g.hr f.r) = 0 then -1 else hc.1 59 (g.hr f.r) + 1) else 0 := ⟨_, rfl⟩
  have hst : -1 ≤ stt ∧ stt ≤ 200 := by
    rw [est]
    split
    · split <;> omega
    · omega
  have hstM : (if kk = true then (ak_poM hm (ak_nJ fs + 1 + r.length)).1 182 (g.φ (g.hr f.r)) else 0) = stt := by
    rw [est, ak_poM_o (by omega), a182]
  have p5 := sp0.1.2.1.2.2.2.2.1
  have p6 := sp0.1.2.1.2.2.2.2.2.1
  have p7 := sp0.1.2.1.2.2.2.2.2.2.1
  have N100 := p5.2.1
  have z7 := p6.1
  obtain ⟨_, s16, _, s0, sN⟩ := p6.2.2.2 i hi
  have M40 := p7.1
  have M4 := p7.2.1
  clear p5 p6 p7
  have hnmM : hm.1 129 (150 * c.us + i) = c.m0.1 129 (150 * c.us + i) := sp0.2.1.2 129 _ (by unfold ak_tmI; omega)
  have hnmC : hc.1 (ak_T c.s + 16) i = c.m0.1 129 (150 * c.us + i) := ((sp0.2.1.1 _ _ (by omega) (by omega)).1).trans s16
  have hM4 : hc.1 (ak_T c.s) 4 = (c.Mt : Int) := ((sp0.2.1.1 _ _ (by omega) (by omega)).1).trans M4
  obtain ⟨nm, enm⟩ : ∃ nm : Int, nm = c.m0.1 129 (150 * c.us + i) := ⟨_, rfl⟩
  rw [← enm] at hnmM hnmC s0 sN
  have spA := ak_tk_SP (t := fs.length) (pc := f.pc) (n := ak_nJ fs + 1 + r.length) sp0 h104 hN
  have hT := ak_T_bd hs
  have O4 := sp0.2.2.1.1
  obtain ⟨hO1, hO2, hO3⟩ := sp0.2.2.1.2.2.2.2.1
  obtain ⟨o, eo, oO⟩ := ak_ofv_ok vk O4
  obtain ⟨ob1, ob2, ob3, _⟩ := sp0.2.2.1.2.2.2.2.2 o oO
  have al := sp0.2.2.2.2.2.2.1
  have us2 := al.1
  have us3 := al.2.1
  clear al
  have AO : ∀ q k, ¬ (q = 32 ∧ k = 12) → ¬ (q = 72 ∧ k = fs.length) → (ak_tkA hc fs.length f.pc N).1 q k = hc.1 q k := fun q k a b => ak_tkA_o a b
  have AJ : ∀ q k, ¬ (q = 64 ∧ k = 2) → (ak_tkA hc fs.length f.pc N).2.1 q k = hc.2.1 q k := fun q k a => ak_tkA_J a
  have BO : ∀ q k, ¬ (q = 110 ∧ (k = 104 ∨ k = 132)) → (ak_tkB hm (ak_nJ fs + 1 + r.length) N).1 q k = hm.1 q k := fun q k a => ak_tkB_o a
  obtain ⟨E, Et, hS, mS, wd, st, ⟨p1, p2, p3, p4⟩, uC, uM, goC, goM⟩ := lk_use (e := e) (d := d + 33) (ρ := ak_rc c.s ρ1 ρ2) (ρ2 := ρ) (i := i) (s := g.sh o) (nm := nm) (st := stt) spA.2.2.1.2 spA.2.2.2.1 hi ob1 hst ((BO _ _ (by omega)).trans hnmM)
  have U := ak_US_use spA wd st uC uM
  have hSM : hS.1 (ak_T c.s) 4 = (c.Mt : Int) := (uC.1 _ _ (by omega) (by omega) (by omega) (by omega)).trans ((AO _ _ (by omega) (by omega)).trans hM4)
  have g127 : mS.1 110 127 = ((T1 + n : Nat) : Int) := (uM.1 _ _ (by omega) (by omega)).trans ((BO _ _ (by omega)).trans e3)
  have g118 : mS.1 118 y = (i : Int) := (uM.1 _ _ (by omega) (by omega)).trans ((BO _ _ (by omega)).trans ((yq 118 (by omega) (by omega)).trans h118))
  have g3 : mS.1 110 3 = (c.us : Int) := (uM.1 _ _ (by omega) (by omega)).trans ((BO _ _ (by omega)).trans us3)
  have gnm : mS.1 129 (150 * c.us + i) = nm := (uM.1 _ _ (by omega) (by omega)).trans ((BO _ _ (by omega)).trans hnmM)
  clear spA uC uM wd st sp0
  refine ⟨stt, nm, o, T1, E, Et, hS, mS, vk, oO, ⟨s0, by omega⟩, ⟨r1, r2⟩, ⟨by rw [d5]; omega, by omega⟩, ⟨eT, e3, by omega⟩, ⟨hnmM, by omega⟩, ⟨y18, (yq 118 (by omega) (by omega)).trans h118⟩, U, fun Q X nf fd => ?_, fun Q X nf fd => ?_⟩
  · refine ak_snd_C w h2 h3 (by omega) hn4 h104 hN est ⟨b59, b59'⟩ Q X (am_c87 (d := d + 33) hs ((AO _ _ (by omega) (by omega)).trans (by rw [d5]; omega)) (by omega) hn4 ((AO _ _ (by omega) (by omega)).trans r1) ((AJ _ _ (by omega)).trans r2) ((AO _ _ (by omega) (by omega)).trans hO2) hO1 vk eo (by omega) (by omega) ((AO _ _ (by omega) (by omega)).trans hnmC) ((AO _ _ (by omega) (by omega)).trans ob2) goC p1 p2 hSM M40 nf (fun g0 => ?_))
    obtain ⟨z, hz, r88, fz⟩ := fd g0
    refine ⟨z, hz, r88, ?_⟩
    rcases fz with ⟨f0, f1, f2⟩ | ⟨f0, m, m1, m2, f3, f4⟩
    · exact Or.inl ⟨f0, fun g => ak_MV_imp (f1 g) (fun h' q => ⟨fun _ => q, fun z => absurd z (by decide)⟩) (fun _ _ q => q), fun g => ak_MV_imp (f2 g) (fun h' q => ⟨fun _ => q, fun z => absurd z (by decide)⟩) (fun _ _ q => q)⟩
    · exact Or.inr ⟨f0, m, m1, m2, fun g => ⟨fun z => absurd z (by omega), fun _ => f3 g⟩, fun g => ak_MV_imp (f4 g) (fun h' q => ⟨fun _ => q, fun z => absurd z (by decide)⟩) (fun _ _ q => q)⟩
  · have M288 : ak_MV e 1 (d + 39) ρ 288 [am_r 110, am_i (y : Int)] (ak_poM hm (ak_nJ fs + 1 + r.length)) Q (fun _ _ => False) := am_m288 (d := d + 33) (kk := kk) (T1 := T1) (T0 := ak_nT fs + ak_tc l) (h1 := ak_tkB hm (ak_nJ fs + 1 + r.length) N) (f' := g.φ f.r) (hf := g.φ (g.hr f.r)) (us := c.us) (O := g.O) (B := g.B) (a := g.sh o) (i := i) rfl ((ak_poM_o (by omega)).trans h104) hN ((ak_poM_o (by omega)).trans o3) y18 ((yO 114 (by omega) (by omega)).trans h114) ((yO 117 (by omega) (by omega)).trans h117) ((yO 118 (by omega) (by omega)).trans h118) (by omega) hn4 ((ak_poM_o (by omega)).trans e1) φ5 ((ak_poM_o (by omega)).trans h178) φh eT ((ak_poM_o (by omega)).trans e3) (by omega) hV.1 hV.2 hstM hO1 vk eo (by omega) ((ak_poM_o (by omega)).trans ob3) (fun Q X q => goM Q X q) p3 p4 g127 g118 g3 us2 gnm nf fd
    rw [hy]
    exact ak_283s y18 (by rw [yO 114 (by omega) (by omega)]; exact y114) M288
end SNDX
