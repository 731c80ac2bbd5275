/-! the run: a send -/
section SND6
variable {e : ak_X3} {d ρ1 ρ2 P W y n N i o T1 : Nat} {ρ : List Nat} {c : ak_Cx} {g : ak_Gh} {fs : List ak_Fr} {f : ak_Fr} {hc hm hS mS : ak_S} {E : Nat → List ak_E} {Et : List ak_E} {j : ak_Jb} {r : List ak_Jb} {u l : List (Bool × Int × Int)} {v : Bool × Int × Int} {stt nm pl ho : Int} {kk : Bool}
/-- cells of the text behind a use -/
theorem ak_US_tx (U : ak_US c g fs f (ak_nJ fs + 1 + r.length) N E Et hc hm hS mS) {m : Nat} (hm' : m < c.Mt) : hS.1 (ak_T c.s + 12) m = mS.1 126 (40 * c.us + m) ∧ m < 40 := by
  have sp := U.1
  have hT := ak_T_bd sp.1.1
  have hMt : c.Mt ≤ 40 := (ak_tx_z sp.1.2).2.2.2.2.2.2.2
  obtain ⟨a, cc, p1, p4, p2, _, p7⟩ := ak_tx_prg sp.1.2 hm'
  have e1 : hS.1 (ak_T c.s + 12) m = c.h0.1 (ak_T c.s + 12) m := (sp.2.1.1 _ _ (by omega) (by omega)).1
  have e2 : mS.1 126 (40 * c.us + m) = c.m0.1 126 (40 * c.us + m) := sp.2.1.2 126 _ (by unfold ak_tmI; omega)
  rw [e1, e2, p2]
  exact ⟨rfl, by omega⟩
theorem ak_snd_found (w : ak_RN c g (f :: fs) hc hm) (fj : f.js = j :: r) (hk : j.k = 3) (fv : f.vs = u ++ (v :: l)) (ul : u.length = n) (ut : ∀ z, z ∈ u → z.1 = true) (v1 : v.1 = !kk) (hn4 : n ≤ 4) (K : ak_K (ak_mC c.s c.h0) (ak_mM c.us c.m0) (ak_T c.s) c.us (g.mt f.r + 40 * g.lv f.r) r (f.pc + 1) (true :: l.map (fun v => v.1))) (len : l.length + 1 ≤ 151) (pc9 : f.pc < 9100) (h104 : hm.1 110 104 = (N : Int)) (hN : N < 4000) (cnt : hm.1 110 109 < 1000000000) (cnt2 : hm.1 110 111 < 1000000000)
    (vk : ak_vok g.O g.B v.2.1 v.2.2) (oO : o < g.O) (r1 : hc.1 108 (ak_nV fs + l.length) = v.2.1) (r2 : hc.2.1 109 (ak_nV fs + l.length) = v.2.2) (x10 : hc.1 32 10 = ((ak_nV fs + l.length + n + 1 : Nat) : Int)) (x10' : ak_nV fs + l.length + n + 1 ≤ 9060) (eT : T1 = (if kk = true then ak_nT fs + ak_tc l else ak_nT fs + ak_tc l + 1)) (eT' : T1 + n ≤ 9060)
    (U : ak_US c g fs f (ak_nJ fs + 1 + r.length) N E Et hc hm hS mS) (RC : ak_SXc e d ρ1 ρ2 c n o (ak_nV fs + l.length) nm (ak_lu g.T g.sh g.O (g.sh o) nm stt).1 (ak_lu g.T g.sh g.O (g.sh o) nm stt).2 hc hS) (RM : ak_SXm e d ρ c n o y (ak_nT fs + ak_tc l) T1 nm (ak_lu g.T g.sh g.O (g.sh o) nm stt).1 (ak_lu g.T g.sh g.O (g.sh o) nm stt).2 v.2.1 v.2.2 j.n (ak_poM hm (ak_nJ fs + 1 + r.length)) mS)
    (job : ∀ hm', ak_goV e (d + 40) ρ 283 [am_r 110, am_i j.n] (ak_poM hm (ak_nJ fs + 1 + r.length)) hm' → ak_mgo e (d + 40) ρ hm hm') (g0 : 0 ≤ (ak_lu g.T g.sh g.O (g.sh o) nm stt).1) : ak_OUT e d ρ1 ρ2 ρ c (ak_Phi hm (f :: fs)) W hc hm := by
  have hs := w.1.1.1
  have o11 := w.2.2.1
  have V := (ak_tp w).2.2.2.2.2.2.2.2.2.1
  have wd : ak_WD g.S g.O g.B c.Mt g.T g.sh hS mS := U.1.2.2.1.2
  have hO : g.O ≤ 200 := wd.2.2.2.1.1
  obtain ⟨i', iO, ei, lk, b1, b2⟩ := ak_lu_at wd oO g0
  obtain ⟨k, k12, kz, r153, h34, r238, D⟩ := ak_slot wd iO lk
  have r88 : ∀ (Q : Int → ak_S → Prop) (X : Nat → ak_S → Prop), Q ((12 * i' + k : Nat) : Int) hS → ak_MI e 0 (d + 37) (ak_rc c.s ρ1 ρ2) 88 [am_r 32, am_i (o : Int), am_i nm, am_i (ak_lu g.T g.sh g.O (g.sh o) nm stt).1, am_i (ak_lu g.T g.sh g.O (g.sh o) nm stt).2] hS Q X := fun Q X q => am_s88 (d := d + 35) hs ei (by omega) k12 h34 (fun Q X q => r153 e (d + 35) _ Q X q) q
  have r238' := fun Q X q => r238 e (d + 37) ρ Q X q
  have hT0 : ak_nT fs + ak_tc l ≤ T1 := by rw [eT]; split <;> omega
  generalize (ak_lu g.T g.sh g.O (g.sh o) nm stt).1 = pl at RC RM ei g0 r88
  generalize (ak_lu g.T g.sh g.O (g.sh o) nm stt).2 = ho at RC RM ei b1 b2 r88
  generalize 12 * i' + k = z at kz r238' r88 D
  clear r153 r238 h34 lk wd
  rcases D with ⟨m3, n4, e5, e6, vk'⟩ | ⟨m3, e4, m, mM, e6, e7⟩
  · by_cases hn : n = 0
    · refine ak_US_val (u := u ++ [v]) (l := l) (s := hS.1 35 z) (x := hS.2.1 36 z) w fj (by omega) pc9 h104 U (by rw [fv]; simp) vk' K len (fun Q X q => RC Q X (fun y => absurd g0 (by omega)) (fun _ => ⟨z, kz, r88, Or.inl ⟨n4, fun _ => am_s73 (d := d + 36) hs ak_up_at1 (by omega) q, fun y => absurd hn y⟩⟩)) (job _ (fun Q X q => RM Q X (fun y => absurd g0 (by omega)) (fun _ => ⟨i', z, ei, kz, r238', Or.inl ⟨m3, fun _ => ?_, fun y => absurd hn y⟩⟩)))
      rw [e5, e6] at q
      exact am_s265 (d := d + 37) ak_up_at1 (by omega) q
    · exact ak_US_fail (kd := 2) (s := 0) (x := 0) w fj (by omega) pc9 h104 U ak_vk0 cnt (fun hcX h Q X q => RC Q X (fun y => absurd g0 (by omega)) (fun _ => ⟨z, kz, r88, Or.inl ⟨n4, fun y => absurd y hn, fun _ => ak_MV_deep (show d + 30 ≤ d + 37 by omega) (h _ _ q)⟩⟩)) (fun hm' h => job _ (fun Q X q => RM Q X (fun y => absurd g0 (by omega)) (fun _ => ⟨i', z, ei, kz, r238', Or.inl ⟨m3, fun y => absurd y hn, fun _ => ak_MV_of (Nat.le_of_ble_eq_true rfl) (am_k270_0 (ak_MV_deep (show d + 25 ≤ d + 37 by omega) (h _ _ q)))⟩⟩)))
  · obtain ⟨ar, m40⟩ := ak_US_tx U mM
    by_cases hn : mS.1 126 (40 * c.us + m) = (n : Int)
    · refine ak_snd_bg (u := u ++ [v]) (A := ak_nV fs + l.length) (na := n) (mth := m) (pl := pl) (ho := ho) (hd := 0) (s := v.2.1) (w0 := v.2.2) (va := fun k => hm.1 199 (T1 + k)) (vj := fun k => hm.2.1 200 (T1 + k)) (hX := (am_up (am_up (am_up (am_up hS.1 32 13 (n : Int)) 32 14 pl) 32 15 ho) 32 16 0, hS.2)) w fj (by omega) (by rw [fv]; simp) K len h104 hN pc9 U hn4 mM rfl (by omega)
        (fun q k a _ => (ak_up_out1 (by omega)).trans ((ak_up_out (by omega)).trans ((ak_up_out (by omega)).trans (ak_up_out (by omega))))) ((ak_up_out1 (by omega)).trans ((ak_up_out (by omega)).trans ((ak_up_out (by omega)).trans ((ak_up_out (by omega)).trans ((U.2.1 _ _ (by omega) (by omega) (by omega) (by omega) (by omega) (by omega)).trans o11))))) (fun _ _ _ => rfl) rfl ((ak_up_out1 (by omega)).trans ((ak_up_out (by omega)).trans ((ak_up_out (by omega)).trans ((ak_up_out (by omega)).trans ((U.2.1 _ _ (by omega) (by omega) (by omega) (by omega) (by omega) (by omega)).trans x10)))))
        ((ak_up_out1 (by omega)).trans ((ak_up_out (by omega)).trans ((ak_up_out (by omega)).trans ak_up_at))) ((ak_up_out1 (by omega)).trans ((ak_up_out (by omega)).trans ak_up_at)) ((ak_up_out1 (by omega)).trans ak_up_at) ak_up_at1 (fun k' hk' => ?_) r1 r2 vk ⟨b1, b2⟩ (Or.inl rfl) cnt2 (fun Q X q => RC Q X (fun y => absurd g0 (by omega)) (fun _ => ⟨z, kz, r88, Or.inr ⟨e4, m, mM, e6, fun _ => q, fun y => absurd (ar.trans hn) y⟩⟩)) (fun l6 => job _ (fun Q X q => RM Q X (fun y => absurd g0 (by omega)) (fun _ => ⟨i', z, ei, kz, r238', Or.inr ⟨m3, m, m40, e7, fun _ => ?_, fun y => absurd hn y⟩⟩))) (fun nb enb l6 => ?_)
      · rw [fv] at V
        obtain ⟨z1, z2, z3⟩ := ak_VS_at V ut k' (by omega)
        have eTl : ak_nT fs + ak_tc (v :: l) = T1 := by
          show ak_nT fs + (ak_tc l + (if v.1 = true then 1 else 0)) = T1
          rw [eT, v1]
          cases kk
          · show ak_nT fs + (ak_tc l + 1) = ak_nT fs + ak_tc l + 1; omega
          · show ak_nT fs + (ak_tc l + 0) = ak_nT fs + ak_tc l; omega
        rw [eTl] at z1 z2
        rw [List.length_cons, ← Nat.add_assoc] at z1 z2 z3
        have f1 : ((am_up (am_up (am_up (am_up hS.1 32 13 (n : Int)) 32 14 pl) 32 15 ho) 32 16 0, hS.2) : ak_S).1 108 (ak_nV fs + l.length + 1 + k') = hc.1 108 (ak_nV fs + l.length + 1 + k') := (ak_up_out1 (by omega)).trans ((ak_up_out (by omega)).trans ((ak_up_out (by omega)).trans ((ak_up_out (by omega)).trans (U.2.1 _ _ (by omega) (by omega) (by omega) (by omega) (by omega) (by omega)))))
        have f2 : ((am_up (am_up (am_up (am_up hS.1 32 13 (n : Int)) 32 14 pl) 32 15 ho) 32 16 0, hS.2) : ak_S).2.1 109 (ak_nV fs + l.length + 1 + k') = hc.2.1 109 (ak_nV fs + l.length + 1 + k') := U.2.2.1 _ _ (by omega) (by omega) (by omega)
        rw [f1, f2]
        rw [z1, z2] at z3
        exact ⟨z1, z2, z3⟩
      · have sp := U.1
        have d2 := (ak_tp w).2.2.2.2.2.2.2.2.2.2.2.2.2.1
        have us3 := sp.2.2.2.2.2.2.1.2.1
        have us2 := sp.2.2.2.2.2.2.1.1
        have fr := ak_fre_M w.1.2.2.2.2.1.1
        have jn := w.1.2.2.2.2.2.1.2.1
        have u6 := U.2.2.2.2.1
        have u9 := U.2.2.2.2.2.2.2
        have t2 := (ak_tj w fj).2.1
        obtain ⟨nb, enb⟩ := Int.eq_ofNat_of_zero_le jn.2.2.2.1
        have G : ∀ q k, ¬ (q = 110 ∧ k = 127) → ((am_up mS.1 110 127 ((ak_nT fs + ak_tc l : Nat) : Int), mS.2) : ak_S).1 q k = mS.1 q k := fun q k a => ak_up_out1 a
        refine am_s275 (d := d + 35) (n := fs.length + 1) (m := ak_nJ fs + 1 + r.length) (nb := nb) (us := c.us) ((G _ _ (by omega)).trans ((u6 _ _ (by omega) (by omega)).trans d2.2.1)) (by omega) ((G _ _ (by omega)).trans u9) (by omega) ((G _ _ (by omega)).trans ((u6 _ _ (by omega) (by omega)).trans enb)) (by omega) m40 ((G _ _ (by omega)).trans us3) us2 ⟨b1, b2⟩ ?_ (fun z => absurd z (by omega)) (fun _ => am_k288_366 ⟨fun _ => q, fun _ => ⟨fun _ => q, fun z => absurd z (by decide)⟩⟩)
        obtain ⟨f0, f1, f2⟩ := fr
        exact ⟨f0, f1, (G _ _ (by omega)).trans ((u6 _ _ (by omega) (by omega)).trans f2)⟩
      · have sp := U.1
        have d2 := (ak_tp w).2.2.2.2.2.2.2.2.2.2.2.2.2.1
        have us3 := sp.2.2.2.2.2.2.1.2.1
        have us2 := sp.2.2.2.2.2.2.1.1
        have fr := ak_fre_M w.1.2.2.2.2.1.1
        have u6 := U.2.2.2.2.1
        have u7 := U.2.2.2.2.2.1
        have u9 := U.2.2.2.2.2.2.2
        have t2 := (ak_tj w fj).2.1
        have G : ∀ q k, ¬ (q = 110 ∧ k = 127) → ((am_up mS.1 110 127 ((ak_nT fs + ak_tc l : Nat) : Int), mS.2) : ak_S).1 q k = mS.1 q k := fun q k a => ak_up_out1 a
        have key : ak_MV e 1 (d + 40) ρ 283 [am_r 110, am_i j.n] (ak_poM hm (ak_nJ fs + 1 + r.length)) (fun h' => ∃ f', f' < 564 ∧ hm.1 173 f' = 0 ∧ ak_mtM c.us (fs.length + 1) (ak_nJ fs + 1 + r.length) f' nb (ak_nT fs + ak_tc l) n m v.2.1 v.2.2 pl ho 0 (fun k => hm.1 199 (T1 + k)) (fun k => hm.2.1 200 (T1 + k)) mS h') (fun _ _ => False) := by
          refine RM _ _ (fun y => absurd g0 (by omega)) (fun _ => ⟨i', z, ei, kz, r238', Or.inr ⟨m3, m, m40, e7, fun _ => ?_, fun y => absurd hn y⟩⟩)
          refine am_s275 (d := d + 35) (n := fs.length + 1) (m := ak_nJ fs + 1 + r.length) (nb := nb) (us := c.us) ((G _ _ (by omega)).trans ((u6 _ _ (by omega) (by omega)).trans d2.2.1)) (by omega) ((G _ _ (by omega)).trans u9) (by omega) ((G _ _ (by omega)).trans ((u6 _ _ (by omega) (by omega)).trans enb)) (by omega) m40 ((G _ _ (by omega)).trans us3) us2 ⟨b1, b2⟩ ?_ (fun _ f' h1 hf hz bm => ?_) (fun z => absurd z (by omega))
          · obtain ⟨f0, f1, f2⟩ := fr
            exact ⟨f0, f1, (G _ _ (by omega)).trans ((u6 _ _ (by omega) (by omega)).trans f2)⟩
          · obtain ⟨h', a1, a2, a3, a4, a5⟩ := am_l366 (e := e) (d := d + 37) (ρ := ρ) (f' := f') (T1 := T1) hn4 hf (by omega) n 0 h1 (by omega)
            refine a5 _ _ ⟨f', hf, (u6 _ _ (by omega) (by omega)).symm.trans ((G _ _ (by omega)).symm.trans hz), ?_⟩
            have bm' := bm
            obtain ⟨⟨⟨_, _, _, c4⟩, _⟩, _, _, _, _, mO, mJ, _⟩ := bm'
            refine ak_mtM_of bm (fun k' hk' => ?_) ((a2 _ _ (by omega)).trans c4) (fun q k' c1 c2 => a2 q k' (by omega)) (fun q k' c1 => a3 q k' (by omega)) a4 hn4
            obtain ⟨y1, y2⟩ := a1 k' (Nat.zero_le _) hk'
            rw [y1, y2, mO _ _ (by omega) (by omega) (by omega) (by omega) (by omega) (by omega), mJ _ _ (by omega) (by omega) (by omega), G _ _ (by omega), u6 _ _ (by omega) (by omega)]
            refine ⟨rfl, ?_⟩
            show mS.2.1 200 (T1 + k') = _
            rw [u7]
        obtain ⟨hmF, ⟨f', hf, hz, mm⟩, go⟩ := ak_MV_ex key
        exact ⟨f', hmF, hf, hz, mm, job _ (fun Q X q => go Q X q)⟩
    · exact ak_US_fail (kd := 2) (s := 0) (x := 0) w fj (by omega) pc9 h104 U ak_vk0 cnt (fun hcX h Q X q => RC Q X (fun y => absurd g0 (by omega)) (fun _ => ⟨z, kz, r88, Or.inr ⟨e4, m, mM, e6, fun y => absurd (ar.symm.trans y) hn, fun _ => ak_MV_deep (show d + 30 ≤ d + 37 by omega) (h _ _ q)⟩⟩)) (fun hm' h => job _ (fun Q X q => RM Q X (fun y => absurd g0 (by omega)) (fun _ => ⟨i', z, ei, kz, r238', Or.inr ⟨m3, m, m40, e7, fun y => absurd y hn, fun _ => ak_MV_of (Nat.le_of_ble_eq_true rfl) (am_k270_0 (ak_MV_deep (show d + 25 ≤ d + 37 by omega) (h _ _ q)))⟩⟩)))
end SND6
