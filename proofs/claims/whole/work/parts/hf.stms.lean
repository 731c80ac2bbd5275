/-! the run: statements, one at a time -/
section STMS
variable {e : ak_X3} {d ρ1 ρ2 P W y n N : Nat} {ρ : List Nat} {c : ak_Cx} {g : ak_Gh} {fs : List ak_Fr} {f : ak_Fr} {hc hm hc' hm' : ak_S} {j : ak_Jb} {r js : List ak_Jb} {v : Int}
/-- the line of the topmost frame, on both sides -/
theorem ak_RN_line (w : ak_RN c g (f :: fs) hc hm) : ak_RN c g (f :: fs) (am_up hc.1 73 fs.length v, hc.2) (am_up hm.1 183 (g.φ f.r) v, hm.2) := by
  have C : ∀ q k, ¬ (q = 73 ∧ k = fs.length) → ((am_up hc.1 73 fs.length v, hc.2) : ak_S).1 q k = hc.1 q k := fun q k a => ak_up_out1 a
  have C1 : ((am_up hc.1 73 fs.length v, hc.2) : ak_S).1 73 fs.length = v := ak_up_at1
  have C2 : ((am_up hc.1 73 fs.length v, hc.2) : ak_S).2 = hc.2 := rfl
  have M : ∀ q k, ¬ (q = 183 ∧ k = g.φ f.r) → ((am_up hm.1 183 (g.φ f.r) v, hm.2) : ak_S).1 q k = hm.1 q k := fun q k a => ak_up_out1 a
  have M1 : ((am_up hm.1 183 (g.φ f.r) v, hm.2) : ak_S).1 183 (g.φ f.r) = v := ak_up_at1
  have M2 : ((am_up hm.1 183 (g.φ f.r) v, hm.2) : ak_S).2 = hm.2 := rfl
  generalize ((am_up hc.1 73 fs.length v, hc.2) : ak_S) = hc1 at C C1 C2
  generalize ((am_up hm.1 183 (g.φ f.r) v, hm.2) : ak_S) = hm1 at M M1 M2
  obtain ⟨sp, ⟨⟨d1, d2, d3, d4, d5⟩, ⟨e1, e2, e3, e4, e5⟩, lf, lo⟩, o1, o2, o3⟩ := w
  have rows := ak_LO_row (c := c) (fs := f :: fs) (aw := []) ⟨lf, lo⟩
  have nd := List.nodup_cons.mp (show (f.r :: ak_rms fs).Nodup from rows.2.2.2)
  have inj := sp.2.2.2.2.1.1.2.2.2.2.2.1
  have lf' := lf
  obtain ⟨⟨a1, a2, a3, a4, a5, a6, a7, a8, a9, a10⟩, bb, J, V, K, L⟩ := lf'
  refine ⟨ak_SP_fr sp (fun q k h => ⟨C q k (by unfold ak_stC at h; omega), by rw [C2]⟩) (fun q k h => ⟨M q k (by unfold ak_stM at h; omega), by rw [M2]⟩), ⟨⟨d1, (C _ _ (by omega)).trans d2, ?_, (C _ _ (by omega)).trans d4, (C _ _ (by omega)).trans d5⟩, ⟨(M _ _ (by omega)).trans e1, (M _ _ (by omega)).trans e2, (M _ _ (by omega)).trans e3, (M _ _ (by omega)).trans e4, (M _ _ (by omega)).trans e5⟩, ?_, ?_⟩, (C _ _ (by omega)).trans o1, (C _ _ (by omega)).trans o2, (M _ _ (by omega)).trans o3⟩
  · rw [C 69 8 (by omega), d3]
    exact (ak_nH_fr (fun k _ => C 76 k (by omega))).symm
  · exact ak_F1_up (g' := g) (pc' := f.pc) (js' := f.js) (vs' := f.vs) (aw' := []) lf (fun _ _ => rfl) a1 ⟨rfl, rfl⟩ (fun q a b n1 n2 => C q _ (by omega)) ((C _ _ (by omega)).trans a4) (C1.trans M1.symm) (C _ _ (by omega)) (M _ _ (by omega)) (fun q a b => M q _ (by omega))
      (ak_JS_fr (Nat.le_refl _) (Nat.le_refl _) (fun _ _ => rfl) J (fun q k a b _ => ⟨C q k (by omega), by rw [C2]⟩) (fun q k a b _ => M q k (by omega)) (fun q k a b _ => ⟨M q k (by omega), by rw [M2]⟩)) (ak_VS_fr (Nat.le_refl _) (Nat.le_refl _) ⟨C _ _ (by omega), by rw [C2]⟩ V (fun k _ => ⟨C _ _ (by omega), by rw [C2]⟩) (fun k _ => ⟨M _ _ (by omega), by rw [M2]⟩)) K L
  · exact ak_LO_fr (Nat.le_refl _) (Nat.le_refl _) lo (fun y hy => ⟨(rows.2.2.1 y (List.mem_cons_of_mem _ hy)).1, rfl, rfl, rfl, rfl, C _ _ (by omega), C _ _ (by omega), by rw [C2], M _ _ (fun z => nd.1 (by rw [← inj y f.r (rows.2.2.1 y (List.mem_cons_of_mem _ hy)).1 a1 z.2]; exact hy)), M _ _ (by omega)⟩) (fun q k a b h => C q k (by omega)) (fun q k a b h => ⟨C q k (by omega), by rw [C2]⟩) (fun k h => ⟨C _ _ (by omega), by rw [C2]⟩) (fun q k a b h => M q k (by omega)) (fun q k a b h => ⟨M q k (by omega), by rw [M2]⟩) (fun k h => ⟨M _ _ (by omega), by rw [M2]⟩)
/-- no statement is left -/
theorem ak_st_none (w : ak_RN c g (f :: fs) hc hm) (fj : f.js = j :: r) (hk : j.k = 2) (hx : j.n = -1) (K : ak_K (ak_mC c.s c.h0) (ak_mM c.us c.m0) (ak_T c.s) c.us (g.mt f.r + 40 * g.lv f.r) r f.pc (f.vs.map (fun v => v.1))) : ak_OUT e d ρ1 ρ2 ρ c (ak_Phi hm (f :: fs)) (ak_wtop (f :: fs)) hc hm := by
  obtain ⟨hs, l60, fU, f5, φ5, sp0, F, L, J0, V, K0, ⟨l1, l2, l3⟩, ⟨d2, d3, d4, d5, o1, o2⟩, ⟨e1, e2, e3, e4, e5, o3⟩, ⟨x1, x2, x3, x4⟩, d72, _⟩ := ak_tp w
  obtain ⟨t1, t2, t3, t4, t5, t6⟩ := ak_tj w fj
  obtain ⟨g1, g2, g3⟩ := ak_gc_of (j := j) (r := r) (by omega)
  have P : ∀ q i, ¬ (q = 110 ∧ i = 132) → (ak_poM hm (ak_nJ fs + 1 + r.length)).1 q i = hm.1 q i := fun q i a => ak_poM_o a
  have w' : ak_RN c g (⟨f.r, f.pc, r, f.vs⟩ :: fs) hc (ak_poM hm (ak_nJ fs + 1 + r.length)) := ak_RN_red (j := ak_nJ fs + 1 + r.length) w V (ak_JS_fr (Nat.le_refl _) (Nat.le_refl _) (fun _ _ => rfl) t6 (fun _ _ _ _ _ => ⟨rfl, rfl⟩) (fun q k a b _ => P q k (by omega)) (fun q k a b _ => ⟨P q k (by omega), rfl⟩)) (by rw [fj, g1]) (by rw [fj, g2]) (ak_SP_fr sp0 (fun _ _ _ => ⟨rfl, rfl⟩) (fun q k h => ⟨P q k (fun z => h.1 ⟨z.1, by omega⟩), rfl⟩)) (ak_gle_refl w) ak_kpC_refl ⟨fun q k h => P q k (by omega), fun _ _ _ => rfl⟩ (by omega) d72 d5 o1 o2 ((P _ _ (by omega)).trans o3) ((P _ _ (by omega)).trans e3) ak_poM_v K ⟨by omega, l2⟩
  refine ak_OUT0 w w' (by simp) (ak_job t1 (by omega) (by omega) t3 t4 (fun z => absurd z (by omega)) (fun _ Q X q => ?_) (fun z => absurd z (by omega)) (fun z => absurd z (by omega)) (by omega)) ?_ (fun q hq => P _ _ (by omega)) ?_
  · rw [hx]
    exact ak_MV_of (Nat.le_of_ble_eq_true rfl) (am_k291_0 ⟨fun z => absurd z (by decide), fun _ => q⟩)
  · show ak_pcs fs + (9100 - f.pc) + 9101 * ak_gw r ≤ ak_pcs fs + (9100 - f.pc) + 9101 * ak_gw f.js
    rw [fj, g3]
    exact Nat.le_refl _
  · rw [show ak_wtop (f :: fs) = ak_wgt f.js from rfl, fj]
    show ak_wgt r < ak_wgt r + (if j.k = 1 then j.w else 1)
    rw [if_neg (by omega)]
    omega
end STMS
