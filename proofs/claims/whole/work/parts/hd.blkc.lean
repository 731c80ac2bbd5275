/-! the run: a block has begun -/
section BLKC
variable {e : ak_X3} {d ρ1 ρ2 P W n N a rb cc G rN f' : Nat} {ρ FR : List Nat} {c : ak_Cx} {g : ak_Gh} {fs : List ak_Fr} {f : ak_Fr} {hc hm hcF hmF : ak_S} {j : ak_Jb} {r : List ak_Jb} {u l : List (Bool × Int × Int)} {body : Int}
theorem ak_blk_beg (w : ak_RN c g (f :: fs) hc hm) (fj : f.js = j :: r) (hk : j.k < 9) (fv : f.vs = u ++ l) (K : ak_K (ak_mC c.s c.h0) (ak_mM c.us c.m0) (ak_T c.s) c.us (g.mt f.r + 40 * g.lv f.r) r (f.pc + 1) (true :: l.map (fun v => v.1))) (len : l.length + 1 ≤ 151) (h104 : hm.1 110 104 = (N : Int)) (hN : N < 4000) (pc9 : f.pc < 9100) (l60 : fs.length + 2 ≤ 60)
    (vals : ∀ k, k < n → hc.1 108 (ak_nV fs + l.length + 1 + k) = hm.1 199 (ak_nT fs + ak_tc l + 1 + k) ∧ hc.2.1 109 (ak_nV fs + l.length + 1 + k) = hm.2.1 200 (ak_nT fs + ak_tc l + 1 + k) ∧ ak_vok g.O g.B (hc.1 108 (ak_nV fs + l.length + 1 + k)) (hc.2.1 109 (ak_nV fs + l.length + 1 + k)))
    (w5 : rb ∈ g.Us) (w7 : hc.1 55 rb = 1) (p4 : ak_mC c.s c.h0 (ak_T c.s + 2) cc = 34) (p5 : G ≤ 21) (p6 : g.mt rb + 40 * (g.lv rb + 1) < 1000) (p7 : ak_T3 (ak_mC c.s c.h0) (ak_mM c.us c.m0) (ak_T c.s) c.us 2 body 0 (g.mt rb + 40 * (g.lv rb + 1) + 1000 * G) 6160 a cc)
    (eFR : g.FR = FR ++ [rN]) (nU : rN ∉ g.Us) (hf : f' < 564) (hz : hm.1 173 f' = 0)
    (bg : ak_bgC FR.length rN (fs.length + 1) (ak_nV fs + l.length) n (rb : Int) (g.hr rb : Int) (g.mt rb : Int) (a : Int) (hc.1 77 4) 0 (am_up (am_up (ak_tkA hc fs.length f.pc N).1 32 13 (n : Int)) 32 16 0, (ak_tkA hc fs.length f.pc N).2) hcF) (bl : ak_blM (fs.length + 1) (ak_nJ fs + 1 + r.length) f' (ak_nT fs + ak_tc l) n (g.φ rb : Int) (g.φ (g.hr rb) : Int) (g.mt rb : Int) body (ak_tkB hm (ak_nJ fs + 1 + r.length) N) hmF)
    (gC : ak_cgo e (d + 40) c.s ρ1 ρ2 72 [am_r 32] hc hcF) (gM : ak_mgo e (d + 40) ρ hm hmF) : ak_OUT e d ρ1 ρ2 ρ c (ak_Phi hm (f :: fs)) W hc hm := by
  have spA := ak_tk_SP (t := fs.length) (pc := f.pc) (n := ak_nJ fs + 1 + r.length) w.1 h104 hN
  have o11 := w.2.2.1
  have o2 := w.2.2.2.1
  have o3 := w.2.2.2.2
  have e1 := (ak_tp w).2.2.2.2.2.2.2.2.2.2.2.2.2.1.1
  obtain ⟨g1, g2, g3⟩ := ak_gc_of (j := j) (r := r) hk
  have gl := (ak_gle_refl w).2.2
  have fre := w.1.2.2.2.2.1.1
  have hr5 : rN < 560 := (fre.2.2.2.1 rN).mp (List.mem_append_left _ (by rw [eFR]; simp))
  obtain ⟨⟨c49, c52, c53, c54, c55⟩, cw, ⟨c7, c8, c10⟩, ⟨q70, q71, q72, q73, q74, q75, q76⟩, cO, cJ, c22⟩ := bg
  obtain ⟨⟨m173, m174, m175, m176, m177, m178, m179, m183⟩, mw, ⟨m103, m132, m102, m127⟩, ⟨⟨j1, j2, j3, j4⟩, mst⟩, mO, mJ, m22⟩ := bl
  have XO : ∀ q k, ¬ (q = 32 ∧ (k = 13 ∨ k = 16)) → ((am_up (am_up (ak_tkA hc fs.length f.pc N).1 32 13 (n : Int)) 32 16 0, (ak_tkA hc fs.length f.pc N).2) : ak_S).1 q k = (ak_tkA hc fs.length f.pc N).1 q k := fun q k a => (ak_up_out1 (by omega)).trans (ak_up_out (by omega))
  have X2 : ((am_up (am_up (ak_tkA hc fs.length f.pc N).1 32 13 (n : Int)) 32 16 0, (ak_tkA hc fs.length f.pc N).2) : ak_S).2 = (ak_tkA hc fs.length f.pc N).2 := rfl
  generalize ((am_up (am_up (ak_tkA hc fs.length f.pc N).1 32 13 (n : Int)) 32 16 0, (ak_tkA hc fs.length f.pc N).2) : ak_S) = hX at c8 cw cO cJ c22 XO X2
  have AO : ∀ q k, ¬ (q = 32 ∧ k = 12) → ¬ (q = 72 ∧ k = fs.length) → (ak_tkA hc fs.length f.pc N).1 q k = hc.1 q k := fun q k a b => ak_tkA_o a b
  have AJ : ∀ q k, ¬ (q = 64 ∧ k = 2) → (ak_tkA hc fs.length f.pc N).2.1 q k = hc.2.1 q k := fun q k a => ak_tkA_J a
  obtain ⟨Av1, Av2, Av3, Av4⟩ := ak_tkA_v (hc := hc) (t := fs.length) (pc := f.pc) (N := N)
  have BO : ∀ q k, ¬ (q = 110 ∧ (k = 104 ∨ k = 132)) → (ak_tkB hm (ak_nJ fs + 1 + r.length) N).1 q k = hm.1 q k := fun q k a => ak_tkB_o a
  obtain ⟨Bv1, Bv2, Bv3⟩ := ak_tkB_v (hm := hm) (n := ak_nJ fs + 1 + r.length) (N := N)
  generalize ak_tkA hc fs.length f.pc N = hA at spA AO AJ Av1 Av2 Av3 Av4 XO X2
  generalize ak_tkB hm (ak_nJ fs + 1 + r.length) N = hB at spA BO Bv1 Bv2 Bv3 mw j3 mO mJ m22
  -- against the states behind the step
  have CA : ∀ q k, ¬ (q = 49 ∧ k = 11) → ¬ (52 ≤ q ∧ q ≤ 55 ∧ k = rN) → ¬ (q = 50 ∧ 12 * rN ≤ k ∧ k < 12 * rN + 12) → ¬ (q = 69 ∧ (k = 7 ∨ k = 8)) → ¬ (70 ≤ q ∧ q ≤ 76 ∧ k = fs.length + 1) → q ≠ 32 → hcF.1 q k = hA.1 q k := fun q k a1 a2 a3 a4 a5 a6 => (cO q k a1 a2 a3 a4 a5 (by omega)).trans (XO q k (by omega))
  have CJ : ∀ q k, ¬ (q = 51 ∧ 12 * rN ≤ k ∧ k < 12 * rN + 12) → hcF.2.1 q k = hA.2.1 q k := fun q k a1 => (cJ q k a1).trans (by rw [X2])
  have C : ∀ q k, ¬ (q = 49 ∧ k = 11) → ¬ (52 ≤ q ∧ q ≤ 55 ∧ k = rN) → ¬ (q = 50 ∧ 12 * rN ≤ k ∧ k < 12 * rN + 12) → ¬ (q = 69 ∧ (k = 7 ∨ k = 8)) → ¬ (70 ≤ q ∧ q ≤ 76 ∧ k = fs.length + 1) → ¬ (q = 72 ∧ k = fs.length) → q ≠ 32 → hcF.1 q k = hc.1 q k := fun q k a1 a2 a3 a4 a5 a6 a7 => (CA q k a1 a2 a3 a4 a5 a7).trans (AO q k (by omega) a6)
  have CJ2 : ∀ q k, ¬ (q = 51 ∧ 12 * rN ≤ k ∧ k < 12 * rN + 12) → ¬ (q = 64 ∧ k = 2) → hcF.2.1 q k = hc.2.1 q k := fun q k a1 a2 => (CJ q k a1).trans (AJ q k a2)
  have M : ∀ q k, ¬ (173 ≤ q ∧ q ≤ 183 ∧ k = f') → ¬ (q = 184 ∧ 12 * f' ≤ k ∧ k < 12 * f' + 12) → ¬ (q = 110 ∧ (k = 102 ∨ k = 103 ∨ k = 104 ∨ k = 127 ∨ k = 132)) → ¬ (201 ≤ q ∧ q ≤ 204 ∧ (k = ak_nJ fs + 1 + r.length ∨ k = ak_nJ fs + 1 + r.length + 1)) → hmF.1 q k = hm.1 q k := fun q k a1 a2 a3 a4 => (mO q k a1 a2 (by omega) a4).trans (BO q k (by omega))
  have MJ : ∀ q k, ¬ (q = 185 ∧ 12 * f' ≤ k ∧ k < 12 * f' + 12) → hmF.2.1 q k = hm.2.1 q k := fun q k a1 => (mJ q k a1).trans (by rw [Bv3])
  have ne : ∀ y, y ∈ g.Us → y ≠ rN := fun y hy z => nU (by rw [← z]; exact hy)
  have φne : ∀ y, y ∈ g.Us → g.φ y ≠ f' := fun y hy z => by
    have := (fre.2.2.2.2.2.2 _ (fre.2.2.2.2.1 y hy)).1 (List.mem_map.mpr ⟨y, hy, rfl⟩)
    rw [z, hz] at this
    cases this
  have hrU : ∀ y, y ∈ g.Us → g.hr y ∈ g.Us := fun y hy => (w.1.2.2.2.2.1.2.1 y hy).2.1.1
  have new := ak_blk_rom (hcF := hcF) (hmF := hmF) (rN := rN) (f' := f') (many := fs.length + 1) w.1 w5 w7 p6 nU vals (fun k hk => ⟨fun h => ?_, (cw k hk).2⟩) (fun k hk => ⟨fun h => ?_, (mw k hk).2⟩) ⟨c52, c53, c54, c55⟩ (fun y hy => C _ _ (by omega) (fun z => ne y hy z.2.2) (by omega) (by omega) (by omega) (by omega) (by omega)) ⟨m174, m175, m177, m178, m179⟩
  rotate_left
  · obtain ⟨z1, z2⟩ := (cw k hk).1 h
    rw [z1, z2, XO _ _ (by omega), AO _ _ (by omega) (by omega), X2, AJ _ _ (by omega)]
    exact ⟨rfl, rfl⟩
  · obtain ⟨z1, z2⟩ := (mw k hk).1 h
    rw [z1, z2, BO _ _ (by omega), Bv3]
    exact ⟨rfl, rfl⟩
  have jnF : ak_jn hcF hmF := ak_jn_fr spA.2.2.2.2.2.1 (fun q k a b => ⟨CA q k (by omega) (by omega) (by omega) (by omega) (by omega) (by omega), CJ q k (by omega)⟩) (fun q k h => ⟨mO q k (by omega) (by omega) (by omega) (by omega), mJ q k (by omega)⟩)
  have spF := ak_SP_beg (l' := g.lv rb + 1) spA eFR hf ((BO _ _ (by omega)).trans hz) c49 m173 (fun q k s1 s2 s3 s4 s5 => ⟨CA q k s3 (by omega) (by omega) (by unfold ak_stC at s1; omega) (by unfold ak_stC at s1; omega) s1.1, CJ q k (by omega)⟩) (fun q k s1 s2 s3 s4 s5 => ⟨mO q k s5 (by omega) (by unfold ak_stM at s1; omega) (by unfold ak_stM at s1; omega), mJ q k (by omega)⟩) c55 jnF new
  have w' := ak_RN_beg (a0 := a) (body := body) (cc := cc) (G := G) (FR := FR) (l' := g.lv rb + 1) (ho := g.hr rb) (mm := g.mt rb) w fj hk fv K len l60 spF nU (fun y hy => φne y (gl y hy).1)
    (fun q k h => C q k (by omega) (by omega) (by omega) (by omega) (by omega) (by omega) (by omega)) (fun q k h => CJ2 q k (by omega) (by omega)) (fun y hy => ⟨C _ _ (by omega) (fun z => ne y (gl y hy).1 z.2.2) (by omega) (by omega) (by omega) (by omega) (by omega), C _ _ (by omega) (by omega) (by omega) (by omega) (by omega) (by omega) (by omega), CJ2 _ _ (by omega) (by omega)⟩)
    (fun q k h => M q k (by omega) (by omega) (by omega) (by omega)) (fun q k h => MJ q k (by omega)) ((CA _ _ (by omega) (by omega) (by omega) (by omega) (by omega) (by omega)).trans Av4) c7 ?_ (C _ _ (by omega) (by omega) (by omega) (by omega) (by omega) (by omega) (by omega)) c10 ?_ (((C _ _ (by omega) (by omega) (by omega) (by omega) (by omega) (by omega) (by omega))).trans o2) ⟨q70, q71, q72, q73, q74, q75, q76.trans m176.symm, Or.inl q76⟩ c54 m183
    ⟨j1, j2, j3.trans ((BO _ _ (by omega)).trans e1), j4⟩ mst m102 m103 m127 m132 (M _ _ (by omega) (by omega) (by omega) (by omega)) ((M _ _ (by omega) (by omega) (by omega) (by omega)).trans o3) p5 p7 p4
  rotate_left
  · rw [c8, q76, XO _ _ (by omega), AO _ _ (by omega) (by omega)]
  · exact (cO _ _ (by omega) (by omega) (by omega) (by omega) (by omega) (by omega)).trans ((XO _ _ (by omega)).trans ((AO _ _ (by omega) (by omega)).trans o11))
  have h104' : hmF.1 110 104 = ((N + 1 : Nat) : Int) := (mO _ _ (by omega) (by omega) (by omega) (by omega)).trans Bv1
  refine Or.inl ⟨1, _, _, hcF, hmF, w', by simp, ak_turn1 w.1.1.1 (by omega) gC w'.2.2.2.1, gM, ?_, fun h => absurd h (by decide), c22.trans (by rw [X2]; exact Av2), fun q s1 s2 => by rw [M 110 q (by omega) (by omega) (by omega) (by omega)]; omega⟩
  unfold ak_Phi
  rw [h104', h104, Int.toNat_natCast, Int.toNat_natCast]
  show 18300 * (4000 - (N + 1)) + (ak_pcs fs + (9100 - (f.pc + 1)) + 9101 * ak_gw r + (9100 - a) + 9101 * 0) + 1 ≤ 18300 * (4000 - N) + (ak_pcs fs + (9100 - f.pc) + 9101 * ak_gw f.js)
  rw [fj, g3]
  omega
end BLKC
