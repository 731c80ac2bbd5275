/-! the run: the first frame -/
section FIRST
variable {c : ak_Cx} {g : ak_Gh} {hc hm hX mS hcF hmF : ak_S} {rN f' mth a cc : Nat} {FR : List Nat} {x1 x2 : Int}
theorem ak_RN_first (sp : ak_SPP c g [] hc hm) (em : ak_em hc) (hmt : mth < c.Mt) (eFR : g.FR = FR ++ [rN]) (hf : f' < 564) (hz : hm.1 173 f' = 0) (pC : ak_prC x1 x2 hc hX) (pM : ak_prM hm mS) (mc : ak_mtC FR.length rN 0 0 2 mth a 0 2 0 0 (-1) 0 0 hX hcF) (mm : ak_mtM c.us 0 0 f' 0 0 2 mth 2 0 0 (-1) 0 (fun _ => 1) (fun k => if k = 0 then x1 else x2) mS hmF)
    (ha : ak_r64 x1) (hb : ak_r64 x2) (p4 : ak_mC c.s c.h0 (ak_T c.s + 2) cc = 34) (p7 : ak_T3 (ak_mC c.s c.h0) (ak_mM c.us c.m0) (ak_T c.s) c.us 2 (c.m0.1 125 (40 * c.us + mth)) 0 (mth + 40 * 0 + 1000 * 21) 6160 a cc) :
    ak_RN c (ak_gN g rN f' rN 0 mth FR) [⟨rN, a, [⟨2, c.m0.1 125 (40 * c.us + mth), 0, 0, 0⟩], []⟩] hcF hmF ∧ (hmF.1 110 104 = 0 ∧ hmF.1 110 109 = 0 ∧ hmF.1 110 110 = 0 ∧ hmF.1 110 111 = 1) ∧ hcF.2.2 = hc.2.2 := by
  have hMt : c.Mt ≤ 40 := (ak_tx_z sp.1.2).2.2.2.2.2.2.2
  have hus2 := sp.2.2.2.2.2.2.1.1
  have fre := sp.2.2.2.2.1.1
  have O4 := sp.2.2.1.1
  have hr5 : rN < 560 := (fre.2.2.2.1 rN).mp (List.mem_append_left _ (by rw [eFR]; simp))
  obtain ⟨⟨t0, t1, t2, t3, t4, t5, t6⟩, ⟨u1, u2, u3, u4, u5, u6, u7, u8⟩, ⟨⟨v1, v2⟩, ⟨v3, v4⟩, v5, v6⟩, cX, cXJ, cX2⟩ := pC
  obtain ⟨⟨p1, p2, p3, p4', p5, p6⟩, ⟨s1, s2, s3, s4, s5, s6, s7⟩, mX, mXJ, mX2⟩ := pM
  have m125 : mS.1 125 (40 * c.us + mth) = c.m0.1 125 (40 * c.us + mth) := (mX _ _ (by omega)).trans (sp.2.1.2 125 _ (by unfold ak_tmI; omega))
  have jnS : ak_jn hX mS := by
    obtain ⟨_, _, _, _, _, j6⟩ := sp.2.2.2.2.2.1
    refine ⟨⟨t0.trans s1.symm, t1.trans s2.symm, t2.trans s3.symm, t3.trans s4.symm, t4.trans s5.symm, t5.trans s6.symm, t6.trans s7.symm⟩, ?_, fun i _ h => absurd h (by rw [s6]; omega), fun i _ h => absurd h (by rw [s7]; omega), fun i _ h => absurd h (by rw [s5]; omega), fun m hm' => (cX 68 m (by omega) (by omega) (by omega)).trans ((j6 m hm').trans (mX 186 m (by omega)).symm)⟩
    rw [s3, s5, s6, s7]
    decide
  have spS : ak_SPP c g [] hX mS := ak_SP_re sp jnS (fun q k h b => ⟨cX q k h.1 (by unfold ak_stC at h; omega) (by unfold ak_stC at h; omega), cXJ q k (by omega) (by unfold ak_stC at h; omega)⟩) (fun q k h b1 b2 => ⟨mX q k (by unfold ak_stM at h; omega), mXJ q k (by omega)⟩)
  obtain ⟨⟨⟨c49, c52, c53, c54, c55⟩, c56, c57, c58, c59⟩, cw, ⟨c7, c8, c10⟩, ⟨q70, q71, q72, q73, q74, q75, q76⟩, cj, cO, cJ, c22⟩ := mc
  obtain ⟨⟨⟨m173, m174, m175, m176⟩, m177, m178, m179, m180, m181, m182, m183⟩, mw, ⟨m103, m132, m102, m127⟩, ⟨⟨j1, j2, j3, j4⟩, j5, j6, j7, j8⟩, ⟨k1, k2, k3⟩, mO, mJ, m22⟩ := mm
  have jnF : ak_jn hcF hmF := by
    obtain ⟨h3, e3, f3⟩ := cj
    rw [e3]
    exact ak_jn_b (hm := mS) (ak_jn_fr jnS (fun q k b1 b2 => f3 q k b1 b2) (fun _ _ _ => ⟨rfl, rfl⟩)) (by omega) (n := 0) s7 (by decide) k1 k2 k3 (fun q k b1 b2 b3 => ⟨mO q k (by omega) (by omega) (by omega) (by omega) (by omega) b3, mJ q k (by omega) (by omega) (by omega)⟩)
  have words : ∀ k, k < 12 → hcF.1 50 (12 * rN + k) = hmF.1 184 (12 * f' + k) ∧ hcF.2.1 51 (12 * rN + k) = hmF.2.1 185 (12 * f' + k) ∧ ak_vok g.O g.B (hcF.1 50 (12 * rN + k)) (hcF.2.1 51 (12 * rN + k)) := fun k hk => by
    by_cases hkn : k < 2
    · obtain ⟨z1, z2⟩ := (cw k hk).1 hkn
      obtain ⟨z3, z4⟩ := (mw k hk).1 hkn
      rw [z1, z2, z3, z4]
      rcases (show k = 0 ∨ k = 1 by omega) with rfl | rfl
      · rw [show 0 + 1 + 0 = 1 from rfl, v3, v4]
        exact ⟨rfl, rfl, ak_vkn ha⟩
      · rw [show 0 + 1 + 1 = 2 from rfl, v5, v6]
        exact ⟨rfl, rfl, ak_vkn hb⟩
    · obtain ⟨z1, z2⟩ := (cw k hk).2 (by omega)
      obtain ⟨z3, z4⟩ := (mw k hk).2 (by omega)
      rw [z1, z2, z3, z4]
      exact ⟨rfl, rfl, ak_vk0⟩
  have vk : ak_vok g.O g.B 2 0 := ⟨by decide, fun _ => by omega, fun h => absurd h (by decide), by decide, by decide⟩
  have new := ak_mth_rom (φ := g.φ) (hr := g.hr) (lv := g.lv) (mt := g.mt) (Us := g.Us) (V := []) (many := 0) (mth := mth) (s := 2) (w0 := 0) (pl := 0) (ho := -1) words ⟨c52, c53, c54, c55⟩ ⟨c56, c57, c58, c59⟩ ⟨m174, m175, m177, m178, m179, m180, m181, m182⟩ vk (by decide) hmt hMt
  have spF := ak_SP_beg (g := g) (V := []) (l' := 0) (ho := rN) (mm := mth) spS eFR hf ((mX _ _ (by omega)).trans hz) c49 m173 (fun q k s1 s2 s3 s4 s5 => ⟨cO q k s3 s5 (by omega) (by unfold ak_stC at s1; omega) (by unfold ak_stC at s1; omega) (by unfold ak_stC at s1; omega) (by omega), cJ q k (by omega) (by omega) (by omega) (by omega)⟩) (fun q k s1 s2 s3 s4 s5 => ⟨mO q k s5 (by omega) (by unfold ak_stM at s1; omega) (by unfold ak_stM at s1; omega) (by omega) (by omega), mJ q k (by omega) (by omega) (by omega)⟩) c55 jnF new
  have udr : ∀ (p : Nat → Nat) (v : Nat), ak_ud p rN v rN = v := fun p v => if_pos rfl
  have w1 : (ak_gN g rN f' rN 0 mth FR).φ rN = f' := udr _ _
  have w2 : (ak_gN g rN f' rN 0 mth FR).mt rN = mth := udr _ _
  have w3 : (ak_gN g rN f' rN 0 mth FR).lv rN = 0 := udr _ _
  have e77 : hcF.1 77 4 = 0 := (cO _ _ (by omega) (by omega) (by omega) (by omega) (by omega) (by omega) (by omega)).trans u1
  have e139 : hmF.1 110 139 = 0 := (mO _ _ (by omega) (by omega) (by omega) (by omega) (by omega) (by omega)).trans p5
  have N : ak_F1 c (ak_gN g rN f' rN 0 mth FR) hcF hmF [] [] ⟨rN, a, [⟨2, c.m0.1 125 (40 * c.us + mth), 0, 0, 0⟩], []⟩ := by
    refine ⟨⟨(by show rN ∈ rN :: g.Us; simp), q70, ?_, q72, ?_, q74, q75, ?_, Or.inl q76, c54⟩, ⟨j1, ?_, j3.trans p1, j4⟩, ⟨⟨j5, j6.trans m125, j7, j8⟩, fun h => (by have h : 9 ≤ 2 := h; omega), fun h => (by have h : 2 = 11 := h; omega), trivial⟩, trivial, ?_, (by show 1 ≤ 6165; omega), (by show 0 + 0 ≤ 151; omega), (by show 0 + 0 ≤ 21; omega)⟩
    · rw [w2]; exact q71
    · rw [w1, m183]; exact q73
    · rw [w1, m176]; exact q76
    · rw [w1]; exact j2
    · show ak_K _ _ _ _ ((ak_gN g rN f' rN 0 mth FR).mt rN + 40 * (ak_gN g rN f' rN 0 mth FR).lv rN) _ _ _
      rw [w2, w3]
      exact ak_K_mk ⟨rfl, cc, 6160, 21, by decide, by show 0 + 21 ≤ 21; omega, p7, ⟨0, cc, rfl, rfl, p4⟩⟩
  refine ⟨⟨spF, ⟨⟨by show 1 ≤ 60; omega, c7, ?_, e77, c10⟩, ⟨?_, m103, m127, m132, e139⟩, N, trivial⟩, (cO _ _ (by omega) (by omega) (by omega) (by omega) (by omega) (by omega) (by omega)).trans u4, (cO _ _ (by omega) (by omega) (by omega) (by omega) (by omega) (by omega) (by omega)).trans u2, (mO _ _ (by omega) (by omega) (by omega) (by omega) (by omega) (by omega)).trans p6⟩, ⟨(mO _ _ (by omega) (by omega) (by omega) (by omega) (by omega) (by omega)).trans s3, (mO _ _ (by omega) (by omega) (by omega) (by omega) (by omega) (by omega)).trans s5, (mO _ _ (by omega) (by omega) (by omega) (by omega) (by omega) (by omega)).trans s6, k1⟩, c22.trans cX2⟩
  · show hcF.1 69 8 = 0 + hcF.1 76 0
    rw [c8, q76, cX _ _ (by omega) (by omega) (by omega), em.2]
  · rw [m102]
    show _ = ((ak_gN g rN f' rN 0 mth FR).φ rN : Int)
    exact (congrArg Int.ofNat w1).symm
end FIRST
