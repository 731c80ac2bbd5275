/-! the run: a block begins, both sides -/
section BLKB
variable {e : ak_X3} {d ρ1 ρ2 P W n N a rb cc G : Nat} {ρ : List Nat} {c : ak_Cx} {g : ak_Gh} {fs : List ak_Fr} {f : ak_Fr} {hc hm : ak_S} {j : ak_Jb} {r : List ak_Jb} {u l : List (Bool × Int × Int)} {body : Int}
/-- the room of a block that has begun -/
theorem ak_blk_rom {V : List Nat} {rN f' many T0 vp : Nat} {hcF hmF : ak_S} (sp : ak_SPP c g V hc hm) (w5 : rb ∈ g.Us) (w7 : hc.1 55 rb = 1) (p6 : g.mt rb + 40 * (g.lv rb + 1) < 1000) (nU : rN ∉ g.Us)
    (vals : ∀ k, k < n → hc.1 108 (vp + k) = hm.1 199 (T0 + k) ∧ hc.2.1 109 (vp + k) = hm.2.1 200 (T0 + k) ∧ ak_vok g.O g.B (hc.1 108 (vp + k)) (hc.2.1 109 (vp + k)))
    (cw : ∀ k, k < 12 → (k < n → hcF.1 50 (12 * rN + k) = hc.1 108 (vp + k) ∧ hcF.2.1 51 (12 * rN + k) = hc.2.1 109 (vp + k)) ∧ (n ≤ k → hcF.1 50 (12 * rN + k) = 0 ∧ hcF.2.1 51 (12 * rN + k) = 0)) (mw : ∀ k, k < 12 → (k < n → hmF.1 184 (12 * f' + k) = hm.1 199 (T0 + k) ∧ hmF.2.1 185 (12 * f' + k) = hm.2.1 200 (T0 + k)) ∧ (n ≤ k → hmF.1 184 (12 * f' + k) = 0 ∧ hmF.2.1 185 (12 * f' + k) = 0))
    (c5 : hcF.1 52 rN = (rb : Int) ∧ hcF.1 53 rN = (g.hr rb : Int) ∧ hcF.1 54 rN = (many : Int) ∧ hcF.1 55 rN = 0) (cf : ∀ y, y ∈ g.Us → hcF.1 55 y = hc.1 55 y) (m5 : hmF.1 174 f' = 0 ∧ hmF.1 175 f' = 1 ∧ hmF.1 177 f' = (g.φ rb : Int) ∧ hmF.1 178 f' = (g.φ (g.hr rb) : Int) ∧ hmF.1 179 f' = (g.mt rb : Int)) :
    ak_rom g.O g.B c.Mt (ak_ud g.φ rN f') (ak_ud g.hr rN (g.hr rb)) (ak_ud g.lv rN (g.lv rb + 1)) (ak_ud g.mt rN (g.mt rb)) (rN :: g.Us) (rN :: V) hcF hmF rN := by
  obtain ⟨_, ⟨hU, _, _, hlv⟩, alt, _, _, ⟨_, mMt, _⟩, _⟩ := sp.2.2.2.2.1.2.1 rb w5
  have at' : ∀ (p : Nat → Nat) (v : Nat), ak_ud p rN v rN = v := fun p v => if_pos rfl
  have ot : ∀ (p : Nat → Nat) (v y : Nat), y ∈ g.Us → ak_ud p rN v y = p y := fun p v y hy => if_neg (fun z => nU (by rw [← z]; exact hy))
  obtain ⟨c52, c53, c54, c55⟩ := c5
  obtain ⟨m174, m175, m177, m178, m179⟩ := m5
  have h55 : hc.1 55 (g.hr rb) = 1 := by
    rcases alt with ⟨_, z, _⟩ | ⟨r', _, _, _, _, _, _, _, z⟩
    · rw [z]; exact w7
    · exact z
  refine ⟨fun k hk => ?_, ⟨?_, ?_, ?_, ?_⟩, Or.inr ⟨rb, List.mem_cons_of_mem _ w5, c52, ?_, ?_, ?_, ?_, (cf rb w5).trans w7, ?_⟩, ⟨?_, Or.inl c55⟩, Or.inl ⟨List.mem_cons_self, ?_, by rw [c54]; omega⟩, ⟨?_, ?_, ?_⟩, fun z => ?_⟩
  · rw [at']
    by_cases h : k < n
    · obtain ⟨a1, a2⟩ := (cw k hk).1 h
      obtain ⟨a3, a4⟩ := (mw k hk).1 h
      obtain ⟨a5, a6, a7⟩ := vals k h
      rw [a1, a2, a3, a4]
      exact ⟨a5, a6, a7⟩
    · obtain ⟨a1, a2⟩ := (cw k hk).2 (by omega)
      obtain ⟨a3, a4⟩ := (mw k hk).2 (by omega)
      rw [a1, a2, a3, a4]
      exact ⟨rfl, rfl, ak_vk0⟩
  · rw [at']; exact List.mem_cons_of_mem _ hU
  · rw [at']; exact c53
  · rw [at', at', ot _ _ _ hU]; exact m178
  · rw [at', ot _ _ _ hU]; exact hlv
  · rw [at', ot _ _ _ w5]; exact m177
  · rw [at', ot _ _ _ w5]
  · rw [at', ot _ _ _ w5]
  · rw [at', ot _ _ _ w5]
  · rw [at', cf _ hU]; exact h55
  · rw [at', m174, c55]
  · rw [at']; exact m175
  · rw [at', at']; exact m179
  · rw [at']; exact mMt
  · rw [at', at']; exact p6
  · rw [at'] at z; omega
theorem ak_blk_deep {T0 : Nat} (w : ak_RN c g (f :: fs) hc hm) (fj : f.js = j :: r) (h104 : hm.1 110 104 = (N : Int)) (hN : N < 4000) (pc9 : f.pc < 9100)
    (gC : ak_cgo e (d + 40) c.s ρ1 ρ2 72 [am_r 32] hc (am_up (am_up (am_up (ak_tkA hc fs.length f.pc N).1 32 13 (n : Int)) 32 16 0) 32 11 3, (ak_tkA hc fs.length f.pc N).2)) (gM : ak_mgo e (d + 40) ρ hm (am_up (am_up (ak_tkB hm (ak_nJ fs + 1 + r.length) N).1 110 127 (T0 : Int)) 110 105 3, (ak_tkB hm (ak_nJ fs + 1 + r.length) N).2)) : ak_OUT e d ρ1 ρ2 ρ c (ak_Phi hm (f :: fs)) W hc hm := by
  have spA := ak_tk_SP (t := fs.length) (pc := f.pc) (n := ak_nJ fs + 1 + r.length) w.1 h104 hN
  have CO : ∀ q k, q ≠ 32 → ((am_up (am_up (am_up (ak_tkA hc fs.length f.pc N).1 32 13 (n : Int)) 32 16 0) 32 11 3, (ak_tkA hc fs.length f.pc N).2) : ak_S).1 q k = (ak_tkA hc fs.length f.pc N).1 q k := fun q k a => (ak_up_out1 (by omega)).trans ((ak_up_out (by omega)).trans (ak_up_out (by omega)))
  have C11 : ((am_up (am_up (am_up (ak_tkA hc fs.length f.pc N).1 32 13 (n : Int)) 32 16 0) 32 11 3, (ak_tkA hc fs.length f.pc N).2) : ak_S).1 32 11 = 3 := ak_up_at1
  have C2 : ((am_up (am_up (am_up (ak_tkA hc fs.length f.pc N).1 32 13 (n : Int)) 32 16 0) 32 11 3, (ak_tkA hc fs.length f.pc N).2) : ak_S).2 = (ak_tkA hc fs.length f.pc N).2 := rfl
  generalize ((am_up (am_up (am_up (ak_tkA hc fs.length f.pc N).1 32 13 (n : Int)) 32 16 0) 32 11 3, (ak_tkA hc fs.length f.pc N).2) : ak_S) = hcE at gC CO C11 C2
  have MO : ∀ q k, ¬ (q = 110 ∧ (k = 105 ∨ k = 127)) → ((am_up (am_up (ak_tkB hm (ak_nJ fs + 1 + r.length) N).1 110 127 (T0 : Int)) 110 105 3, (ak_tkB hm (ak_nJ fs + 1 + r.length) N).2) : ak_S).1 q k = (ak_tkB hm (ak_nJ fs + 1 + r.length) N).1 q k := fun q k a => (ak_up_out1 (by omega)).trans (ak_up_out (by omega))
  have M105 : ((am_up (am_up (ak_tkB hm (ak_nJ fs + 1 + r.length) N).1 110 127 (T0 : Int)) 110 105 3, (ak_tkB hm (ak_nJ fs + 1 + r.length) N).2) : ak_S).1 110 105 = 3 := ak_up_at1
  have M2 : ((am_up (am_up (ak_tkB hm (ak_nJ fs + 1 + r.length) N).1 110 127 (T0 : Int)) 110 105 3, (ak_tkB hm (ak_nJ fs + 1 + r.length) N).2) : ak_S).2 = (ak_tkB hm (ak_nJ fs + 1 + r.length) N).2 := rfl
  generalize ((am_up (am_up (ak_tkB hm (ak_nJ fs + 1 + r.length) N).1 110 127 (T0 : Int)) 110 105 3, (ak_tkB hm (ak_nJ fs + 1 + r.length) N).2) : ak_S) = hmE at gM MO M105 M2
  have o2 := w.2.2.2.1
  refine Or.inr ⟨1, hcE, hmE, 3, ak_fend_f w (Or.inr rfl) (ak_SP_fr spA (fun q k h => ⟨CO q k (by unfold ak_stC at h; omega), by rw [C2]⟩) (fun q k h => ⟨MO q k (fun z => h.1 ⟨z.1, by omega⟩), by rw [M2]⟩)) (fun q k a b z => (CO q k (by omega)).trans (ak_tkA_o (by omega) (by omega))) C11 M105, ?_, ak_turn1 w.1.1.1 (by rw [w.2.2.1]; decide) gC ((CO _ _ (by omega)).trans ((ak_tkA_o (by omega) (by omega)).trans o2)), gM, by rw [C2]; exact ak_tkA_v.2.1⟩
  unfold ak_Phi
  show 1 ≤ _ + (ak_pcs fs + (9100 - f.pc) + 9101 * ak_gw f.js)
  omega
end BLKB
