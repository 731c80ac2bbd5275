/-! an expression read in step -/
def ak_lt (Mt lv : Nat) : Nat := Mt - 1 + 40 * lv
/-- how many values an expression may keep, by its kind and the brackets open -/
def ak_hx (g o : Nat) : Nat := 7 * (20 - o) + (if g = 222 then 7 else if g = 224 then 6 else if g = 225 then 5 else 4)
theorem ak_hx_pos {g o : Nat} : 4 ≤ ak_hx g o := by
  unfold ak_hx
  split
  · omega
  · split
    · omega
    · split <;> omega
/-- what is had behind an expression -/
def ak_XP (g u p : Nat) (b : Nat → Int) (n m lv : Nat) (D : Nat → Nat) (o Mt : Nat) (z : Nat → Nat) (hc hm : ak_S) (z' : Nat → Nat) (x : Int) (hc' hm' : ak_S) : Prop :=
  ak_PI u p b n m lv D o Mt z' hc' hm' ∧ z 0 < z' 0 ∧ ak_REL b n 1 z z' ∧ ak_ext u p z z' hc hm hc' hm' ∧ ∀ C M, ak_fut u p z z' (-1) hc'.1 hm'.1 C M → ak_X0 C M (ak_T u) p (ak_hx g o) (z' 2 - z 2) x (ak_lt Mt lv) (z 1) (z' 1)
def ak_XQ (e : ak_X3) (ρ : List Nat) (dm g u p : Nat) (b : Nat → Int) (n m lv : Nat) (D : Nat → Nat) (o Mt : Nat) (z : Nat → Nat) (hc hm hc' : ak_S) : Prop :=
  ∃ (z' : Nat → Nat) (x : Int) (hm' : ak_S), ak_XP g u p b n m lv D o Mt z hc hm z' x hc' hm' ∧ ak_goI e dm ρ g [am_r 110] hm x hm'
def ak_XX (e : ak_X3) (ρ : List Nat) (dm g u p : Nat) (hc hm : ak_S) (ex : Nat) (hc' : ak_S) : Prop := ex = 0 ∧ ∃ (x : Int) (hm' : ak_S), ak_WR u p hc hm hc' hm' ∧ ak_goI e dm ρ g [am_r 110] hm x hm'
def ak_EX (e : ak_X3) (u p : Nat) (b : Nat → Int) (n m ρ0 ρ3 ρ4 : Nat) (ρ : List Nat) (f g kc km t : Nat) : Prop :=
  ∀ (lv : Nat) (D : Nat → Nat) (o Mt : Nat) (z : Nat → Nat) (hc hm : ak_S) (d : Nat), ak_PI u p b n m lv D o Mt z hc hm → ak_POT b n o 2 z → m ≤ z 0 + t →
    ak_MV e 0 (d + 20 * (20 - o) + kc) [ρ0, ak_T u, ak_T u + 1, ρ3, ρ4] f [am_r 2, am_i (o : Int)] hc (ak_XQ e ρ (d + 20 * (20 - o) + km) g u p b n m lv D o Mt z hc hm) (ak_XX e ρ (d + 20 * (20 - o) + km) g u p hc hm)
section ATOM
variable {e : ak_X3} {d u p : Nat} {b : Nat → Int} {n m lv o Mt : Nat} {D : Nat → Nat} {z z' : Nat → Nat} {hc hm hc' hm' : ak_S} {ρ : List Nat}
theorem ak_st_n (w : ak_PI u p b n m lv D o Mt z hc hm) : ak_st b n (z 0) ≤ n ∧ n ≤ 6000 ∧ o ≤ 20 ∧ z 5 ≤ 60 := ⟨ak_st_le w.1 w.1.1.1, w.2.1.1.2.2.2.1, w.2.2.2.1.2, w.2.2.2.2.2.2.2.2.2.2.2.2.2.2.1⟩
theorem ak_lt_lt (w : ak_PI u p b n m lv D o Mt z hc hm) : ak_lt Mt lv < 1000 := by
  have h1 := w.2.2.2.2.1.2.1
  have h2 := w.2.2.2.2.2.2.2.1.1
  unfold ak_lt
  omega
theorem ak_lt_lv (w : ak_PI u p b n m lv D o Mt z hc hm) {G : Nat} : (ak_lt Mt lv + 1000 * G) % 1000 / 40 = lv := by
  have h1 := w.2.2.2.2.1.2.1
  have h2 := w.2.2.2.2.2.2.2.1.1
  unfold ak_lt
  omega
theorem ak_lt_mt (w : ak_PI u p b n m lv D o Mt z hc hm) {G : Nat} : (ak_lt Mt lv + 1000 * G) % 1000 % 40 = Mt - 1 := by
  have h1 := w.2.2.2.2.1.2.1
  have h2 := w.2.2.2.2.2.2.2.1.1
  unfold ak_lt
  omega
theorem ak_hx_150 {g o : Nat} : ak_hx g o ≤ 150 := by
  unfold ak_hx
  split
  · omega
  · split
    · omega
    · split <;> omega
theorem ak_room (w : ak_PI u p b n m lv D o Mt z hc hm) {f : Nat} (hf : f ≤ 10) (t : ak_POT b n o f z) : z 1 < 9200 ∧ z 2 < 6060 := by
  have h1 := ak_st_n w
  unfold ak_POT at t
  omega
theorem ak_st_up (c : ak_cc b n m hc (z 0)) (h : z 0 < m) : ak_st b n (z 0) + 1 ≤ ak_st b n (z 0 + 1) := by
  have h1 := c.1.2.2.2 (z 0) h
  have h2 := ak_nx_le (b := b) h1
  have h3 := ak_end_le (P := ak_wB) (b := b) h2.2
  show ak_st b n (z 0) + 1 ≤ ak_end ak_wB b n (ak_nx b n (ak_st b n (z 0)))
  omega
/-- one order, one node, one token -/
theorem ak_at_end {g : Nat} (hu : u = 0 ∨ u = 1) {r x : Int} {hm2 : ak_S} (w : ak_PI u p b n m lv D o Mt z hc hm) (ham : z 0 < m) (w2 : ak_PI u p b n m lv D o Mt (ak_zu (ak_zu z 1 (z 1 + 1)) 2 (z 2 + 1)) (ak_put hc u (z 1) r x) hm2) (e2 : ak_ext u p z (ak_zu (ak_zu z 1 (z 1 + 1)) 2 (z 2 + 1)) hc hm (ak_put hc u (z 1) r x) hm2)
    (C : ak_cc b n m hc' (z 0 + 1)) (fr : ak_afr (ak_put hc u (z 1) r x) hc') (M : ak_cm b n p hm' (z 0 + 1)) (fr' : ak_rfr hm2 hm')
    (tr : ∀ C M : Nat → Nat → Int, C (ak_T u + 2) (z 1) = r → C (ak_T u + 3) (z 1) = x → (∀ q, 114 ≤ q → q ≤ 118 → M q (9000 * p + z 2) = hm2.1 q (9000 * p + z 2)) → ak_X0 C M (ak_T u) p 1 1 ((9000 * p + z 2 : Nat) : Int) (ak_lt Mt lv) (z 1) (z 1 + 1)) :
    ak_XP g u p b n m lv D o Mt z hc hm (ak_zu (ak_zu (ak_zu z 1 (z 1 + 1)) 2 (z 2 + 1)) 0 (z 0 + 1)) ((9000 * p + z 2 : Nat) : Int) hc' hm' := by
  have hT := ak_T_in hu
  have hst := ak_st_up w.1 ham
  refine ⟨ak_PI_step hu w2 C fr M fr', Nat.lt_succ_self _, ?_, ak_ext_trans e2 (ak_ext_step hu fr fr'), fun C2 M2 ft => ?_⟩
  · show 2 * (z 1 + 1) + 1 + 3 * ak_st b n (z 0) + z 5 ≤ 2 * z 1 + 3 * ak_st b n (z 0 + 1) + z 5 ∧ z 2 + 1 + ak_st b n (z 0) ≤ z 2 + ak_st b n (z 0 + 1) ∧ 13 * z 3 + ak_st b n (z 0) ≤ 13 * z 3 + ak_st b n (z 0 + 1) ∧ 6 * z 4 + ak_st b n (z 0) ≤ 6 * z 4 + ak_st b n (z 0 + 1)
    omega
  · obtain ⟨⟨a1, a2, a3, a4, a5⟩, -, -⟩ := ft
    have h1 := a1 (z 1) (Nat.le_refl _) (Nat.lt_succ_self _)
    have f1 : hc'.1 (ak_T u + 2) (z 1) = r := by
      rw [fr.1 _ _ (by omega)]; simp [ak_put, am_up]
    have f2 : hc'.1 (ak_T u + 3) (z 1) = x := by
      rw [fr.1 _ _ (by omega)]; simp [ak_put, am_up]
    refine fun k i hk hi => tr C2 M2 (h1.1.trans f1) (h1.2.trans f2) (fun q q1 q2 => ?_) k i (Nat.le_trans (Nat.le_trans (by decide) ak_hx_pos) hk) (by have : z 2 + 1 - z 2 ≤ i := hi; omega)
    rw [a5 q _ q1 (by omega) (Nat.le_refl _) (by show 9000 * p + z 2 < 9000 * p + (z 2 + 1); omega) (by omega), fr'.1 _ _ (by omega)]
theorem ak_at_C {ρ0 ρ3 ρ4 : Nat} (hu : u = 0 ∨ u = 1) {Q : ak_S → Prop} {X Y : Nat → ak_S → Prop} {r x : Int} (w : ak_PI u p b n m lv D o Mt z hc hm) (hz : z 1 < 9200) (ham : z 0 < m) (wq : ∀ hc', ak_cc b n m hc' (z 0 + 1) → ak_afr (ak_put hc u (z 1) r x) hc' → Q hc') :
    ak_MI e 0 (d + 1) [ρ0, ak_T u, ak_T u + 1, ρ3, ρ4] 3 [am_r (ak_T u + 1), am_i r, am_i x] hc (fun _ h1 => ak_MV e 0 (d + 1) [ρ0, ak_T u, ak_T u + 1, ρ3, ρ4] 128 [am_r 3] h1 Q Y) X :=
  am_s3 hu w.2.2.2.2.2.2.2.2.1 (by omega) (am_adv (ak_PI_put hu w).1 ham wq)
end ATOM
