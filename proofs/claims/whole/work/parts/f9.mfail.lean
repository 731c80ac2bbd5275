/-! the run: the other fails, up to its leaving -/
section MFL
variable {e : ak_X3} {d n m f : Nat} {ρ : List Nat} {h : ak_S} {Q : ak_S → Prop} {X : Nat → ak_S → Prop} {k s w : Int}
/-- the rows of a failure -/
def ak_frM (h : ak_S) (n m f : Nat) (k s w : Int) : ak_S := if n < 64 then (am_up (am_up (am_up (am_up (am_up h.1 193 n k) 194 n s) 196 n (h.1 179 f)) 197 n (h.1 183 f)) 198 n (ak_lst (h.1 201) (h.1 203) 10 m), am_up h.2.1 195 n w, h.2.2) else h
def ak_flM (h : ak_S) (n m f : Nat) (k s w : Int) : ak_S := (am_up (am_up (am_up (am_up (am_up (ak_frM h n m f k s w).1 110 109 ((n + 1 : Nat) : Int)) 110 133 1) 110 137 k) 110 138 (n : Int)) 110 135 s, am_up (ak_frM h n m f k s w).2.1 110 136 w, h.2.2)
theorem am_s269 (hn : h.1 110 109 = (n : Int)) (hn2 : n < 2000000000) (hf : h.1 110 102 = (f : Int)) (hf2 : f < 564) (hm : h.1 110 132 = (m : Int)) (hm2 : m ≤ 370000) (q : ak_MV e 1 (d + 1) ρ 276 [am_r 110] (ak_flM h n m f k s w) Q (fun _ _ => False)) : ak_MV e 1 (d + 2) ρ 269 [am_r 110, am_i k, am_i s, am_l w] h Q X := by
  refine ak_MV_of (Nat.le_of_ble_eq_true rfl) (am_k269_0 ?_)
  rw [hn, hf, ak_natn, ak_natn]
  have en : am_w32 ((n : Int) + 1) = ((n + 1 : Nat) : Int) := by rw [ak_w _ (by omega)]; omega
  have bf : 0 ≤ (f : Int) ∧ (f : Int) < 564 := by omega
  refine ⟨fun g => am_k269_80 ?_, fun g => ?_⟩
  · have eq : ak_frM h n m f k s w = h := if_neg (by omega)
    unfold ak_flM at q
    rw [eq] at q
    rw [hn, en]
    exact ak_MV_imp q (fun _ z => z) (fun _ _ z => z)
  · have bn : 0 ≤ (n : Int) ∧ (n : Int) < 64 := by omega
    refine ⟨bn, bn, bn, bf, bn, bf, bn, am_s268 (n := m) ?_ hm2 ⟨bn, am_k269_80 ?_⟩⟩
    · show am_up (am_up (am_up (am_up h.1 193 n k) 194 n s) 196 n (h.1 179 f)) 197 n (h.1 183 f) 110 132 = _
      rw [ak_up_out (by omega), ak_up_out (by omega), ak_up_out (by omega), ak_up_out (by omega)]
      exact hm
    · have W : ∀ q i, ¬ (193 ≤ q ∧ q ≤ 197) → am_up (am_up (am_up (am_up h.1 193 n k) 194 n s) 196 n (h.1 179 f)) 197 n (h.1 183 f) q i = h.1 q i := fun q i a => (ak_up_out (by omega)).trans ((ak_up_out (by omega)).trans ((ak_up_out (by omega)).trans (ak_up_out (by omega))))
      have e1 : am_up (am_up (am_up (am_up h.1 193 n k) 194 n s) 196 n (h.1 179 f)) 197 n (h.1 183 f) 201 = h.1 201 := funext fun i => W 201 i (by omega)
      have e2 : am_up (am_up (am_up (am_up h.1 193 n k) 194 n s) 196 n (h.1 179 f)) 197 n (h.1 183 f) 203 = h.1 203 := funext fun i => W 203 i (by omega)
      have eq : ak_frM h n m f k s w = (am_up (am_up (am_up (am_up (am_up h.1 193 n k) 194 n s) 196 n (h.1 179 f)) 197 n (h.1 183 f)) 198 n (ak_lst (h.1 201) (h.1 203) 10 m), am_up h.2.1 195 n w, h.2.2) := if_pos (by omega)
      unfold ak_flM at q
      rw [eq] at q
      dsimp only
      rw [e1, e2, show am_up (am_up (am_up (am_up (am_up h.1 193 n k) 194 n s) 196 n (h.1 179 f)) 197 n (h.1 183 f)) 198 n (ak_lst (h.1 201) (h.1 203) 10 m) 110 109 = (n : Int) from (ak_up_out (by omega)).trans ((W 110 109 (by omega)).trans hn), en]
      exact ak_MV_imp q (fun _ z => z) (fun _ _ z => z)
theorem am_s270 (hn : h.1 110 109 = (n : Int)) (hn2 : n < 2000000000) (hf : h.1 110 102 = (f : Int)) (hf2 : f < 564) (hm : h.1 110 132 = (m : Int)) (hm2 : m ≤ 370000) (q : ak_MV e 1 (d + 1) ρ 276 [am_r 110] (ak_flM h n m f k 0 0) Q (fun _ _ => False)) : ak_MV e 1 (d + 3) ρ 270 [am_r 110, am_i k] h Q X :=
  ak_MV_of (Nat.le_of_ble_eq_true rfl) (am_k270_0 (am_s269 hn hn2 hf hf2 hm hm2 q))
end MFL
