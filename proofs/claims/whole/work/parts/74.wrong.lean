/-! the other side when a fault is noted already: it only comes back -/
def ak_wf (h h' : ak_S) : Prop := (∀ q k, ¬ (q = 110 ∧ (k = 38 ∨ k = 45)) → h'.1 q k = h.1 q k) ∧ h'.2 = h.2
theorem ak_wf_refl {h : ak_S} : ak_wf h h := ⟨fun _ _ _ => rfl, rfl⟩
theorem ak_wf_trans {h h' h2 : ak_S} (w : ak_wf h h') (w2 : ak_wf h' h2) : ak_wf h h2 := ⟨fun q k n => (w2.1 q k n).trans (w.1 q k n), w2.2.trans w.2⟩
theorem ak_wf_up {h h' : ak_S} (w : ak_wf h h') {k : Nat} (hk : k = 38 ∨ k = 45) {v : Int} : ak_wf h (am_up h'.1 110 k v, h'.2) :=
  ⟨fun q j n => (ak_up_out (fun z => n ⟨z.1, by omega⟩)).trans (w.1 q j n), w.2⟩
theorem ak_wf_f {h h' : ak_S} (w : ak_wf h h') (hf : 0 ≤ h.1 110 37) : 0 ≤ h'.1 110 37 := by rw [w.1 110 37 (by omega)]; exact hf
section WRONG
variable {e : ak_X3} {d : Nat} {ρ : List Nat} {h : ak_S} {Q : Int → ak_S → Prop} {X : Nat → ak_S → Prop}
theorem am_w206 (hf : 0 ≤ h.1 110 37) (w : Q 1 h) : ak_MI e 1 (d + 1) ρ 206 [am_r 110] h Q X := am_s206 (fun q => absurd q (by omega)) (fun _ => w)
theorem am_w208 (hf : 0 ≤ h.1 110 37) {t : Int} (w : Q 0 h) : ak_MI e 1 (d + 1) ρ 208 [am_r 110, am_i t] h Q X := am_s208 (fun q _ => absurd q (by omega)) (fun _ => w)
theorem am_w207 {P : ak_S → Prop} (hf : 0 ≤ h.1 110 37) {x : Int} (w : P h) : ak_MV e 1 (d + 1) ρ 207 [am_r 110, am_i x] h P X := am_s207 (fun q => absurd q (by omega)) (fun _ => w)
theorem am_w211 {P : ak_S → Prop} (hf : 0 ≤ h.1 110 37) {t : Int} (w : ∀ h', ak_wf h h' → P h') : ak_MV e 1 (d + 5) ρ 211 [am_r 110, am_i t] h P X :=
  ak_MV_of (Nat.le_of_ble_eq_true rfl) (am_k211_0 (am_s209w hf (w _ (ak_wf_up ak_wf_refl (Or.inl rfl)))))
theorem am_w215 {P : ak_S → Prop} (hf : 0 ≤ h.1 110 37) (w : P h) : ak_MV e 1 (d + 2) ρ 215 [am_r 110] h P X :=
  ak_MV_of (Nat.le_of_ble_eq_true rfl) (am_k215_0 (am_w206 hf ⟨fun q => absurd q (by decide), fun _ => w⟩))
theorem am_w217 {P : ak_S → Prop} (hf : 0 ≤ h.1 110 37) (w : P h) : ak_MV e 1 (d + 2) ρ 217 [am_r 110] h P X :=
  ak_MV_of (Nat.le_of_ble_eq_true rfl) (am_k217_0 (am_w206 hf ⟨fun q => absurd q (by decide), fun _ => w⟩))
theorem am_w218 (hf : 0 ≤ h.1 110 37) (w : Q 0 h) : ak_MI e 1 (d + 2) ρ 218 [am_r 110] h Q X :=
  ak_MI_of (Nat.le_of_ble_eq_true rfl) (am_k218_0 (am_w206 hf ⟨fun q => absurd q (by decide), fun _ => w⟩))
theorem am_w219 {k : Int} (hf : 0 ≤ h.1 110 37) (w : Q 0 h) : ak_MI e 1 (d + 2) ρ 219 [am_r 110, am_i k] h Q X :=
  ak_MI_of (Nat.le_of_ble_eq_true rfl) (am_k219_0 (am_w206 hf ⟨fun q => absurd q (by decide), fun _ => w⟩))
theorem am_w220 (hf : 0 ≤ h.1 110 37) (w : Q 0 h) : ak_MI e 1 (d + 3) ρ 220 [am_r 110] h Q X :=
  ak_MI_of (Nat.le_of_ble_eq_true rfl) (am_k220_0 (am_w218 hf (am_w206 hf ⟨fun _ => w, fun q => absurd q (by decide)⟩)))
theorem am_w235 (hf : 0 ≤ h.1 110 37) (w : Q 0 h) : ak_MI e 1 (d + 2) ρ 235 [am_r 110] h Q X :=
  ak_MI_of (Nat.le_of_ble_eq_true rfl) (am_k235_0 (am_w206 hf ⟨fun q => absurd q (by decide), fun _ => w⟩))
theorem am_w223 {x y z : Int} (hf : 0 ≤ h.1 110 37) (w : Q (-1) h) : ak_MI e 1 (d + 2) ρ 223 [am_r 110, am_i x, am_i y, am_i z] h Q X :=
  ak_MI_of (Nat.le_of_ble_eq_true rfl) (am_k223_0 (am_w206 hf ⟨fun q => absurd q (by decide), fun _ => w⟩))
theorem am_w228 (hf : 0 ≤ h.1 110 37) (w : Q (-1) h) : ak_MI e 1 (d + 2) ρ 228 [am_r 110] h Q X :=
  ak_MI_of (Nat.le_of_ble_eq_true rfl) (am_k228_0 (am_w206 hf ⟨fun q => absurd q (by decide), fun _ => w⟩))
theorem am_w227 (hf : 0 ≤ h.1 110 37) (w : Q (-1) h) : ak_MI e 1 (d + 3) ρ 227 [am_r 110] h Q X :=
  ak_MI_of (Nat.le_of_ble_eq_true rfl) (am_k227_0 (am_w228 hf (am_k227_5 (am_w206 hf ⟨fun _ => w, fun q => absurd q (by decide)⟩))))
theorem am_w226 (hf : 0 ≤ h.1 110 37) (w : Q (-1) h) : ak_MI e 1 (d + 4) ρ 226 [am_r 110] h Q X :=
  ak_MI_of (Nat.le_of_ble_eq_true rfl) (am_k226_0 (am_k226_2 (am_w208 hf ⟨fun _ => am_w227 hf (am_k226_28 ⟨fun _ => w, fun q => absurd q (by decide)⟩), fun q => absurd rfl q⟩)))
theorem am_w225 (hf : 0 ≤ h.1 110 37) (w : Q (-1) h) : ak_MI e 1 (d + 5) ρ 225 [am_r 110] h Q X :=
  ak_MI_of (Nat.le_of_ble_eq_true rfl) (am_k225_0 (am_w226 hf (am_k225_5 (am_w206 hf ⟨fun _ => w, fun q => absurd q (by decide)⟩))))
theorem am_w224 (hf : 0 ≤ h.1 110 37) (w : Q (-1) h) : ak_MI e 1 (d + 6) ρ 224 [am_r 110] h Q X :=
  ak_MI_of (Nat.le_of_ble_eq_true rfl) (am_k224_0 (am_w225 hf (am_k224_5 (am_w206 hf ⟨fun _ => w, fun q => absurd q (by decide)⟩))))
theorem am_w222 (hf : 0 ≤ h.1 110 37) (w : Q (-1) h) : ak_MI e 1 (d + 7) ρ 222 [am_r 110] h Q X :=
  ak_MI_of (Nat.le_of_ble_eq_true rfl) (am_k222_0 (am_w224 hf (am_w206 hf ⟨fun _ => w, fun q => absurd q (by decide)⟩)))
theorem am_w221 (hf : 0 ≤ h.1 110 37) (w : ∀ h', ak_wf h h' → Q (-1) h') : ak_MI e 1 (d + 6) ρ 221 [am_r 110] h Q X :=
  ak_MI_of (Nat.le_of_ble_eq_true rfl) (am_k221_0 (am_s210w hf (am_w206 hf ⟨fun _ => am_k221_35 ⟨fun _ => am_w211 hf (fun h' wf => w _ (ak_wf_up wf (Or.inr rfl))), fun q => absurd rfl q⟩, fun q => absurd q (by decide)⟩)))
theorem am_w231 {t : Int} (hf : 0 ≤ h.1 110 37) (w : Q (-1) h) : ak_MI e 1 (d + 2) ρ 231 [am_r 110, am_i t] h Q X :=
  ak_MI_of (Nat.le_of_ble_eq_true rfl) (am_k231_0 (am_k231_4 (am_w206 hf ⟨fun _ => w, fun q => absurd q (by decide)⟩)))
theorem am_w232 (hf : 0 ≤ h.1 110 37) (w : ∀ h', ak_wf h h' → Q (-1) h') : ak_MI e 1 (d + 6) ρ 232 [am_r 110] h Q X :=
  ak_MI_of (Nat.le_of_ble_eq_true rfl) (am_k232_0 (am_s210w hf (am_w231 hf (am_w211 hf (fun h' wf => w _ wf)))))
end WRONG
