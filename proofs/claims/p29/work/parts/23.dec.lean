/-! a code's instructions read from a later place on: the places shift by a multiple of four -/
def am_bt (l : List UInt8) : ByteArray := ⟨⟨l⟩⟩
def am_S (off : Nat) (c1 c2 : ByteArray) {α : Type} (r1 r2 : Reader DecodeError α) : Prop := ∀ pos a q, r2 c2 pos = .ok (a, q) → r1 c1 (off + pos) = .ok (a, off + q)
section AMS
variable {off : Nat} {c1 c2 : ByteArray} {α β : Type}
theorem am_S_pure (a : α) : am_S off c1 c2 (pure a) (pure a) := by
  intro pos a' q h
  cases h; rfl
theorem am_S_throw (e1 e2 : DecodeError) : am_S (α := α) off c1 c2 (throw e1) (throw e2) := by
  intro pos a' q h
  cases h
theorem am_S_bind {r1 r2 : Reader DecodeError α} {k1 k2 : α → Reader DecodeError β} (h : am_S off c1 c2 r1 r2) (hk : ∀ a, am_S off c1 c2 (k1 a) (k2 a)) : am_S off c1 c2 (r1 >>= k1) (r2 >>= k2) := by
  intro pos b q e
  have e0 : (match r2 c2 pos with | .ok (a, p) => k2 a c2 p | .error x => .error x) = .ok (b, q) := by
    rw [← e]
    show _ = (r2 c2 pos >>= fun x => k2 x.1 c2 x.2)
    cases r2 c2 pos <;> rfl
  show (r1 c1 (off + pos) >>= fun x => k1 x.1 c1 x.2) = _
  cases hr : r2 c2 pos with
  | error x => rw [hr] at e0; cases e0
  | ok x =>
    obtain ⟨a, p⟩ := x
    rw [hr] at e0
    rw [h pos a p hr]
    exact hk a p b q e0
theorem am_bind_err {r : Reader DecodeError α} {k : α → Reader DecodeError β} {c : ByteArray} {pos : Nat} {x : DecodeError} (h : r c pos = .error x) : (r >>= k) c pos = .error x := by
  show (r c pos >>= fun y => k y.1 c y.2) = _
  rw [h]; rfl
theorem am_S_map {r1 r2 : Reader DecodeError α} {g : α → β} (h : am_S off c1 c2 r1 r2) : am_S off c1 c2 (g <$> r1) (g <$> r2) := by
  have := am_S_bind (k1 := fun a => pure (g a)) (k2 := fun a => pure (g a)) h (fun a => am_S_pure (g a))
  intro pos b q e
  refine this pos b q ?_
  exact e
theorem am_S_ite {P : Prop} [Decidable P] {r1 r2 s1 s2 : Reader DecodeError α} (h1 : am_S off c1 c2 r1 r2) (h2 : am_S off c1 c2 s1 s2) : am_S off c1 c2 (if P then r1 else s1) (if P then r2 else s2) := by
  split
  · exact h1
  · exact h2
def am_ag (off : Nat) (c1 c2 : ByteArray) : Prop := ∀ i (h : i < c2.size), ∃ h1 : off + i < c1.size, c1[off + i] = c2[i]
theorem am_S_u1 (hag : am_ag off c1 c2) : am_S off c1 c2 Reader.u1 Reader.u1 := by
  intro pos a q e
  have e0 : (if h : pos < c2.size then (.ok (c2[pos].toNat, pos + 1) : Except DecodeError (Nat × Nat)) else .error (HasTruncated.truncated pos)) = .ok (a, q) := by
    rw [← e]
    show _ = Reader.u1 c2 pos
    unfold Reader.u1
    show _ = (if h : pos < c2.size then _ else _ : Reader DecodeError Nat) c2 pos
    split <;> rfl
  split at e0
  · rename_i h
    cases e0
    obtain ⟨h1, h2⟩ := hag pos h
    show (if h : off + pos < c1.size then _ else _ : Reader DecodeError Nat) c1 (off + pos) = _
    rw [dif_pos h1]
    show Except.ok (c1[off + pos].toNat, off + pos + 1) = _
    rw [h2]; rfl
  · cases e0
theorem am_S_u2 (hag : am_ag off c1 c2) : am_S off c1 c2 Reader.u2 Reader.u2 := am_S_bind (am_S_u1 hag) (fun _ => am_S_bind (am_S_u1 hag) (fun _ => am_S_pure _))
theorem am_S_u4 (hag : am_ag off c1 c2) : am_S off c1 c2 Reader.u4 Reader.u4 := am_S_bind (am_S_u2 hag) (fun _ => am_S_bind (am_S_u2 hag) (fun _ => am_S_pure _))
theorem am_S_s1 (hag : am_ag off c1 c2) : am_S off c1 c2 Reader.s1 Reader.s1 := am_S_map (am_S_u1 hag)
theorem am_S_s2 (hag : am_ag off c1 c2) : am_S off c1 c2 Reader.s2 Reader.s2 := am_S_map (am_S_u2 hag)
theorem am_S_s4 (hag : am_ag off c1 c2) : am_S off c1 c2 Reader.s4 Reader.s4 := am_S_map (am_S_u4 hag)
theorem am_S_times {r1 r2 : Reader DecodeError α} (h : am_S off c1 c2 r1 r2) : ∀ (n : Nat) (acc : Array α), am_S off c1 c2 (Reader.times.go r1 n acc) (Reader.times.go r2 n acc)
  | 0, acc => am_S_pure acc
  | n + 1, acc => am_S_bind h (fun a => am_S_times h n (acc.push a))
theorem am_S_pad (h4 : off % 4 = 0) (hs : ∀ n, n ≤ c2.size → off + n ≤ c1.size) : am_S off c1 c2 Decoder.padding Decoder.padding := by
  intro pos a q e
  have e0 : (if pos + ((4 - pos % 4) % 4) ≤ c2.size then (.ok ((), pos + ((4 - pos % 4) % 4)) : Except DecodeError (Unit × Nat)) else .error (HasTruncated.truncated c2.size)) = .ok (a, q) := by
    rw [← e]
    show _ = ((if pos + ((4 - pos % 4) % 4) ≤ c2.size then _ else _ : Reader DecodeError ByteArray) c2 pos >>= fun x => _)
    split <;> rfl
  split at e0
  · rename_i h
    cases e0
    have e4 : (off + pos) % 4 = pos % 4 := by omega
    have h1 : off + pos + ((4 - (off + pos) % 4) % 4) ≤ c1.size := by rw [e4, Nat.add_assoc]; exact hs _ h
    show ((if off + pos + ((4 - (off + pos) % 4) % 4) ≤ c1.size then _ else _ : Reader DecodeError ByteArray) c1 (off + pos) >>= fun x => _) = _
    rw [if_pos h1]
    show Except.ok ((), off + pos + ((4 - (off + pos) % 4) % 4)) = _
    rw [e4, Nat.add_assoc]
  · cases e0
theorem am_S_tsw (h4 : off % 4 = 0) (hs : ∀ n, n ≤ c2.size → off + n ≤ c1.size) (hag : am_ag off c1 c2) (p1 p2 : Nat) : am_S off c1 c2 (Decoder.tableswitch p1) (Decoder.tableswitch p2) := by
  have s4 := am_S_s4 hag
  unfold Decoder.tableswitch
  refine am_S_bind (am_S_pad h4 hs) (fun _ => am_S_bind s4 (fun d => am_S_bind s4 (fun lo => am_S_bind s4 (fun hi => ?_))))
  dsimp only
  first
    | exact am_S_bind (am_S_ite (am_S_pure _) (am_S_throw _ _)) (fun _ => am_S_bind (am_S_times s4 _ _) (fun _ => am_S_pure _))
    | exact am_S_ite (am_S_bind (am_S_pure _) (fun _ => am_S_bind (am_S_times s4 _ _) (fun _ => am_S_pure _))) (am_S_bind (am_S_throw _ _) (fun _ => am_S_bind (am_S_times s4 _ _) (fun _ => am_S_pure _)))
    | exact am_S_ite (am_S_bind (am_S_times s4 _ _) (fun _ => am_S_pure _)) (am_S_bind (am_S_throw _ _) (fun _ => am_S_bind (am_S_times s4 _ _) (fun _ => am_S_pure _)))
theorem am_S_lsw (h4 : off % 4 = 0) (hs : ∀ n, n ≤ c2.size → off + n ≤ c1.size) (hag : am_ag off c1 c2) (p1 p2 : Nat) : am_S off c1 c2 (Decoder.lookupswitch p1) (Decoder.lookupswitch p2) := by
  have s4 := am_S_s4 hag
  unfold Decoder.lookupswitch
  refine am_S_bind (am_S_pad h4 hs) (fun _ => am_S_bind s4 (fun d => am_S_bind s4 (fun np => ?_)))
  dsimp only
  have tm : am_S off c1 c2 (Reader.times np.toNat (do pure (← Reader.s4, ← Reader.s4)) : Reader DecodeError (Array (Int × Int))) (Reader.times np.toNat (do pure (← Reader.s4, ← Reader.s4))) := am_S_times (am_S_bind s4 (fun _ => am_S_bind s4 (fun _ => am_S_pure _))) _ _
  refine am_S_ite (am_S_bind tm (fun _ => ?_)) (am_S_bind (am_S_throw _ _) (fun _ => am_S_bind tm (fun _ => ?_)))
  · exact am_S_ite (am_S_pure _) (am_S_bind (am_S_throw _ _) (fun _ => am_S_pure _))
  · exact am_S_ite (am_S_pure _) (am_S_bind (am_S_throw _ _) (fun _ => am_S_pure _))
theorem am_S_iif (hag : am_ag off c1 c2) (p1 p2 : Nat) : am_S off c1 c2 (Decoder.invokeinterface p1) (Decoder.invokeinterface p2) := by
  unfold Decoder.invokeinterface
  refine am_S_bind (am_S_u2 hag) (fun _ => am_S_bind (am_S_u1 hag) (fun _ => am_S_bind (am_S_u1 hag) (fun _ => ?_)))
  dsimp only
  exact am_S_ite (am_S_pure _) (am_S_bind (am_S_throw _ _) (fun _ => am_S_pure _))
theorem am_S_idy (hag : am_ag off c1 c2) (p1 p2 : Nat) : am_S off c1 c2 (Decoder.invokedynamic p1) (Decoder.invokedynamic p2) := by
  unfold Decoder.invokedynamic
  refine am_S_bind (am_S_u2 hag) (fun _ => am_S_bind (am_S_u2 hag) (fun _ => ?_))
  dsimp only
  exact am_S_ite (am_S_pure _) (am_S_bind (am_S_throw _ _) (fun _ => am_S_pure _))
theorem am_S_mna (hag : am_ag off c1 c2) (p1 p2 : Nat) : am_S off c1 c2 (Decoder.multianewarray p1) (Decoder.multianewarray p2) := by
  unfold Decoder.multianewarray
  refine am_S_bind (am_S_u2 hag) (fun _ => am_S_bind (am_S_u1 hag) (fun _ => ?_))
  dsimp only
  exact am_S_ite (am_S_pure _) (am_S_bind (am_S_throw _ _) (fun _ => am_S_pure _))
theorem am_S_nwa (hag : am_ag off c1 c2) (p1 p2 : Nat) : am_S off c1 c2 (Decoder.newarray p1) (Decoder.newarray p2) := by
  unfold Decoder.newarray
  refine am_S_bind (am_S_u1 hag) (fun o => ?_)
  split
  all_goals first
    | exact am_S_pure _
    | exact am_S_throw _ _
theorem am_S_wid (hag : am_ag off c1 c2) (p1 p2 : Nat) : am_S off c1 c2 (Decoder.wide p1) (Decoder.wide p2) := by
  have u2 := am_S_u2 hag
  have s2 := am_S_s2 hag
  unfold Decoder.wide
  refine am_S_bind (am_S_u1 hag) (fun o => ?_)
  split
  all_goals first
    | exact am_S_throw _ _
    | exact am_S_bind u2 (fun _ => am_S_pure _)
    | exact am_S_bind u2 (fun _ => am_S_bind s2 (fun _ => am_S_pure _))
set_option maxRecDepth 100000 in
set_option maxHeartbeats 4000000 in
theorem am_S_instr (h4 : off % 4 = 0) (hs : ∀ n, n ≤ c2.size → off + n ≤ c1.size) (hag : am_ag off c1 c2) (p1 p2 : Nat) : am_S off c1 c2 (Decoder.instr p1) (Decoder.instr p2) := by
  have u1 := am_S_u1 hag
  have u2 := am_S_u2 hag
  have s1 := am_S_s1 hag
  have s2 := am_S_s2 hag
  have s4 := am_S_s4 hag
  have pd := am_S_pad h4 hs
  unfold Decoder.instr
  refine am_S_bind u1 (fun o => ?_)
  split
  all_goals first
    | exact am_S_pure _
    | exact am_S_throw _ _
    | exact am_S_bind u1 (fun _ => am_S_pure _)
    | exact am_S_bind u2 (fun _ => am_S_pure _)
    | exact am_S_bind s1 (fun _ => am_S_pure _)
    | exact am_S_bind s2 (fun _ => am_S_pure _)
    | exact am_S_bind s4 (fun _ => am_S_pure _)
    | exact am_S_bind u1 (fun _ => am_S_bind s1 (fun _ => am_S_pure _))
    | exact am_S_tsw h4 hs hag _ _
    | exact am_S_lsw h4 hs hag _ _
    | exact am_S_iif hag _ _
    | exact am_S_idy hag _ _
    | exact am_S_nwa hag _ _
    | exact am_S_wid hag _ _
    | exact am_S_mna hag _ _
theorem am_decode_sh (h4 : off % 4 = 0) (hs : ∀ n, n ≤ c2.size → off + n ≤ c1.size) (hag : am_ag off c1 c2) {k n : Nat} {i : Instr} (h : decode c2 k = .ok (i, n)) : decode c1 (off + k) = .ok (i, n) := by
  have e0 : (match Decoder.instr k c2 k with | .ok (a, p) => (.ok (a, p - k) : Except DecodeError (Instr × Nat)) | .error x => .error x) = .ok (i, n) := by
    rw [← h]
    show _ = (Decoder.instr k c2 k >>= fun x => _)
    cases Decoder.instr k c2 k <;> rfl
  show (Decoder.instr (off + k) c1 (off + k) >>= fun x => _) = _
  cases hr : Decoder.instr k c2 k with
  | error x => rw [hr] at e0; cases e0
  | ok x =>
    obtain ⟨a, p⟩ := x
    rw [hr] at e0
    rw [am_S_instr h4 hs hag (off + k) k k a p hr]
    cases e0
    show Except.ok (i, off + p - (off + k)) = _
    rw [show off + p - (off + k) = p - k by omega]
end AMS
theorem am_decode_drop {cc : ByteArray} {off k n : Nat} {i : Instr} (h4 : off % 4 = 0) (h : decode (am_bt (cc.data.toList.drop off)) k = .ok (i, n)) : decode cc (off + k) = .ok (i, n) := by
  obtain ⟨⟨l⟩⟩ := cc
  by_cases hl : off ≤ l.length
  · refine am_decode_sh h4 ?_ ?_ h
    · intro n hn
      have hn2 : n ≤ (l.drop off).length := hn
      rw [List.length_drop] at hn2
      show off + n ≤ l.length
      omega
    · intro i hi
      have hi2 : i < (l.drop off).length := hi
      have hi3 := hi2
      rw [List.length_drop] at hi3
      refine ⟨show off + i < l.length by omega, ?_⟩
      show l[off + i]'(by omega) = (l.drop off)[i]
      rw [List.getElem_drop]
  · exfalso
    have e1 : ¬ k < (am_bt (l.drop off)).size := by
      show ¬ k < (l.drop off).length
      rw [List.length_drop]; omega
    have e2 : (Reader.u1 : Reader DecodeError Nat) (am_bt (l.drop off)) k = .error (HasTruncated.truncated k) := by
      show (if h : k < (am_bt (l.drop off)).size then _ else _ : Reader DecodeError Nat) (am_bt (l.drop off)) k = _
      rw [dif_neg e1]; rfl
    have e3 : Decoder.instr k (am_bt (l.drop off)) k = .error (HasTruncated.truncated k) := by
      unfold Decoder.instr
      exact am_bind_err e2
    have e4 : decode (am_bt (l.drop off)) k = .error (HasTruncated.truncated k) := by
      show (Decoder.instr k (am_bt (l.drop off)) k >>= fun x => _) = _
      rw [e3]; rfl
    have h9 : decode (am_bt (l.drop off)) k = .ok (i, n) := h
    rw [e4] at h9
    cases h9
/-! the check, row after row, each with the code's rest -/
def am_chkC (L : List am_LE) (TH : List (Nat × Nat)) (nohl ini : Bool) : List UInt8 → Nat → List (List (Option am_E)) → Bool
  | _, _, [] => true
  | l, pc, r :: rs => am_chkR (fun k e => am_chk0 (am_bt l) k e.1 e.2.1 && am_chk1 L TH nohl ini (pc + k) e.1 e.2.1 e.2.2.1 e.2.2.2.1 e.2.2.2.2) 0 r && am_chkC L TH nohl ini (l.drop 16) (pc + 16) rs
theorem am_chkC_ok {L : List am_LE} {TH : List (Nat × Nat)} {nohl ini : Bool} {cc : ByteArray} : ∀ (T : List (List (Option am_E))) (l : List UInt8) (pc : Nat), l = cc.data.toList.drop pc → pc % 4 = 0 → am_chkC L TH nohl ini l pc T = true → ∀ i k e, (T.getD i []).getD k none = some e → am_chk L TH nohl ini cc (pc + (16 * i + k)) e = true
  | [], _, _, _, _, _, i, k, e, h => by
    have e1 : (([] : List (List (Option am_E))).getD i []) = [] := rfl
    rw [e1] at h; cases h
  | r :: rs, l, pc, hl, h4, hc, 0, k, e, h => by
    have h0 := am_chkR_ok r 0 ((Bool.and_eq_true _ _).mp hc).1 k e h
    rw [Nat.zero_add] at h0
    obtain ⟨h1, h2⟩ := (Bool.and_eq_true _ _).mp h0
    rw [show pc + (16 * 0 + k) = pc + k by omega]
    refine (Bool.and_eq_true _ _).mpr ⟨?_, h2⟩
    have h3 := am_chk0_ok h1
    rw [hl] at h3
    have h5 := am_decode_drop h4 h3
    unfold am_chk0
    rw [h5]
    simp
  | r :: rs, l, pc, hl, h4, hc, i + 1, k, e, h => by
    have := am_chkC_ok rs (l.drop 16) (pc + 16) (by rw [hl, List.drop_drop]) (by omega) ((Bool.and_eq_true _ _).mp hc).2 i k e h
    rw [show pc + (16 * (i + 1) + k) = pc + 16 + (16 * i + k) by omega]; exact this
theorem am_chkC_all {L : List am_LE} {TH : List (Nat × Nat)} {nohl ini : Bool} {cc : ByteArray} {T : List (List (Option am_E))} (h : am_chkC L TH nohl ini cc.data.toList 0 T = true) {pc : Nat} {e : am_E} (he : am_lk T pc = some e) : am_chk L TH nohl ini cc pc e = true := by
  have := am_chkC_ok T _ 0 rfl rfl h (pc / 16) (pc % 16) e he
  rw [show 0 + (16 * (pc / 16) + pc % 16) = pc by omega] at this
  exact this
