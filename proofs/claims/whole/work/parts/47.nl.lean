/-! calls while no text was loaded -/
def ak_th (h : ak_S) : ak_S := (h.1, h.2.1, h.2.2.1 + 1, h.2.2.2 + 6)
theorem am_s192 {e : ak_X3} {d : Nat} {ρ1 ρ2 : Nat} {h : ak_S} {Q : ak_S → Prop} {X : Nat → ak_S → Prop} {u : Nat} (hu : u = 0 ∨ u = 1) (w1 : h.1 1 8 ≠ 0 → Q h) (w2 : h.1 1 8 = 0 → X 0 (ak_th h)) :
    ak_MV e 0 (d + 1) [ak_T u, ρ1, ρ2, ak_T u, ak_T u + 1] 192 [am_r 1] h Q X := ak_MV_of (Nat.le_of_ble_eq_true rfl) (am_k192_0 hu ⟨w1, w2⟩)
theorem am_s198 {e : ak_X3} {d : Nat} {ρ : List Nat} {h : ak_S} {Q : Int → ak_S → Prop} {X : Nat → ak_S → Prop} {x : Int} (w : Q 0 (am_up h.1 110 0 x, h.2)) : ak_MI e 1 (d + 1) ρ 198 [am_r 110, am_i x] h Q X := ak_MI_of (Nat.le_of_ble_eq_true rfl) (am_k198_0 w)
def ak_nl (hc hm : ak_S) : ak_S → ak_S → Prop := fun hc' hm' => hc' = ak_th hc ∧ hm' = (am_up hm.1 110 0 1, hm.2)
theorem am_nl171 {e : ak_X3} {d : Nat} {ρ1 ρ2 u : Nat} (hu : u = 0 ∨ u = 1) {hc hm : ak_S} (h0 : hc.1 1 8 = 0) (h1 : hm.1 110 4 = 0) {x0 x1 x2 : Int} : ak_cI e (d + 2) [ak_T u, ρ1, ρ2, ak_T u, ak_T u + 1] 171 302 [am_i x0, am_l x1, am_l x2] hc hm [(0, 1), (1, 2)] (ak_nl hc hm) := by
  refine ak_MI_of (Nat.le_of_ble_eq_true rfl) (am_k171_0 hu (am_s192 hu (fun h => absurd h0 h) (fun _ => ⟨1, by decide, ak_MI_of (Nat.le_of_ble_eq_true rfl) (am_k302_0 ⟨fun h => absurd h1 h, fun _ => ?_⟩)⟩)))
  exact am_s198 ⟨⟨rfl, rfl⟩, by simp [am_up]⟩
theorem am_nl172 {e : ak_X3} {d : Nat} {ρ1 ρ2 u : Nat} (hu : u = 0 ∨ u = 1) {hc hm : ak_S} (h0 : hc.1 1 8 = 0) (h1 : hm.1 110 4 = 0) {x0 : Int} : ak_cJ e (d + 2) [ak_T u, ρ1, ρ2, ak_T u, ak_T u + 1] 172 303 [am_i x0] hc hm [(0, 1), (1, 2)] (ak_nl hc hm) := by
  refine ak_MJ_of (Nat.le_of_ble_eq_true rfl) (am_k172_0 hu (am_s192 hu (fun h => absurd h0 h) (fun _ => ⟨1, by decide, ak_MJ_of (Nat.le_of_ble_eq_true rfl) (am_k303_0 ⟨fun h => absurd h1 h, fun _ => ?_⟩)⟩)))
  exact am_s198 ⟨⟨rfl, rfl⟩, by simp [am_up]⟩
theorem am_nl173 {e : ak_X3} {d : Nat} {ρ1 ρ2 u : Nat} (hu : u = 0 ∨ u = 1) {hc hm : ak_S} (h0 : hc.1 1 8 = 0) (h1 : hm.1 110 4 = 0) {x0 x1 : Int} : ak_cJ e (d + 2) [ak_T u, ρ1, ρ2, ak_T u, ak_T u + 1] 173 304 [am_i x0, am_i x1] hc hm [(0, 1), (1, 3), (2, 2)] (ak_nl hc hm) := by
  refine ak_MJ_of (Nat.le_of_ble_eq_true rfl) (am_k173_0 hu (am_s192 hu (fun h => absurd h0 h) (fun _ => ⟨1, by decide, ak_MJ_of (Nat.le_of_ble_eq_true rfl) (am_k304_0 ⟨fun h => absurd h1 h, fun _ => ?_⟩)⟩)))
  exact am_s198 ⟨⟨rfl, rfl⟩, by simp [am_up]⟩
theorem am_nl174 {e : ak_X3} {d : Nat} {ρ1 ρ2 u : Nat} (hu : u = 0 ∨ u = 1) {hc hm : ak_S} (h0 : hc.1 1 8 = 0) (h1 : hm.1 110 4 = 0) {x0 x1 : Int} : ak_cJ e (d + 2) [ak_T u, ρ1, ρ2, ak_T u, ak_T u + 1] 174 305 [am_i x0, am_i x1] hc hm [(0, 1), (1, 3), (2, 2)] (ak_nl hc hm) := by
  refine ak_MJ_of (Nat.le_of_ble_eq_true rfl) (am_k174_0 hu (am_s192 hu (fun h => absurd h0 h) (fun _ => ⟨1, by decide, ak_MJ_of (Nat.le_of_ble_eq_true rfl) (am_k305_0 ⟨fun h => absurd h1 h, fun _ => ?_⟩)⟩)))
  exact am_s198 ⟨⟨rfl, rfl⟩, by simp [am_up]⟩
theorem am_nl175 {e : ak_X3} {d : Nat} {ρ1 ρ2 u : Nat} (hu : u = 0 ∨ u = 1) {hc hm : ak_S} (h0 : hc.1 1 8 = 0) (h1 : hm.1 110 4 = 0) {x0 x1 : Int} : ak_cJ e (d + 2) [ak_T u, ρ1, ρ2, ak_T u, ak_T u + 1] 175 306 [am_i x0, am_i x1] hc hm [(0, 1), (1, 3), (2, 2)] (ak_nl hc hm) := by
  refine ak_MJ_of (Nat.le_of_ble_eq_true rfl) (am_k175_0 hu (am_s192 hu (fun h => absurd h0 h) (fun _ => ⟨1, by decide, ak_MJ_of (Nat.le_of_ble_eq_true rfl) (am_k306_0 ⟨fun h => absurd h1 h, fun _ => ?_⟩)⟩)))
  exact am_s198 ⟨⟨rfl, rfl⟩, by simp [am_up]⟩
theorem am_nl176 {e : ak_X3} {d : Nat} {ρ1 ρ2 u : Nat} (hu : u = 0 ∨ u = 1) {hc hm : ak_S} (h0 : hc.1 1 8 = 0) (h1 : hm.1 110 4 = 0) {x0 : Int} : ak_cI e (d + 2) [ak_T u, ρ1, ρ2, ak_T u, ak_T u + 1] 176 307 [am_i x0] hc hm [(0, 1), (2, 2)] (ak_nl hc hm) := by
  refine ak_MI_of (Nat.le_of_ble_eq_true rfl) (am_k176_0 hu (am_s192 hu (fun h => absurd h0 h) (fun _ => ⟨1, by decide, ak_MI_of (Nat.le_of_ble_eq_true rfl) (am_k307_0 ⟨fun h => absurd h1 h, fun _ => ?_⟩)⟩)))
  exact am_s198 ⟨⟨rfl, rfl⟩, by simp [am_up]⟩
theorem am_nl177 {e : ak_X3} {d : Nat} {ρ1 ρ2 u : Nat} (hu : u = 0 ∨ u = 1) {hc hm : ak_S} (h0 : hc.1 1 8 = 0) (h1 : hm.1 110 4 = 0) {x0 x1 x2 x3 : Int} : ak_cI e (d + 2) [ak_T u, ρ1, ρ2, ak_T u, ak_T u + 1] 177 310 [am_i x0, am_i x1, am_i x2, am_l x3] hc hm [(0, 1), (1, 2), (2, 3)] (ak_nl hc hm) := by
  refine ak_MI_of (Nat.le_of_ble_eq_true rfl) (am_k177_0 hu (am_s192 hu (fun h => absurd h0 h) (fun _ => ⟨1, by decide, ak_MI_of (Nat.le_of_ble_eq_true rfl) (am_k310_0 ⟨fun h => absurd h1 h, fun _ => ?_⟩)⟩)))
  exact am_s198 ⟨⟨rfl, rfl⟩, by simp [am_up]⟩
theorem am_nl178 {e : ak_X3} {d : Nat} {ρ1 ρ2 u : Nat} (hu : u = 0 ∨ u = 1) {hc hm : ak_S} (h0 : hc.1 1 8 = 0) (h1 : hm.1 110 4 = 0) {x0 : Int} : ak_cI e (d + 2) [ak_T u, ρ1, ρ2, ak_T u, ak_T u + 1] 178 311 [am_i x0] hc hm [(0, 1), (1, 2)] (ak_nl hc hm) := by
  refine ak_MI_of (Nat.le_of_ble_eq_true rfl) (am_k178_0 hu (am_s192 hu (fun h => absurd h0 h) (fun _ => ⟨1, by decide, ak_MI_of (Nat.le_of_ble_eq_true rfl) (am_k311_0 ⟨fun h => absurd h1 h, fun _ => ?_⟩)⟩)))
  exact am_s198 ⟨⟨rfl, rfl⟩, by simp [am_up]⟩
theorem am_nl179 {e : ak_X3} {d : Nat} {ρ1 ρ2 u : Nat} (hu : u = 0 ∨ u = 1) {hc hm : ak_S} (h0 : hc.1 1 8 = 0) (h1 : hm.1 110 4 = 0) {x0 x1 : Int} : ak_cI e (d + 2) [ak_T u, ρ1, ρ2, ak_T u, ak_T u + 1] 179 312 [am_i x0, am_i x1] hc hm [(0, 1), (2, 2)] (ak_nl hc hm) := by
  refine ak_MI_of (Nat.le_of_ble_eq_true rfl) (am_k179_0 hu (am_s192 hu (fun h => absurd h0 h) (fun _ => ⟨1, by decide, ak_MI_of (Nat.le_of_ble_eq_true rfl) (am_k312_0 ⟨fun h => absurd h1 h, fun _ => ?_⟩)⟩)))
  exact am_s198 ⟨⟨rfl, rfl⟩, by simp [am_up]⟩
theorem am_nl180 {e : ak_X3} {d : Nat} {ρ1 ρ2 u : Nat} (hu : u = 0 ∨ u = 1) {hc hm : ak_S} (h0 : hc.1 1 8 = 0) (h1 : hm.1 110 4 = 0) {x0 : Int} : ak_cI e (d + 2) [ak_T u, ρ1, ρ2, ak_T u, ak_T u + 1] 180 313 [am_i x0] hc hm [(0, 1), (2, 2)] (ak_nl hc hm) := by
  refine ak_MI_of (Nat.le_of_ble_eq_true rfl) (am_k180_0 hu (am_s192 hu (fun h => absurd h0 h) (fun _ => ⟨1, by decide, ak_MI_of (Nat.le_of_ble_eq_true rfl) (am_k313_0 ⟨fun h => absurd h1 h, fun _ => ?_⟩)⟩)))
  exact am_s198 ⟨⟨rfl, rfl⟩, by simp [am_up]⟩
theorem am_nl181 {e : ak_X3} {d : Nat} {ρ1 ρ2 u : Nat} (hu : u = 0 ∨ u = 1) {hc hm : ak_S} (h0 : hc.1 1 8 = 0) (h1 : hm.1 110 4 = 0) {x0 x1 : Int} : ak_cI e (d + 2) [ak_T u, ρ1, ρ2, ak_T u, ak_T u + 1] 181 314 [am_i x0, am_i x1] hc hm [(0, 1), (1, 3), (2, 2)] (ak_nl hc hm) := by
  refine ak_MI_of (Nat.le_of_ble_eq_true rfl) (am_k181_0 hu (am_s192 hu (fun h => absurd h0 h) (fun _ => ⟨1, by decide, ak_MI_of (Nat.le_of_ble_eq_true rfl) (am_k314_0 ⟨fun h => absurd h1 h, fun _ => ?_⟩)⟩)))
  exact am_s198 ⟨⟨rfl, rfl⟩, by simp [am_up]⟩
theorem am_nl182 {e : ak_X3} {d : Nat} {ρ1 ρ2 u : Nat} (hu : u = 0 ∨ u = 1) {hc hm : ak_S} (h0 : hc.1 1 8 = 0) (h1 : hm.1 110 4 = 0) {x0 x1 x2 : Int} : ak_cI e (d + 2) [ak_T u, ρ1, ρ2, ak_T u, ak_T u + 1] 182 315 [am_i x0, am_i x1, am_i x2] hc hm [(0, 1), (2, 2)] (ak_nl hc hm) := by
  refine ak_MI_of (Nat.le_of_ble_eq_true rfl) (am_k182_0 hu (am_s192 hu (fun h => absurd h0 h) (fun _ => ⟨1, by decide, ak_MI_of (Nat.le_of_ble_eq_true rfl) (am_k315_0 ⟨fun h => absurd h1 h, fun _ => ?_⟩)⟩)))
  exact am_s198 ⟨⟨rfl, rfl⟩, by simp [am_up]⟩
theorem am_nl183 {e : ak_X3} {d : Nat} {ρ1 ρ2 u : Nat} (hu : u = 0 ∨ u = 1) {hc hm : ak_S} (h0 : hc.1 1 8 = 0) (h1 : hm.1 110 4 = 0) {x0 x1 x2 : Int} : ak_cJ e (d + 2) [ak_T u, ρ1, ρ2, ak_T u, ak_T u + 1] 183 316 [am_i x0, am_i x1, am_i x2] hc hm [(0, 1), (1, 3), (2, 2)] (ak_nl hc hm) := by
  refine ak_MJ_of (Nat.le_of_ble_eq_true rfl) (am_k183_0 hu (am_s192 hu (fun h => absurd h0 h) (fun _ => ⟨1, by decide, ak_MJ_of (Nat.le_of_ble_eq_true rfl) (am_k316_0 ⟨fun h => absurd h1 h, fun _ => ?_⟩)⟩)))
  exact am_s198 ⟨⟨rfl, rfl⟩, by simp [am_up]⟩
theorem am_nl184 {e : ak_X3} {d : Nat} {ρ1 ρ2 u : Nat} (hu : u = 0 ∨ u = 1) {hc hm : ak_S} (h0 : hc.1 1 8 = 0) (h1 : hm.1 110 4 = 0) {x0 x1 : Int} : ak_cI e (d + 2) [ak_T u, ρ1, ρ2, ak_T u, ak_T u + 1] 184 317 [am_i x0, am_i x1] hc hm [(0, 1), (2, 2)] (ak_nl hc hm) := by
  refine ak_MI_of (Nat.le_of_ble_eq_true rfl) (am_k184_0 hu (am_s192 hu (fun h => absurd h0 h) (fun _ => ⟨1, by decide, ak_MI_of (Nat.le_of_ble_eq_true rfl) (am_k317_0 ⟨fun h => absurd h1 h, fun _ => ?_⟩)⟩)))
  exact am_s198 ⟨⟨rfl, rfl⟩, by simp [am_up]⟩
theorem am_nl185 {e : ak_X3} {d : Nat} {ρ1 ρ2 u : Nat} (hu : u = 0 ∨ u = 1) {hc hm : ak_S} (h0 : hc.1 1 8 = 0) (h1 : hm.1 110 4 = 0) {x0 x1 x2 : Int} : ak_cI e (d + 2) [ak_T u, ρ1, ρ2, ak_T u, ak_T u + 1] 185 318 [am_i x0, am_i x1, am_i x2] hc hm [(0, 1), (1, 3), (2, 2)] (ak_nl hc hm) := by
  refine ak_MI_of (Nat.le_of_ble_eq_true rfl) (am_k185_0 hu (am_s192 hu (fun h => absurd h0 h) (fun _ => ⟨1, by decide, ak_MI_of (Nat.le_of_ble_eq_true rfl) (am_k318_0 ⟨fun h => absurd h1 h, fun _ => ?_⟩)⟩)))
  exact am_s198 ⟨⟨rfl, rfl⟩, by simp [am_up]⟩
theorem am_nl186 {e : ak_X3} {d : Nat} {ρ1 ρ2 u : Nat} (hu : u = 0 ∨ u = 1) {hc hm : ak_S} (h0 : hc.1 1 8 = 0) (h1 : hm.1 110 4 = 0) {x0 x1 : Int} : ak_cI e (d + 2) [ak_T u, ρ1, ρ2, ak_T u, ak_T u + 1] 186 319 [am_i x0, am_i x1] hc hm [(0, 1), (1, 3), (2, 2)] (ak_nl hc hm) := by
  refine ak_MI_of (Nat.le_of_ble_eq_true rfl) (am_k186_0 hu (am_s192 hu (fun h => absurd h0 h) (fun _ => ⟨1, by decide, ak_MI_of (Nat.le_of_ble_eq_true rfl) (am_k319_0 ⟨fun h => absurd h1 h, fun _ => ?_⟩)⟩)))
  exact am_s198 ⟨⟨rfl, rfl⟩, by simp [am_up]⟩
theorem am_nl187 {e : ak_X3} {d : Nat} {ρ1 ρ2 u : Nat} (hu : u = 0 ∨ u = 1) {hc hm : ak_S} (h0 : hc.1 1 8 = 0) (h1 : hm.1 110 4 = 0) {x0 x1 x2 : Int} : ak_cI e (d + 2) [ak_T u, ρ1, ρ2, ak_T u, ak_T u + 1] 187 321 [am_i x0, am_i x1, am_i x2] hc hm [(0, 1), (1, 3), (2, 2)] (ak_nl hc hm) := by
  refine ak_MI_of (Nat.le_of_ble_eq_true rfl) (am_k187_0 hu (am_s192 hu (fun h => absurd h0 h) (fun _ => ⟨1, by decide, ak_MI_of (Nat.le_of_ble_eq_true rfl) (am_k321_0 ⟨fun h => absurd h1 h, fun _ => ?_⟩)⟩)))
  exact am_s198 ⟨⟨rfl, rfl⟩, by simp [am_up]⟩
theorem am_nl188 {e : ak_X3} {d : Nat} {ρ1 ρ2 u : Nat} (hu : u = 0 ∨ u = 1) {hc hm : ak_S} (h0 : hc.1 1 8 = 0) (h1 : hm.1 110 4 = 0) {x0 x1 x2 : Int} : ak_cZ e (d + 2) [ak_T u, ρ1, ρ2, ak_T u, ak_T u + 1] 188 322 [am_i x0, am_i x1, am_i x2] hc hm [(0, 1), (2, 2)] (ak_nl hc hm) := by
  refine ak_MI_of (Nat.le_of_ble_eq_true rfl) (am_k188_0 hu (am_s192 hu (fun h => absurd h0 h) (fun _ => ⟨1, by decide, ak_MI_of (Nat.le_of_ble_eq_true rfl) (am_k322_0 ⟨fun h => absurd h1 h, fun _ => ?_⟩)⟩)))
  exact am_k322_34 ⟨fun _ => ⟨Or.inl rfl, ⟨rfl, rfl⟩, by simp [am_up]⟩, fun h => absurd h (by decide)⟩
theorem am_nl189 {e : ak_X3} {d : Nat} {ρ1 ρ2 u : Nat} (hu : u = 0 ∨ u = 1) {hc hm : ak_S} (h0 : hc.1 1 8 = 0) (h1 : hm.1 110 4 = 0) : ak_cI e (d + 2) [ak_T u, ρ1, ρ2, ak_T u, ak_T u + 1] 189 323 [] hc hm [(0, 1)] (ak_nl hc hm) := by
  refine ak_MI_of (Nat.le_of_ble_eq_true rfl) (am_k189_0 hu (am_s192 hu (fun h => absurd h0 h) (fun _ => ⟨1, by decide, ak_MI_of (Nat.le_of_ble_eq_true rfl) (am_k323_0 ⟨fun h => absurd h1 h, fun _ => ?_⟩)⟩)))
  exact am_s198 ⟨⟨rfl, rfl⟩, by simp [am_up]⟩
theorem am_nl190 {e : ak_X3} {d : Nat} {ρ1 ρ2 u : Nat} (hu : u = 0 ∨ u = 1) {hc hm : ak_S} (h0 : hc.1 1 8 = 0) (h1 : hm.1 110 4 = 0) {x0 x1 : Int} : ak_cI e (d + 2) [ak_T u, ρ1, ρ2, ak_T u, ak_T u + 1] 190 324 [am_i x0, am_i x1] hc hm [(0, 1), (1, 3), (2, 2)] (ak_nl hc hm) := by
  refine ak_MI_of (Nat.le_of_ble_eq_true rfl) (am_k190_0 hu (am_s192 hu (fun h => absurd h0 h) (fun _ => ⟨1, by decide, ak_MI_of (Nat.le_of_ble_eq_true rfl) (am_k324_0 ⟨fun h => absurd h1 h, fun _ => ?_⟩)⟩)))
  exact am_s198 ⟨⟨rfl, rfl⟩, by simp [am_up]⟩
theorem am_nl191 {e : ak_X3} {d : Nat} {ρ1 ρ2 u : Nat} (hu : u = 0 ∨ u = 1) {hc hm : ak_S} (h0 : hc.1 1 8 = 0) (h1 : hm.1 110 4 = 0) : ak_cI e (d + 2) [ak_T u, ρ1, ρ2, ak_T u, ak_T u + 1] 191 326 [] hc hm [(0, 1)] (ak_nl hc hm) := by
  refine ak_MI_of (Nat.le_of_ble_eq_true rfl) (am_k191_0 hu (am_s192 hu (fun h => absurd h0 h) (fun _ => ⟨1, by decide, ak_MI_of (Nat.le_of_ble_eq_true rfl) (am_k326_0 ⟨fun h => absurd h1 h, fun _ => ?_⟩)⟩)))
  exact am_s198 ⟨⟨rfl, rfl⟩, by simp [am_up]⟩
