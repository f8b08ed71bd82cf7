/-! A WORLD: road, tractor, row. w 0..6: of stretches (miles, sight, gap, odds, hill, lay by, lane); w 7..11: of cars (kind, need, pace, time, past); w 12: 0 stretches, 1 cars, 2 pace, 3 least, 4 at, 5 time -/
abbrev bt_W : Type := Nat → Nat → Nat
def bt_wf (w : bt_W) : Prop := w 12 0 ≤ 8 ∧ w 12 1 ≤ 6 ∧ w 12 4 ≤ w 12 0 ∧ w 12 2 ≤ 9 ∧ w 12 3 ≤ 6 ∧ w 12 5 ≤ 81 * w 12 4 ∧ (∀ i, w 0 i ≤ 9) ∧ (∀ i, w 1 i ≤ 9) ∧ (∀ i, w 2 i ≤ 9) ∧ (∀ i, w 3 i ≤ 10) ∧ bt_b1 (w 4) ∧ bt_b1 (w 5) ∧ bt_b1 (w 6) ∧ (∀ k, w 7 k ≤ 4) ∧ (∀ k, w 8 k ≤ 9) ∧ (∀ k, w 9 k ≤ 5) ∧ (∀ k, w 10 k ≤ 81 * w 12 4) ∧ bt_b1 (w 11)
/-- the class's object at cell c holds it -/
def bt_cW (M : bt_M) (c : Nat) (w : bt_W) : Prop := bt_wf w ∧
  M c 8 = nI (w 12 0) ∧ M c 9 = nI (bt_mk (w 4) (w 12 0)) ∧ M c 10 = nI (bt_mk (w 5) (w 12 0)) ∧ M c 11 = nI (bt_mk (w 6) (w 12 0)) ∧ M c 12 = nI (w 12 1) ∧ M c 13 = nI (bt_mk (w 11) (w 12 1)) ∧ M c 14 = nI (w 12 2) ∧ M c 15 = nI (w 12 3) ∧ M c 16 = nI (w 12 4) ∧ M c 17 = nI (w 12 5) ∧
  (∀ i, i < w 12 0 → M (c + 1) i = nI (w 0 i)) ∧ (∀ i, i < w 12 0 → M (c + 2) i = nI (w 1 i)) ∧ (∀ i, i < w 12 0 → M (c + 3) i = nI (w 2 i)) ∧ (∀ i, i < w 12 0 → M (c + 4) i = nI (w 3 i)) ∧
  (∀ k, k < w 12 1 → M (c + 5) k = nI (w 7 k)) ∧ (∀ k, k < w 12 1 → M (c + 6) k = nI (w 8 k)) ∧ (∀ k, k < w 12 1 → M (c + 7) k = nI (w 9 k)) ∧ (∀ k, k < w 12 1 → M (c + 8) k = nI (w 10 k))
/-- of use -/
def bt_us (w : bt_W) (i g : Nat) : Nat := if w 6 i = 1 then 9 else min g (w 1 i - w 4 i)
/-- a car passes: f in front of it, led or not -/
def bt_ps (kd nd u f led : Nat) : Prop := (kd = 1 ∧ f = 0 ∧ nd ≤ u) ∨ (kd = 2 ∧ nd * (f + 1) ≤ u) ∨ (kd = 3 ∧ f = 0 ∧ (led = 1 ∨ nd ≤ u)) ∨ (kd = 4 ∧ f = 0 ∧ 2 * nd ≤ u)
theorem bt_ps_iff (kd nd u f led : Nat) : bt_ps kd nd u f led ↔ (kd = 1 ∧ f = 0 ∧ nd ≤ u) ∨ (kd = 2 ∧ nd * (f + 1) ≤ u) ∨ (kd = 3 ∧ f = 0 ∧ (led = 1 ∨ nd ≤ u)) ∨ (kd = 4 ∧ f = 0 ∧ 2 * nd ≤ u) := Iff.rfl
def bt_psB (kd nd u f led : Nat) : Bool := (kd == 1 && f == 0 && Nat.ble nd u) || (kd == 2 && Nat.ble (nd * (f + 1)) u) || (kd == 3 && f == 0 && (led == 1 || Nat.ble nd u)) || (kd == 4 && f == 0 && Nat.ble (2 * nd) u)
/-- before car k: how many are in front, whether the one told ahead has just come past -/
def bt_fr (w : bt_W) (u : Nat) (ps : Nat → Nat) : Nat → Nat × Nat
  | 0 => (0, 0)
  | k + 1 => if ps k = 1 then ((bt_fr w u ps k).1, 0) else if bt_psB (w 7 k) (w 8 k) u (bt_fr w u ps k).1 (bt_fr w u ps k).2 = true then ((bt_fr w u ps k).1, 1) else ((bt_fr w u ps k).1 + 1, 0)
/-- the tractor pulls in -/
def bt_lb (w : bt_W) (i : Nat) (ps : Nat → Nat) : Prop := w 5 i = 1 ∧ w 12 3 ≠ 0 ∧ w 12 3 ≤ bt_ct1 (fun k => 1 - ps k) (w 12 1)
def bt_lbB (w : bt_W) (i : Nat) (ps : Nat → Nat) : Bool := w 5 i == 1 && !(w 12 3 == 0) && Nat.ble (w 12 3) (bt_ct1 (fun k => 1 - ps k) (w 12 1))
/-- who comes past in stretch i with a gap, those of ps being past -/
def bt_cm (w : bt_W) (i g : Nat) (ps : Nat → Nat) (k : Nat) : Nat := if bt_lbB w i ps = true then 1 - ps k else (bt_fr w (bt_us w i g) ps (k + 1)).2
theorem bt_fr_01 (w : bt_W) (u : Nat) (ps : Nat → Nat) : ∀ k, (bt_fr w u ps k).2 ≤ 1 ∧ (bt_fr w u ps k).1 ≤ k
  | 0 => by simp [bt_fr]
  | k + 1 => by
    have := bt_fr_01 w u ps k
    simp only [bt_fr]
    split
    · exact ⟨by omega, by omega⟩
    · split
      · exact ⟨by omega, by omega⟩
      · exact ⟨by omega, by omega⟩
theorem bt_cm_b1 (w : bt_W) (i g : Nat) (ps : Nat → Nat) : bt_b1 (bt_cm w i g ps) := fun k => by
  unfold bt_cm
  split
  · omega
  · exact (bt_fr_01 w _ ps (k + 1)).1
theorem bt_cm_ps (w : bt_W) (i g : Nat) (ps : Nat → Nat) (k : Nat) (h : ps k = 1) : bt_cm w i g ps k = 0 := by
  unfold bt_cm
  split
  · omega
  · simp [bt_fr, h]
theorem bt_cm_le (w : bt_W) (i g : Nat) (ps : Nat → Nat) (hb : bt_b1 ps) (k : Nat) : ps k + bt_cm w i g ps k ≤ 1 := by
  have h1 := bt_cm_b1 w i g ps k
  have h2 := hb k
  by_cases h : ps k = 1
  · rw [bt_cm_ps w i g ps k h]; omega
  · omega
/-- the minutes of car k in stretch i, past or not -/
def bt_mn (w : bt_W) (i k p : Nat) : Nat := w 0 i * (if p = 1 then w 9 k else w 12 2)
/-- a stretch is driven -/
def bt_dv (w : bt_W) (g : Nat) : bt_W := fun f k =>
  if f = 10 then w 10 k + bt_mn w (w 12 4) k (w 11 k + bt_cm w (w 12 4) g (w 11) k)
  else if f = 11 then w 11 k + bt_cm w (w 12 4) g (w 11) k
  else if f = 12 then (if k = 4 then w 12 4 + 1 else if k = 5 then w 12 5 + w 0 (w 12 4) * w 12 2 else w 12 k)
  else w f k
theorem bt_mn_le {w : bt_W} (h : bt_wf w) (i k p : Nat) : bt_mn w i k p ≤ 81 := by
  obtain ⟨h1, h2, h3, h4, h5, h6, h7, h8, h9, h10, h11, h12, h13, h14, h15, h16, h17, h18⟩ := h
  have a1 := h7 i
  have a2 := h16 k
  unfold bt_mn
  calc w 0 i * (if p = 1 then w 9 k else w 12 2) ≤ 9 * 9 := Nat.mul_le_mul a1 (by split <;> omega)
    _ = 81 := rfl
theorem bt_dv_wf {w : bt_W} {g : Nat} (h : bt_wf w) (hat : w 12 4 < w 12 0) : bt_wf (bt_dv w g) := by
  have hmn := bt_mn_le h
  obtain ⟨h1, h2, h3, h4, h5, h6, h7, h8, h9, h10, h11, h12, h13, h14, h15, h16, h17, h18⟩ := h
  have hmul : w 0 (w 12 4) * w 12 2 ≤ 81 := by
    calc w 0 (w 12 4) * w 12 2 ≤ 9 * 9 := Nat.mul_le_mul (h7 _) h4
      _ = 81 := rfl
  refine ⟨by simpa [bt_dv] using h1, by simpa [bt_dv] using h2, by simp [bt_dv]; omega, by simpa [bt_dv] using h4, by simpa [bt_dv] using h5, by simp [bt_dv]; omega, by simpa [bt_dv] using h7, by simpa [bt_dv] using h8, by simpa [bt_dv] using h9, by simpa [bt_dv] using h10, by simpa [bt_dv, bt_b1] using h11, by simpa [bt_dv, bt_b1] using h12, by simpa [bt_dv, bt_b1] using h13, by simpa [bt_dv] using h14, by simpa [bt_dv] using h15, by simpa [bt_dv] using h16, fun k => ?_, fun k => ?_⟩
  · have := hmn (w 12 4) k (w 11 k + bt_cm w (w 12 4) g (w 11) k)
    have := h17 k
    simp [bt_dv]
    omega
  · have := bt_cm_le w (w 12 4) g (w 11) h18 k
    simpa [bt_dv] using this
