/-! THE CLASS: World -/
abbrev bt_wc (c : Nat) : Prop := c = 2 ∨ c = 79
theorem bt_ev : ∀ m, m < 9 → ((1 : Int32) <<< (nI m &&& 31)) - 1 = nI (2 ^ m - 1) := by decide +kernel
def sX4_everybody : bt_Sp := fun as M N K => match as with
  | [.ref c] => ∃ m, bt_wc c ∧ M c 12 = nI m ∧ m ≤ 6 ∧ K (some (.int (nI (2 ^ m - 1)))) M N
  | _ => False
theorem mX4_everybody : bt_MT bt_TX4_everybody bt_FX4 [] 1 1 sX4_everybody := by
  intro as M N Rt h P hP
  unfold sX4_everybody at h
  split at h
  · obtain ⟨m, hc, hm, h6, h⟩ := h
    rw [← bt_ev m (by omega), ← hm] at h
    rcases hc with rfl | rfl <;> exact bt_go0 rfl hP 20 h
  · exact False.elim h
def bt_CX4_behind : bt_C := [(73, 1, 1, sX4_everybody)]
def sX4_behind : bt_Sp := fun as M N K => match as with
  | [.ref c, .int p] => ∃ m a, bt_wc c ∧ M c 12 = nI m ∧ m ≤ 6 ∧ p = nI a ∧ a < 2 ^ m ∧ K (some (.int (nI (2 ^ m - 1 - a)))) M N
  | _ => False
theorem mX4_behind : bt_MT bt_TX4_behind bt_FX4 bt_CX4_behind 1 2 sX4_behind := by
  intro as M N Rt h P hP
  unfold sX4_behind at h
  split at h
  · obtain ⟨m, a, hc, hm, h6, rfl, ha, h⟩ := h
    rw [← bt_notN m (by omega) a ha] at h
    rcases hc with rfl | rfl <;> exact bt_go0 rfl hP 20 ⟨m, by first | exact Or.inl rfl | exact Or.inr rfl, hm, h6, h⟩
  · exact False.elim h
def bt_CX4_ofUse : bt_C := [(77, 0, 2, sX5_bit), (90, 0, 2, sJ9_max_7cf53), (95, 0, 2, sJ9_min_7cf53)]
def sX4_ofUse : bt_Sp := fun as M N K => match as with
  | [.ref c, .int i, .int g] => ∃ w i' g', bt_wc c ∧ bt_cW M c w ∧ i = nI i' ∧ i' < w 12 0 ∧ g = nI g' ∧ g' ≤ 9 ∧ K (some (.int (nI (bt_us w i' g')))) M N
  | _ => False
theorem bt_sub01 {a b : Nat} (ha : a ≤ 9) (hb : b ≤ 1) : (if (0 : Int32) < nI a - nI b then nI a - nI b else 0) = nI (a - b) := by
  have : ∀ a, a < 10 → ∀ b, b < 2 → (if (0 : Int32) < nI a - nI b then nI a - nI b else 0) = nI (a - b) := by decide +kernel
  exact this a (by omega) b (by omega)
theorem bt_minN {a b : Nat} (ha : a < 2 ^ 31) (hb : b < 2 ^ 31) : (if nI b < nI a then nI b else nI a) = nI (min a b) := by
  by_cases h : b < a
  · rw [if_pos ((nI_ltI hb ha).mpr h), Nat.min_eq_right (by omega)]
  · rw [if_neg (fun q => h ((nI_ltI hb ha).mp q)), Nat.min_eq_left (by omega)]
theorem mX4_ofUse : bt_MT bt_TX4_ofUse bt_FX4 bt_CX4_ofUse 1 4 sX4_ofUse := by
  intro as M N Rt h P hP
  unfold sX4_ofUse at h
  split at h
  · obtain ⟨w, i, g, hc, hw, rfl, hi, rfl, hg, h⟩ := h
    obtain ⟨hf, h8, h9, h10, h11, h12, h13, h14, h15, h16, h17, r1, r2, r3, r4, r5, r6, r7, r8⟩ := hw
    obtain ⟨f1, f2, f3, f4, f5, f6, f7, f8, f9, f10, f11, f12, f13, f14, f15, f16, f17, f18⟩ := hf
    have e1 : ∀ c, M c 11 = nI (bt_mk (w 6) (w 12 0)) → (M c 11 >>> (nI i &&& 31)) &&& 1 = nI (w 6 i) := by
      intro c hc
      rw [hc, bt_bitN f13 (by omega) (by omega), if_pos hi]
    have e2 : ∀ c, M c 9 = nI (bt_mk (w 4) (w 12 0)) → (M c 9 >>> (nI i &&& 31)) &&& 1 = nI (w 4 i) := by
      intro c hc
      rw [hc, bt_bitN f11 (by omega) (by omega), if_pos hi]
    have e1 := e1 _ h11
    have e2 := e2 _ h9
    have e3 := r2 i hi
    have g1 := f13 i
    have g2 := f11 i
    have g3 := f8 i
    have key : ∀ x y z : Int32, x = nI (w 6 i) → y = nI (w 1 i) → z = nI (w 4 i) → (¬ x = 1 → (if (if (0 : Int32) < y - z then y - z else 0) < nI g then (if (0 : Int32) < y - z then y - z else 0) else nI g) = nI (bt_us w i g)) ∧ (x = 1 → 9 = nI (bt_us w i g)) := by
      intro x y z hx hy hz
      subst hx hy hz
      refine ⟨fun h1 => ?_, fun h1 => ?_⟩
      · have : ¬ w 6 i = 1 := fun q => h1 (by rw [q]; rfl)
        rw [bt_sub01 g3 g2, bt_minN (by omega) (by omega), bt_us, if_neg this]
      · have : w 6 i = 1 := (nI_eq (by omega) (by omega)).mp (h1.trans (bt_lit 1))
        rw [bt_us, if_pos this]
        rfl
    obtain ⟨k1, k2⟩ := key _ _ _ e1 e3 e2
    rcases hc with rfl | rfl
    all_goals
      refine bt_go0 rfl hP 40 ?_
      refine ⟨fun q => ?_, fun q => ?_⟩
      · refine ⟨_, rfl, i, rfl, by omega, ?_⟩
        rw [← k1 q] at h
        exact h
      · rw [← k2 q] at h
        exact h
  · exact False.elim h
