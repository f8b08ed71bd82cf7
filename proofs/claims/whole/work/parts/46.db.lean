/-! WHAT IS DARED: the model's chance -/
def bt_CX6_chance : bt_C := [(163, 1, 4, sX6_useOn), (177, 1, 5, sX6_isEnough)]
def sX6_chance : bt_Sp := fun as M N K => match as with
  | [.ref c, .int k, .int i] => ∃ w i' k', c = 67 ∧ bt_mW M 0 w ∧ i = nI i' ∧ i' < w 12 0 ∧ k = nI k' ∧ k' < w 12 1 ∧ K (some (.int (nI (bt_ch w i' k')))) M N
  | _ => False
set_option maxRecDepth 100000 in
theorem mX6_chance : bt_MT bt_TX6_chance bt_FX6 bt_CX6_chance 1 7 sX6_chance := by
  intro as M N Rt h P hP
  unfold sX6_chance at h
  split at h
  · obtain ⟨w, i, k, rfl, a1, rfl, hi, rfl, hk, h⟩ := h
    obtain ⟨hw, g1, g2, g3, g4, g5, g6, r0, r1, r2, r3, r4, r5, r6, c7, c8, c9, c10, c11⟩ := id a1
    obtain ⟨f1, f2, f3, f4, f5, f6, f7, f8, f9, f10, f11, f12, f13, f14, f15, f16, f17, f18⟩ := id hw
    have e7 : M 68 (58 + 5 * k) = nI (w 7 k) := by simpa using c7 k hk
    have e8 : M 68 (58 + 5 * k + 1) = nI (w 8 k) := by simpa using c8 k hk
    have e3 : M 68 (7 * i + 3) + 10 = nI (w 3 i) := by
      have := r3 i hi
      rw [Nat.zero_add] at this
      rw [this, bt_m10]
    have e2 : M 68 (7 * i + 2) = nI (w 2 i) := by simpa using r2 i hi
    have o10 := f10 i
    have mono : bt_psB (w 7 k) (w 8 k) (bt_us w i 0) 0 0 = true → bt_psB (w 7 k) (w 8 k) (bt_us w i (w 2 i)) 0 0 = true := fun c => bt_psB_mono (bt_us_0 w i _) c
    unfold bt_ch at h
    refine bt_go0 rfl hP 80 ?_
    refine ⟨_, rfl, 58 + 5 * k, by simp only [bt_lit, pk_mul, nI_add], by omega, ?_⟩
    refine ⟨_, rfl, 58 + 5 * k + 1, by simp only [bt_lit, pk_mul, nI_add], by omega, ?_⟩
    refine ⟨_, rfl, 7 * i + 3, by simp only [bt_lit, pk_mul, nI_add], by omega, ?_⟩
    refine ⟨_, rfl, 7 * i + 2, by simp only [bt_lit, pk_mul, nI_add], by omega, ?_⟩
    refine ⟨0, i, w 2 i, w 6 i, w 1 i, w 4 i, rfl, rfl, by omega, rfl, by omega, e2, f9 i, r6 i hi, f13 i, r1 i hi, f8 i, r4 i hi, f11 i, ?_⟩
    refine ⟨w 7 k, w 8 k, 0, bt_us w i (w 2 i), rfl, e7, f14 k, e8, f15 k, rfl, by omega, rfl, bt_us_9 hw i _ (f9 i), ?_⟩
    by_cases c2 : bt_psB (w 7 k) (w 8 k) (bt_us w i (w 2 i)) 0 0 = true
    · rw [if_pos c2] at h ⊢
      refine ⟨fun z => absurd z (by decide), fun _ => ?_⟩
      refine ⟨0, i, 0, w 6 i, w 1 i, w 4 i, rfl, rfl, by omega, rfl, by omega, rfl, by omega, r6 i hi, f13 i, r1 i hi, f8 i, r4 i hi, f11 i, ?_⟩
      refine ⟨w 7 k, w 8 k, 0, bt_us w i 0, rfl, e7, f14 k, e8, f15 k, rfl, by omega, rfl, bt_us_9 hw i 0 (by omega), ?_⟩
      by_cases c1 : bt_psB (w 7 k) (w 8 k) (bt_us w i 0) 0 0 = true
      · rw [if_pos c1] at h ⊢
        refine ⟨fun z => absurd z (by decide), fun _ => ?_⟩
        have e : nI 10 = (M 68 (7 * i + 3) + 10) + (10 - (M 68 (7 * i + 3) + 10)) := by
          rw [e3, show (10 : Int32) = nI 10 from rfl, pk_sub o10, nI_add, show w 3 i + (10 - w 3 i) = 10 by omega]
        rw [e] at h
        exact h
      · rw [if_neg c1] at h ⊢
        refine ⟨fun _ => ?_, fun z => absurd rfl z⟩
        have e : nI (w 3 i) = (M 68 (7 * i + 3) + 10) + 0 := by
          rw [e3, show (0 : Int32) = nI 0 from rfl, nI_add, Nat.add_zero]
        rw [e] at h
        exact h
    · have c1 : ¬ bt_psB (w 7 k) (w 8 k) (bt_us w i 0) 0 0 = true := fun c => c2 (mono c)
      rw [if_neg c1, if_neg c2] at h
      rw [if_neg c2]
      refine ⟨fun _ => ?_, fun z => absurd rfl z⟩
      refine ⟨0, i, 0, w 6 i, w 1 i, w 4 i, rfl, rfl, by omega, rfl, by omega, rfl, by omega, r6 i hi, f13 i, r1 i hi, f8 i, r4 i hi, f11 i, ?_⟩
      refine ⟨w 7 k, w 8 k, 0, bt_us w i 0, rfl, e7, f14 k, e8, f15 k, rfl, by omega, rfl, bt_us_9 hw i 0 (by omega), ?_⟩
      rw [if_neg c1]
      exact ⟨fun _ => h, fun z => absurd rfl z⟩
  · exact False.elim h
