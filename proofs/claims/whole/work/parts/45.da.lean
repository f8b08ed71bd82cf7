/-! WHAT IS DARED: parts -/
def bt_CX6_firstBehind : bt_C := [(139, 1, 3, sX6_isPast)]
def sX6_firstBehind : bt_Sp := fun as M N K => match as with
  | [.ref c] => ∃ w, c = 67 ∧ bt_mW M 0 w ∧ K (some (.int (if bt_fb w < w 12 1 then nI (bt_fb w) else -4))) M N
  | _ => False
theorem mX6_firstBehind : bt_MT bt_TX6_firstBehind bt_FX6 bt_CX6_firstBehind 1 2 sX6_firstBehind := by
  intro as M N Rt h P hP
  unfold sX6_firstBehind at h
  split at h
  · obtain ⟨w, rfl, hw, h⟩ := h
    have f2 := hw.1.2.1
    have g2 : M 67 2 = nI (w 12 1) := hw.2.2.1
    have loop : ∀ v pc L st M' N', (pc = 2 ∧ st = [] ∧ M' = M ∧ N' = N ∧ ∃ k, k ≤ w 12 1 ∧ v = w 12 1 - k ∧ L = [some (.ref 67), some (.int (nI k))] ∧ bt_fbr w (w 12 1 - k) k = bt_fb w) → P pc L st M' N' := by
      refine bt_loop rfl hP 60 [2] (fun v pc L st M' N' => (pc = 2 ∧ st = [] ∧ M' = M ∧ N' = N ∧ ∃ k, k ≤ w 12 1 ∧ v = w 12 1 - k ∧ L = [some (.ref 67), some (.int (nI k))] ∧ bt_fbr w (w 12 1 - k) k = bt_fb w)) ?_
      rintro v pc L st M' N' ⟨rfl, rfl, hM, hN, k, hk, rfl, rfl, p1⟩
      rw [← hM, ← hN] at h
      rw [← hM] at g2 hw
      refine ⟨fun z1 => ?_, fun z1 => ?_⟩
      · have z1' := z1
        rw [g2, nI_leI (by omega) (by omega)] at z1'
        have e : w 12 1 - k = 0 := by omega
        rw [e, bt_fbr] at p1
        rw [if_neg (by omega)] at h
        exact ⟨fun _ => h, fun z => absurd z1 z⟩
      · have z1' := z1
        rw [g2, nI_leI (by omega) (by omega)] at z1'
        obtain ⟨r, hr⟩ : ∃ r, w 12 1 - k = r + 1 := ⟨w 12 1 - k - 1, by omega⟩
        rw [hr, bt_fbr] at p1
        have e1 := bt_mW_past hw (k := k) (by omega)
        have k1 := bt_wf11 hw.1 k
        refine ⟨0, k, _, rfl, rfl, rfl, by omega, e1, k1, ⟨fun z2 => ?_, fun z2 => ?_⟩⟩
        · have z3 : w 11 k = 0 := (bt_z01 k1).mp z2
          rw [if_neg (by omega)] at p1
          rw [← p1, if_pos (by omega)] at h
          exact ⟨fun z => absurd z z1, fun _ => h⟩
        · have z3 : ¬ w 11 k = 0 := fun c => z2 (by rw [c]; rfl)
          rw [if_pos (by omega)] at p1
          exact ⟨w 12 1 - (k + 1), by omega, rfl, rfl, hM, hN, k + 1, by omega, rfl, by rw [nI_1 k], by rw [show w 12 1 - (k + 1) = r by omega]; exact p1⟩
    refine bt_go rfl hP 60 [2] P (fun _ _ _ _ _ h => h) ?_
    exact loop _ _ _ _ _ _ ⟨rfl, rfl, rfl, rfl, 0, by omega, rfl, rfl, rfl⟩
  · exact False.elim h
/-- tenths of a chance to pass -/
def bt_ch (w : bt_W) (i k : Nat) : Nat := if bt_psB (w 7 k) (w 8 k) (bt_us w i 0) 0 0 = true then 10 else if bt_psB (w 7 k) (w 8 k) (bt_us w i (w 2 i)) 0 0 = true then w 3 i else 0
theorem bt_psB_mono {kd nd u u' f l : Nat} (h : u ≤ u') (hp : bt_psB kd nd u f l = true) : bt_psB kd nd u' f l = true := by
  simp only [bt_psB, Bool.or_eq_true, Bool.and_eq_true, beq_iff_eq, Nat.ble_eq] at hp ⊢
  omega
theorem bt_us_0 (w : bt_W) (i g : Nat) : bt_us w i 0 ≤ bt_us w i g := by
  unfold bt_us
  split <;> omega
theorem bt_us_9 {w : bt_W} (h : bt_wf w) (i g : Nat) (hg : g ≤ 9) : bt_us w i g ≤ 9 := by
  unfold bt_us
  split <;> omega
def bt_CX1_tenthsToPass : bt_C := [(97, 1, 3, sX4_ofUse), (100, 1, 5, sX4_passes)]
def sX1_tenthsToPass : bt_Sp := fun as M N K => match as with
  | [.ref c, .int i, .int k] => ∃ w i' k', c = 2 ∧ bt_cW M 2 w ∧ i = nI i' ∧ i' < w 12 0 ∧ k = nI k' ∧ k' < w 12 1 ∧ K (some (.int (nI (bt_ch w i' k')))) M N
  | _ => False
theorem mX1_tenthsToPass : bt_MT bt_TX1_tenthsToPass bt_FX1 bt_CX1_tenthsToPass 1 3 sX1_tenthsToPass := by
  intro as M N Rt h P hP
  unfold sX1_tenthsToPass at h
  split at h
  · obtain ⟨w, i, k, rfl, a1, rfl, hi, rfl, hk, h⟩ := h
    obtain ⟨hw, h8, h9, h10, h11, h12, h13, h14, h15, h16, h17, r1, r2, r3, r4, r5, r6, r7, r8⟩ := id a1
    obtain ⟨f1, f2, f3, f4, f5, f6, f7, f8, f9, f10, f11, f12, f13, f14, f15, f16, f17, f18⟩ := id hw
    unfold bt_ch at h
    refine bt_go0 rfl hP 60 ?_
    refine ⟨w, i, 0, Or.inl rfl, a1, rfl, hi, rfl, by omega, ?_⟩
    refine ⟨w, k, bt_us w i 0, 0, 0, Or.inl rfl, a1, rfl, hk, rfl, bt_us_9 hw i 0 (by omega), rfl, by omega, rfl, by omega, ?_⟩
    by_cases c1 : bt_psB (w 7 k) (w 8 k) (bt_us w i 0) 0 0 = true
    · rw [if_pos c1] at h ⊢
      exact ⟨fun z => absurd z (by decide), fun _ => h⟩
    · rw [if_neg c1] at h ⊢
      refine ⟨fun _ => ?_, fun z => absurd rfl z⟩
      refine ⟨_, rfl, i, rfl, by omega, ?_⟩
      refine ⟨w, i, w 2 i, Or.inl rfl, a1, rfl, hi, r3 i hi, f9 i, ?_⟩
      refine ⟨w, k, bt_us w i (w 2 i), 0, 0, Or.inl rfl, a1, rfl, hk, rfl, bt_us_9 hw i _ (f9 i), rfl, by omega, rfl, by omega, ?_⟩
      by_cases c2 : bt_psB (w 7 k) (w 8 k) (bt_us w i (w 2 i)) 0 0 = true
      · rw [if_pos c2] at h ⊢
        rw [← r4 i hi] at h
        exact ⟨fun z => absurd z (by decide), fun _ => ⟨_, rfl, i, rfl, by omega, h⟩⟩
      · rw [if_neg c2] at h ⊢
        exact ⟨fun _ => h, fun z => absurd rfl z⟩
  · exact False.elim h
def sX6_leftMany : bt_Sp := fun as M N K => match as with
  | [.ref c] => ∃ w, c = 67 ∧ bt_mW M 0 w ∧ K (some (.int (nI (w 12 0 - w 12 4)))) M N
  | _ => False
theorem mX6_leftMany : bt_MT bt_TX6_leftMany bt_FX6 [] 1 1 sX6_leftMany := by
  intro as M N Rt h P hP
  unfold sX6_leftMany at h
  split at h
  · obtain ⟨w, rfl, hw, h⟩ := h
    have g1 : M 67 1 = nI (w 12 0) := hw.2.1
    have g5 : M 68 88 = nI (w 12 4) := by simpa using hw.2.2.2.2.2.1
    rw [← pk_sub hw.1.2.2.1, ← g1, ← g5] at h
    exact bt_go0 rfl hP 60 ⟨_, rfl, 88, rfl, by omega, h⟩
  · exact False.elim h
