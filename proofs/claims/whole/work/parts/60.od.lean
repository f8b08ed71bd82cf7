/-! BY ODDS: the class's Chances, the rest -/
def bt_CX1_spread : bt_C := [(18, 1, 2, sX1_begin), (28, 1, 3, sX1_spreadOne)]
def sX1_spread : bt_Sp := fun as M N K => match as with
  | [.ref c, .ref d, .int u] => ∃ w j, c = 64 ∧ d = 2 ∧ bt_cW M 2 w ∧ u = nI (w 12 4 + j) ∧ w 12 4 + j ≤ w 12 0 ∧ ∀ N', bu_nW N' w j → N' 64 2 = lN (10 ^ j) → K none M N'
  | _ => False
theorem mX1_spread : bt_MT bt_TX1_spread bt_FX1 bt_CX1_spread 0 4 sX1_spread := by
  intro as M N Rt h P hP
  unfold sX1_spread at h
  split at h
  · obtain ⟨w, j, rfl, rfl, a1, rfl, hj, h⟩ := h
    have hw := a1.1
    have f1 := hw.1
    have h16 := a1.2.2.2.2.2.2.2.2.2.1
    have loop : ∀ v pc L st M' N', (pc = 10 ∧ st = [] ∧ M' = M ∧ ∃ t, t ≤ j ∧ v = j - t ∧ L = [some (.ref 64), some (.ref 2), some (.int (nI (w 12 4 + j))), some (.int (nI (w 12 4 + t)))] ∧ bu_nW N' w t ∧ N' 64 2 = lN (10 ^ t)) → P pc L st M' N' := by
      refine bt_loop rfl hP 60 [10] (fun v pc L st M' N' => (pc = 10 ∧ st = [] ∧ M' = M ∧ ∃ t, t ≤ j ∧ v = j - t ∧ L = [some (.ref 64), some (.ref 2), some (.int (nI (w 12 4 + j))), some (.int (nI (w 12 4 + t)))] ∧ bu_nW N' w t ∧ N' 64 2 = lN (10 ^ t))) ?_
      rintro v pc L st M' N' ⟨rfl, rfl, hM, t, ht, rfl, rfl, q1, q2⟩
      subst hM
      refine ⟨fun y1 => ?_, fun y1 => ?_⟩
      · rw [nI_leI (by omega) (by omega)] at y1
        have e : t = j := by omega
        rw [e] at q1 q2
        exact h N' q1 q2
      · rw [nI_leI (by omega) (by omega)] at y1
        refine ⟨w, t, rfl, rfl, a1, rfl, by omega, q1, q2, fun N1 n1 n2 => ?_⟩
        exact ⟨j - (t + 1), by omega, rfl, rfl, rfl, t + 1, by omega, rfl, by rw [bt_nI_add3], n1, n2⟩
    refine bt_go rfl hP 60 [10] P (fun _ _ _ _ _ h => h) ?_
    refine ⟨w, rfl, rfl, a1, fun N1 n1 n2 => ?_⟩
    exact loop _ _ _ _ _ _ ⟨rfl, rfl, rfl, 0, by omega, rfl, by rw [h16]; rfl, n1, n2⟩
  · exact False.elim h
def bt_CX1_weightOfGone : bt_C := [(61, 0, 2, sX5_bit)]
def sX1_weightOfGone : bt_Sp := fun as M N K => match as with
  | [.ref c, .int k] => ∃ w j k', c = 64 ∧ k = nI k' ∧ k' < 6 ∧ bu_nW N w j ∧ K (some (.long (lN (bu_B w j k')))) M N
  | _ => False
set_option maxRecDepth 100000 in
theorem mX1_weightOfGone : bt_MT bt_TX1_weightOfGone bt_FX1 bt_CX1_weightOfGone 3 5 sX1_weightOfGone := by
  intro as M N Rt h P hP
  unfold sX1_weightOfGone at h
  split at h
  · obtain ⟨w, j, k, rfl, rfl, hk, hN, h⟩ := h
    have loop : ∀ v pc L st M' N', (pc = 5 ∧ st = [] ∧ M' = M ∧ N' = N ∧ ∃ m, m ≤ 64 ∧ v = 64 - m ∧ L = [some (.ref 64), some (.int (nI k)), some (.long (lN (bt_ct1 (fun q => q / 2 ^ k % 2 * bu_Wt w j q) m))), none, some (.int (nI m))]) → P pc L st M' N' := by
      refine bt_loop rfl hP 60 [5] (fun v pc L st M' N' => (pc = 5 ∧ st = [] ∧ M' = M ∧ N' = N ∧ ∃ m, m ≤ 64 ∧ v = 64 - m ∧ L = [some (.ref 64), some (.int (nI k)), some (.long (lN (bt_ct1 (fun q => q / 2 ^ k % 2 * bu_Wt w j q) m))), none, some (.int (nI m))])) ?_
      rintro v pc L st M' N' ⟨rfl, rfl, hM, hN', m, hm, rfl, rfl⟩
      subst hM
      subst hN'
      refine ⟨fun y1 => ?_, fun y1 => ?_⟩
      · rw [bt_lit, nI_leI (by omega) (by omega)] at y1
        have e : m = 64 := by omega
        rw [e]
        exact h
      · rw [bt_lit, nI_leI (by omega) (by omega)] at y1
        have hb := bu_rbit (t := m) (p := k) (by omega) (by omega)
        have hm2 := Nat.mod_lt (m / 2 ^ k) (show 0 < 2 by omega)
        refine ⟨fun y2 => ?_, fun y2 => ?_⟩
        · rw [hb, bt_n1 (by omega)] at y2
          refine ⟨64 - (m + 1), by omega, rfl, rfl, rfl, rfl, m + 1, by omega, rfl, ?_⟩
          rw [bt_ct1, show m / 2 ^ k % 2 = 0 by omega, Nat.zero_mul, Nat.add_zero, nI_1]
        · rw [hb, bt_n1 (by omega)] at y2
          refine ⟨_, rfl, m, rfl, by omega, ?_⟩
          refine ⟨64 - (m + 1), by omega, rfl, rfl, rfl, rfl, m + 1, by omega, rfl, ?_⟩
          rw [bt_ct1, y2, Nat.one_mul, hN m (by omega), lN_add, nI_1]
    refine bt_go rfl hP 60 [5] P (fun _ _ _ _ _ h => h) ?_
    exact loop _ _ _ _ _ _ ⟨rfl, rfl, rfl, rfl, 0, by omega, rfl, rfl⟩
  · exact False.elim h
def bt_CX1_weightedTime : bt_C := [(18, 1, 2, sX1_begin), (28, 1, 3, sX1_spreadOne), (71, 1, 2, sX1_weightOfGone)]
def sX1_weightedTime : bt_Sp := fun as M N K => match as with
  | [.ref c, .ref d, .int k] => ∃ w k', c = 64 ∧ d = 2 ∧ bt_cW M 2 w ∧ k = nI k' ∧ k' < w 12 1 ∧ ∀ N', N' 64 2 = lN (10 ^ (w 12 0 - w 12 4)) → K (some (.long (lN (bu_T w k' (w 12 0 - w 12 4))))) M N'
  | _ => False
set_option maxRecDepth 100000 in
theorem mX1_weightedTime : bt_MT bt_TX1_weightedTime bt_FX1 bt_CX1_weightedTime 3 8 sX1_weightedTime := by
  intro as M N Rt h P hP
  unfold sX1_weightedTime at h
  split at h
  · obtain ⟨w, k, rfl, rfl, a1, rfl, hk, h⟩ := h
    obtain ⟨hw, h8, h9, h10, h11, h12, h13, h14, h15, h16, h17, r1, r2, r3, r4, r5, r6, r7, r8⟩ := id a1
    obtain ⟨f1, f2, f3, f4, f5, f6, f7, f8, f9, f10, f11, f12, f13, f14, f15, f16, f17, f18⟩ := id hw
    have loop : ∀ v pc L st M' N', (pc = 19 ∧ st = [] ∧ M' = M ∧ ∃ t y6 y7, t ≤ w 12 0 - w 12 4 ∧ v = w 12 0 - w 12 4 - t ∧ L = [some (.ref 64), some (.ref 2), some (.int (nI k)), some (.long (lN (bu_T w k t))), none, some (.int (nI (w 12 4 + t))), y6, y7] ∧ bu_nW N' w t ∧ N' 64 2 = lN (10 ^ t)) → P pc L st M' N' := by
      refine bt_loop rfl hP 80 [19] (fun v pc L st M' N' => (pc = 19 ∧ st = [] ∧ M' = M ∧ ∃ t y6 y7, t ≤ w 12 0 - w 12 4 ∧ v = w 12 0 - w 12 4 - t ∧ L = [some (.ref 64), some (.ref 2), some (.int (nI k)), some (.long (lN (bu_T w k t))), none, some (.int (nI (w 12 4 + t))), y6, y7] ∧ bu_nW N' w t ∧ N' 64 2 = lN (10 ^ t))) ?_
      rintro v pc L st M' N' ⟨rfl, rfl, hM, t, y6, y7, ht, rfl, rfl, q1, q2⟩
      subst hM
      refine ⟨fun y1 => ?_, fun y1 => ?_⟩
      · rw [h8, nI_leI (by omega) (by omega)] at y1
        have e : t = w 12 0 - w 12 4 := by omega
        rw [e] at q2 ⊢
        exact h N' q2
      · rw [h8, nI_leI (by omega) (by omega)] at y1
        have m1 := r1 (w 12 4 + t) (by omega)
        have m7 := r7 k hk
        have k9 := f16 k
        have k0 := f7 (w 12 4 + t)
        have hB := bu_B_le hw (j := t + 1) (k := k) (by omega) hk
        refine ⟨w, t, rfl, rfl, a1, rfl, by omega, q1, q2, fun N1 n1 n2 => ?_⟩
        refine ⟨w, t + 1, k, rfl, rfl, by omega, n1, ?_⟩
        refine ⟨_, rfl, w 12 4 + t, rfl, by omega, ?_⟩
        refine ⟨_, rfl, k, rfl, by omega, ?_⟩
        have e : lN (bu_T w k t) * (10 : Int64) + (M' 3 (w 12 4 + t)).toInt64 * (lN (bu_B w (t + 1) k) * (M' 9 k).toInt64 + (N1 64 2 - lN (bu_B w (t + 1) k)) * (M' 2 14).toInt64) = lN (bu_T w k (t + 1)) := by
          rw [m1, m7, h14, n2, lN_sub hB, nI_l (by omega), nI_l (by omega), nI_l (by omega), show (10 : Int64) = lN 10 from rfl, lN_mul, lN_mul, lN_mul, lN_add, lN_mul, lN_add]
          rfl
        exact ⟨w 12 0 - w 12 4 - (t + 1), by omega, rfl, rfl, rfl, t + 1, _, _, by omega, rfl, by rw [← e, bt_nI_add3], n1, n2⟩
    refine bt_go rfl hP 60 [19] P (fun _ _ _ _ _ h => h) ?_
    refine ⟨w, rfl, rfl, a1, fun N1 n1 n2 => ?_⟩
    refine ⟨_, rfl, k, rfl, by omega, ?_⟩
    have k17 := f17 k
    have e : (M 10 k).toInt64 = lN (bu_T w k 0) := by
      rw [r8 k hk, nI_l (by omega)]
      rfl
    exact loop _ _ _ _ _ _ ⟨rfl, rfl, rfl, 0, none, none, by omega, rfl, by rw [← e, h16]; rfl, n1, n2⟩
  · exact False.elim h
