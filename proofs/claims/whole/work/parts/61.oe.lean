/-! BY ODDS: the class's calls -/
abbrev bu_lf (w : bt_W) : Nat := w 12 0 - w 12 4
def f_past : bt_fn := fun t S => match t, S with
  | [.int k, .int x], (w, im, u, z, q) => some (.long (if bt_in k (w 12 1) ∧ bt_in x 2 then bt_lw (bu_X w (bu_lf w) (fun s => bu_we w s 11 k.toNatClampNeg)) (10 ^ bu_lf w) x else -1), (w, im, u, z, q))
  | _, _ => none
def f_mean : bt_fn := fun t S => match t, S with
  | [.int k, .int x], (w, im, u, z, q) => some (.long (if bt_in k (w 12 1) ∧ bt_in x 2 then bt_lw (bu_X w (bu_lf w) (fun s => bu_we w s 10 k.toNatClampNeg)) (10 ^ bu_lf w) x else -1), (w, im, u, z, q))
  | _, _ => none
def f_row : bt_fn := fun t S => match t, S with
  | [.int x], (w, im, u, z, q) => some (.long (if bt_in x 2 then bt_lw (bu_X w (bu_lf w) (fun s => bt_ct1 (fun k => 1 - bu_we w s 11 k) (w 12 1))) (10 ^ bu_lf w) x else -1), (w, im, u, z, q))
  | _, _ => none
def f_where : bt_fn := fun t S => match t, S with
  | [.int k, .int i, .int x], (w, im, u, z, q) => some (.long (if bt_in k (w 12 1) ∧ (bt_in i (w 12 0) ∧ w 12 4 ≤ i.toNatClampNeg) ∧ bt_in x 2 then bt_lw (bu_X w (bu_lf w) (fun s => if bu_wr w s k.toNatClampNeg (bu_lf w) = i then 1 else 0)) (10 ^ bu_lf w) x else -1), (w, im, u, z, q))
  | _, _ => none
theorem bu_10 {j : Nat} (hj : j ≤ 8) : 0 < 10 ^ j ∧ 10 ^ j ≤ 100000000 := ⟨(bt_p10 j (by omega)).2.2, (bt_p10 j (by omega)).2.1⟩
theorem bu_we10 {w : bt_W} (hw : bt_wf w) (s k : Nat) : bu_we w s 10 k ≤ 648 := by
  have q := bu_we_wf hw s
  have q1 := q.2.2.2.2.2.2.2.2.2.2.2.2.2.2.2.2.1 k
  have q2 := q.2.2.1
  have q3 := q.1
  omega
def bt_CX5_past : bt_C := [(136, 1, 2, sX5_isCar), (51, 0, 3, sX5_within), (189, 1, 3, sX1_spread), (193, 1, 2, sX1_weightOfGone), (201, 0, 3, sX5_lowest)]
def sX5_past : bt_Sp := bt_spC f_past
set_option maxRecDepth 100000 in
theorem mX5_past : bt_MT bt_TX5_past bt_FX5 bt_CX5_past 3 3 sX5_past := by
  intro as M N Rt h P hP
  obtain ⟨t, S, r, S', rfl, hI, hf, h⟩ := bt_spC_e h
  obtain ⟨w, im, u, z, q⟩ := S
  unfold f_past at hf
  split at hf
  · next k x _ _ _ _ _ e =>
    cases e
    obtain ⟨rfl, rfl⟩ := bt_some hf
    have a1 := hI.1
    obtain ⟨hw, h8, h9, h10, h11, h12, h13, h14, h15, h16, h17, r1, r2, r3, r4, r5, r6, r7, r8⟩ := id a1
    obtain ⟨f1, f2, f3, f4, f5, f6, f7, f8, f9, f10, f11, f12, f13, f14, f15, f16, f17, f18⟩ := id hw
    have hbad : ¬ (bt_in k (w 12 1) ∧ bt_in x 2) → Rt (some (.long (-1))) M N := fun y => by
      rw [if_neg y] at h
      exact h M N (fun _ _ => rfl) hI
    refine bt_go0 rfl hP 80 ?_
    refine ⟨w 12 1, rfl, h12, f2, ⟨fun y => ?_, fun y => ⟨fun y2 => ?_, fun y2 => ?_⟩⟩⟩
    · rw [bt_bi_0] at y
      exact hbad (fun c => y c.1)
    rotate_left
    · rw [bt_bi_0, bt_in_c (k := 1) (show (1 : Int32) = nI 1 from rfl) (by omega)] at y2
      exact hbad (fun c => y2 c.2)
    · rw [bt_bi_n0] at y
      rw [bt_bi_n0, bt_in_c (k := 1) (show (1 : Int32) = nI 1 from rfl) (by omega)] at y2
      rw [if_pos ⟨y, y2⟩] at h
      obtain ⟨k, hk, rfl⟩ := bt_in_e y
      rw [bt_clm (by omega)] at h
      have hj : w 12 4 + bu_lf w ≤ w 12 0 := by unfold bu_lf; omega
      have hB := bu_B_le hw hj hk
      have hp := bu_10 (j := bu_lf w) (by unfold bu_lf; omega)
      refine ⟨w, bu_lf w, rfl, rfl, a1, by rw [h8]; congr 1; unfold bu_lf; omega, hj, fun N1 n1 n2 => ?_⟩
      refine ⟨w, bu_lf w, k, rfl, rfl, by omega, n1, ?_⟩
      refine ⟨_, _, rfl, n2, hp.1, by omega, by omega, ?_⟩
      rw [bu_B_X hw hj hk]
      exact h M N1 (fun _ _ => rfl) hI
  · cases hf
def bt_CX5_mean : bt_C := [(136, 1, 2, sX5_isCar), (51, 0, 3, sX5_within), (205, 1, 3, sX1_weightedTime), (201, 0, 3, sX5_lowest)]
def sX5_mean : bt_Sp := bt_spC f_mean
set_option maxRecDepth 100000 in
theorem mX5_mean : bt_MT bt_TX5_mean bt_FX5 bt_CX5_mean 3 5 sX5_mean := by
  intro as M N Rt h P hP
  obtain ⟨t, S, r, S', rfl, hI, hf, h⟩ := bt_spC_e h
  obtain ⟨w, im, u, z, q⟩ := S
  unfold f_mean at hf
  split at hf
  · next k x _ _ _ _ _ e =>
    cases e
    obtain ⟨rfl, rfl⟩ := bt_some hf
    have a1 := hI.1
    obtain ⟨hw, h8, h9, h10, h11, h12, h13, h14, h15, h16, h17, r1, r2, r3, r4, r5, r6, r7, r8⟩ := id a1
    obtain ⟨f1, f2, f3, f4, f5, f6, f7, f8, f9, f10, f11, f12, f13, f14, f15, f16, f17, f18⟩ := id hw
    have hbad : ¬ (bt_in k (w 12 1) ∧ bt_in x 2) → Rt (some (.long (-1))) M N := fun y => by
      rw [if_neg y] at h
      exact h M N (fun _ _ => rfl) hI
    refine bt_go0 rfl hP 80 ?_
    refine ⟨w 12 1, rfl, h12, f2, ⟨fun y => ?_, fun y => ⟨fun y2 => ?_, fun y2 => ?_⟩⟩⟩
    · rw [bt_bi_0] at y
      exact hbad (fun c => y c.1)
    rotate_left
    · rw [bt_bi_0, bt_in_c (k := 1) (show (1 : Int32) = nI 1 from rfl) (by omega)] at y2
      exact hbad (fun c => y2 c.2)
    · rw [bt_bi_n0] at y
      rw [bt_bi_n0, bt_in_c (k := 1) (show (1 : Int32) = nI 1 from rfl) (by omega)] at y2
      rw [if_pos ⟨y, y2⟩] at h
      obtain ⟨k, hk, rfl⟩ := bt_in_e y
      rw [bt_clm (by omega)] at h
      have hj : w 12 4 + bu_lf w ≤ w 12 0 := by unfold bu_lf; omega
      have hp := bu_10 (j := bu_lf w) (by unfold bu_lf; omega)
      have hT := bu_T_X hw hk (bu_lf w) hj
      have hb : bu_X w (bu_lf w) (fun s => bu_we w s 10 k) ≤ 648 * 10 ^ bu_lf w := bu_X_le hw (fun s _ => bu_we10 hw s k)
      have hT2 : bu_T w k (bu_lf w) = bu_X w (bu_lf w) (fun s => bu_we w s 10 k) := hT
      refine ⟨w, k, rfl, rfl, a1, rfl, hk, fun N1 n2 => ?_⟩
      refine ⟨bu_T w k (bu_lf w), _, rfl, n2, hp.1, by omega, ?_, ?_⟩
      · show 10 ^ bu_lf w < 2 ^ 62
        omega
      · rw [hT2]
        exact h M N1 (fun _ _ => rfl) hI
  · cases hf
def bt_CX5_row : bt_C := [(51, 0, 3, sX5_within), (189, 1, 3, sX1_spread), (193, 1, 2, sX1_weightOfGone), (201, 0, 3, sX5_lowest)]
def sX5_row : bt_Sp := bt_spC f_row
set_option maxRecDepth 100000 in
theorem mX5_row : bt_MT bt_TX5_row bt_FX5 bt_CX5_row 3 5 sX5_row := by
  intro as M N Rt h P hP
  obtain ⟨t, S, r, S', rfl, hI, hf, h⟩ := bt_spC_e h
  obtain ⟨w, im, u, z, q⟩ := S
  unfold f_row at hf
  split at hf
  · next x _ _ _ _ _ e =>
    cases e
    obtain ⟨rfl, rfl⟩ := bt_some hf
    have a1 := hI.1
    obtain ⟨hw, h8, h9, h10, h11, h12, h13, h14, h15, h16, h17, r1, r2, r3, r4, r5, r6, r7, r8⟩ := id a1
    obtain ⟨f1, f2, f3, f4, f5, f6, f7, f8, f9, f10, f11, f12, f13, f14, f15, f16, f17, f18⟩ := id hw
    have hj : w 12 4 + bu_lf w ≤ w 12 0 := by unfold bu_lf; omega
    have hp := bu_10 (j := bu_lf w) (by unfold bu_lf; omega)
    have hR := bu_R_X hw hj (w 12 1) (Nat.le_refl _)
    have hb : bu_X w (bu_lf w) (fun s => bt_ct1 (fun k => 1 - bu_we w s 11 k) (w 12 1)) ≤ 6 * 10 ^ bu_lf w := bu_X_le hw (fun s _ => by
      have := bt_ct1_le (f := fun k => 1 - bu_we w s 11 k) bt_b1_not (w 12 1)
      omega)
    have hR2 : bt_ct1 (fun k => 10 ^ bu_lf w - bu_B w (bu_lf w) k) (w 12 1) = bu_X w (bu_lf w) (fun s => bt_ct1 (fun k => 1 - bu_we w s 11 k) (w 12 1)) := hR
    refine bt_go rfl hP 80 [36] P (fun _ _ _ _ _ h => h) ?_
    refine ⟨fun y => ?_, fun y => ?_⟩
    · rw [bt_bi_n0, bt_in_c (k := 1) (show (1 : Int32) = nI 1 from rfl) (by omega)] at y
      rw [if_pos y] at h
      have loop : ∀ v pc L st M' N', (pc = 36 ∧ st = [] ∧ M' = M ∧ bu_nW N' w (bu_lf w) ∧ N' 64 2 = lN (10 ^ bu_lf w) ∧ ∃ k, k ≤ w 12 1 ∧ v = w 12 1 - k ∧ L = [some (.ref 0), some (.int x), some (.long (lN (bt_ct1 (fun k => 10 ^ bu_lf w - bu_B w (bu_lf w) k) k))), none, some (.int (nI k))]) → P pc L st M' N' := by
        refine bt_loop rfl hP 80 [36] (fun v pc L st M' N' => (pc = 36 ∧ st = [] ∧ M' = M ∧ bu_nW N' w (bu_lf w) ∧ N' 64 2 = lN (10 ^ bu_lf w) ∧ ∃ k, k ≤ w 12 1 ∧ v = w 12 1 - k ∧ L = [some (.ref 0), some (.int x), some (.long (lN (bt_ct1 (fun k => 10 ^ bu_lf w - bu_B w (bu_lf w) k) k))), none, some (.int (nI k))])) ?_
        rintro v pc L st M' N' ⟨rfl, rfl, hM, n1, n2, k, hk, rfl, rfl⟩
        subst hM
        refine ⟨fun y1 => ?_, fun y1 => ?_⟩
        · rw [h12, nI_leI (by omega) (by omega)] at y1
          have e : k = w 12 1 := by omega
          rw [e]
          refine ⟨bt_ct1 (fun k => 10 ^ bu_lf w - bu_B w (bu_lf w) k) (w 12 1), _, rfl, n2, hp.1, by omega, by omega, ?_⟩
          rw [hR2]
          exact h M' N' (fun _ _ => rfl) hI
        · rw [h12, nI_leI (by omega) (by omega)] at y1
          refine ⟨w, bu_lf w, k, rfl, rfl, by omega, n1, ?_⟩
          have e : lN (bt_ct1 (fun k => 10 ^ bu_lf w - bu_B w (bu_lf w) k) k) + (N' 64 2 - lN (bu_B w (bu_lf w) k)) = lN (bt_ct1 (fun k => 10 ^ bu_lf w - bu_B w (bu_lf w) k) (k + 1)) := by
            rw [n2, lN_sub (bu_B_le hw hj (by omega)), lN_add]
            rfl
          exact ⟨w 12 1 - (k + 1), by omega, rfl, rfl, rfl, n1, n2, k + 1, by omega, rfl, by rw [← e, nI_1]⟩
      refine ⟨w, bu_lf w, rfl, rfl, a1, by rw [h8]; congr 1; unfold bu_lf; omega, hj, fun N1 n1 n2 => ?_⟩
      exact loop _ _ _ _ _ _ ⟨rfl, rfl, rfl, n1, n2, 0, by omega, rfl, rfl⟩
    · rw [bt_bi_0, bt_in_c (k := 1) (show (1 : Int32) = nI 1 from rfl) (by omega)] at y
      rw [if_neg y] at h
      exact h M N (fun _ _ => rfl) hI
  · cases hf
def bt_CX5_where : bt_C := [(136, 1, 2, sX5_isCar), (107, 1, 2, sX5_isStretch), (51, 0, 3, sX5_within), (189, 1, 3, sX1_spread), (193, 1, 2, sX1_weightOfGone), (209, 1, 3, sX1_spreadOne), (201, 0, 3, sX5_lowest)]
def sX5_where : bt_Sp := bt_spC f_where
set_option maxRecDepth 100000 in
theorem mX5_where : bt_MT bt_TX5_where bt_FX5 bt_CX5_where 3 6 sX5_where := by
  intro as M N Rt h P hP
  obtain ⟨t, S, r, S', rfl, hI, hf, h⟩ := bt_spC_e h
  obtain ⟨w, im, u, z, q⟩ := S
  unfold f_where at hf
  split at hf
  · next k i x _ _ _ _ _ e =>
    cases e
    obtain ⟨rfl, rfl⟩ := bt_some hf
    have a1 := hI.1
    obtain ⟨hw, h8, h9, h10, h11, h12, h13, h14, h15, h16, h17, r1, r2, r3, r4, r5, r6, r7, r8⟩ := id a1
    obtain ⟨f1, f2, f3, f4, f5, f6, f7, f8, f9, f10, f11, f12, f13, f14, f15, f16, f17, f18⟩ := id hw
    have hbad : ¬ (bt_in k (w 12 1) ∧ (bt_in i (w 12 0) ∧ w 12 4 ≤ i.toNatClampNeg) ∧ bt_in x 2) → Rt (some (.long (-1))) M N := fun y => by
      rw [if_neg y] at h
      exact h M N (fun _ _ => rfl) hI
    refine bt_go0 rfl hP 80 ?_
    refine ⟨w 12 1, rfl, h12, f2, ⟨fun y => ?_, fun y => ?_⟩⟩
    · rw [bt_bi_0] at y
      exact hbad (fun c => y c.1)
    · rw [bt_bi_n0] at y
      refine ⟨w 12 0, rfl, h8, f1, ⟨fun y2 => ?_, fun y2 => ?_⟩⟩
      · rw [bt_bi_0] at y2
        exact hbad (fun c => y2 c.2.1.1)
      · rw [bt_bi_n0] at y2
        obtain ⟨i, hi, rfl⟩ := bt_in_e y2
        rw [bt_clm (by omega)] at h hbad
        refine ⟨fun y3 => ?_, fun y3 => ⟨fun y4 => ?_, fun y4 => ?_⟩⟩
        · rw [h16, nI_ltI (by omega) (by omega)] at y3
          exact hbad (fun c => by have := c.2.1.2; omega)
        · rw [h16, nI_ltI (by omega) (by omega)] at y3
          rw [bt_bi_n0, bt_in_c (k := 1) (show (1 : Int32) = nI 1 from rfl) (by omega)] at y4
          rw [if_pos ⟨y, ⟨y2, by omega⟩, y4⟩] at h
          obtain ⟨k, hk, rfl⟩ := bt_in_e y
          rw [bt_clm (by omega)] at h
          obtain ⟨j, rfl⟩ : ∃ j, i = w 12 4 + j := ⟨i - w 12 4, by omega⟩
          have hV := bu_V_X hw hk hi
          have hp := bu_10 (j := j + 1) (by omega)
          have hp2 := bu_10 (j := w 12 0 - w 12 4 - (j + 1)) (by omega)
          have hB1 := bu_B_le hw (j := j + 1) (k := k) (by omega) hk
          have hB0 : 10 * bu_B w j k ≤ bu_B w (j + 1) k := by
            rw [bu_B_X hw (by omega) hk, bu_B_X hw (by omega) hk, ← bu_X_10 hw (f := fun s => bt_dn w (bu_gf w s) j 11 k) (fun s _ => by rw [bu_D_low (fun p hp => bu_hb hp)])]
            refine bu_S_le (fun s _ => Nat.mul_le_mul_right _ ?_)
            show bt_dn w (bu_gf w s) j 11 k ≤ bt_dn w (bu_gf w s) (j + 1) 11 k
            rw [bu_dn11]
            omega
          refine ⟨w, j, rfl, rfl, a1, rfl, by omega, fun N1 n1 n2 => ?_⟩
          refine ⟨w, j, k, rfl, rfl, by omega, n1, ?_⟩
          refine ⟨w, j, rfl, rfl, a1, rfl, hi, n1, n2, fun N2 n3 n4 => ?_⟩
          refine ⟨w, j + 1, k, rfl, rfl, by omega, n3, ?_⟩
          have e : lN (bu_B w (j + 1) k) - (10 : Int64) * lN (bu_B w j k) = lN (bu_B w (j + 1) k - 10 * bu_B w j k) := by
            rw [show (10 : Int64) = lN 10 from rfl, lN_mul, lN_sub hB0]
          refine ⟨bu_B w (j + 1) k - 10 * bu_B w j k, _, e, n4, hp.1, by omega, by omega, ?_⟩
          have e2 : bt_lw (bu_B w (j + 1) k - 10 * bu_B w j k) (10 ^ (j + 1)) x = bt_lw (bu_X w (bu_lf w) (fun s => if bu_wr w s k (bu_lf w) = nI (w 12 4 + j) then 1 else 0)) (10 ^ bu_lf w) x := by
            unfold bu_lf
            rw [hV, show 10 ^ (w 12 0 - w 12 4) = 10 ^ (w 12 0 - w 12 4 - (j + 1)) * 10 ^ (j + 1) by rw [← Nat.pow_add]; congr 1; omega, bu_lw_c x hp2.1]
          rw [e2]
          exact h M N2 (fun _ _ => rfl) hI
        · rw [bt_bi_0, bt_in_c (k := 1) (show (1 : Int32) = nI 1 from rfl) (by omega)] at y4
          exact hbad (fun c => y4 c.2.2)
  · cases hf
