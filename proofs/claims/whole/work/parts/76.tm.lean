/-! THE TEXT: the model's lines, the rest of one -/
theorem bv_frs_n {M : bt_M} {z : Nat → Nat} {n a b : Nat} (hk : bv_tk z n (bv_nx z n a) = .inr b) (hS : bv_mS M z n (.inr b)) : bv_nx z n a ≤ n := by
  have h1 := (bv_tk_r hk).1
  have h2 : b ≤ n := hS.2.1
  have h3 := (bv_rn_b (z := z) (n := n) (c := bv_c0) (n - bv_nx z n a) (bv_nx z n a)).1
  unfold bv_r at h1
  omega
def bt_CX6_readMore : bt_C := [(93, 1, 3, sX6_number), (110, 1, 1, sX6_readCar), (113, 1, 2, sX6_fresh)]
def sX6_readMore : bt_Sp := fun as M N K => match as with
  | [.ref c, .int nm] => ∃ z n a b Q nm', c = 67 ∧ nm = nI nm' ∧ nm' ≤ 6 ∧ bv_mT M z n ∧ bv_mL M ∧ bv_tk z n (bv_nx z n a) = .inr b ∧ bv_mS M z n (.inr b) ∧ bv_ok Q ∧ bv_mQ M Q ∧ (nm' = 0 → Q.1 12 0 < 8) ∧ (nm' = 6 → Q.1 12 1 < 6) ∧ (nm' = 5 → Q.2.2.1 = 0) ∧ ∀ M', bv_hr M M' → bv_Rd z n (bv_bodyI z n a nm' Q) M' → K none M' N
  | _ => False
set_option maxRecDepth 100000 in
set_option maxHeartbeats 2000000 in
theorem mX6_readMore : bt_MT bt_TX6_readMore bt_FX6 bt_CX6_readMore 0 3 sX6_readMore := by
  intro as M N Rt h P hP
  unfold sX6_readMore at h
  split at h
  · obtain ⟨z, n, a, b, Q, nm, rfl, rfl, hnm, hT, hL, hk, hS, hok, hQ, c0, c6, c5, h⟩ := h
    obtain ⟨q1, q2, q3, q4, q5, q6, q7, q8, q9, q10, q11, q12, q13, q14, q15⟩ := id hQ
    obtain ⟨o1, o2, o3, o4, o5, o6, o7, o8, o9, o10⟩ := id hok
    have b4 : bt_b1 (Q.1 4) := o1.2.2.2.2.2.2.2.2.2.2.1
    have b5 : bt_b1 (Q.1 5) := o1.2.2.2.2.2.2.2.2.2.2.2.1
    have b6 : bt_b1 (Q.1 6) := o1.2.2.2.2.2.2.2.2.2.2.2.2.1
    have hR8 := o1.1
    have hC6 := o1.2.1
    refine bt_go0 rfl hP 100 ?_
    rcases (show nm = 0 ∨ nm = 1 ∨ nm = 2 ∨ nm = 3 ∨ nm = 4 ∨ nm = 5 ∨ nm = 6 by omega) with rfl | rfl | rfl | rfl | rfl | rfl | rfl
    · -- a road
      have hR := c0 rfl
      have hat : (7 : Int32) * M 67 4 = nI (7 * Q.1 12 0) := by rw [q1, show (7 : Int32) = nI 7 from rfl, pk_mul]
      refine ⟨fun y => absurd rfl y, fun _ => ?_⟩
      refine ⟨z, n, .inr b, 1, 9, rfl, rfl, rfl, by omega, by omega, hT, hS, fun M1 g1 hS1 => ?_⟩
      have r1 := bv_hr_gr g1
      refine ⟨_, rfl, 7 * Q.1 12 0, hat, by omega, ?_⟩
      intro M2 e2
      obtain ⟨u1, u2, u3⟩ := bv_up e2
      have r2 := bv_hr_tr r1 (bv_hr_69 e2)
      have hS2 := bv_mS_c (M' := M2) hS1 (fun g _ _ => by rw [u1 67 (by omega)])
      have m4 : M2 67 4 = M 67 4 := by rw [u1 67 (by omega), g1.2 4 (by omega)]
      refine ⟨z, n, _, 0, 9, rfl, rfl, rfl, by omega, by omega, bv_mT_hr hT r2, hS2, fun M3 g3 hS3 => ?_⟩
      have r3 := bv_hr_tr r2 (bv_hr_gr g3)
      refine ⟨_, rfl, 7 * Q.1 12 0 + 1, by rw [m4, hat, nI_1], by omega, ?_⟩
      intro M4 e4
      obtain ⟨v1, v2, v3⟩ := bv_up e4
      have r4 := bv_hr_tr r3 (bv_hr_69 e4)
      have hS4 := bv_mS_c (M' := M4) hS3 (fun g _ _ => by rw [v1 67 (by omega)])
      have m44 : M4 67 4 = M 67 4 := by rw [v1 67 (by omega), g3.2 4 (by omega)]; exact m4
      refine ⟨z, n, _, 0, 9, rfl, rfl, rfl, by omega, by omega, bv_mT_hr hT r4, hS4, fun M5 g5 hS5 => ?_⟩
      have r5 := bv_hr_tr r4 (bv_hr_gr g5)
      refine ⟨_, rfl, 7 * Q.1 12 0 + 2, by rw [m44, hat, show (2 : Int32) = nI 2 from rfl, nI_add], by omega, ?_⟩
      intro M6 e6 M7 e7
      obtain ⟨w1, w2, w3⟩ := bv_up e6
      obtain ⟨x1, x2, x3⟩ := bv_up e7
      have r7 := bv_hr_tr (bv_hr_tr r5 (bv_hr_69 e6)) (bv_hr_67 (by omega) e7)
      refine h M7 r7 ?_
      have hS7 := bv_mS_c (M' := M7) hS5 (fun g _ _ => by rw [x3 g (by omega), w1 67 (by omega)])
      show bv_Rd z n (bv_road z n a Q) M7
      unfold bv_road
      rw [if_neg (by omega)]
      rw [← hk, bv_mn_num] at hS7 e2 e4 e6
      cases k1 : bv_num z n 1 9 (bv_nx z n a) with
      | inl e =>
        rw [k1] at hS7
        exact hS7
      | inr p1 =>
        rw [k1] at hS7 e2 e4 e6
        dsimp only at hS7 e2 e4 e6
        rw [bv_bn]
        rw [bv_mn_num] at hS7 e4 e6
        cases k2 : bv_num z n 0 9 p1.1 with
        | inl e =>
          rw [k2] at hS7
          exact hS7
        | inr p2 =>
          rw [k2] at hS7 e4 e6
          dsimp only at hS7 e4 e6
          rw [bv_bn]
          rw [bv_mn_num] at hS7 e6
          cases k3 : bv_num z n 0 9 p2.1 with
          | inl e =>
            rw [k3] at hS7
            exact hS7
          | inr p3 =>
            rw [k3] at hS7 e6
            dsimp only at hS7 e6
            rw [bv_bn]
            refine ⟨hS7, ?_⟩
            obtain ⟨u1, u2, u3⟩ := bv_up e2
            obtain ⟨v1, v2, v3⟩ := bv_up e4
            obtain ⟨w1, w2, w3⟩ := bv_up e6
            show bv_mQ M7 (bt_w1 (bt_w1 (bt_w1 (bt_w1 Q.1 0 (Q.1 12 0) p1.2) 1 (Q.1 12 0) p2.2) 2 (Q.1 12 0) p3.2) 12 0 (Q.1 12 0 + 1), Q.2)
            have d69 : ∀ i : Nat, i ≠ 7 * Q.1 12 0 → i ≠ 7 * Q.1 12 0 + 1 → i ≠ 7 * Q.1 12 0 + 2 → M7 69 i = M 69 i := fun i i1 i2 i3 => by
              rw [x1 69 (by omega), w3 i i3, g5.1 69 (by omega), v3 i i2, g3.1 69 (by omega), u3 i i1, g1.1 69 (by omega)]
            have d0 : M7 69 (7 * Q.1 12 0) = nI p1.2 := by
              rw [x1 69 (by omega), w3 _ (by omega), g5.1 69 (by omega), v3 _ (by omega), g3.1 69 (by omega), u2]
            have d1 : M7 69 (7 * Q.1 12 0 + 1) = nI p2.2 := by
              rw [x1 69 (by omega), w3 _ (by omega), g5.1 69 (by omega), v2]
            have d2 : M7 69 (7 * Q.1 12 0 + 2) = nI p3.2 := by
              rw [x1 69 (by omega), w2]
            have d70 : M7 70 = M 70 := by
              rw [x1 70 (by omega), w1 70 (by omega), g5.1 70 (by omega), v1 70 (by omega), g3.1 70 (by omega), u1 70 (by omega), g1.1 70 (by omega)]
            have d67 : ∀ g : Nat, g < 12 → M6 67 g = M 67 g := fun g hg => by
              rw [w1 67 (by omega), g5.2 g (by omega), v1 67 (by omega), g3.2 g (by omega), u1 67 (by omega), g1.2 g (by omega)]
            generalize hw' : bt_w1 (bt_w1 (bt_w1 (bt_w1 Q.1 0 (Q.1 12 0) p1.2) 1 (Q.1 12 0) p2.2) 2 (Q.1 12 0) p3.2) 12 0 (Q.1 12 0 + 1) = w'
            have t12 : ∀ k, w' 12 k = if k = 0 then Q.1 12 0 + 1 else Q.1 12 k := fun k => by
              rw [← hw', bt_w1_s]
              by_cases c : k = 0
              · rw [if_pos c, if_pos c]
              · rw [if_neg c, if_neg c, bt_w1_n (by omega), bt_w1_n (by omega), bt_w1_n (by omega)]
            have t0 : ∀ k, w' 0 k = if k = Q.1 12 0 then p1.2 else Q.1 0 k := fun k => by
              rw [← hw', bt_w1_n (by omega), bt_w1_n (by omega), bt_w1_n (by omega), bt_w1_s]
            have t1 : ∀ k, w' 1 k = if k = Q.1 12 0 then p2.2 else Q.1 1 k := fun k => by
              rw [← hw', bt_w1_n (by omega), bt_w1_n (by omega), bt_w1_s, bt_w1_n (by omega)]
            have t2 : ∀ k, w' 2 k = if k = Q.1 12 0 then p3.2 else Q.1 2 k := fun k => by
              rw [← hw', bt_w1_n (by omega), bt_w1_s, bt_w1_n (by omega), bt_w1_n (by omega)]
            have tf : ∀ f, f ≠ 0 → f ≠ 1 → f ≠ 2 → f ≠ 12 → w' f = Q.1 f := fun f f0 f1 f2 f3 => by
              rw [← hw', bt_w1_n f3, bt_w1_n f2, bt_w1_n f1, bt_w1_n f0]
            unfold bv_mQ
            dsimp only
            rw [t12 0, t12 1, t12 2, t12 3, if_pos rfl, if_neg (by omega), if_neg (by omega), if_neg (by omega), tf 3 (by omega) (by omega) (by omega) (by omega), tf 4 (by omega) (by omega) (by omega) (by omega), tf 5 (by omega) (by omega) (by omega) (by omega), tf 6 (by omega) (by omega) (by omega) (by omega), tf 7 (by omega) (by omega) (by omega) (by omega), tf 8 (by omega) (by omega) (by omega) (by omega), tf 9 (by omega) (by omega) (by omega) (by omega), d70]
            refine ⟨?_, ?_, ?_, ?_, ?_, ?_, ?_, ?_, ?_, ?_, ?_, q12, q13, q14, q15⟩
            · rw [x2, d67 4 (by omega), q1, nI_1]
            · rw [x3 5 (by omega), d67 5 (by omega)]; exact q2
            · rw [x3 8 (by omega), d67 8 (by omega)]; exact q3
            · intro i hi
              rw [t0, t1, t2]
              by_cases c : i = Q.1 12 0
              · rw [if_pos c, if_pos c, if_pos c, c]
                exact ⟨d0, d1, d2⟩
              · rw [if_neg c, if_neg c, if_neg c, d69 (7 * i) (by omega) (by omega) (by omega), d69 (7 * i + 1) (by omega) (by omega) (by omega), d69 (7 * i + 2) (by omega) (by omega) (by omega)]
                exact q4 i (by omega)
            · intro i hi
              rw [d69 (7 * i + 3) (by omega) (by omega) (by omega), d69 (7 * i + 4) (by omega) (by omega) (by omega), d69 (7 * i + 5) (by omega) (by omega) (by omega), d69 (7 * i + 6) (by omega) (by omega) (by omega)]; exact q5 i hi
            · rw [d69 56 (by omega) (by omega) (by omega)]; exact q6
            · rw [d69 57 (by omega) (by omega) (by omega)]; exact q7
            · intro k hk
              rw [d69 (58 + 5 * k) (by omega) (by omega) (by omega), d69 (58 + 5 * k + 1) (by omega) (by omega) (by omega), d69 (58 + 5 * k + 2) (by omega) (by omega) (by omega)]; exact q8 k hk
            · intro k hk
              rw [d69 (58 + 5 * k + 3) (by omega) (by omega) (by omega), d69 (58 + 5 * k + 4) (by omega) (by omega) (by omega)]; exact q9 k hk
            · rw [d69 88 (by omega) (by omega) (by omega)]; exact q10
            · rw [d69 89 (by omega) (by omega) (by omega)]; exact q11
    · -- a mark, 4
      refine ⟨fun _ => ?_, fun y => absurd y (by decide)⟩
      refine ⟨fun _ => ?_, fun y => absurd y (by decide)⟩
      refine ⟨fun _ => ?_, fun y => absurd y (by decide)⟩
      refine ⟨fun _ => ?_, fun y => absurd y (by decide)⟩
      refine ⟨z, n, .inr b, Q.1 4, 1, Q.2.2.2, rfl, rfl, by omega, b4, q12, q3, o8, hT, hS, fun M1 g1 hS1 m70 m8 => ?_⟩
      have hv7 : (bv_mf z n (Q.1 4) (.inr b)).2 ≤ 7 := by
        unfold bv_mf
        dsimp only
        split
        · exact Nat.zero_le _
        · exact bv_mn_7 z n _
      have r1 : bv_hr M M1 := ⟨fun x x1 _ x3 => g1.1 x x1 x3, fun g _ _ g8 hg => g1.2.1 g hg g8⟩
      refine ⟨fun y => absurd rfl y, fun _ => ?_⟩
      refine ⟨_, rfl, 7 * (bv_mf z n (Q.1 4) (.inr b)).2 + 4, by simp only [bt_lit, pk_mul, nI_add], by omega, ?_⟩
      intro M2 e2
      have r2 := bv_hr_tr r1 (bv_hr_69 e2)
      refine h M2 r2 ?_
      obtain ⟨u1, u2, u3⟩ := bv_up e2
      have hS2 := bv_mS_c (M' := M2) hS1 (fun g _ _ => by rw [u1 67 (by omega)])
      show bv_Rd z n (bv_mark z n a 4 Q) M2
      unfold bv_mark
      rw [← hk, bv_mf_frs] at hS2 m70 m8 u2 u3
      cases k1 : bv_frs z n (Q.1 4) (bv_nx z n a) with
      | inl e =>
        rw [k1] at hS2
        exact hS2
      | inr p1 =>
        rw [k1] at hS2 m70 m8 u2 u3
        dsimp only at hS2 m70 m8 u2 u3
        rw [bv_bn]
        refine ⟨hS2, ?_⟩
        have tf : ∀ g, g ≠ 4 → bt_w1 Q.1 4 p1.2 1 g = Q.1 g := fun g hg => bt_w1_n hg
        have ts : bt_w1 Q.1 4 p1.2 1 4 = bv_u1 (Q.1 4) p1.2 := by
          funext k
          rw [bt_w1_s]
          rfl
        have d69 : ∀ i : Nat, i ≠ 7 * p1.2 + 4 → M2 69 i = M 69 i := fun i hi => by rw [u3 i hi, g1.1 69 (by omega) (by omega)]
        have d70 : ∀ j : Nat, j ≠ 1 → M2 70 j = M 70 j := fun j hj => by rw [u1 70 (by omega), g1.2.2 j hj]
        have m70' : M2 70 1 = nI (bt_mk (bv_u1 (Q.1 4) p1.2) 8) := by rw [u1 70 (by omega)]; exact m70
        have hp7 : p1.2 ≤ 7 := (bv_frs_r (bv_frs_n hk hS) k1).2.2.1
        have dm : ∀ i, i < 8 → M2 69 (7 * i + 4) = nI (bv_u1 (Q.1 4) p1.2 i) := fun i hi => by
          unfold bv_u1
          by_cases c : i = p1.2
          · rw [if_pos c, c, u2]; rfl
          · rw [if_neg c, d69 (7 * i + 4) (by omega)]; exact (q5 i hi).2.1
        unfold bv_mQ
        dsimp only
        rw [ts, tf 0 (by omega), tf 1 (by omega), tf 2 (by omega), tf 3 (by omega), tf 5 (by omega), tf 6 (by omega), tf 7 (by omega), tf 8 (by omega), tf 9 (by omega), tf 12 (by omega)]
        refine ⟨?_, ?_, by rw [u1 67 (by omega)]; exact m8, ?_, ?_, ?_, ?_, ?_, ?_, ?_, ?_, m70', by rw [d70 2 (by omega)]; exact q13, by rw [d70 3 (by omega)]; exact q14, by rw [d70 4 (by omega)]; exact q15⟩
        · rw [u1 67 (by omega), g1.2.1 4 (by omega) (by omega)]; exact q1
        · rw [u1 67 (by omega), g1.2.1 5 (by omega) (by omega)]; exact q2
        · intro i hi
          rw [d69 (7 * i) (by omega), d69 (7 * i + 1) (by omega), d69 (7 * i + 2) (by omega)]; exact q4 i hi
        · intro i hi
          exact ⟨by rw [d69 (7 * i + 3) (by omega)]; exact (q5 i hi).1, dm i hi, by rw [d69 (7 * i + 5) (by omega)]; exact (q5 i hi).2.2.1, by rw [d69 (7 * i + 6) (by omega)]; exact (q5 i hi).2.2.2⟩
        · rw [d69 56 (by omega)]; exact q6
        · rw [d69 57 (by omega)]; exact q7
        · intro k hk
          rw [d69 (58 + 5 * k) (by omega), d69 (58 + 5 * k + 1) (by omega), d69 (58 + 5 * k + 2) (by omega)]; exact q8 k hk
        · intro k hk
          rw [d69 (58 + 5 * k + 3) (by omega), d69 (58 + 5 * k + 4) (by omega)]; exact q9 k hk
        · rw [d69 88 (by omega)]; exact q10
        · rw [d69 89 (by omega)]; exact q11
    · -- odds
      refine ⟨fun _ => ?_, fun y => absurd y (by decide)⟩
      refine ⟨fun _ => ?_, fun y => absurd y (by decide)⟩
      refine ⟨fun _ => ?_, fun y => absurd y (by decide)⟩
      refine ⟨fun y => absurd rfl y, fun _ => ?_⟩
      refine ⟨z, n, .inr b, Q.2.1, 2, Q.2.2.2, rfl, rfl, by omega, o6, q13, q3, o8, hT, hS, fun M1 g1 hS1 m70 m8 => ?_⟩
      have hv7 : (bv_mf z n (Q.2.1) (.inr b)).2 ≤ 7 := by
        unfold bv_mf
        dsimp only
        split
        · exact Nat.zero_le _
        · exact bv_mn_7 z n _
      have r1 : bv_hr M M1 := ⟨fun x x1 _ x3 => g1.1 x x1 x3, fun g _ _ g8 hg => g1.2.1 g hg g8⟩
      refine ⟨z, n, _, 0, 10, rfl, rfl, rfl, by omega, by omega, bv_mT_hr hT r1, hS1, fun M2 g2 hS2 => ?_⟩
      have r2 := bv_hr_tr r1 (bv_hr_gr g2)
      refine ⟨_, rfl, 7 * (bv_mf z n (Q.2.1) (.inr b)).2 + 3, by simp only [bt_lit, pk_mul, nI_add], by omega, ?_⟩
      intro M3 e3
      have r3 := bv_hr_tr r2 (bv_hr_69 e3)
      refine h M3 r3 ?_
      obtain ⟨u1, u2, u3⟩ := bv_up e3
      have hS3 := bv_mS_c (M' := M3) hS2 (fun g _ _ => by rw [u1 67 (by omega)])
      show bv_Rd z n (bv_odds z n a Q) M3
      unfold bv_odds
      rw [← hk, bv_mf_frs] at hS3 m70 m8 u2 u3
      cases k1 : bv_frs z n (Q.2.1) (bv_nx z n a) with
      | inl e =>
        rw [k1] at hS3
        exact hS3
      | inr p1 =>
        rw [k1] at hS3 m70 m8 u2 u3
        dsimp only at hS3 m70 m8 u2 u3
        rw [bv_bn]
        rw [bv_mn_num] at hS3 u2
        cases k2 : bv_num z n 0 10 p1.1 with
        | inl e =>
          rw [k2] at hS3
          exact hS3
        | inr p2 =>
          rw [k2] at hS3 u2
          dsimp only at hS3 u2
          rw [bv_bn]
          refine ⟨hS3, ?_⟩
          have tf : ∀ g, g ≠ 3 → bt_w1 Q.1 3 p1.2 p2.2 g = Q.1 g := fun g hg => bt_w1_n hg
          have d69 : ∀ i : Nat, i ≠ 7 * p1.2 + 3 → M3 69 i = M 69 i := fun i hi => by rw [u3 i hi, g2.1 69 (by omega), g1.1 69 (by omega) (by omega)]
          have d70 : ∀ j : Nat, j ≠ 2 → M3 70 j = M 70 j := fun j hj => by rw [u1 70 (by omega), g2.1 70 (by omega), g1.2.2 j hj]
          have m70' : M3 70 2 = nI (bt_mk (bv_u1 (Q.2.1) p1.2) 8) := by rw [u1 70 (by omega), g2.1 70 (by omega)]; exact m70
          have hp7 : p1.2 ≤ 7 := (bv_frs_r (bv_frs_n hk hS) k1).2.2.1
          unfold bv_mQ
          dsimp only
          rw [tf 0 (by omega), tf 1 (by omega), tf 2 (by omega), tf 4 (by omega), tf 5 (by omega), tf 6 (by omega), tf 7 (by omega), tf 8 (by omega), tf 9 (by omega), tf 12 (by omega)]
          refine ⟨?_, ?_, by rw [u1 67 (by omega), g2.2 8 (by omega)]; exact m8, ?_, ?_, ?_, ?_, ?_, ?_, ?_, ?_, by rw [d70 1 (by omega)]; exact q12, m70', by rw [d70 3 (by omega)]; exact q14, by rw [d70 4 (by omega)]; exact q15⟩
          · rw [u1 67 (by omega), g2.2 4 (by omega), g1.2.1 4 (by omega) (by omega)]; exact q1
          · rw [u1 67 (by omega), g2.2 5 (by omega), g1.2.1 5 (by omega) (by omega)]; exact q2
          · intro i hi
            rw [d69 (7 * i) (by omega), d69 (7 * i + 1) (by omega), d69 (7 * i + 2) (by omega)]; exact q4 i hi
          · intro i hi
            refine ⟨?_, by rw [d69 (7 * i + 4) (by omega)]; exact (q5 i hi).2.1, by rw [d69 (7 * i + 5) (by omega)]; exact (q5 i hi).2.2.1, by rw [d69 (7 * i + 6) (by omega)]; exact (q5 i hi).2.2.2⟩
            rw [bt_w1_s]
            by_cases c : i = p1.2
            · rw [if_pos c, c, u2]
            · rw [if_neg c, d69 (7 * i + 3) (by omega)]; exact (q5 i hi).1
          · rw [d69 56 (by omega)]; exact q6
          · rw [d69 57 (by omega)]; exact q7
          · intro k hk
            rw [d69 (58 + 5 * k) (by omega), d69 (58 + 5 * k + 1) (by omega), d69 (58 + 5 * k + 2) (by omega)]; exact q8 k hk
          · intro k hk
            rw [d69 (58 + 5 * k + 3) (by omega), d69 (58 + 5 * k + 4) (by omega)]; exact q9 k hk
          · rw [d69 88 (by omega)]; exact q10
          · rw [d69 89 (by omega)]; exact q11
    · -- a mark, 5
      refine ⟨fun _ => ?_, fun y => absurd y (by decide)⟩
      refine ⟨fun _ => ?_, fun y => absurd y (by decide)⟩
      refine ⟨fun _ => ?_, fun y => absurd y (by decide)⟩
      refine ⟨fun _ => ?_, fun y => absurd y (by decide)⟩
      refine ⟨z, n, .inr b, Q.1 5, 3, Q.2.2.2, rfl, rfl, by omega, b5, q14, q3, o8, hT, hS, fun M1 g1 hS1 m70 m8 => ?_⟩
      have hv7 : (bv_mf z n (Q.1 5) (.inr b)).2 ≤ 7 := by
        unfold bv_mf
        dsimp only
        split
        · exact Nat.zero_le _
        · exact bv_mn_7 z n _
      have r1 : bv_hr M M1 := ⟨fun x x1 _ x3 => g1.1 x x1 x3, fun g _ _ g8 hg => g1.2.1 g hg g8⟩
      refine ⟨fun _ => ?_, fun y => absurd y (by decide)⟩
      refine ⟨fun y => absurd rfl y, fun _ => ?_⟩
      refine ⟨_, rfl, 7 * (bv_mf z n (Q.1 5) (.inr b)).2 + 5, by simp only [bt_lit, pk_mul, nI_add], by omega, ?_⟩
      intro M2 e2
      have r2 := bv_hr_tr r1 (bv_hr_69 e2)
      refine h M2 r2 ?_
      obtain ⟨u1, u2, u3⟩ := bv_up e2
      have hS2 := bv_mS_c (M' := M2) hS1 (fun g _ _ => by rw [u1 67 (by omega)])
      show bv_Rd z n (bv_mark z n a 5 Q) M2
      unfold bv_mark
      rw [← hk, bv_mf_frs] at hS2 m70 m8 u2 u3
      cases k1 : bv_frs z n (Q.1 5) (bv_nx z n a) with
      | inl e =>
        rw [k1] at hS2
        exact hS2
      | inr p1 =>
        rw [k1] at hS2 m70 m8 u2 u3
        dsimp only at hS2 m70 m8 u2 u3
        rw [bv_bn]
        refine ⟨hS2, ?_⟩
        have tf : ∀ g, g ≠ 5 → bt_w1 Q.1 5 p1.2 1 g = Q.1 g := fun g hg => bt_w1_n hg
        have ts : bt_w1 Q.1 5 p1.2 1 5 = bv_u1 (Q.1 5) p1.2 := by
          funext k
          rw [bt_w1_s]
          rfl
        have d69 : ∀ i : Nat, i ≠ 7 * p1.2 + 5 → M2 69 i = M 69 i := fun i hi => by rw [u3 i hi, g1.1 69 (by omega) (by omega)]
        have d70 : ∀ j : Nat, j ≠ 3 → M2 70 j = M 70 j := fun j hj => by rw [u1 70 (by omega), g1.2.2 j hj]
        have m70' : M2 70 3 = nI (bt_mk (bv_u1 (Q.1 5) p1.2) 8) := by rw [u1 70 (by omega)]; exact m70
        have hp7 : p1.2 ≤ 7 := (bv_frs_r (bv_frs_n hk hS) k1).2.2.1
        have dm : ∀ i, i < 8 → M2 69 (7 * i + 5) = nI (bv_u1 (Q.1 5) p1.2 i) := fun i hi => by
          unfold bv_u1
          by_cases c : i = p1.2
          · rw [if_pos c, c, u2]; rfl
          · rw [if_neg c, d69 (7 * i + 5) (by omega)]; exact (q5 i hi).2.2.1
        unfold bv_mQ
        dsimp only
        rw [ts, tf 0 (by omega), tf 1 (by omega), tf 2 (by omega), tf 3 (by omega), tf 4 (by omega), tf 6 (by omega), tf 7 (by omega), tf 8 (by omega), tf 9 (by omega), tf 12 (by omega)]
        refine ⟨?_, ?_, by rw [u1 67 (by omega)]; exact m8, ?_, ?_, ?_, ?_, ?_, ?_, ?_, ?_, by rw [d70 1 (by omega)]; exact q12, by rw [d70 2 (by omega)]; exact q13, m70', by rw [d70 4 (by omega)]; exact q15⟩
        · rw [u1 67 (by omega), g1.2.1 4 (by omega) (by omega)]; exact q1
        · rw [u1 67 (by omega), g1.2.1 5 (by omega) (by omega)]; exact q2
        · intro i hi
          rw [d69 (7 * i) (by omega), d69 (7 * i + 1) (by omega), d69 (7 * i + 2) (by omega)]; exact q4 i hi
        · intro i hi
          exact ⟨by rw [d69 (7 * i + 3) (by omega)]; exact (q5 i hi).1, by rw [d69 (7 * i + 4) (by omega)]; exact (q5 i hi).2.1, dm i hi, by rw [d69 (7 * i + 6) (by omega)]; exact (q5 i hi).2.2.2⟩
        · rw [d69 56 (by omega)]; exact q6
        · rw [d69 57 (by omega)]; exact q7
        · intro k hk
          rw [d69 (58 + 5 * k) (by omega), d69 (58 + 5 * k + 1) (by omega), d69 (58 + 5 * k + 2) (by omega)]; exact q8 k hk
        · intro k hk
          rw [d69 (58 + 5 * k + 3) (by omega), d69 (58 + 5 * k + 4) (by omega)]; exact q9 k hk
        · rw [d69 88 (by omega)]; exact q10
        · rw [d69 89 (by omega)]; exact q11
    · -- a mark, 6
      refine ⟨fun _ => ?_, fun y => absurd y (by decide)⟩
      refine ⟨fun _ => ?_, fun y => absurd y (by decide)⟩
      refine ⟨fun _ => ?_, fun y => absurd y (by decide)⟩
      refine ⟨fun _ => ?_, fun y => absurd y (by decide)⟩
      refine ⟨z, n, .inr b, Q.1 6, 4, Q.2.2.2, rfl, rfl, by omega, b6, q15, q3, o8, hT, hS, fun M1 g1 hS1 m70 m8 => ?_⟩
      have hv7 : (bv_mf z n (Q.1 6) (.inr b)).2 ≤ 7 := by
        unfold bv_mf
        dsimp only
        split
        · exact Nat.zero_le _
        · exact bv_mn_7 z n _
      have r1 : bv_hr M M1 := ⟨fun x x1 _ x3 => g1.1 x x1 x3, fun g _ _ g8 hg => g1.2.1 g hg g8⟩
      refine ⟨fun _ => ?_, fun y => absurd y (by decide)⟩
      refine ⟨fun _ => ?_, fun y => absurd y (by decide)⟩
      refine ⟨_, rfl, 7 * (bv_mf z n (Q.1 6) (.inr b)).2 + 6, by simp only [bt_lit, pk_mul, nI_add], by omega, ?_⟩
      intro M2 e2
      have r2 := bv_hr_tr r1 (bv_hr_69 e2)
      refine h M2 r2 ?_
      obtain ⟨u1, u2, u3⟩ := bv_up e2
      have hS2 := bv_mS_c (M' := M2) hS1 (fun g _ _ => by rw [u1 67 (by omega)])
      show bv_Rd z n (bv_mark z n a 6 Q) M2
      unfold bv_mark
      rw [← hk, bv_mf_frs] at hS2 m70 m8 u2 u3
      cases k1 : bv_frs z n (Q.1 6) (bv_nx z n a) with
      | inl e =>
        rw [k1] at hS2
        exact hS2
      | inr p1 =>
        rw [k1] at hS2 m70 m8 u2 u3
        dsimp only at hS2 m70 m8 u2 u3
        rw [bv_bn]
        refine ⟨hS2, ?_⟩
        have tf : ∀ g, g ≠ 6 → bt_w1 Q.1 6 p1.2 1 g = Q.1 g := fun g hg => bt_w1_n hg
        have ts : bt_w1 Q.1 6 p1.2 1 6 = bv_u1 (Q.1 6) p1.2 := by
          funext k
          rw [bt_w1_s]
          rfl
        have d69 : ∀ i : Nat, i ≠ 7 * p1.2 + 6 → M2 69 i = M 69 i := fun i hi => by rw [u3 i hi, g1.1 69 (by omega) (by omega)]
        have d70 : ∀ j : Nat, j ≠ 4 → M2 70 j = M 70 j := fun j hj => by rw [u1 70 (by omega), g1.2.2 j hj]
        have m70' : M2 70 4 = nI (bt_mk (bv_u1 (Q.1 6) p1.2) 8) := by rw [u1 70 (by omega)]; exact m70
        have hp7 : p1.2 ≤ 7 := (bv_frs_r (bv_frs_n hk hS) k1).2.2.1
        have dm : ∀ i, i < 8 → M2 69 (7 * i + 6) = nI (bv_u1 (Q.1 6) p1.2 i) := fun i hi => by
          unfold bv_u1
          by_cases c : i = p1.2
          · rw [if_pos c, c, u2]; rfl
          · rw [if_neg c, d69 (7 * i + 6) (by omega)]; exact (q5 i hi).2.2.2
        unfold bv_mQ
        dsimp only
        rw [ts, tf 0 (by omega), tf 1 (by omega), tf 2 (by omega), tf 3 (by omega), tf 4 (by omega), tf 5 (by omega), tf 7 (by omega), tf 8 (by omega), tf 9 (by omega), tf 12 (by omega)]
        refine ⟨?_, ?_, by rw [u1 67 (by omega)]; exact m8, ?_, ?_, ?_, ?_, ?_, ?_, ?_, ?_, by rw [d70 1 (by omega)]; exact q12, by rw [d70 2 (by omega)]; exact q13, by rw [d70 3 (by omega)]; exact q14, m70'⟩
        · rw [u1 67 (by omega), g1.2.1 4 (by omega) (by omega)]; exact q1
        · rw [u1 67 (by omega), g1.2.1 5 (by omega) (by omega)]; exact q2
        · intro i hi
          rw [d69 (7 * i) (by omega), d69 (7 * i + 1) (by omega), d69 (7 * i + 2) (by omega)]; exact q4 i hi
        · intro i hi
          exact ⟨by rw [d69 (7 * i + 3) (by omega)]; exact (q5 i hi).1, by rw [d69 (7 * i + 4) (by omega)]; exact (q5 i hi).2.1, by rw [d69 (7 * i + 5) (by omega)]; exact (q5 i hi).2.2.1, dm i hi⟩
        · rw [d69 56 (by omega)]; exact q6
        · rw [d69 57 (by omega)]; exact q7
        · intro k hk
          rw [d69 (58 + 5 * k) (by omega), d69 (58 + 5 * k + 1) (by omega), d69 (58 + 5 * k + 2) (by omega)]; exact q8 k hk
        · intro k hk
          rw [d69 (58 + 5 * k + 3) (by omega), d69 (58 + 5 * k + 4) (by omega)]; exact q9 k hk
        · rw [d69 88 (by omega)]; exact q10
        · rw [d69 89 (by omega)]; exact q11
    · -- the slow one
      refine ⟨fun _ => ?_, fun y => absurd y (by decide)⟩
      refine ⟨fun y => absurd rfl y, fun _ => ?_⟩
      refine ⟨z, n, .inr b, 1, 9, rfl, rfl, rfl, by omega, by omega, hT, hS, fun M1 g1 hS1 => ?_⟩
      have r1 := bv_hr_gr g1
      refine ⟨_, rfl, 56, rfl, by omega, ?_⟩
      intro M2 e2
      obtain ⟨u1, u2, u3⟩ := bv_up e2
      have r2 := bv_hr_tr r1 (bv_hr_69 e2)
      have hS2 := bv_mS_c (M' := M2) hS1 (fun g _ _ => by rw [u1 67 (by omega)])
      refine ⟨z, n, _, 0, 6, rfl, rfl, rfl, by omega, by omega, bv_mT_hr hT r2, hS2, fun M3 g3 hS3 => ?_⟩
      have r3 := bv_hr_tr r2 (bv_hr_gr g3)
      refine ⟨_, rfl, 57, rfl, by omega, ?_⟩
      intro M4 e4
      have r4 := bv_hr_tr r3 (bv_hr_69 e4)
      refine h M4 r4 ?_
      obtain ⟨v1, v2, v3⟩ := bv_up e4
      have hS4 := bv_mS_c (M' := M4) hS3 (fun g _ _ => by rw [v1 67 (by omega)])
      show bv_Rd z n (bv_slow z n a Q) M4
      unfold bv_slow
      rw [if_neg (by rw [c5 rfl]; omega)]
      rw [← hk, bv_mn_num] at hS4 u2 v2
      cases k1 : bv_num z n 1 9 (bv_nx z n a) with
      | inl e =>
        rw [k1] at hS4
        exact hS4
      | inr p1 =>
        rw [k1] at hS4 u2 v2
        dsimp only at hS4 u2 v2
        rw [bv_bn]
        rw [bv_mn_num] at hS4 v2
        cases k2 : bv_num z n 0 6 p1.1 with
        | inl e =>
          rw [k2] at hS4
          exact hS4
        | inr p2 =>
          rw [k2] at hS4 v2
          dsimp only at hS4 v2
          rw [bv_bn]
          refine ⟨hS4, ?_⟩
          have d69 : ∀ i : Nat, i ≠ 56 → i ≠ 57 → M4 69 i = M 69 i := fun i i1 i2 => by
            rw [v3 i i2, g3.1 69 (by omega), u3 i i1, g1.1 69 (by omega)]
          have d70 : M4 70 = M 70 := by
            rw [v1 70 (by omega), g3.1 70 (by omega), u1 70 (by omega), g1.1 70 (by omega)]
          have d67 : ∀ g : Nat, g < 12 → M4 67 g = M 67 g := fun g hg => by
            rw [v1 67 (by omega), g3.2 g (by omega), u1 67 (by omega), g1.2 g (by omega)]
          show bv_mQ M4 (bt_w1 (bt_w1 Q.1 12 2 p1.2) 12 3 p2.2, Q.2.1, 1, Q.2.2.2)
          generalize hw' : bt_w1 (bt_w1 Q.1 12 2 p1.2) 12 3 p2.2 = w'
          have t12 : ∀ k, w' 12 k = if k = 3 then p2.2 else if k = 2 then p1.2 else Q.1 12 k := fun k => by
            rw [← hw', bt_w1_s, bt_w1_s]
          have tf : ∀ f, f ≠ 12 → w' f = Q.1 f := fun f f3 => by
            rw [← hw', bt_w1_n f3, bt_w1_n f3]
          have t0 : w' 12 0 = Q.1 12 0 := by rw [t12, if_neg (by omega), if_neg (by omega)]
          have t1 : w' 12 1 = Q.1 12 1 := by rw [t12, if_neg (by omega), if_neg (by omega)]
          have t2 : w' 12 2 = p1.2 := by rw [t12, if_neg (by omega), if_pos rfl]
          have t3 : w' 12 3 = p2.2 := by rw [t12, if_pos rfl]
          unfold bv_mQ
          dsimp only
          rw [t0, t1, t2, t3, tf 0 (by omega), tf 1 (by omega), tf 2 (by omega), tf 3 (by omega), tf 4 (by omega), tf 5 (by omega), tf 6 (by omega), tf 7 (by omega), tf 8 (by omega), tf 9 (by omega), d70]
          refine ⟨?_, ?_, ?_, ?_, ?_, ?_, ?_, ?_, ?_, ?_, ?_, q12, q13, q14, q15⟩
          · rw [d67 4 (by omega)]; exact q1
          · rw [d67 5 (by omega)]; exact q2
          · rw [d67 8 (by omega)]; exact q3
          · intro i hi
            rw [d69 (7 * i) (by omega) (by omega), d69 (7 * i + 1) (by omega) (by omega), d69 (7 * i + 2) (by omega) (by omega)]; exact q4 i hi
          · intro i hi
            rw [d69 (7 * i + 3) (by omega) (by omega), d69 (7 * i + 4) (by omega) (by omega), d69 (7 * i + 5) (by omega) (by omega), d69 (7 * i + 6) (by omega) (by omega)]; exact q5 i hi
          · rw [v3 56 (by omega), g3.1 69 (by omega), u2]
          · rw [v2]
          · intro k hk
            rw [d69 (58 + 5 * k) (by omega) (by omega), d69 (58 + 5 * k + 1) (by omega) (by omega), d69 (58 + 5 * k + 2) (by omega) (by omega)]; exact q8 k hk
          · intro k hk
            rw [d69 (58 + 5 * k + 3) (by omega) (by omega), d69 (58 + 5 * k + 4) (by omega) (by omega)]; exact q9 k hk
          · rw [d69 88 (by omega) (by omega)]; exact q10
          · rw [d69 89 (by omega) (by omega)]; exact q11
    · -- a car
      refine ⟨fun _ => ?_, fun y => absurd y (by decide)⟩
      refine ⟨fun _ => ?_, fun y => absurd y (by decide)⟩
      refine ⟨fun y => absurd rfl y, fun _ => ?_⟩
      have hC := c6 rfl
      refine ⟨z, n, b, Q, rfl, hT, hL, hS, hC, hR8, hQ, fun M1 r1 hD => ?_⟩
      refine h M1 r1 ?_
      show bv_Rd z n (bv_car z n a Q) M1
      unfold bv_car
      rw [if_neg (by omega), hk]
      exact hD
  · exact False.elim h
