/-! THE TEXT: the class's lines, cars, the slow one, odds -/
theorem bv_Sd_01 {z : Nat → Nat} {n p : Nat} {M M' : bt_M} {r : Int32} (h : bv_Sd z n p M M' r) : r = 0 ∨ r = 1 := by
  obtain ⟨_, hD2⟩ := h
  cases hs : bv_stp z n p with
  | inl e => rw [hs] at hD2; exact Or.inl hD2.1
  | inr p => rw [hs] at hD2; exact Or.inr hD2.1
def bt_CX3_tellCar : bt_C := [(69, 1, 3, sX3_refuse), (53, 1, 1, sX3_advance), (173, 1, 1, sX3_kindSaid), (145, 1, 3, sX3_numbered), (138, 1, 1, sX3_stops)]
def sX3_tellCar : bt_Sp := fun as M N K => match as with
  | [.ref c] => ∃ z n a Q, c = 20 ∧ bv_cT M z n ∧ bv_cS M z n a ∧ a ≤ n ∧ bv_ok Q ∧ bv_cQ M Q ∧ ∀ M' r, bv_Ld (bv_end z n (bv_car z n a Q)) M M' r → K (some (.int r)) M' N
  | _ => False
set_option maxRecDepth 100000 in
set_option maxHeartbeats 1000000 in
theorem mX3_tellCar : bt_MT bt_TX3_tellCar bt_FX3 bt_CX3_tellCar 2 3 sX3_tellCar := by
  intro as M N Rt h P hP
  unfold sX3_tellCar at h
  split at h
  · obtain ⟨z, n, a, Q, rfl, hT, hS, ha, hok, hQ, h⟩ := h
    have hR8 := hok.1.2.1
    have hna := bv_nx_b (z := z) ha
    obtain ⟨q1, q2, q3, q4, q5, q6, q7, q8, q9, q10, q11, q12, q13, q14, q15, q16⟩ := id hQ
    refine bt_go0 rfl hP 100 ?_
    refine ⟨fun y1 => ?_, fun y1 => ?_⟩
    · rw [q2, bt_lit, nI_ltI (by omega) (by omega)] at y1
      refine ⟨z, n, bv_nx z n a, rfl, hT, hS.2.2.1, hna.2.1, fun M1 r hA => ?_⟩
      obtain ⟨hf1, hA⟩ := hA
      have g1 := bv_fo_fr bv_fo_rf hf1
      cases k1 : bv_tk z n (bv_nx z n a) with
      | inl e =>
        rw [k1] at hA
        obtain ⟨rfl, m3, m4⟩ := hA
        refine ⟨fun y => absurd rfl y, fun _ => ⟨Or.inl rfl, h M1 0 (bv_Ld_l ?_ g1 m3 m4)⟩⟩
        rw [bv_car, if_neg (by omega), k1]
        rfl
      | inr b =>
        rw [k1] at hA
        obtain ⟨rfl, m3, hS1⟩ := hA
        obtain ⟨r1, r2, r3, r4⟩ := bv_tk_b hna.2.1 k1
        have hnb := bv_nx_b (z := z) r2
        refine ⟨fun _ => ?_, fun y => absurd y (by decide)⟩
        refine ⟨z, n, b, rfl, bv_cT_fo hT g1, hS1, r2, ?_⟩
        by_cases hx : 7 ≤ bv_ix (bv_wd z n b) ∧ bv_ix (bv_wd z n b) < 12
        · rw [if_pos hx]
          generalize hkk : bv_ix (bv_wd z n b) - 7 = kk
          have hkk4 : kk ≤ 4 := by omega
          refine ⟨fun _ => ?_, fun y => absurd (Int32.not_lt.mp (nI_pos (show kk < 2 ^ 31 by omega))) y⟩
          refine ⟨_, rfl, Q.1 12 1, q2, by omega, ?_⟩
          intro M2 e2
          obtain ⟨u1, u2, u3⟩ := bv_up e2
          have g2 := bv_fo_up g1 e2 (by omega) (by omega)
          have i3 : M2 20 3 = M 20 3 := by rw [u1 20 (by omega)]; exact m3
          have i5 : M2 20 5 = nI (bv_nx z n b) := by rw [u1 20 (by omega)]; exact hS1.2.2.1
          refine ⟨z, n, bv_nx z n b, 1, 9, rfl, rfl, rfl, by omega, by omega, bv_cT_fo hT g2, i5, hnb.2.1, fun M3 r hB => ?_⟩
          obtain ⟨hf3, hB⟩ := hB
          have g3 := bv_fo_fr g2 hf3
          cases k2 : bv_num z n 1 9 (bv_nx z n b) with
          | inl e =>
            rw [k2] at hB
            obtain ⟨rfl, n3, n4⟩ := hB
            refine ⟨fun y => absurd rfl y, fun _ => ⟨Or.inl rfl, h M3 0 (bv_Ld_l ?_ g3 n3 n4)⟩⟩
            rw [bv_car, if_neg (by omega), k1, bv_bn, if_pos hx, k2]
            rfl
          | inr b2 =>
            rw [k2] at hB
            obtain ⟨rfl, n3, n5, n8, -⟩ := hB
            have r2 := bv_num_r hnb.2.1 k2
            refine ⟨fun _ => ?_, fun y => absurd y (by decide)⟩
            refine ⟨_, rfl, Q.1 12 1, q2, by omega, ?_⟩
            intro M4 e4
            obtain ⟨v1, v2, v3⟩ := bv_up e4
            have g4 := bv_fo_up g3 e4 (by omega) (by omega)
            have j3 : M4 20 3 = M 20 3 := by rw [v1 20 (by omega), n3]; exact i3
            have j5 : M4 20 5 = nI b2.1 := by rw [v1 20 (by omega)]; exact n5
            refine ⟨z, n, b2.1, 1, 5, rfl, rfl, rfl, by omega, by omega, bv_cT_fo hT g4, j5, r2.2.1, fun M5 r hC => ?_⟩
            obtain ⟨hf5, hC⟩ := hC
            have g5 := bv_fo_fr g4 hf5
            cases k3 : bv_num z n 1 5 b2.1 with
            | inl e =>
              rw [k3] at hC
              obtain ⟨rfl, o3, o4⟩ := hC
              refine ⟨fun y => absurd rfl y, fun _ => ⟨Or.inl rfl, h M5 0 (bv_Ld_l ?_ g5 o3 o4)⟩⟩
              rw [bv_car, if_neg (by omega), k1, bv_bn, if_pos hx, k2, bv_bn, k3]
              rfl
            | inr b3 =>
              rw [k3] at hC
              obtain ⟨rfl, o3, o5, o8, -⟩ := hC
              have r3 := bv_num_r r2.2.1 k3
              refine ⟨fun _ => ?_, fun y => absurd y (by decide)⟩
              refine ⟨_, rfl, Q.1 12 1, q2, by omega, ?_⟩
              intro M6 e6 M7 e7
              obtain ⟨w1, w2, w3⟩ := bv_up e6
              obtain ⟨x1, x2, x3⟩ := bv_up e7
              have g7 := bv_fo_up (bv_fo_up g5 e6 (by omega) (by omega)) e7 (by omega) (by omega)
              have l5 : M7 20 5 = nI b3.1 := by rw [x1 20 (by omega), w1 20 (by omega)]; exact o5
              have l3 : M7 20 3 = M 20 3 := by rw [x1 20 (by omega), w1 20 (by omega), o3]; exact j3
              have hX : bv_car z n a Q = .inr (b3.1, (bt_w1 (bt_w1 (bt_w1 (bt_w1 Q.1 7 (Q.1 12 1) kk) 8 (Q.1 12 1) b2.2) 9 (Q.1 12 1) b3.2) 12 1 (Q.1 12 1 + 1), Q.2)) := by
                rw [bv_car, if_neg (by omega), k1, bv_bn, if_pos hx, k2, bv_bn, k3, hkk]
                rfl
              have hc20 : ∀ f : Nat, 8 < f → M7 20 f = M 20 f := fun f hf => by
                rw [x1 20 (by omega), w1 20 (by omega), hf5.2 f (by omega), v1 20 (by omega), hf3.2 f (by omega), u1 20 (by omega), hf1.2 f (by omega)]
              have hcx : ∀ x : Nat, x ≠ 20 → x ≠ 11 → x ≠ 16 → x ≠ 17 → x ≠ 18 → M7 x = M x := fun x y1 y2 y3 y4 y5 => by
                rw [x1 x y2, w1 x y5, hf5.1 x y1, v1 x y4, hf3.1 x y1, u1 x y3, hf1.1 x y1]
              have c11 : ∀ f : Nat, f ≠ 12 → M7 11 f = M 11 f := fun f hf => by
                rw [x3 f hf, w1 11 (by omega), hf5.1 11 (by omega), v1 11 (by omega), hf3.1 11 (by omega), u1 11 (by omega), hf1.1 11 (by omega)]
              have d12 : M7 16 = M2 16 := by rw [x1 16 (by omega), w1 16 (by omega), hf5.1 16 (by omega), v1 16 (by omega), hf3.1 16 (by omega)]
              have d13 : M7 17 = M4 17 := by rw [x1 17 (by omega), w1 17 (by omega), hf5.1 17 (by omega)]
              have d14 : M7 18 = M6 18 := by rw [x1 18 (by omega)]
              have s12 : ∀ i, M7 16 i = if i = Q.1 12 1 then nI kk else M 16 i := fun i => by
                rw [d12]
                by_cases c : i = Q.1 12 1
                · rw [if_pos c, c, u2]
                · rw [if_neg c, u3 i c, hf1.1 16 (by omega)]
              have s13 : ∀ i, M7 17 i = if i = Q.1 12 1 then nI b2.2 else M 17 i := fun i => by
                rw [d13]
                by_cases c : i = Q.1 12 1
                · rw [if_pos c, c, v2, n8]
                · rw [if_neg c, v3 i c, hf3.1 17 (by omega), u1 17 (by omega), hf1.1 17 (by omega)]
              have s14 : ∀ i, M7 18 i = if i = Q.1 12 1 then nI b3.2 else M 18 i := fun i => by
                rw [d14]
                by_cases c : i = Q.1 12 1
                · rw [if_pos c, c, w2, o8]
                · rw [if_neg c, w3 i c, hf5.1 18 (by omega), v1 18 (by omega), hf3.1 18 (by omega), u1 18 (by omega), hf1.1 18 (by omega)]
              refine ⟨z, n, b3.1, rfl, bv_cT_fo hT g7, l5, r3.2.1, fun M8 r hD => ?_⟩
              refine ⟨bv_Sd_01 hD, h M8 r (bv_Ld_end hX g7 l3 ?_ hD)⟩
              generalize hw' : bt_w1 (bt_w1 (bt_w1 (bt_w1 Q.1 7 (Q.1 12 1) kk) 8 (Q.1 12 1) b2.2) 9 (Q.1 12 1) b3.2) 12 1 (Q.1 12 1 + 1) = w'
              have t12 : ∀ k, w' 12 k = if k = 1 then Q.1 12 1 + 1 else Q.1 12 k := fun k => by
                rw [← hw', bt_w1_s]
                by_cases c : k = 1
                · rw [if_pos c, if_pos c]
                · rw [if_neg c, if_neg c, bt_w1_n (by omega), bt_w1_n (by omega), bt_w1_n (by omega)]
              have t0 : ∀ k, w' 7 k = if k = Q.1 12 1 then kk else Q.1 7 k := fun k => by
                rw [← hw', bt_w1_n (by omega), bt_w1_n (by omega), bt_w1_n (by omega), bt_w1_s]
              have t1 : ∀ k, w' 8 k = if k = Q.1 12 1 then b2.2 else Q.1 8 k := fun k => by
                rw [← hw', bt_w1_n (by omega), bt_w1_n (by omega), bt_w1_s, bt_w1_n (by omega)]
              have t2 : ∀ k, w' 9 k = if k = Q.1 12 1 then b3.2 else Q.1 9 k := fun k => by
                rw [← hw', bt_w1_n (by omega), bt_w1_s, bt_w1_n (by omega), bt_w1_n (by omega)]
              have tf : ∀ f, f ≠ 7 → f ≠ 8 → f ≠ 9 → f ≠ 12 → w' f = Q.1 f := fun f f0 f1 f2 f3 => by
                rw [← hw', bt_w1_n f3, bt_w1_n f2, bt_w1_n f1, bt_w1_n f0]
              show bv_cQ M7 (w', Q.2)
              refine ⟨?_, ?_, ?_, ?_, ?_, ?_, ?_, ?_, ?_, ?_, ?_, ?_, ?_, ?_, ?_, ?_⟩
              · show M7 11 8 = nI (w' 12 0)
                rw [c11 8 (by omega), t12, if_neg (by omega)]; exact q1
              · show M7 11 12 = nI (w' 12 1)
                rw [x2, t12, if_pos rfl, w1 11 (by omega), hf5.1 11 (by omega), v1 11 (by omega), hf3.1 11 (by omega), u1 11 (by omega), hf1.1 11 (by omega), q2, nI_1]
              · rw [c11 13 (by omega)]; exact q3
              · show M7 11 14 = nI (w' 12 2)
                rw [c11 14 (by omega), t12, if_neg (by omega)]; exact q4
              · show M7 11 15 = nI (w' 12 3)
                rw [c11 15 (by omega), t12, if_neg (by omega)]; exact q5
              · rw [c11 16 (by omega)]; exact q6
              · rw [c11 17 (by omega)]; exact q7
              · show ∀ i, i < w' 12 0 → M7 12 i = nI (w' 0 i) ∧ M7 13 i = nI (w' 1 i) ∧ M7 14 i = nI (w' 2 i)
                rw [t12, if_neg (by omega), hcx 12 (by omega) (by omega) (by omega) (by omega) (by omega), hcx 13 (by omega) (by omega) (by omega) (by omega) (by omega), hcx 14 (by omega) (by omega) (by omega) (by omega) (by omega), tf 0 (by omega) (by omega) (by omega) (by omega), tf 1 (by omega) (by omega) (by omega) (by omega), tf 2 (by omega) (by omega) (by omega) (by omega)]; exact q8
              · show ∀ i, i < 8 → M7 15 i = nI (w' 3 i)
                rw [hcx 15 (by omega) (by omega) (by omega) (by omega) (by omega), tf 3 (by omega) (by omega) (by omega) (by omega)]; exact q9
              · show ∀ k, k < w' 12 1 → M7 16 k = nI (w' 7 k) ∧ M7 17 k = nI (w' 8 k) ∧ M7 18 k = nI (w' 9 k)
                intro i hi
                rw [t12, if_pos rfl] at hi
                rw [s12, s13, s14, t0, t1, t2]
                by_cases c : i = Q.1 12 1
                · rw [if_pos c, if_pos c, if_pos c, if_pos c, if_pos c, if_pos c]
                  exact ⟨rfl, rfl, rfl⟩
                · rw [if_neg c, if_neg c, if_neg c, if_neg c, if_neg c, if_neg c]
                  exact q10 i (by omega)
              · rw [hcx 19 (by omega) (by omega) (by omega) (by omega) (by omega)]; exact q11
              · rw [hc20 9 (by omega)]; exact q12
              · show M7 20 10 = nI (bt_mk (w' 4) 8)
                rw [hc20 10 (by omega), tf 4 (by omega) (by omega) (by omega) (by omega)]; exact q13
              · rw [hc20 11 (by omega)]; exact q14
              · show M7 20 12 = nI (bt_mk (w' 5) 8)
                rw [hc20 12 (by omega), tf 5 (by omega) (by omega) (by omega) (by omega)]; exact q15
              · show M7 20 13 = nI (bt_mk (w' 6) 8)
                rw [hc20 13 (by omega), tf 6 (by omega) (by omega) (by omega) (by omega)]; exact q16
        · rw [if_neg hx]
          refine ⟨fun y => absurd y (by decide), fun _ => ?_⟩
          refine ⟨rfl, fun M2 n1 n2 n3 n4 => ?_⟩
          refine ⟨Or.inl rfl, h M2 0 (bv_Ld_l (e := (2, b)) ?_ (bv_fo_rs g1 n1 n2) n3 (by rw [n4]; exact hS1.2.1))⟩
          rw [bv_car, if_neg (by omega), k1, bv_bn, if_neg hx]
    · rw [q2, bt_lit, nI_ltI (by omega) (by omega)] at y1
      refine ⟨rfl, fun M2 n1 n2 n3 n4 => ?_⟩
      refine ⟨Or.inl rfl, h M2 0 (bv_Ld_l (e := (5, a)) ?_ (bv_fo_rs bv_fo_rf n1 n2) n3 (by rw [n4]; exact hS.2.1))⟩
      rw [bv_car, if_pos (by omega)]
  · exact False.elim h
def bt_CX3_tellSlow : bt_C := [(69, 1, 3, sX3_refuse), (145, 1, 3, sX3_numbered), (138, 1, 1, sX3_stops)]
def sX3_tellSlow : bt_Sp := fun as M N K => match as with
  | [.ref c] => ∃ z n a Q, c = 20 ∧ bv_cT M z n ∧ bv_cS M z n a ∧ a ≤ n ∧ bv_ok Q ∧ bv_cQ M Q ∧ ∀ M' r, bv_Ld (bv_end z n (bv_slow z n a Q)) M M' r → K (some (.int r)) M' N
  | _ => False
set_option maxRecDepth 100000 in
set_option maxHeartbeats 1000000 in
theorem mX3_tellSlow : bt_MT bt_TX3_tellSlow bt_FX3 bt_CX3_tellSlow 2 1 sX3_tellSlow := by
  intro as M N Rt h P hP
  unfold sX3_tellSlow at h
  split at h
  · obtain ⟨z, n, a, Q, rfl, hT, hS, ha, hok, hQ, h⟩ := h
    have hsl := hok.2.2.2.2.2.2.1
    have hna := bv_nx_b (z := z) ha
    obtain ⟨q1, q2, q3, q4, q5, q6, q7, q8, q9, q10, q11, q12, q13, q14, q15, q16⟩ := id hQ
    refine bt_go0 rfl hP 100 ?_
    refine ⟨fun y1 => ?_, fun y1 => ?_⟩
    · rw [q12, bt_le0 (by omega)] at y1
      intro M1 e1
      obtain ⟨t1, t2, t3⟩ := bv_up e1
      have g1 := bv_fo_up bv_fo_rf e1 (by omega) (by omega)
      refine ⟨z, n, bv_nx z n a, 1, 9, rfl, rfl, rfl, by omega, by omega, bv_cT_fo hT g1, by rw [t3 5 (by omega)]; exact hS.2.2.1, hna.2.1, fun M2 r hA => ?_⟩
      obtain ⟨hf2, hA⟩ := hA
      have g2 := bv_fo_fr g1 hf2
      cases k1 : bv_num z n 1 9 (bv_nx z n a) with
      | inl e =>
        rw [k1] at hA
        obtain ⟨rfl, m3, m4⟩ := hA
        refine ⟨fun y => absurd rfl y, fun _ => ⟨Or.inl rfl, h M2 0 (bv_Ld_l ?_ g2 m3 m4)⟩⟩
        rw [bv_slow, if_neg (by omega), k1]
        rfl
      | inr b1 =>
        rw [k1] at hA
        obtain ⟨rfl, m3, m5, m8, -⟩ := hA
        have r1 := bv_num_r hna.2.1 k1
        refine ⟨fun _ => ?_, fun y => absurd y (by decide)⟩
        intro M3 e3
        obtain ⟨u1, u2, u3⟩ := bv_up e3
        have g3 := bv_fo_up g2 e3 (by omega) (by omega)
        have i3 : M3 20 3 = M 20 3 := by rw [u1 20 (by omega), m3, t3 3 (by omega)]
        have i5 : M3 20 5 = nI b1.1 := by rw [u1 20 (by omega)]; exact m5
        refine ⟨z, n, b1.1, 0, 6, rfl, rfl, rfl, by omega, by omega, bv_cT_fo hT g3, i5, r1.2.1, fun M4 r hB => ?_⟩
        obtain ⟨hf4, hB⟩ := hB
        have g4 := bv_fo_fr g3 hf4
        cases k2 : bv_num z n 0 6 b1.1 with
        | inl e =>
          rw [k2] at hB
          obtain ⟨rfl, n3, n4⟩ := hB
          refine ⟨fun y => absurd rfl y, fun _ => ⟨Or.inl rfl, h M4 0 (bv_Ld_l ?_ g4 n3 n4)⟩⟩
          rw [bv_slow, if_neg (by omega), k1, bv_bn, k2]
          rfl
        | inr b2 =>
          rw [k2] at hB
          obtain ⟨rfl, n3, n5, n8, -⟩ := hB
          have r2 := bv_num_r r1.2.1 k2
          refine ⟨fun _ => ?_, fun y => absurd y (by decide)⟩
          intro M5 e5
          obtain ⟨x1, x2, x3⟩ := bv_up e5
          have g5 := bv_fo_up g4 e5 (by omega) (by omega)
          have l5 : M5 20 5 = nI b2.1 := by rw [x1 20 (by omega)]; exact n5
          have l3 : M5 20 3 = M 20 3 := by rw [x1 20 (by omega), n3]; exact i3
          have hX : bv_slow z n a Q = .inr (b2.1, (bt_w1 (bt_w1 Q.1 12 2 b1.2) 12 3 b2.2, Q.2.1, 1, Q.2.2.2)) := by
            rw [bv_slow, if_neg (by omega), k1, bv_bn, k2]
            rfl
          have hc20 : ∀ f : Nat, 9 < f → M5 20 f = M 20 f := fun f hf => by
            rw [x1 20 (by omega), hf4.2 f (by omega), u1 20 (by omega), hf2.2 f (by omega), t3 f (by omega)]
          have hcx : ∀ x : Nat, x ≠ 20 → x ≠ 11 → M5 x = M x := fun x y1 y2 => by
            rw [x1 x y2, hf4.1 x y1, u1 x y2, hf2.1 x y1, t1 x y1]
          have c11 : ∀ f : Nat, f ≠ 14 → f ≠ 15 → M5 11 f = M 11 f := fun f hf hf' => by
            rw [x3 f hf', hf4.1 11 (by omega), u3 f hf, hf2.1 11 (by omega), t1 11 (by omega)]
          refine ⟨z, n, b2.1, rfl, bv_cT_fo hT g5, l5, r2.2.1, fun M8 r hD => ?_⟩
          refine ⟨bv_Sd_01 hD, h M8 r (bv_Ld_end hX g5 l3 ?_ hD)⟩
          generalize hw' : bt_w1 (bt_w1 Q.1 12 2 b1.2) 12 3 b2.2 = w'
          have t12 : ∀ k, w' 12 k = if k = 3 then b2.2 else if k = 2 then b1.2 else Q.1 12 k := fun k => by
            rw [← hw', bt_w1_s, bt_w1_s]
          have tf : ∀ f, f ≠ 12 → w' f = Q.1 f := fun f f3 => by
            rw [← hw', bt_w1_n f3, bt_w1_n f3]
          show bv_cQ M5 (w', Q.2.1, 1, Q.2.2.2)
          refine ⟨?_, ?_, ?_, ?_, ?_, ?_, ?_, ?_, ?_, ?_, ?_, ?_, ?_, ?_, ?_, ?_⟩
          · show M5 11 8 = nI (w' 12 0)
            rw [c11 8 (by omega) (by omega), t12, if_neg (by omega), if_neg (by omega)]; exact q1
          · show M5 11 12 = nI (w' 12 1)
            rw [c11 12 (by omega) (by omega), t12, if_neg (by omega), if_neg (by omega)]; exact q2
          · rw [c11 13 (by omega) (by omega)]; exact q3
          · show M5 11 14 = nI (w' 12 2)
            rw [x3 14 (by omega), hf4.1 11 (by omega), u2, m8, t12, if_neg (by omega), if_pos rfl]
          · show M5 11 15 = nI (w' 12 3)
            rw [x2, n8, t12, if_pos rfl]
          · rw [c11 16 (by omega) (by omega)]; exact q6
          · rw [c11 17 (by omega) (by omega)]; exact q7
          · show ∀ i, i < w' 12 0 → M5 12 i = nI (w' 0 i) ∧ M5 13 i = nI (w' 1 i) ∧ M5 14 i = nI (w' 2 i)
            rw [t12, if_neg (by omega), if_neg (by omega), hcx 12 (by omega) (by omega), hcx 13 (by omega) (by omega), hcx 14 (by omega) (by omega), tf 0 (by omega), tf 1 (by omega), tf 2 (by omega)]; exact q8
          · show ∀ i, i < 8 → M5 15 i = nI (w' 3 i)
            rw [hcx 15 (by omega) (by omega), tf 3 (by omega)]; exact q9
          · show ∀ k, k < w' 12 1 → M5 16 k = nI (w' 7 k) ∧ M5 17 k = nI (w' 8 k) ∧ M5 18 k = nI (w' 9 k)
            rw [t12, if_neg (by omega), if_neg (by omega), hcx 16 (by omega) (by omega), hcx 17 (by omega) (by omega), hcx 18 (by omega) (by omega), tf 7 (by omega), tf 8 (by omega), tf 9 (by omega)]; exact q10
          · rw [hcx 19 (by omega) (by omega)]; exact q11
          · show M5 20 9 = nI 1
            rw [x1 20 (by omega), hf4.2 9 (by omega), u1 20 (by omega), hf2.2 9 (by omega), t2, q12, y1]
            rfl
          · show M5 20 10 = nI (bt_mk (w' 4) 8)
            rw [hc20 10 (by omega), tf 4 (by omega)]; exact q13
          · rw [hc20 11 (by omega)]; exact q14
          · show M5 20 12 = nI (bt_mk (w' 5) 8)
            rw [hc20 12 (by omega), tf 5 (by omega)]; exact q15
          · show M5 20 13 = nI (bt_mk (w' 6) 8)
            rw [hc20 13 (by omega), tf 6 (by omega)]; exact q16
    · rw [q12, bt_le0 (by omega)] at y1
      refine ⟨rfl, fun M2 n1 n2 n3 n4 => ?_⟩
      refine ⟨Or.inl rfl, h M2 0 (bv_Ld_l (e := (4, a)) ?_ (bv_fo_rs bv_fo_rf n1 n2) n3 (by rw [n4]; exact hS.2.1))⟩
      rw [bv_slow, if_pos (by omega)]
  · exact False.elim h
def bt_CX3_tellOdds : bt_C := [(145, 1, 3, sX3_numbered), (138, 1, 1, sX3_stops)]
def sX3_tellOdds : bt_Sp := fun as M N K => match as with
  | [.ref c, .int i] => ∃ z n p i' Q, c = 20 ∧ bv_cT M z n ∧ M 20 5 = nI p ∧ p ≤ n ∧ i = nI i' ∧ i' ≤ 7 ∧ bv_cQ M Q ∧ ∀ M' r, bv_Ld (bv_end z n (bv_bn (bv_num z n 0 10 p) (fun q => .inr (q.1, (bt_w1 Q.1 3 i' q.2, Q.2))))) M M' r → K (some (.int r)) M' N
  | _ => False
set_option maxRecDepth 100000 in
theorem mX3_tellOdds : bt_MT bt_TX3_tellOdds bt_FX3 bt_CX3_tellOdds 2 2 sX3_tellOdds := by
  intro as M N Rt h P hP
  unfold sX3_tellOdds at h
  split at h
  · obtain ⟨z, n, p, i, Q, rfl, hT, h5, hp, rfl, hi, hQ, h⟩ := h
    obtain ⟨q1, q2, q3, q4, q5, q6, q7, q8, q9, q10, q11, q12, q13, q14, q15, q16⟩ := id hQ
    refine bt_go0 rfl hP 100 ?_
    refine ⟨z, n, p, 0, 10, rfl, rfl, rfl, by omega, by omega, hT, h5, hp, fun M1 r hA => ?_⟩
    obtain ⟨hf1, hA⟩ := hA
    have g1 := bv_fo_fr bv_fo_rf hf1
    cases k1 : bv_num z n 0 10 p with
    | inl e =>
      rw [k1] at hA
      obtain ⟨rfl, m3, m4⟩ := hA
      refine ⟨fun y => absurd rfl y, fun _ => ⟨Or.inl rfl, h M1 0 (bv_Ld_l ?_ g1 m3 m4)⟩⟩
      rw [k1]
      rfl
    | inr b1 =>
      rw [k1] at hA
      obtain ⟨rfl, m3, m5, m8, -⟩ := hA
      have r1 := bv_num_r hp k1
      refine ⟨fun _ => ?_, fun y => absurd y (by decide)⟩
      refine ⟨_, rfl, i, rfl, by omega, ?_⟩
      intro M2 e2
      obtain ⟨u1, u2, u3⟩ := bv_up e2
      have g2 := bv_fo_up g1 e2 (by omega) (by omega)
      refine ⟨z, n, b1.1, rfl, bv_cT_fo hT g2, by rw [u1 20 (by omega)]; exact m5, r1.2.1, fun M8 r hD => ?_⟩
      refine ⟨bv_Sd_01 hD, h M8 r (bv_Ld_end (q := (b1.1, (bt_w1 Q.1 3 i b1.2, Q.2))) (by rw [k1]; rfl) g2 (by rw [u1 20 (by omega)]; exact m3) ?_ hD)⟩
      have hcx : ∀ x : Nat, x ≠ 20 → x ≠ 15 → M2 x = M x := fun x y1 y2 => by rw [u1 x y2, hf1.1 x y1]
      have hc20 : ∀ f : Nat, 8 < f → M2 20 f = M 20 f := fun f hf => by rw [u1 20 (by omega), hf1.2 f (by omega)]
      have tf : ∀ f, f ≠ 3 → bt_w1 Q.1 3 i b1.2 f = Q.1 f := fun f hf => bt_w1_n hf
      unfold bv_cQ
      dsimp only
      rw [tf 12 (by omega), tf 0 (by omega), tf 1 (by omega), tf 2 (by omega), tf 4 (by omega), tf 5 (by omega), tf 6 (by omega), tf 7 (by omega), tf 8 (by omega), tf 9 (by omega), hcx 11 (by omega) (by omega), hcx 12 (by omega) (by omega), hcx 13 (by omega) (by omega), hcx 14 (by omega) (by omega), hcx 16 (by omega) (by omega), hcx 17 (by omega) (by omega), hcx 18 (by omega) (by omega), hcx 19 (by omega) (by omega), hc20 9 (by omega), hc20 10 (by omega), hc20 11 (by omega), hc20 12 (by omega), hc20 13 (by omega)]
      refine ⟨q1, q2, q3, q4, q5, q6, q7, q8, fun j hj => ?_, q10, q11, q12, q13, q14, q15, q16⟩
      rw [bt_w1_s]
      by_cases c : j = i
      · rw [if_pos c, c, u2, m8]
      · rw [if_neg c, u3 j c, hf1.1 15 (by omega)]
        exact q9 j hj
  · exact False.elim h
