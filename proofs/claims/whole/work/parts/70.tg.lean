/-! THE TEXT: the class's lines, all -/
theorem bv_Ld_01 {X : bv_X} {M M' : bt_M} {r : Int32} (h : bv_Ld X M M' r) : r = 0 ∨ r = 1 := by
  obtain ⟨_, h⟩ := h
  cases X with
  | inl e => exact Or.inl h.1
  | inr p => exact Or.inr h.1
theorem bv_Ld_tr {X : bv_X} {M M1 M' : bt_M} {r : Int32} (h1 : bv_fo M M1) (h3 : M1 20 3 = M 20 3) (h : bv_Ld X M1 M' r) : bv_Ld X M M' r := by
  obtain ⟨hf, h⟩ := h
  refine ⟨⟨fun x hx => by rw [hf.1 x hx, h1.1 x hx], by rw [hf.2, h1.2]⟩, ?_⟩
  cases X with
  | inl e => exact h
  | inr p => exact ⟨h.1, by rw [h.2.1, h3], h.2.2⟩
theorem bv_tk_e {z : Nat → Nat} {n p : Nat} {e : Nat × Nat} (hp : p ≤ n) (h : bv_tk z n p = .inl e) : 1 ≤ e.1 ∧ e.1 ≤ 6 ∧ e.2 ≤ n := by
  obtain ⟨rfl, _⟩ := bv_tk_l h
  exact ⟨by show 1 ≤ 1; omega, by show 1 ≤ 6; omega, (bv_r_b hp).2⟩
theorem bv_num_e {z : Nat → Nat} {n lo hi p : Nat} {e : Nat × Nat} (hp : p ≤ n) (h : bv_num z n lo hi p = .inl e) : 1 ≤ e.1 ∧ e.1 ≤ 6 ∧ e.2 ≤ n := by
  unfold bv_num at h
  cases hk : bv_tk z n p with
  | inl e' =>
    rw [hk] at h
    cases h
    exact bv_tk_e hp hk
  | inr a =>
    rw [hk, bv_bn] at h
    have hb := bv_tk_b hp hk
    split at h
    · split at h
      · cases h
      · cases h
        exact ⟨by show 1 ≤ 3; omega, by show 3 ≤ 6; omega, hb.2.1⟩
    · cases h
      exact ⟨by show 1 ≤ 2; omega, by show 2 ≤ 6; omega, hb.2.1⟩
theorem bv_frs_e {z : Nat → Nat} {n p : Nat} {f : Nat → Nat} {e : Nat × Nat} (hp : p ≤ n) (h : bv_frs z n f p = .inl e) : 1 ≤ e.1 ∧ e.1 ≤ 6 ∧ e.2 ≤ n := by
  unfold bv_frs at h
  cases hk : bv_num z n 0 7 p with
  | inl e' =>
    rw [hk] at h
    cases h
    exact bv_num_e hp hk
  | inr q =>
    rw [hk, bv_bn] at h
    split at h
    · cases h
      exact ⟨by show 1 ≤ 4; omega, by show 4 ≤ 6; omega, (bv_r_b hp).2⟩
    · cases h
def bt_CX3_tellLine : bt_C := [(110, 1, 2, sX3_says), (114, 1, 1, sX3_tellRoad), (119, 1, 1, sX3_tellCar), (124, 1, 1, sX3_tellSlow), (129, 1, 2, sX3_stretchMore), (133, 1, 2, sX3_tellOdds), (138, 1, 1, sX3_stops), (69, 1, 3, sX3_refuse)]
def sX3_tellLine : bt_Sp := fun as M N K => match as with
  | [.ref c] => ∃ z n a Q, c = 20 ∧ bv_cT M z n ∧ bv_cS M z n a ∧ a ≤ n ∧ M 20 3 = 0 ∧ bv_ok Q ∧ bv_cQ M Q ∧ ∀ M' r, bv_Ld (bv_ln z n a Q) M M' r → K (some (.int r)) M' N
  | _ => False
set_option maxRecDepth 100000 in
set_option maxHeartbeats 2000000 in
theorem mX3_tellLine : bt_MT bt_TX3_tellLine bt_FX3 bt_CX3_tellLine 2 1 sX3_tellLine := by
  intro as M N Rt h P hP
  unfold sX3_tellLine at h
  split at h
  · obtain ⟨z, n, a, Q, rfl, hT, hS, ha, h30, hok, hQ, h⟩ := h
    have hna := bv_nx_b (z := z) ha
    obtain ⟨q1, q2, q3, q4, q5, q6, q7, q8, q9, q10, q11, q12, q13, q14, q15, q16⟩ := id hQ
    obtain ⟨o1, o2, o3, o4, o5, o6, o7, o8, o9, o10⟩ := id hok
    have b4 : bt_b1 (Q.1 4) := o1.2.2.2.2.2.2.2.2.2.2.1
    have b5 : bt_b1 (Q.1 5) := o1.2.2.2.2.2.2.2.2.2.2.2.1
    have b6 : bt_b1 (Q.1 6) := o1.2.2.2.2.2.2.2.2.2.2.2.2.1
    have hln : ∀ x, bv_ix (bv_wd z n a) = x → bv_ln z n a Q = bv_end z n (bv_bodyI z n a x Q) := fun x hx => by
      unfold bv_ln bv_body
      rw [hx]
    refine bt_go0 rfl hP 120 ?_
    refine ⟨z, n, a, 0, rfl, rfl, by omega, hT, hS, ha, ⟨fun y1 => ?_, fun y1 => ?_⟩⟩
    rotate_left
    · rw [bt_bi_n0] at y1
      have e0 := hln 0 y1
      refine ⟨z, n, a, Q, rfl, hT, hS, ha, hok, hQ, fun M1 r hD => ⟨bv_Ld_01 hD, h M1 r ?_⟩⟩
      rw [e0]
      exact hD
    refine ⟨z, n, a, 1, rfl, rfl, by omega, hT, hS, ha, ⟨fun y2 => ?_, fun y2 => ?_⟩⟩
    rotate_left
    · rw [bt_bi_n0] at y2
      have e0 := hln 6 y2
      refine ⟨z, n, a, Q, rfl, hT, hS, ha, hok, hQ, fun M1 r hD => ⟨bv_Ld_01 hD, h M1 r ?_⟩⟩
      rw [e0]
      exact hD
    refine ⟨z, n, a, 7, rfl, rfl, by omega, hT, hS, ha, ⟨fun y3 => ?_, fun y3 => ?_⟩⟩
    rotate_left
    · rw [bt_bi_n0] at y3
      have e0 := hln 5 y3
      refine ⟨z, n, a, Q, rfl, hT, hS, ha, hok, hQ, fun M1 r hD => ⟨bv_Ld_01 hD, h M1 r ?_⟩⟩
      rw [e0]
      exact hD
    refine ⟨z, n, a, 8, rfl, rfl, by omega, hT, hS, ha, ⟨fun y4 => ?_, fun y4 => ?_⟩⟩
    rotate_left
    · rw [bt_bi_n0] at y4
      have e0 := hln 2 y4
      refine ⟨z, n, bv_nx z n a, Q.2.1, rfl, o6, q14, hT, hS.2.2.1, hna.2.1, fun M1 r hA => ?_⟩
      intro M2 e2
      obtain ⟨hf1, hA⟩ := hA
      obtain ⟨u1, u2, u3⟩ := bv_up e2
      have g1 := bv_fo_fr bv_fo_rf hf1
      have g2 := bv_fo_up g1 e2 (by omega) (by omega)
      have hcx : ∀ x : Nat, x ≠ 20 → M2 x = M x := fun x y1 => by rw [u1 x y1, hf1.1 x y1]
      have hc20 : ∀ f : Nat, 8 < f → f ≠ 11 → M2 20 f = M 20 f := fun f hf hf' => by rw [u3 f hf', hf1.2 f (by omega)]
      cases k1 : bv_frs z n (Q.2.1) (bv_nx z n a) with
      | inl e =>
        rw [k1] at hA
        have he := bv_frs_e hna.2.1 k1
        have m3 : M2 20 3 = nI e.1 := by rw [u3 3 (by omega)]; exact hA.1
        refine ⟨fun _ => ⟨Or.inl rfl, h M2 0 ?_⟩, fun y => ?_⟩
        · rw [e0]
          refine bv_Ld_l (e := e) ?_ g2 m3 (by rw [u3 4 (by omega)]; exact hA.2)
          show bv_bn (bv_frs z n (Q.2.1) (bv_nx z n a)) _ = _
          rw [k1]
          rfl
        · rw [m3, bt_n0 (by omega)] at y
          omega
      | inr b1 =>
        rw [k1] at hA
        obtain ⟨hr, m3, m5, m8⟩ := hA
        have r1 := bv_frs_r hna.2.1 k1
        have i3 : M2 20 3 = M 20 3 := by rw [u3 3 (by omega)]; exact m3
        have i5 : M2 20 5 = nI b1.1 := by rw [u3 5 (by omega)]; exact m5
        have i8 : M2 20 8 = nI b1.2 := by rw [u3 8 (by omega)]; exact m8
        have im : M2 20 11 = nI (bt_mk (bv_u1 (Q.2.1) b1.2) 8) := by rw [u2]; exact hr
        refine ⟨fun y => absurd (i3.trans h30) y, fun _ => ?_⟩
        refine ⟨z, n, b1.1, b1.2, (Q.1, bv_u1 Q.2.1 b1.2, Q.2.2.1, max Q.2.2.2 (b1.2 + 1)), rfl, bv_cT_fo hT g2, i5, r1.2.1, i8, r1.2.2.1, ?_, fun M3 r hD => ?_⟩
        · unfold bv_cQ
          dsimp only
          rw [hcx 11 (by omega), hcx 12 (by omega), hcx 13 (by omega), hcx 14 (by omega), hcx 15 (by omega), hcx 16 (by omega), hcx 17 (by omega), hcx 18 (by omega), hcx 19 (by omega), hc20 9 (by omega) (by omega), hc20 10 (by omega) (by omega), hc20 12 (by omega) (by omega), hc20 13 (by omega) (by omega)]
          exact ⟨q1, q2, q3, q4, q5, q6, q7, q8, q9, q10, q11, q12, q13, im, q15, q16⟩
        · have hD2 := bv_Ld_tr g2 i3 hD
          have eX : bv_ln z n a Q = bv_end z n (bv_bn (bv_num z n 0 10 b1.1) (fun q => .inr (q.1, (bt_w1 Q.1 3 b1.2 q.2, bv_u1 Q.2.1 b1.2, Q.2.2.1, max Q.2.2.2 (b1.2 + 1))))) := by
            rw [e0]
            show bv_end z n (bv_bn (bv_frs z n Q.2.1 (bv_nx z n a)) _) = _
            rw [k1]
            rfl
          rcases bv_Ld_01 hD with rfl | rfl
          · exact ⟨fun _ => ⟨Or.inl rfl, h M3 0 (by rw [eX]; exact hD2)⟩, fun y => absurd rfl y⟩
          · exact ⟨fun y => absurd y (by decide), fun _ => ⟨Or.inr rfl, h M3 1 (by rw [eX]; exact hD2)⟩⟩
    refine ⟨z, n, a, 9, rfl, rfl, by omega, hT, hS, ha, ⟨fun y5 => ?_, fun y5 => ?_⟩⟩
    rotate_left
    · rw [bt_bi_n0] at y5
      have e0 := hln 1 y5
      refine ⟨z, n, bv_nx z n a, Q.1 4, rfl, b4, q13, hT, hS.2.2.1, hna.2.1, fun M1 r hA => ?_⟩
      intro M2 e2
      obtain ⟨hf1, hA⟩ := hA
      obtain ⟨u1, u2, u3⟩ := bv_up e2
      have g1 := bv_fo_fr bv_fo_rf hf1
      have g2 := bv_fo_up g1 e2 (by omega) (by omega)
      have hcx : ∀ x : Nat, x ≠ 20 → M2 x = M x := fun x y1 => by rw [u1 x y1, hf1.1 x y1]
      have hc20 : ∀ f : Nat, 8 < f → f ≠ 10 → M2 20 f = M 20 f := fun f hf hf' => by rw [u3 f hf', hf1.2 f (by omega)]
      cases k1 : bv_frs z n (Q.1 4) (bv_nx z n a) with
      | inl e =>
        rw [k1] at hA
        have he := bv_frs_e hna.2.1 k1
        have m3 : M2 20 3 = nI e.1 := by rw [u3 3 (by omega)]; exact hA.1
        refine ⟨fun _ => ⟨Or.inl rfl, h M2 0 ?_⟩, fun y => ?_⟩
        · rw [e0]
          refine bv_Ld_l (e := e) ?_ g2 m3 (by rw [u3 4 (by omega)]; exact hA.2)
          show bv_bn (bv_frs z n (Q.1 4) (bv_nx z n a)) _ = _
          rw [k1]
          rfl
        · rw [m3, bt_n0 (by omega)] at y
          omega
      | inr b1 =>
        rw [k1] at hA
        obtain ⟨hr, m3, m5, m8⟩ := hA
        have r1 := bv_frs_r hna.2.1 k1
        have i3 : M2 20 3 = M 20 3 := by rw [u3 3 (by omega)]; exact m3
        have i5 : M2 20 5 = nI b1.1 := by rw [u3 5 (by omega)]; exact m5
        have i8 : M2 20 8 = nI b1.2 := by rw [u3 8 (by omega)]; exact m8
        have im : M2 20 10 = nI (bt_mk (bv_u1 (Q.1 4) b1.2) 8) := by rw [u2]; exact hr
        refine ⟨fun y => absurd (i3.trans h30) y, fun _ => ?_⟩
        refine ⟨z, n, b1.1, rfl, bv_cT_fo hT g2, i5, r1.2.1, fun M3 r hD => ?_⟩
        have tf : ∀ g, g ≠ 4 → bt_w1 Q.1 4 b1.2 1 g = Q.1 g := fun g hg => bt_w1_n hg
        have ts : bt_w1 Q.1 4 b1.2 1 4 = bv_u1 (Q.1 4) b1.2 := by
          funext k
          rw [bt_w1_s]
          rfl
        have hD2 : bv_Ld (bv_ln z n a Q) M M3 r := by
          rw [e0]
          refine bv_Ld_end (q := (b1.1, (bt_w1 Q.1 4 b1.2 1, Q.2.1, Q.2.2.1, max Q.2.2.2 (b1.2 + 1)))) ?_ g2 i3 ?_ hD
          · show bv_bn (bv_frs z n (Q.1 4) (bv_nx z n a)) _ = _
            rw [k1]
            rfl
          · unfold bv_cQ
            dsimp only
            rw [ts, tf 0 (by omega), tf 1 (by omega), tf 2 (by omega), tf 3 (by omega), tf 5 (by omega), tf 6 (by omega), tf 7 (by omega), tf 8 (by omega), tf 9 (by omega), tf 12 (by omega), hcx 11 (by omega), hcx 12 (by omega), hcx 13 (by omega), hcx 14 (by omega), hcx 15 (by omega), hcx 16 (by omega), hcx 17 (by omega), hcx 18 (by omega), hcx 19 (by omega), hc20 9 (by omega) (by omega), hc20 11 (by omega) (by omega), hc20 12 (by omega) (by omega), hc20 13 (by omega) (by omega)]
            exact ⟨q1, q2, q3, q4, q5, q6, q7, q8, q9, q10, q11, q12, im, q14, q15, q16⟩
        rcases bv_Sd_01 hD with rfl | rfl
        · exact ⟨fun _ => ⟨Or.inl rfl, h M3 0 hD2⟩, fun y => absurd rfl y⟩
        · exact ⟨fun y => absurd y (by decide), fun _ => ⟨Or.inr rfl, h M3 1 hD2⟩⟩
    refine ⟨z, n, a, 10, rfl, rfl, by omega, hT, hS, ha, ⟨fun y6 => ?_, fun y6 => ?_⟩⟩
    rotate_left
    · rw [bt_bi_n0] at y6
      have e0 := hln 3 y6
      refine ⟨z, n, bv_nx z n a, Q.1 5, rfl, b5, q15, hT, hS.2.2.1, hna.2.1, fun M1 r hA => ?_⟩
      intro M2 e2
      obtain ⟨hf1, hA⟩ := hA
      obtain ⟨u1, u2, u3⟩ := bv_up e2
      have g1 := bv_fo_fr bv_fo_rf hf1
      have g2 := bv_fo_up g1 e2 (by omega) (by omega)
      have hcx : ∀ x : Nat, x ≠ 20 → M2 x = M x := fun x y1 => by rw [u1 x y1, hf1.1 x y1]
      have hc20 : ∀ f : Nat, 8 < f → f ≠ 12 → M2 20 f = M 20 f := fun f hf hf' => by rw [u3 f hf', hf1.2 f (by omega)]
      cases k1 : bv_frs z n (Q.1 5) (bv_nx z n a) with
      | inl e =>
        rw [k1] at hA
        have he := bv_frs_e hna.2.1 k1
        have m3 : M2 20 3 = nI e.1 := by rw [u3 3 (by omega)]; exact hA.1
        refine ⟨fun _ => ⟨Or.inl rfl, h M2 0 ?_⟩, fun y => ?_⟩
        · rw [e0]
          refine bv_Ld_l (e := e) ?_ g2 m3 (by rw [u3 4 (by omega)]; exact hA.2)
          show bv_bn (bv_frs z n (Q.1 5) (bv_nx z n a)) _ = _
          rw [k1]
          rfl
        · rw [m3, bt_n0 (by omega)] at y
          omega
      | inr b1 =>
        rw [k1] at hA
        obtain ⟨hr, m3, m5, m8⟩ := hA
        have r1 := bv_frs_r hna.2.1 k1
        have i3 : M2 20 3 = M 20 3 := by rw [u3 3 (by omega)]; exact m3
        have i5 : M2 20 5 = nI b1.1 := by rw [u3 5 (by omega)]; exact m5
        have i8 : M2 20 8 = nI b1.2 := by rw [u3 8 (by omega)]; exact m8
        have im : M2 20 12 = nI (bt_mk (bv_u1 (Q.1 5) b1.2) 8) := by rw [u2]; exact hr
        refine ⟨fun y => absurd (i3.trans h30) y, fun _ => ?_⟩
        refine ⟨z, n, b1.1, rfl, bv_cT_fo hT g2, i5, r1.2.1, fun M3 r hD => ?_⟩
        have tf : ∀ g, g ≠ 5 → bt_w1 Q.1 5 b1.2 1 g = Q.1 g := fun g hg => bt_w1_n hg
        have ts : bt_w1 Q.1 5 b1.2 1 5 = bv_u1 (Q.1 5) b1.2 := by
          funext k
          rw [bt_w1_s]
          rfl
        have hD2 : bv_Ld (bv_ln z n a Q) M M3 r := by
          rw [e0]
          refine bv_Ld_end (q := (b1.1, (bt_w1 Q.1 5 b1.2 1, Q.2.1, Q.2.2.1, max Q.2.2.2 (b1.2 + 1)))) ?_ g2 i3 ?_ hD
          · show bv_bn (bv_frs z n (Q.1 5) (bv_nx z n a)) _ = _
            rw [k1]
            rfl
          · unfold bv_cQ
            dsimp only
            rw [ts, tf 0 (by omega), tf 1 (by omega), tf 2 (by omega), tf 3 (by omega), tf 4 (by omega), tf 6 (by omega), tf 7 (by omega), tf 8 (by omega), tf 9 (by omega), tf 12 (by omega), hcx 11 (by omega), hcx 12 (by omega), hcx 13 (by omega), hcx 14 (by omega), hcx 15 (by omega), hcx 16 (by omega), hcx 17 (by omega), hcx 18 (by omega), hcx 19 (by omega), hc20 9 (by omega) (by omega), hc20 10 (by omega) (by omega), hc20 11 (by omega) (by omega), hc20 13 (by omega) (by omega)]
            exact ⟨q1, q2, q3, q4, q5, q6, q7, q8, q9, q10, q11, q12, q13, q14, im, q16⟩
        rcases bv_Sd_01 hD with rfl | rfl
        · exact ⟨fun _ => ⟨Or.inl rfl, h M3 0 hD2⟩, fun y => absurd rfl y⟩
        · exact ⟨fun y => absurd y (by decide), fun _ => ⟨Or.inr rfl, h M3 1 hD2⟩⟩
    refine ⟨z, n, a, 11, rfl, rfl, by omega, hT, hS, ha, ⟨fun y7 => ?_, fun y7 => ?_⟩⟩
    rotate_left
    · rw [bt_bi_n0] at y7
      have e0 := hln 4 y7
      refine ⟨z, n, bv_nx z n a, Q.1 6, rfl, b6, q16, hT, hS.2.2.1, hna.2.1, fun M1 r hA => ?_⟩
      intro M2 e2
      obtain ⟨hf1, hA⟩ := hA
      obtain ⟨u1, u2, u3⟩ := bv_up e2
      have g1 := bv_fo_fr bv_fo_rf hf1
      have g2 := bv_fo_up g1 e2 (by omega) (by omega)
      have hcx : ∀ x : Nat, x ≠ 20 → M2 x = M x := fun x y1 => by rw [u1 x y1, hf1.1 x y1]
      have hc20 : ∀ f : Nat, 8 < f → f ≠ 13 → M2 20 f = M 20 f := fun f hf hf' => by rw [u3 f hf', hf1.2 f (by omega)]
      cases k1 : bv_frs z n (Q.1 6) (bv_nx z n a) with
      | inl e =>
        rw [k1] at hA
        have he := bv_frs_e hna.2.1 k1
        have m3 : M2 20 3 = nI e.1 := by rw [u3 3 (by omega)]; exact hA.1
        refine ⟨fun _ => ⟨Or.inl rfl, h M2 0 ?_⟩, fun y => ?_⟩
        · rw [e0]
          refine bv_Ld_l (e := e) ?_ g2 m3 (by rw [u3 4 (by omega)]; exact hA.2)
          show bv_bn (bv_frs z n (Q.1 6) (bv_nx z n a)) _ = _
          rw [k1]
          rfl
        · rw [m3, bt_n0 (by omega)] at y
          omega
      | inr b1 =>
        rw [k1] at hA
        obtain ⟨hr, m3, m5, m8⟩ := hA
        have r1 := bv_frs_r hna.2.1 k1
        have i3 : M2 20 3 = M 20 3 := by rw [u3 3 (by omega)]; exact m3
        have i5 : M2 20 5 = nI b1.1 := by rw [u3 5 (by omega)]; exact m5
        have i8 : M2 20 8 = nI b1.2 := by rw [u3 8 (by omega)]; exact m8
        have im : M2 20 13 = nI (bt_mk (bv_u1 (Q.1 6) b1.2) 8) := by rw [u2]; exact hr
        refine ⟨fun y => absurd (i3.trans h30) y, fun _ => ?_⟩
        refine ⟨z, n, b1.1, rfl, bv_cT_fo hT g2, i5, r1.2.1, fun M3 r hD => ?_⟩
        have tf : ∀ g, g ≠ 6 → bt_w1 Q.1 6 b1.2 1 g = Q.1 g := fun g hg => bt_w1_n hg
        have ts : bt_w1 Q.1 6 b1.2 1 6 = bv_u1 (Q.1 6) b1.2 := by
          funext k
          rw [bt_w1_s]
          rfl
        have hD2 : bv_Ld (bv_ln z n a Q) M M3 r := by
          rw [e0]
          refine bv_Ld_end (q := (b1.1, (bt_w1 Q.1 6 b1.2 1, Q.2.1, Q.2.2.1, max Q.2.2.2 (b1.2 + 1)))) ?_ g2 i3 ?_ hD
          · show bv_bn (bv_frs z n (Q.1 6) (bv_nx z n a)) _ = _
            rw [k1]
            rfl
          · unfold bv_cQ
            dsimp only
            rw [ts, tf 0 (by omega), tf 1 (by omega), tf 2 (by omega), tf 3 (by omega), tf 4 (by omega), tf 5 (by omega), tf 7 (by omega), tf 8 (by omega), tf 9 (by omega), tf 12 (by omega), hcx 11 (by omega), hcx 12 (by omega), hcx 13 (by omega), hcx 14 (by omega), hcx 15 (by omega), hcx 16 (by omega), hcx 17 (by omega), hcx 18 (by omega), hcx 19 (by omega), hc20 9 (by omega) (by omega), hc20 10 (by omega) (by omega), hc20 11 (by omega) (by omega), hc20 12 (by omega) (by omega)]
            exact ⟨q1, q2, q3, q4, q5, q6, q7, q8, q9, q10, q11, q12, q13, q14, q15, im⟩
        rcases bv_Sd_01 hD with rfl | rfl
        · exact ⟨fun _ => ⟨Or.inl rfl, h M3 0 hD2⟩, fun y => absurd rfl y⟩
        · exact ⟨fun y => absurd y (by decide), fun _ => ⟨Or.inr rfl, h M3 1 hD2⟩⟩
    rw [bt_bi_0] at y1 y2 y3 y4 y5 y6 y7
    have z1 : ¬ bv_ix (bv_wd z n a) = 0 := y1
    have z2 : ¬ bv_ix (bv_wd z n a) = 6 := y2
    have z3 : ¬ bv_ix (bv_wd z n a) = 5 := y3
    have z4 : ¬ bv_ix (bv_wd z n a) = 2 := y4
    have z5 : ¬ bv_ix (bv_wd z n a) = 1 := y5
    have z6 : ¬ bv_ix (bv_wd z n a) = 3 := y6
    have z7 : ¬ bv_ix (bv_wd z n a) = 4 := y7
    refine ⟨rfl, fun M2 n1 n2 n3 n4 => ?_⟩
    refine ⟨Or.inl rfl, h M2 0 ?_⟩
    rw [hln _ rfl]
    refine bv_Ld_l (e := (2, a)) ?_ (bv_fo_rs bv_fo_rf n1 n2) n3 (by rw [n4]; exact hS.2.1)
    unfold bv_bodyI
    rw [if_neg z1, if_neg z2, if_neg z3, if_neg z4, if_neg z5, if_neg z6, if_neg z7]
  · exact False.elim h
