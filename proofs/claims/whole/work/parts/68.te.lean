/-! THE TEXT: the class's lines -/
def bv_cQ (M : bt_M) (Q : bv_Q) : Prop := M 11 8 = nI (Q.1 12 0) ∧ M 11 12 = nI (Q.1 12 1) ∧ M 11 13 = 0 ∧ M 11 14 = nI (Q.1 12 2) ∧ M 11 15 = nI (Q.1 12 3) ∧ M 11 16 = 0 ∧ M 11 17 = 0 ∧ (∀ i, i < Q.1 12 0 → M 12 i = nI (Q.1 0 i) ∧ M 13 i = nI (Q.1 1 i) ∧ M 14 i = nI (Q.1 2 i)) ∧ (∀ i, i < 8 → M 15 i = nI (Q.1 3 i)) ∧ (∀ k, k < Q.1 12 1 → M 16 k = nI (Q.1 7 k) ∧ M 17 k = nI (Q.1 8 k) ∧ M 18 k = nI (Q.1 9 k)) ∧ (∀ k, k < 6 → M 19 k = 0) ∧ M 20 9 = nI Q.2.2.1 ∧ M 20 10 = nI (bt_mk (Q.1 4) 8) ∧ M 20 11 = nI (bt_mk Q.2.1 8) ∧ M 20 12 = nI (bt_mk (Q.1 5) 8) ∧ M 20 13 = nI (bt_mk (Q.1 6) 8)
theorem bv_cQ_fr {M M' : bt_M} {Q : bv_Q} (h : bv_cQ M Q) (hf : bv_fr M M') : bv_cQ M' Q := by
  unfold bv_cQ
  rw [hf.1 11 (by omega), hf.1 12 (by omega), hf.1 13 (by omega), hf.1 14 (by omega), hf.1 15 (by omega), hf.1 16 (by omega), hf.1 17 (by omega), hf.1 18 (by omega), hf.1 19 (by omega), hf.2 9 (by omega), hf.2 10 (by omega), hf.2 11 (by omega), hf.2 12 (by omega), hf.2 13 (by omega)]
  exact h
/-- what lies outside the teller and its world -/
def bv_fo (M M' : bt_M) : Prop := (∀ x : Nat, (x < 11 ∨ 20 < x) → M' x = M x) ∧ M' 20 2 = M 20 2
theorem bv_fo_rf {M : bt_M} : bv_fo M M := ⟨fun _ _ => rfl, rfl⟩
theorem bv_fo_fr {M M1 M2 : bt_M} (h : bv_fo M M1) (hf : bv_fr M1 M2) : bv_fo M M2 := ⟨fun x hx => by rw [hf.1 x (by omega), h.1 x hx], by rw [hf.2 2 (by omega), h.2]⟩
theorem bv_fo_up {M M' M1 : bt_M} {c f : Nat} {x : Int32} (h : bv_fo M M') (e : M1 = va_up M' c (upd (M' c) f x)) (hc : 11 ≤ c ∧ c ≤ 20) (hf : c = 20 → f ≠ 2) : bv_fo M M1 := by
  obtain ⟨u1, u2, u3⟩ := bv_up e
  refine ⟨fun y hy => by rw [u1 y (by omega), h.1 y hy], ?_⟩
  by_cases e2 : c = 20
  · subst e2
    rw [u3 2 (fun z => hf rfl z.symm), h.2]
  · rw [u1 20 (by omega), h.2]
theorem bv_cT_fo {M M' : bt_M} {z : Nat → Nat} {n : Nat} (h : bv_cT M z n) (hf : bv_fo M M') : bv_cT M' z n := ⟨by rw [hf.2]; exact h.1, h.2.1, by rw [hf.1 1 (by omega)]; exact h.2.2.1, h.2.2.2⟩
def bv_Ld (X : bv_X) (M M' : bt_M) (r : Int32) : Prop := bv_fo M M' ∧ match X with
  | .inl e => r = 0 ∧ M' 20 3 = nI e.1 ∧ M' 20 4 = nI e.2
  | .inr q => r = 1 ∧ M' 20 3 = M 20 3 ∧ M' 20 5 = nI q.1 ∧ bv_cQ M' q.2
/-- the end of a line -/
theorem bv_Ld_end {z : Nat → Nat} {n : Nat} {X : bv_X} {q : Nat × bv_Q} {M M1 M2 : bt_M} {r : Int32} (hX : X = .inr q) (hfo : bv_fo M M1) (h3 : M1 20 3 = M 20 3) (hQ : bv_cQ M1 q.2) (h : bv_Sd z n q.1 M1 M2 r) : bv_Ld (bv_end z n X) M M2 r := by
  obtain ⟨hf, h⟩ := h
  refine ⟨bv_fo_fr hfo hf, ?_⟩
  rw [hX, bv_end, bv_bn]
  cases hs : bv_stp z n q.1 with
  | inl e =>
    rw [hs] at h
    exact h
  | inr p =>
    rw [hs] at h
    exact ⟨h.1, by rw [h.2.1, h3], h.2.2, bv_cQ_fr hQ hf⟩
theorem bv_Ld_l {z : Nat → Nat} {n : Nat} {X : bv_X} {e : Nat × Nat} {M M1 : bt_M} (hX : X = .inl e) (hfo : bv_fo M M1) (h3 : M1 20 3 = nI e.1) (h4 : M1 20 4 = nI e.2) : bv_Ld (bv_end z n X) M M1 0 := by
  refine ⟨hfo, ?_⟩
  rw [hX]
  exact ⟨rfl, h3, h4⟩
theorem bv_fo_rs {M M1 M2 : bt_M} (h : bv_fo M M1) (n1 : ∀ x : Nat, x ≠ 20 → M2 x = M1 x) (n2 : ∀ g : Nat, g ≠ 3 → g ≠ 4 → M2 20 g = M1 20 g) : bv_fo M M2 := bv_fo_fr h ⟨n1, fun g hg => n2 g (by omega) (by omega)⟩
def bt_CX3_tellRoad : bt_C := [(69, 1, 3, sX3_refuse), (145, 1, 3, sX3_numbered), (138, 1, 1, sX3_stops)]
def sX3_tellRoad : bt_Sp := fun as M N K => match as with
  | [.ref c] => ∃ z n a Q, c = 20 ∧ bv_cT M z n ∧ bv_cS M z n a ∧ a ≤ n ∧ bv_ok Q ∧ bv_cQ M Q ∧ ∀ M' r, bv_Ld (bv_end z n (bv_road z n a Q)) M M' r → K (some (.int r)) M' N
  | _ => False
set_option maxRecDepth 100000 in
set_option maxHeartbeats 1000000 in
theorem mX3_tellRoad : bt_MT bt_TX3_tellRoad bt_FX3 bt_CX3_tellRoad 2 2 sX3_tellRoad := by
  intro as M N Rt h P hP
  unfold sX3_tellRoad at h
  split at h
  · obtain ⟨z, n, a, Q, rfl, hT, hS, ha, hok, hQ, h⟩ := h
    have hR8 := hok.1.1
    have hna := bv_nx_b (z := z) ha
    obtain ⟨q1, q2, q3, q4, q5, q6, q7, q8, q9, q10, q11, q12, q13, q14, q15, q16⟩ := id hQ
    refine bt_go0 rfl hP 80 ?_
    refine ⟨fun y1 => ?_, fun y1 => ?_⟩
    · rw [q1, bt_lit, nI_ltI (by omega) (by omega)] at y1
      refine ⟨z, n, bv_nx z n a, 1, 9, rfl, rfl, rfl, by omega, by omega, hT, hS.2.2.1, hna.2.1, fun M1 r hA => ?_⟩
      obtain ⟨hf1, hA⟩ := hA
      have g1 := bv_fo_fr bv_fo_rf hf1
      cases k1 : bv_num z n 1 9 (bv_nx z n a) with
      | inl e =>
        rw [k1] at hA
        obtain ⟨rfl, m3, m4⟩ := hA
        refine ⟨fun y => absurd rfl y, fun _ => ⟨Or.inl rfl, h M1 0 (bv_Ld_l ?_ g1 m3 m4)⟩⟩
        rw [bv_road, if_neg (by omega), k1]
        rfl
      | inr b1 =>
        rw [k1] at hA
        obtain ⟨rfl, m3, m5, m8, -⟩ := hA
        have r1 := bv_num_r hna.2.1 k1
        refine ⟨fun _ => ?_, fun y => absurd y (by decide)⟩
        refine ⟨_, rfl, Q.1 12 0, q1, by omega, ?_⟩
        intro M2 e2
        obtain ⟨u1, u2, u3⟩ := bv_up e2
        have g2 := bv_fo_up g1 e2 (by omega) (by omega)
        have i3 : M2 20 3 = M 20 3 := by rw [u1 20 (by omega)]; exact m3
        have i5 : M2 20 5 = nI b1.1 := by rw [u1 20 (by omega)]; exact m5
        refine ⟨z, n, b1.1, 0, 9, rfl, rfl, rfl, by omega, by omega, bv_cT_fo hT g2, i5, r1.2.1, fun M3 r hB => ?_⟩
        obtain ⟨hf3, hB⟩ := hB
        have g3 := bv_fo_fr g2 hf3
        cases k2 : bv_num z n 0 9 b1.1 with
        | inl e =>
          rw [k2] at hB
          obtain ⟨rfl, n3, n4⟩ := hB
          refine ⟨fun y => absurd rfl y, fun _ => ⟨Or.inl rfl, h M3 0 (bv_Ld_l ?_ g3 n3 n4)⟩⟩
          rw [bv_road, if_neg (by omega), k1, bv_bn, k2]
          rfl
        | inr b2 =>
          rw [k2] at hB
          obtain ⟨rfl, n3, n5, n8, -⟩ := hB
          have r2 := bv_num_r r1.2.1 k2
          refine ⟨fun _ => ?_, fun y => absurd y (by decide)⟩
          refine ⟨_, rfl, Q.1 12 0, q1, by omega, ?_⟩
          intro M4 e4
          obtain ⟨v1, v2, v3⟩ := bv_up e4
          have g4 := bv_fo_up g3 e4 (by omega) (by omega)
          have j3 : M4 20 3 = M 20 3 := by rw [v1 20 (by omega), n3]; exact i3
          have j5 : M4 20 5 = nI b2.1 := by rw [v1 20 (by omega)]; exact n5
          refine ⟨z, n, b2.1, 0, 9, rfl, rfl, rfl, by omega, by omega, bv_cT_fo hT g4, j5, r2.2.1, fun M5 r hC => ?_⟩
          obtain ⟨hf5, hC⟩ := hC
          have g5 := bv_fo_fr g4 hf5
          cases k3 : bv_num z n 0 9 b2.1 with
          | inl e =>
            rw [k3] at hC
            obtain ⟨rfl, o3, o4⟩ := hC
            refine ⟨fun y => absurd rfl y, fun _ => ⟨Or.inl rfl, h M5 0 (bv_Ld_l ?_ g5 o3 o4)⟩⟩
            rw [bv_road, if_neg (by omega), k1, bv_bn, k2, bv_bn, k3]
            rfl
          | inr b3 =>
            rw [k3] at hC
            obtain ⟨rfl, o3, o5, o8, -⟩ := hC
            have r3 := bv_num_r r2.2.1 k3
            refine ⟨fun _ => ?_, fun y => absurd y (by decide)⟩
            refine ⟨_, rfl, Q.1 12 0, q1, by omega, ?_⟩
            intro M6 e6 M7 e7
            obtain ⟨w1, w2, w3⟩ := bv_up e6
            obtain ⟨x1, x2, x3⟩ := bv_up e7
            have g7 := bv_fo_up (bv_fo_up g5 e6 (by omega) (by omega)) e7 (by omega) (by omega)
            have l5 : M7 20 5 = nI b3.1 := by rw [x1 20 (by omega), w1 20 (by omega)]; exact o5
            have l3 : M7 20 3 = M 20 3 := by rw [x1 20 (by omega), w1 20 (by omega), o3]; exact j3
            have hX : bv_road z n a Q = .inr (b3.1, (bt_w1 (bt_w1 (bt_w1 (bt_w1 Q.1 0 (Q.1 12 0) b1.2) 1 (Q.1 12 0) b2.2) 2 (Q.1 12 0) b3.2) 12 0 (Q.1 12 0 + 1), Q.2)) := by
              rw [bv_road, if_neg (by omega), k1, bv_bn, k2, bv_bn, k3]
              rfl
            have hc20 : ∀ f : Nat, 8 < f → M7 20 f = M 20 f := fun f hf => by
              rw [x1 20 (by omega), w1 20 (by omega), hf5.2 f (by omega), v1 20 (by omega), hf3.2 f (by omega), u1 20 (by omega), hf1.2 f (by omega)]
            have hcx : ∀ x : Nat, x ≠ 20 → x ≠ 11 → x ≠ 12 → x ≠ 13 → x ≠ 14 → M7 x = M x := fun x y1 y2 y3 y4 y5 => by
              rw [x1 x y2, w1 x y5, hf5.1 x y1, v1 x y4, hf3.1 x y1, u1 x y3, hf1.1 x y1]
            have c11 : ∀ f : Nat, f ≠ 8 → M7 11 f = M 11 f := fun f hf => by
              rw [x3 f hf, w1 11 (by omega), hf5.1 11 (by omega), v1 11 (by omega), hf3.1 11 (by omega), u1 11 (by omega), hf1.1 11 (by omega)]
            have d12 : M7 12 = M2 12 := by rw [x1 12 (by omega), w1 12 (by omega), hf5.1 12 (by omega), v1 12 (by omega), hf3.1 12 (by omega)]
            have d13 : M7 13 = M4 13 := by rw [x1 13 (by omega), w1 13 (by omega), hf5.1 13 (by omega)]
            have d14 : M7 14 = M6 14 := by rw [x1 14 (by omega)]
            have s12 : ∀ i, M7 12 i = if i = Q.1 12 0 then nI b1.2 else M 12 i := fun i => by
              rw [d12]
              by_cases c : i = Q.1 12 0
              · rw [if_pos c, c, u2, m8]
              · rw [if_neg c, u3 i c, hf1.1 12 (by omega)]
            have s13 : ∀ i, M7 13 i = if i = Q.1 12 0 then nI b2.2 else M 13 i := fun i => by
              rw [d13]
              by_cases c : i = Q.1 12 0
              · rw [if_pos c, c, v2, n8]
              · rw [if_neg c, v3 i c, hf3.1 13 (by omega), u1 13 (by omega), hf1.1 13 (by omega)]
            have s14 : ∀ i, M7 14 i = if i = Q.1 12 0 then nI b3.2 else M 14 i := fun i => by
              rw [d14]
              by_cases c : i = Q.1 12 0
              · rw [if_pos c, c, w2, o8]
              · rw [if_neg c, w3 i c, hf5.1 14 (by omega), v1 14 (by omega), hf3.1 14 (by omega), u1 14 (by omega), hf1.1 14 (by omega)]
            refine ⟨z, n, b3.1, rfl, bv_cT_fo hT g7, l5, r3.2.1, fun M8 r hD => ?_⟩
            have hr01 : r = 0 ∨ r = 1 := by
              obtain ⟨_, hD2⟩ := hD
              cases hs : bv_stp z n b3.1 with
              | inl e => rw [hs] at hD2; exact Or.inl hD2.1
              | inr p => rw [hs] at hD2; exact Or.inr hD2.1
            refine ⟨hr01, h M8 r (bv_Ld_end hX g7 l3 ?_ hD)⟩
            generalize hw' : bt_w1 (bt_w1 (bt_w1 (bt_w1 Q.1 0 (Q.1 12 0) b1.2) 1 (Q.1 12 0) b2.2) 2 (Q.1 12 0) b3.2) 12 0 (Q.1 12 0 + 1) = w'
            have t12 : ∀ k, w' 12 k = if k = 0 then Q.1 12 0 + 1 else Q.1 12 k := fun k => by
              rw [← hw', bt_w1_s]
              by_cases c : k = 0
              · rw [if_pos c, if_pos c]
              · rw [if_neg c, if_neg c, bt_w1_n (by omega), bt_w1_n (by omega), bt_w1_n (by omega)]
            have t0 : ∀ k, w' 0 k = if k = Q.1 12 0 then b1.2 else Q.1 0 k := fun k => by
              rw [← hw', bt_w1_n (by omega), bt_w1_n (by omega), bt_w1_n (by omega), bt_w1_s]
            have t1 : ∀ k, w' 1 k = if k = Q.1 12 0 then b2.2 else Q.1 1 k := fun k => by
              rw [← hw', bt_w1_n (by omega), bt_w1_n (by omega), bt_w1_s, bt_w1_n (by omega)]
            have t2 : ∀ k, w' 2 k = if k = Q.1 12 0 then b3.2 else Q.1 2 k := fun k => by
              rw [← hw', bt_w1_n (by omega), bt_w1_s, bt_w1_n (by omega), bt_w1_n (by omega)]
            have tf : ∀ f, f ≠ 0 → f ≠ 1 → f ≠ 2 → f ≠ 12 → w' f = Q.1 f := fun f f0 f1 f2 f3 => by
              rw [← hw', bt_w1_n f3, bt_w1_n f2, bt_w1_n f1, bt_w1_n f0]
            show bv_cQ M7 (w', Q.2)
            refine ⟨?_, ?_, ?_, ?_, ?_, ?_, ?_, ?_, ?_, ?_, ?_, ?_, ?_, ?_, ?_, ?_⟩
            · show M7 11 8 = nI (w' 12 0)
              rw [x2, t12, if_pos rfl, w1 11 (by omega), hf5.1 11 (by omega), v1 11 (by omega), hf3.1 11 (by omega), u1 11 (by omega), hf1.1 11 (by omega), q1, nI_1]
            · show M7 11 12 = nI (w' 12 1)
              rw [c11 12 (by omega), t12, if_neg (by omega)]; exact q2
            · rw [c11 13 (by omega)]; exact q3
            · show M7 11 14 = nI (w' 12 2)
              rw [c11 14 (by omega), t12, if_neg (by omega)]; exact q4
            · show M7 11 15 = nI (w' 12 3)
              rw [c11 15 (by omega), t12, if_neg (by omega)]; exact q5
            · rw [c11 16 (by omega)]; exact q6
            · rw [c11 17 (by omega)]; exact q7
            · show ∀ i, i < w' 12 0 → M7 12 i = nI (w' 0 i) ∧ M7 13 i = nI (w' 1 i) ∧ M7 14 i = nI (w' 2 i)
              intro i hi
              rw [t12, if_pos rfl] at hi
              rw [s12, s13, s14, t0, t1, t2]
              by_cases c : i = Q.1 12 0
              · rw [if_pos c, if_pos c, if_pos c, if_pos c, if_pos c, if_pos c]
                exact ⟨rfl, rfl, rfl⟩
              · rw [if_neg c, if_neg c, if_neg c, if_neg c, if_neg c, if_neg c]
                exact q8 i (by omega)
            · show ∀ i, i < 8 → M7 15 i = nI (w' 3 i)
              rw [hcx 15 (by omega) (by omega) (by omega) (by omega) (by omega), tf 3 (by omega) (by omega) (by omega) (by omega)]; exact q9
            · show ∀ k, k < w' 12 1 → M7 16 k = nI (w' 7 k) ∧ M7 17 k = nI (w' 8 k) ∧ M7 18 k = nI (w' 9 k)
              rw [t12, if_neg (by omega), hcx 16 (by omega) (by omega) (by omega) (by omega) (by omega), hcx 17 (by omega) (by omega) (by omega) (by omega) (by omega), hcx 18 (by omega) (by omega) (by omega) (by omega) (by omega), tf 7 (by omega) (by omega) (by omega) (by omega), tf 8 (by omega) (by omega) (by omega) (by omega), tf 9 (by omega) (by omega) (by omega) (by omega)]; exact q10
            · rw [hcx 19 (by omega) (by omega) (by omega) (by omega) (by omega)]; exact q11
            · rw [hc20 9 (by omega)]; exact q12
            · show M7 20 10 = nI (bt_mk (w' 4) 8)
              rw [hc20 10 (by omega), tf 4 (by omega) (by omega) (by omega) (by omega)]; exact q13
            · rw [hc20 11 (by omega)]; exact q14
            · show M7 20 12 = nI (bt_mk (w' 5) 8)
              rw [hc20 12 (by omega), tf 5 (by omega) (by omega) (by omega) (by omega)]; exact q15
            · show M7 20 13 = nI (bt_mk (w' 6) 8)
              rw [hc20 13 (by omega), tf 6 (by omega) (by omega) (by omega) (by omega)]; exact q16
    · rw [q1, bt_lit, nI_ltI (by omega) (by omega)] at y1
      refine ⟨rfl, fun M2 n1 n2 n3 n4 => ?_⟩
      refine ⟨Or.inl rfl, h M2 0 (bv_Ld_l (e := (5, a)) ?_ (bv_fo_rs bv_fo_rf n1 n2) n3 (by rw [n4]; exact hS.2.1))⟩
      rw [bv_road, if_pos (by omega)]
  · exact False.elim h
