/-! THE TEXT: the model's lines, a car -/
def bv_mQ (M : bt_M) (Q : bv_Q) : Prop := M 67 4 = nI (Q.1 12 0) ∧ M 67 5 = nI (Q.1 12 1) ∧ M 67 8 = nI Q.2.2.2 - 1 ∧ (∀ i, i < Q.1 12 0 → M 69 (7 * i) = nI (Q.1 0 i) ∧ M 69 (7 * i + 1) = nI (Q.1 1 i) ∧ M 69 (7 * i + 2) = nI (Q.1 2 i)) ∧ (∀ i, i < 8 → M 69 (7 * i + 3) = nI (Q.1 3 i) - 10 ∧ M 69 (7 * i + 4) = nI (Q.1 4 i) ∧ M 69 (7 * i + 5) = nI (Q.1 5 i) ∧ M 69 (7 * i + 6) = nI (Q.1 6 i)) ∧ M 69 56 = nI (Q.1 12 2) - 5 ∧ M 69 57 = nI (Q.1 12 3) ∧ (∀ k, k < Q.1 12 1 → M 69 (58 + 5 * k) = nI (Q.1 7 k) ∧ M 69 (58 + 5 * k + 1) = nI (Q.1 8 k) ∧ M 69 (58 + 5 * k + 2) = nI (Q.1 9 k)) ∧ (∀ k, k < 6 → M 69 (58 + 5 * k + 3) = 0 ∧ M 69 (58 + 5 * k + 4) = 0) ∧ M 69 88 = 0 ∧ M 69 89 = 0 ∧ M 70 1 = nI (bt_mk (Q.1 4) 8) ∧ M 70 2 = nI (bt_mk Q.2.1 8) ∧ M 70 3 = nI (bt_mk (Q.1 5) 8) ∧ M 70 4 = nI (bt_mk (Q.1 6) 8)
theorem bv_mQ_gr {M M' : bt_M} {Q : bv_Q} (h : bv_mQ M Q) (hf : bv_gr M M') : bv_mQ M' Q := by
  unfold bv_mQ
  rw [hf.1 69 (by omega), hf.1 70 (by omega), hf.2 4 (by omega), hf.2 5 (by omega), hf.2 8 (by omega)]
  exact h
/-- what lines leave alone -/
def bv_hr (M M' : bt_M) : Prop := (∀ x : Nat, x ≠ 67 → x ≠ 69 → x ≠ 70 → M' x = M x) ∧ ∀ g : Nat, g ≠ 4 → g ≠ 5 → g ≠ 8 → (g < 12 ∨ 17 < g) → M' 67 g = M 67 g
theorem bv_hr_rf {M : bt_M} : bv_hr M M := ⟨fun _ _ _ _ => rfl, fun _ _ _ _ _ => rfl⟩
theorem bv_hr_tr {M M1 M2 : bt_M} (h : bv_hr M M1) (h2 : bv_hr M1 M2) : bv_hr M M2 := ⟨fun x a b c => by rw [h2.1 x a b c, h.1 x a b c], fun g a b c d => by rw [h2.2 g a b c d, h.2 g a b c d]⟩
theorem bv_hr_gr {M M1 : bt_M} (h : bv_gr M M1) : bv_hr M M1 := ⟨fun x a _ _ => h.1 x a, fun g _ _ _ d => h.2 g d⟩
theorem bv_hr_69 {M M1 : bt_M} {i : Nat} {x : Int32} (e : M1 = va_up M 69 (upd (M 69) i x)) : bv_hr M M1 := ⟨fun y _ b _ => (bv_up e).1 y b, fun g _ _ _ _ => by rw [(bv_up e).1 67 (by omega)]⟩
theorem bv_hr_67 {M M1 : bt_M} {i : Nat} {x : Int32} (hi : i = 4 ∨ i = 5 ∨ i = 8) (e : M1 = va_up M 67 (upd (M 67) i x)) : bv_hr M M1 := ⟨fun y a _ _ => (bv_up e).1 y a, fun g a b c _ => (bv_up e).2.2 g (by omega)⟩
theorem bv_mT_hr {M M' : bt_M} {z : Nat → Nat} {n : Nat} (h : bv_mT M z n) (hf : bv_hr M M') : bv_mT M' z n := ⟨by rw [hf.2 10 (by omega) (by omega) (by omega) (by omega)]; exact h.1, h.2.1, by rw [hf.1 71 (by omega) (by omega) (by omega)]; exact h.2.2.1, h.2.2.2⟩
theorem bv_mL_hr {M M' : bt_M} (h : bv_mL M) (hf : bv_hr M M') : bv_mL M' := ⟨by rw [hf.1 72 (by omega) (by omega) (by omega)]; exact h.1, by rw [hf.1 73 (by omega) (by omega) (by omega)]; exact h.2⟩
theorem bv_mS_c {M M' : bt_M} {z : Nat → Nat} {n : Nat} {X : (Nat × Nat) ⊕ Nat} (h : bv_mS M z n X) (hc : ∀ g : Nat, 12 ≤ g → g ≤ 17 → M' 67 g = M 67 g) : bv_mS M' z n X := by
  cases X with
  | inl e => exact ⟨by rw [hc 12 (by omega) (by omega)]; exact h.1, h.2.1, h.2.2.1, by rw [hc 13 (by omega) (by omega)]; exact h.2.2.2⟩
  | inr b => exact ⟨by rw [hc 12 (by omega) (by omega)]; exact h.1, h.2.1, h.2.2.1, by rw [hc 15 (by omega) (by omega)]; exact h.2.2.2.1, by rw [hc 16 (by omega) (by omega)]; exact h.2.2.2.2.1, by rw [hc 14 (by omega) (by omega)]; exact h.2.2.2.2.2.1, by rw [hc 17 (by omega) (by omega)]; exact h.2.2.2.2.2.2⟩
theorem bv_mn_num (z : Nat → Nat) (n lo hi p : Nat) : bv_mn z n lo hi (bv_tk z n p) = match bv_num z n lo hi p with
    | .inl e => (.inl e, lo)
    | .inr q => (bv_tk z n q.1, q.2) := by
  unfold bv_num
  cases bv_tk z n p with
  | inl e => rfl
  | inr a =>
    show (if _ then _ else _) = _
    by_cases h1 : bv_kd z n a = 2
    · by_cases h2 : lo ≤ bv_vl z n a ∧ bv_vl z n a ≤ hi
      · simp only [bv_bn, if_pos h1, if_pos h2]
      · simp only [bv_bn, if_pos h1, if_neg h2]
    · simp only [bv_bn, if_neg h1]
theorem bv_mf_frs (z : Nat → Nat) (n : Nat) (f : Nat → Nat) (p : Nat) : bv_mf z n f (bv_tk z n p) = match bv_frs z n f p with
    | .inl e => (.inl e, 0)
    | .inr q => (bv_tk z n q.1, q.2) := by
  unfold bv_frs
  have hm := bv_mn_num z n 0 7 p
  cases hk : bv_tk z n p with
  | inl e =>
    unfold bv_num
    rw [hk]
    rfl
  | inr a =>
    have ha := (bv_tk_r hk).1
    rw [hk] at hm
    show (if _ then _ else _) = _
    by_cases h1 : bv_kd z n a = 2
    · by_cases h2 : 0 ≤ bv_vl z n a ∧ bv_vl z n a ≤ 7
      · have hnum : bv_num z n 0 7 p = .inr (bv_nx z n a, bv_vl z n a) := by
          unfold bv_num
          rw [hk, bv_bn, if_pos h1, if_pos h2]
        rw [hnum] at hm ⊢
        by_cases h3 : f (bv_vl z n a) = 1
        · rw [if_pos ⟨h1, h2.2, h3⟩, bv_bn, if_pos h3, ← ha]
        · rw [if_neg (fun c => h3 c.2.2), bv_bn, if_neg h3]
          exact hm
      · have hnum : bv_num z n 0 7 p = .inl (3, a) := by
          unfold bv_num
          rw [hk, bv_bn, if_pos h1, if_neg h2]
        rw [hnum] at hm ⊢
        rw [if_neg (fun c => h2 ⟨Nat.zero_le _, c.2.1⟩)]
        exact hm
    · have hnum : bv_num z n 0 7 p = .inl (2, a) := by
        unfold bv_num
        rw [hk, bv_bn, if_neg h1]
      rw [hnum] at hm ⊢
      rw [if_neg (fun c => h1 c.1)]
      exact hm
def bv_carb (z : Nat → Nat) (n b : Nat) (Q : bv_Q) : bv_X := if 7 ≤ bv_ix (bv_wd z n b) ∧ bv_ix (bv_wd z n b) < 12 then bv_bn (bv_num z n 1 9 (bv_nx z n b)) (fun q2 => bv_bn (bv_num z n 1 5 q2.1) (fun q3 => .inr (q3.1, (bt_w1 (bt_w1 (bt_w1 (bt_w1 Q.1 7 (Q.1 12 1) (bv_ix (bv_wd z n b) - 7)) 8 (Q.1 12 1) q2.2) 9 (Q.1 12 1) q3.2) 12 1 (Q.1 12 1 + 1), Q.2)))) else .inl (2, b)
def bv_Rd (z : Nat → Nat) (n : Nat) (X : bv_X) (M' : bt_M) : Prop := match X with
  | .inl e => bv_mS M' z n (.inl e)
  | .inr q => bv_mS M' z n (bv_tk z n q.1) ∧ bv_mQ M' q.2
def bt_CX6_readCar : bt_C := [(103, 1, 1, sX6_nameHere), (84, 1, 2, sX6_fails), (88, 1, 1, sX6_step), (93, 1, 3, sX6_number)]
def sX6_readCar : bt_Sp := fun as M N K => match as with
  | [.ref c] => ∃ z n b Q, c = 67 ∧ bv_mT M z n ∧ bv_mL M ∧ bv_mS M z n (.inr b) ∧ Q.1 12 1 < 6 ∧ Q.1 12 0 ≤ 8 ∧ bv_mQ M Q ∧ ∀ M', bv_hr M M' → bv_Rd z n (bv_carb z n b Q) M' → K none M' N
  | _ => False
set_option maxRecDepth 100000 in
set_option maxHeartbeats 1000000 in
theorem mX6_readCar : bt_MT bt_TX6_readCar bt_FX6 bt_CX6_readCar 0 3 sX6_readCar := by
  intro as M N Rt h P hP
  unfold sX6_readCar at h
  split at h
  · obtain ⟨z, n, b, Q, rfl, hT, hL, hS, hC, hR8, hQ, h⟩ := h
    obtain ⟨q1, q2, q3, q4, q5, q6, q7, q8, q9, q10, q11, q12, q13, q14, q15⟩ := id hQ
    have hat : (58 : Int32) + 5 * M 67 5 = nI (58 + 5 * Q.1 12 1) := by
      rw [q2, show (58 : Int32) = nI 58 from rfl, show (5 : Int32) = nI 5 from rfl, pk_mul, nI_add]
    have tail : ∀ M1 X1 kd, bv_gr M M1 → bv_mS M1 z n X1 → ((7 ≤ bv_ix (bv_wd z n b) ∧ bv_ix (bv_wd z n b) < 12) → X1 = .inr b ∧ kd = nI (bv_ix (bv_wd z n b) - 7)) → (¬ (7 ≤ bv_ix (bv_wd z n b) ∧ bv_ix (bv_wd z n b) < 12) → X1 = .inl (2, b)) → P 34 [some (.ref 67), some (.int (58 + 5 * M 67 5)), some (.int kd)] [] M1 N := by
      intro M1 X1 kd g1 hS1 hgood hbad
      refine bt_go0 rfl hP 60 ?_
      refine ⟨_, rfl, 58 + 5 * Q.1 12 1, hat, by omega, ?_⟩
      intro M2 e2
      obtain ⟨u1, u2, u3⟩ := bv_up e2
      have r2 := bv_hr_tr (bv_hr_gr g1) (bv_hr_69 e2)
      -- the next token
      have hY : ∃ Y, bv_mP M2 n Y ∧ (X1 = .inr b → Y = .inr (bv_nx z n b)) ∧ (∀ e, X1 = .inl e → Y = .inl e) := by
        cases X1 with
        | inl e => exact ⟨.inl e, ⟨by rw [u1 67 (by omega)]; exact hS1.1, hS1.2.1, hS1.2.2.1, by rw [u1 67 (by omega)]; exact hS1.2.2.2⟩, fun c => (by cases c), fun e' c => (by cases c; rfl)⟩
        | inr b' =>
          have hN := bv_mS_N hS1
          exact ⟨.inr (bv_nx z n b'), ⟨by rw [u1 67 (by omega)]; exact hN.1, by rw [u1 67 (by omega)]; exact hN.2.1, hN.2.2⟩, fun c => (by cases c; rfl), fun e' c => (by cases c)⟩
      obtain ⟨Y, hYP, hY1, hY2⟩ := hY
      refine ⟨z, n, Y, rfl, bv_mT_hr hT r2, hYP, fun M3 g3 hS3 => ?_⟩
      have r3 := bv_hr_tr r2 (bv_hr_gr g3)
      refine ⟨z, n, _, 1, 9, rfl, rfl, rfl, by omega, by omega, bv_mT_hr hT r3, hS3, fun M4 g4 hS4 => ?_⟩
      have r4 := bv_hr_tr r3 (bv_hr_gr g4)
      refine ⟨_, rfl, 58 + 5 * Q.1 12 1 + 1, by rw [hat, nI_1], by omega, ?_⟩
      intro M5 e5
      obtain ⟨v1, v2, v3⟩ := bv_up e5
      have r5 := bv_hr_tr r4 (bv_hr_69 e5)
      have hS5 := bv_mS_c (M' := M5) hS4 (fun g _ _ => by rw [v1 67 (by omega)])
      refine ⟨z, n, _, 1, 5, rfl, rfl, rfl, by omega, by omega, bv_mT_hr hT r5, hS5, fun M6 g6 hS6 => ?_⟩
      have r6 := bv_hr_tr r5 (bv_hr_gr g6)
      refine ⟨_, rfl, 58 + 5 * Q.1 12 1 + 2, by rw [hat, show (2 : Int32) = nI 2 from rfl, nI_add], by omega, ?_⟩
      intro M7 e7 M8 e8
      obtain ⟨w1, w2, w3⟩ := bv_up e7
      obtain ⟨x1, x2, x3⟩ := bv_up e8
      have r8 := bv_hr_tr (bv_hr_tr r6 (bv_hr_69 e7)) (bv_hr_67 (by omega) e8)
      refine h M8 r8 ?_
      have hS8 := bv_mS_c (M' := M8) hS6 (fun g _ _ => by rw [x3 g (by omega), w1 67 (by omega)])
      by_cases hx : 7 ≤ bv_ix (bv_wd z n b) ∧ bv_ix (bv_wd z n b) < 12
      · obtain ⟨hX1, hkd⟩ := hgood hx
        rw [hY1 hX1] at hS8 e5 e7
        have e0 : bv_bn (.inr (bv_nx z n b)) (bv_tk z n) = bv_tk z n (bv_nx z n b) := rfl
        rw [e0] at hS8 e5 e7
        unfold bv_carb
        rw [if_pos hx]
        rw [bv_mn_num] at hS8 e5 e7
        cases k2 : bv_num z n 1 9 (bv_nx z n b) with
        | inl e =>
          rw [k2] at hS8
          exact hS8
        | inr b2 =>
          rw [k2] at hS8 e5 e7
          dsimp only at hS8 e5 e7
          rw [bv_mn_num] at hS8 e7
          cases k3 : bv_num z n 1 5 b2.1 with
          | inl e =>
            rw [k3] at hS8
            rw [bv_bn, k3]
            exact hS8
          | inr b3 =>
            rw [k3] at hS8 e7
            dsimp only at hS8 e7
            rw [bv_bn, k3]
            refine ⟨hS8, ?_⟩
            obtain ⟨v1, v2, v3⟩ := bv_up e5
            obtain ⟨w1, w2, w3⟩ := bv_up e7
            show bv_mQ M8 (bt_w1 (bt_w1 (bt_w1 (bt_w1 Q.1 7 (Q.1 12 1) (bv_ix (bv_wd z n b) - 7)) 8 (Q.1 12 1) b2.2) 9 (Q.1 12 1) b3.2) 12 1 (Q.1 12 1 + 1), Q.2)
            have d69 : ∀ i : Nat, i ≠ 58 + 5 * Q.1 12 1 → i ≠ 58 + 5 * Q.1 12 1 + 1 → i ≠ 58 + 5 * Q.1 12 1 + 2 → M8 69 i = M 69 i := fun i i1 i2 i3 => by
              rw [x1 69 (by omega), w3 i i3, g6.1 69 (by omega), v3 i i2, g4.1 69 (by omega), g3.1 69 (by omega), u3 i i1, g1.1 69 (by omega)]
            have d0 : M8 69 (58 + 5 * Q.1 12 1) = nI (bv_ix (bv_wd z n b) - 7) := by
              rw [x1 69 (by omega), w3 _ (by omega), g6.1 69 (by omega), v3 _ (by omega), g4.1 69 (by omega), g3.1 69 (by omega), u2, hkd]
            have d1 : M8 69 (58 + 5 * Q.1 12 1 + 1) = nI b2.2 := by
              rw [x1 69 (by omega), w3 _ (by omega), g6.1 69 (by omega), v2]
            have d2 : M8 69 (58 + 5 * Q.1 12 1 + 2) = nI b3.2 := by
              rw [x1 69 (by omega), w2]
            have d70 : M8 70 = M 70 := by
              rw [x1 70 (by omega), w1 70 (by omega), g6.1 70 (by omega), v1 70 (by omega), g4.1 70 (by omega), g3.1 70 (by omega), u1 70 (by omega), g1.1 70 (by omega)]
            have d67 : ∀ g : Nat, g < 12 → M7 67 g = M 67 g := fun g hg => by
              rw [w1 67 (by omega), g6.2 g (by omega), v1 67 (by omega), g4.2 g (by omega), g3.2 g (by omega), u1 67 (by omega), g1.2 g (by omega)]
            generalize hw' : bt_w1 (bt_w1 (bt_w1 (bt_w1 Q.1 7 (Q.1 12 1) (bv_ix (bv_wd z n b) - 7)) 8 (Q.1 12 1) b2.2) 9 (Q.1 12 1) b3.2) 12 1 (Q.1 12 1 + 1) = w'
            have t12 : ∀ k, w' 12 k = if k = 1 then Q.1 12 1 + 1 else Q.1 12 k := fun k => by
              rw [← hw', bt_w1_s]
              by_cases c : k = 1
              · rw [if_pos c, if_pos c]
              · rw [if_neg c, if_neg c, bt_w1_n (by omega), bt_w1_n (by omega), bt_w1_n (by omega)]
            have t0 : ∀ k, w' 7 k = if k = Q.1 12 1 then (bv_ix (bv_wd z n b) - 7) else Q.1 7 k := fun k => by
              rw [← hw', bt_w1_n (by omega), bt_w1_n (by omega), bt_w1_n (by omega), bt_w1_s]
            have t1 : ∀ k, w' 8 k = if k = Q.1 12 1 then b2.2 else Q.1 8 k := fun k => by
              rw [← hw', bt_w1_n (by omega), bt_w1_n (by omega), bt_w1_s, bt_w1_n (by omega)]
            have t2 : ∀ k, w' 9 k = if k = Q.1 12 1 then b3.2 else Q.1 9 k := fun k => by
              rw [← hw', bt_w1_n (by omega), bt_w1_s, bt_w1_n (by omega), bt_w1_n (by omega)]
            have tf : ∀ f, f ≠ 7 → f ≠ 8 → f ≠ 9 → f ≠ 12 → w' f = Q.1 f := fun f f0 f1 f2 f3 => by
              rw [← hw', bt_w1_n f3, bt_w1_n f2, bt_w1_n f1, bt_w1_n f0]
            unfold bv_mQ
            dsimp only
            rw [t12 0, t12 1, t12 2, t12 3, if_neg (by omega), if_pos rfl, if_neg (by omega), if_neg (by omega), tf 0 (by omega) (by omega) (by omega) (by omega), tf 1 (by omega) (by omega) (by omega) (by omega), tf 2 (by omega) (by omega) (by omega) (by omega), tf 3 (by omega) (by omega) (by omega) (by omega), tf 4 (by omega) (by omega) (by omega) (by omega), tf 5 (by omega) (by omega) (by omega) (by omega), tf 6 (by omega) (by omega) (by omega) (by omega), d70]
            refine ⟨?_, ?_, ?_, ?_, ?_, ?_, ?_, ?_, ?_, ?_, ?_, q12, q13, q14, q15⟩
            · rw [x3 4 (by omega), d67 4 (by omega)]; exact q1
            · rw [x2, d67 5 (by omega), q2, nI_1]
            · rw [x3 8 (by omega), d67 8 (by omega)]; exact q3
            · intro i hi
              have := q4 i hi
              by_cases hi8 : i < 8
              · rw [d69 (7 * i) (by omega) (by omega) (by omega), d69 (7 * i + 1) (by omega) (by omega) (by omega), d69 (7 * i + 2) (by omega) (by omega) (by omega)]; exact this
              · omega
            · intro i hi
              rw [d69 (7 * i + 3) (by omega) (by omega) (by omega), d69 (7 * i + 4) (by omega) (by omega) (by omega), d69 (7 * i + 5) (by omega) (by omega) (by omega), d69 (7 * i + 6) (by omega) (by omega) (by omega)]; exact q5 i hi
            · rw [d69 56 (by omega) (by omega) (by omega)]; exact q6
            · rw [d69 57 (by omega) (by omega) (by omega)]; exact q7
            · intro k hk
              rw [t0, t1, t2]
              by_cases c : k = Q.1 12 1
              · rw [if_pos c, if_pos c, if_pos c, c]
                exact ⟨d0, d1, d2⟩
              · rw [if_neg c, if_neg c, if_neg c, d69 (58 + 5 * k) (by omega) (by omega) (by omega), d69 (58 + 5 * k + 1) (by omega) (by omega) (by omega), d69 (58 + 5 * k + 2) (by omega) (by omega) (by omega)]
                exact q8 k (by omega)
            · intro k hk
              rw [d69 (58 + 5 * k + 3) (by omega) (by omega) (by omega), d69 (58 + 5 * k + 4) (by omega) (by omega) (by omega)]; exact q9 k hk
            · rw [d69 88 (by omega) (by omega) (by omega)]; exact q10
            · rw [d69 89 (by omega) (by omega) (by omega)]; exact q11
      · have hX1 := hbad hx
        rw [hY2 _ hX1] at hS8
        unfold bv_carb
        rw [if_neg hx]
        exact hS8
    have hidx : (if bv_ix (bv_wd z n b) < 12 then nI (bv_ix (bv_wd z n b)) else (-4 : Int32)) - 7 < 0 ↔ ¬ (7 ≤ bv_ix (bv_wd z n b) ∧ bv_ix (bv_wd z n b) < 12) := by
      generalize bv_ix (bv_wd z n b) = x
      by_cases c : x < 12
      · rw [if_pos c]
        have : ∀ x, x < 12 → (nI x - 7 < 0 ↔ ¬ (7 ≤ x ∧ x < 12)) := by decide +kernel
        exact this x c
      · rw [if_neg c]
        exact ⟨fun _ c2 => c c2.2, fun _ => by decide⟩
    have h12 := hS.1
    refine bt_go rfl hP 60 [34] P (fun _ _ _ _ _ h => h) ?_
    refine ⟨z, n, b, rfl, hT, hL, hS, ?_⟩
    refine ⟨fun y => absurd h12 y, fun _ => ⟨fun y1 => ?_, fun y1 => ?_⟩⟩
    · have y2 : 7 ≤ bv_ix (bv_wd z n b) ∧ bv_ix (bv_wd z n b) < 12 := by
        rw [← Int32.not_lt, hidx, Classical.not_not] at y1
        exact y1
      refine tail M (.inr b) _ bv_gr_rf hS (fun _ => ⟨rfl, ?_⟩) (fun c => absurd y2 c)
      rw [if_pos y2.2, show (7 : Int32) = nI 7 from rfl, pk_sub y2.1]
    · have y2 : ¬ (7 ≤ bv_ix (bv_wd z n b) ∧ bv_ix (bv_wd z n b) < 12) := by
        rw [← Int32.not_lt, Classical.not_not, hidx] at y1
        exact y1
      refine ⟨rfl, fun M1 n1 n2 n3 n4 => ?_⟩
      exact tail M1 (.inl (2, b)) _ ⟨n1, fun f hf => n2 f (by omega) (by omega)⟩ (bv_mS_F hS (by omega) n3) (fun c => absurd c y2) (fun _ => rfl)
  · exact False.elim h
