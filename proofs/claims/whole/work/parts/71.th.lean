/-! THE TEXT: the class tells all -/
theorem bv_mk_pad {f : Nat → Nat} {n : Nat} (h : ∀ k, n ≤ k → f k = 0) : ∀ d, bt_mk f (n + d) = bt_mk f n
  | 0 => rfl
  | d + 1 => by
    rw [← Nat.add_assoc, bt_mk, bv_mk_pad h d, h (n + d) (by omega), Nat.zero_mul, Nat.add_zero]
def bv_or (f g : Nat → Nat) : Nat → Nat := fun k => if f k = 1 ∨ g k = 1 then 1 else 0
theorem bv_or_b (f g : Nat → Nat) : bt_b1 (bv_or f g) := fun k => by
  unfold bv_or
  split <;> omega
theorem bv_or_i {f g : Nat → Nat} {k : Nat} : bv_or f g k = 1 ↔ f k = 1 ∨ g k = 1 := by
  unfold bv_or
  split
  · next h => exact ⟨fun _ => h, fun _ => rfl⟩
  · next h => exact ⟨fun y => absurd y (by omega), fun y => absurd y h⟩
theorem bv_mk_or {f g : Nat → Nat} (hf : bt_b1 f) (hg : bt_b1 g) : nI (bt_mk f 8) ||| nI (bt_mk g 8) = nI (bt_mk (bv_or f g) 8) := by
  have h1 := bt_mk_lt hf 8
  have h2 := bt_mk_lt hg 8
  rw [bt_or (by omega) (by omega), bt_mk_or hf hg (bv_or_b f g) (fun k _ => bv_or_i)]
def bt_CX3_checkStretches : bt_C := [(69, 1, 3, sX3_refuse)]
def sX3_checkStretches : bt_Sp := fun as M N K => match as with
  | [.ref c] => ∃ z n Q, c = 20 ∧ bv_cT M z n ∧ M 20 3 = 0 ∧ bv_ok Q ∧ bv_cQ M Q ∧ ∀ M', bv_fo M M' → (Q.1 12 0 < Q.2.2.2 → M' 20 3 = nI 6 ∧ M' 20 4 = nI n) → (¬ Q.1 12 0 < Q.2.2.2 → M' 20 3 = 0 ∧ bt_cW M' 11 Q.1) → K none M' N
  | _ => False
set_option maxRecDepth 100000 in
theorem mX3_checkStretches : bt_MT bt_TX3_checkStretches bt_FX3 bt_CX3_checkStretches 0 2 sX3_checkStretches := by
  intro as M N Rt h P hP
  unfold sX3_checkStretches at h
  split at h
  · obtain ⟨z, n, Q, rfl, hT, h3, hok, hQ, h⟩ := h
    obtain ⟨q1, q2, q3, q4, q5, q6, q7, q8, q9, q10, q11, q12, q13, q14, q15, q16⟩ := id hQ
    obtain ⟨o1, o2, o3, o4, o5, o6, o7, o8, o9, o10⟩ := id hok
    have b4 : bt_b1 (Q.1 4) := o1.2.2.2.2.2.2.2.2.2.2.1
    have b5 : bt_b1 (Q.1 5) := o1.2.2.2.2.2.2.2.2.2.2.2.1
    have b6 : bt_b1 (Q.1 6) := o1.2.2.2.2.2.2.2.2.2.2.2.2.1
    have hR := o1.1
    have hnamed : M 20 10 ||| M 20 11 ||| M 20 12 ||| M 20 13 = nI (bt_mk (bv_or (bv_or (bv_or (Q.1 4) Q.2.1) (Q.1 5)) (Q.1 6)) 8) := by
      rw [q13, q14, q15, q16, bv_mk_or b4 o6, bv_mk_or (bv_or_b _ _) b5, bv_mk_or (bv_or_b _ _) b6]
    have heb := bv_or_b (bv_or (bv_or (Q.1 4) Q.2.1) (Q.1 5)) (Q.1 6)
    have hei : ∀ k, bv_or (bv_or (bv_or (Q.1 4) Q.2.1) (Q.1 5)) (Q.1 6) k = 1 ↔ ((Q.1 4 k = 1 ∨ Q.2.1 k = 1) ∨ Q.1 5 k = 1) ∨ Q.1 6 k = 1 := fun k => by
      rw [bv_or_i, bv_or_i, bv_or_i]
    generalize bv_or (bv_or (bv_or (Q.1 4) Q.2.1) (Q.1 5)) (Q.1 6) = e at hnamed heb hei
    have hlt := bt_mk_lt heb 8
    have hsh : (M 20 10 ||| M 20 11 ||| M 20 12 ||| M 20 13) >>> (M 11 8 &&& 31) = nI (bt_mk e 8 / 2 ^ Q.1 12 0) := by
      rw [hnamed, q1, bt_shr (by omega) (by omega)]
    have hz : bt_mk e 8 / 2 ^ Q.1 12 0 = 0 ↔ ¬ Q.1 12 0 < Q.2.2.2 := by
      refine ⟨fun c hlt2 => ?_, fun c => ?_⟩
      · have h1 := o10 (by omega)
        have h2 : e (Q.2.2.2 - 1) = 1 := (hei _).mpr (by omega)
        have h3 := bt_mk_bit heb 8 (Q.2.2.2 - 1)
        rw [if_pos (by omega), h2] at h3
        have h4 : bt_mk e 8 < 2 ^ Q.1 12 0 := (Nat.div_eq_zero_iff_lt (Nat.two_pow_pos _)).mp c
        have h5 : 2 ^ Q.1 12 0 ≤ 2 ^ (Q.2.2.2 - 1) := Nat.pow_le_pow_right (by omega) (by omega)
        rw [Nat.div_eq_of_lt (by omega)] at h3
        omega
      · have h1 : ∀ k, Q.1 12 0 ≤ k → e k = 0 := fun k hk => by
          have h2 := o9 k (by omega)
          have h3 := heb k
          have h4 := hei k
          omega
        have h2 := bv_mk_pad h1 (8 - Q.1 12 0)
        rw [show Q.1 12 0 + (8 - Q.1 12 0) = 8 by omega] at h2
        rw [h2, Nat.div_eq_of_lt (bt_mk_lt heb _)]
    have hdl : bt_mk e 8 / 2 ^ Q.1 12 0 ≤ bt_mk e 8 := Nat.div_le_self _ _
    have fin : ∀ M0 : bt_M, bv_fo M M0 → (∀ x : Nat, x ≠ 20 → M0 x = M x) → (∀ f : Nat, 8 < f → M0 20 f = M 20 f) → (Q.1 12 0 < Q.2.2.2 → M0 20 3 = nI 6 ∧ M0 20 4 = nI n) → (¬ Q.1 12 0 < Q.2.2.2 → M0 20 3 = 0) → ∀ M1, M1 = va_up M0 11 (upd (M0 11) 9 (M0 20 10)) → ∀ M2, M2 = va_up M1 11 (upd (M1 11) 10 (M1 20 12)) → ∀ M3, M3 = va_up M2 11 (upd (M2 11) 11 (M2 20 13)) → Rt none M3 N := by
      intro M0 g0 hx h20 hbad hgood M1 e1 M2 e2 M3 e3
      obtain ⟨u1, u2, u3⟩ := bv_up e1
      obtain ⟨v1, v2, v3⟩ := bv_up e2
      obtain ⟨w1, w2, w3⟩ := bv_up e3
      have g3 := bv_fo_up (bv_fo_up (bv_fo_up g0 e1 (by omega) (by omega)) e2 (by omega) (by omega)) e3 (by omega) (by omega)
      have m20 : M3 20 = M0 20 := by rw [w1 20 (by omega), v1 20 (by omega), u1 20 (by omega)]
      refine h M3 g3 (fun c => by rw [m20]; exact hbad c) (fun c => ⟨by rw [m20]; exact hgood c, ?_⟩)
      have hmk : ∀ f : Nat → Nat, (∀ k, Q.2.2.2 ≤ k → f k = 0) → bt_mk f 8 = bt_mk f (Q.1 12 0) := fun f hf => by
        have h2 := bv_mk_pad (f := f) (n := Q.1 12 0) (fun k hk => hf k (by omega)) (8 - Q.1 12 0)
        rw [show Q.1 12 0 + (8 - Q.1 12 0) = 8 by omega] at h2
        exact h2
      have hx3 : ∀ x : Nat, x ≠ 11 → x ≠ 20 → M3 x = M x := fun x x1 x2 => by rw [w1 x x1, v1 x x1, u1 x x1, hx x x2]
      have c11 : ∀ f : Nat, f ≠ 9 → f ≠ 10 → f ≠ 11 → M3 11 f = M 11 f := fun f f1 f2 f3 => by rw [w3 f f3, v3 f f2, u3 f f1, hx 11 (by omega)]
      refine ⟨o1, ?_, ?_, ?_, ?_, ?_, ?_, ?_, ?_, ?_, ?_, ?_, ?_, ?_, ?_, ?_, ?_, ?_, ?_⟩
      · rw [c11 8 (by omega) (by omega) (by omega)]; exact q1
      · rw [w3 9 (by omega), v3 9 (by omega), u2, h20 10 (by omega), q13, hmk _ (fun k hk => (o9 k hk).1)]
      · rw [w3 10 (by omega), v2, u1 20 (by omega), h20 12 (by omega), q15, hmk _ (fun k hk => (o9 k hk).2.1)]
      · rw [w2, v1 20 (by omega), u1 20 (by omega), h20 13 (by omega), q16, hmk _ (fun k hk => (o9 k hk).2.2.1)]
      · rw [c11 12 (by omega) (by omega) (by omega)]; exact q2
      · rw [c11 13 (by omega) (by omega) (by omega), q3, show bt_mk (Q.1 11) (Q.1 12 1) = 0 by
          have := bv_mk_pad (f := Q.1 11) (n := 0) (fun k _ => o3 k) (Q.1 12 1)
          rw [Nat.zero_add] at this
          rw [this]
          rfl]
        rfl
      · rw [c11 14 (by omega) (by omega) (by omega)]; exact q4
      · rw [c11 15 (by omega) (by omega) (by omega)]; exact q5
      · rw [c11 16 (by omega) (by omega) (by omega), q6, o4]; rfl
      · rw [c11 17 (by omega) (by omega) (by omega), q7, o5]; rfl
      · intro i hi; rw [hx3 12 (by omega) (by omega)]; exact (q8 i hi).1
      · intro i hi; rw [hx3 13 (by omega) (by omega)]; exact (q8 i hi).2.1
      · intro i hi; rw [hx3 14 (by omega) (by omega)]; exact (q8 i hi).2.2
      · intro i hi; rw [hx3 15 (by omega) (by omega)]; exact q9 i (by omega)
      · intro k hk; rw [hx3 16 (by omega) (by omega)]; exact (q10 k hk).1
      · intro k hk; rw [hx3 17 (by omega) (by omega)]; exact (q10 k hk).2.1
      · intro k hk; rw [hx3 18 (by omega) (by omega)]; exact (q10 k hk).2.2
      · intro k hk
        have := o1.2.1
        rw [hx3 19 (by omega) (by omega), q11 k (by omega), o2]
        rfl
    refine bt_go0 rfl hP 100 ?_
    refine ⟨fun y1 => ?_, fun y1 => ?_⟩
    · rw [hsh, bt_n0 (by omega), hz] at y1
      exact fin M bv_fo_rf (fun _ _ => rfl) (fun _ _ => rfl) (fun c => absurd c y1) (fun _ => h3)
    · rw [hsh, bt_n0 (by omega), hz] at y1
      refine ⟨rfl, fun M2 n1 n2 n3 n4 => ?_⟩
      exact fin M2 (bv_fo_rs bv_fo_rf n1 n2) n1 (fun f hf => n2 f (by omega) (by omega)) (fun _ => ⟨n3, by rw [n4]; exact hT.1⟩) (fun c => absurd c y1)
  · exact False.elim h
def bv_Td (X : bv_X) (M M' : bt_M) (r : Int32) : Prop := (∀ x : Nat, (x < 11 ∨ 20 < x) → M' x = M x) ∧ match X with
  | .inl e => M' 20 3 = nI e.1 ∧ M' 20 4 = nI e.2
  | .inr q => r = nI q.1 ∧ M' 20 3 = 0 ∧ bt_cW M' 11 q.2.1
def bt_CX3_tellAll : bt_C := [(26, 1, 1, sX4_clear), (53, 1, 1, sX3_advance), (60, 1, 1, sX3_tellLine), (63, 1, 1, sX3_checkStretches)]
def sX3_tellAll : bt_Sp := fun as M N K => match as with
  | [.ref c] => ∃ z n, c = 20 ∧ bv_cT M z n ∧ ∀ M' r, bv_Td (bv_all z n (n + 1) 0 0 bv_q0) M M' r → K (some (.int r)) M' N
  | _ => False
set_option maxRecDepth 100000 in
set_option maxHeartbeats 1000000 in
theorem mX3_tellAll : bt_MT bt_TX3_tellAll bt_FX3 bt_CX3_tellAll 1 2 sX3_tellAll := by
  intro as M N Rt h P hP
  unfold sX3_tellAll at h
  split at h
  · obtain ⟨z, n, rfl, ⟨hn2, hn, hz1, hz2⟩, h⟩ := h
    generalize hAll : bv_all z n (n + 1) 0 0 bv_q0 = A at h
    have loop : ∀ v pc L st M' N', (pc = 49 ∧ st = [] ∧ N' = N ∧ (∀ x : Nat, (x < 11 ∨ 20 < x) → M' x = M x) ∧ bv_cT M' z n ∧ M' 20 3 = 0 ∧ ∃ p l Q, L = [some (.ref 20), some (.int (nI l))] ∧ l ≤ p ∧ p ≤ n ∧ n + 1 ≤ v + p ∧ M' 20 5 = nI p ∧ bv_ok Q ∧ bv_cQ M' Q ∧ bv_all z n v p l Q = A) → P pc L st M' N' := by
      refine bt_loop rfl hP 60 [49] (fun v pc L st M' N' => (pc = 49 ∧ st = [] ∧ N' = N ∧ (∀ x : Nat, (x < 11 ∨ 20 < x) → M' x = M x) ∧ bv_cT M' z n ∧ M' 20 3 = 0 ∧ ∃ p l Q, L = [some (.ref 20), some (.int (nI l))] ∧ l ≤ p ∧ p ≤ n ∧ n + 1 ≤ v + p ∧ M' 20 5 = nI p ∧ bv_ok Q ∧ bv_cQ M' Q ∧ bv_all z n v p l Q = A)) ?_
      rintro v pc L st M' N' ⟨rfl, rfl, hN, hfr, hT, h3, p, l, Q, rfl, hlp, hp, hv, h5, hok, hQ, hA⟩
      subst hN
      obtain ⟨f, rfl⟩ : ∃ f, v = f + 1 := ⟨v - 1, by omega⟩
      refine ⟨fun y1 => ?_, fun y1 => ?_⟩
      · rw [hT.1, nI_ltI (by omega) (by omega)] at y1
        omega
      · refine ⟨z, n, p, rfl, hT, h5, hp, fun M1 r hB => ?_⟩
        obtain ⟨hf1, hB⟩ := hB
        have g1 := bv_fo_fr bv_fo_rf hf1
        rw [bv_all] at hA
        cases k1 : bv_tk z n p with
        | inl e =>
          rw [k1] at hB hA
          obtain ⟨rfl, m3, m4⟩ := hB
          refine ⟨fun y => absurd rfl y, fun _ => h M1 _ ⟨fun x hx => by rw [g1.1 x hx, hfr x hx], ?_⟩⟩
          rw [← hA]
          exact ⟨m3, m4⟩
        | inr a =>
          rw [k1] at hB hA
          obtain ⟨rfl, m3, hS1⟩ := hB
          have hb := bv_tk_b hp k1
          have hk4 := bv_kd_4 z n a
          have m30 : M1 20 3 = 0 := by rw [m3]; exact h3
          refine ⟨fun _ => ?_, fun y => absurd y (by decide)⟩
          refine ⟨fun y2 => ?_, fun y2 => ?_⟩
          · rw [hS1.1, bt_n0 (by omega)] at y2
            rw [bv_bn, if_neg y2] at hA
            refine ⟨z, n, a, Q, rfl, bv_cT_fo hT g1, hS1, hb.2.1, m30, hok, bv_cQ_fr hQ hf1, fun M2 r hD => ?_⟩
            obtain ⟨g2, hD⟩ := hD
            cases k2 : bv_ln z n a Q with
            | inl e =>
              rw [k2] at hD hA
              obtain ⟨rfl, n3, n4⟩ := hD
              refine ⟨fun y => absurd rfl y, fun _ => h M2 _ ⟨fun x hx => by rw [g2.1 x hx, g1.1 x hx, hfr x hx], ?_⟩⟩
              rw [← hA]
              exact ⟨n3, n4⟩
            | inr q =>
              rw [k2] at hD hA
              obtain ⟨rfl, n3, n5, hQ2⟩ := hD
              have hr := bv_ln_ok hok hb.2.1 k2
              refine ⟨fun _ => ?_, fun y => absurd y (by decide)⟩
              exact ⟨f, by omega, rfl, rfl, rfl, fun x hx => by rw [g2.1 x hx, g1.1 x hx, hfr x hx], bv_cT_fo (bv_cT_fo hT g1) g2, by rw [n3]; exact m30, q.1, l + 1, q.2, by rw [nI_1], by omega, hr.2.2, by omega, n5, hr.1, hQ2, hA⟩
          · rw [hS1.1, bt_n0 (by omega)] at y2
            rw [bv_bn, if_pos y2] at hA
            refine ⟨z, n, Q, rfl, bv_cT_fo hT g1, m30, hok, bv_cQ_fr hQ hf1, fun M2 g2 hbad hgood => ?_⟩
            refine h M2 _ ⟨fun x hx => by rw [g2.1 x hx, g1.1 x hx, hfr x hx], ?_⟩
            by_cases c : Q.1 12 0 < Q.2.2.2
            · rw [if_pos c] at hA
              rw [← hA]
              exact hbad c
            · rw [if_neg c] at hA
              rw [← hA]
              exact ⟨rfl, hgood c⟩
    refine bt_go rfl hP 60 [49] P (fun _ _ _ _ _ h => h) ?_
    refine ⟨rfl, fun M2 hc => ?_⟩
    obtain ⟨hc1, hc2, hc3, hc4, hc5⟩ := hc
    intro M3 e3 M4 e4 M5 e5 M6 e6 M7 e7 M8 e8 M9 e9 M10 e10
    obtain ⟨c1, c2, c3⟩ := bv_up e3
    obtain ⟨d1, d2, d3⟩ := bv_up e4
    obtain ⟨f1, f2, f3⟩ := bv_up e5
    obtain ⟨g1, g2, g3⟩ := bv_up e6
    obtain ⟨i1, i2, i3⟩ := bv_up e7
    obtain ⟨j1, j2, j3⟩ := bv_up e8
    obtain ⟨k1, k2, k3⟩ := bv_up e9
    obtain ⟨l1, l2, l3⟩ := bv_up e10
    have hx : ∀ x : Nat, x ≠ 20 → M10 x = M2 x := fun x hx => by rw [l1 x hx, k1 x hx, j1 x hx, i1 x hx, g1 x hx, f1 x hx, d1 x hx, c1 x hx]
    have hfr : ∀ x : Nat, (x < 11 ∨ 20 < x) → M10 x = M x := fun x hxx => by rw [hx x (by omega), hc5 x (by omega) (by omega) (by omega)]
    have z10 : M10 20 3 = 0 ∧ M10 20 5 = 0 ∧ M10 20 9 = 0 ∧ M10 20 10 = 0 ∧ M10 20 11 = 0 ∧ M10 20 12 = 0 ∧ M10 20 13 = 0 ∧ M10 20 2 = nI n := by
      refine ⟨?_, ?_, ?_, ?_, ?_, ?_, ?_, ?_⟩
      · rw [l3 3 (by omega), k3 3 (by omega), j3 3 (by omega), i3 3 (by omega), g3 3 (by omega), f3 3 (by omega), d3 3 (by omega), c2]
      · rw [l3 5 (by omega), k3 5 (by omega), j3 5 (by omega), i3 5 (by omega), g3 5 (by omega), f2]
      · rw [l3 9 (by omega), k3 9 (by omega), j3 9 (by omega), i3 9 (by omega), g2]
      · rw [l3 10 (by omega), k3 10 (by omega), j3 10 (by omega), i2]
      · rw [l3 11 (by omega), k3 11 (by omega), j2]
      · rw [l3 12 (by omega), k2]
      · exact l2
      · rw [l3 2 (by omega), k3 2 (by omega), j3 2 (by omega), i3 2 (by omega), g3 2 (by omega), f3 2 (by omega), d3 2 (by omega), c3 2 (by omega), hc5 20 (by omega) (by omega) (by omega), hn2]
    obtain ⟨z3, z5, z9, z10', z11, z12, z13, z2⟩ := z10
    refine loop (n + 1) _ _ _ _ _ ⟨rfl, rfl, rfl, hfr, ⟨z2, hn, by rw [hfr 1 (by omega)]; exact hz1, hz2⟩, z3, 0, 0, bv_q0, rfl, Nat.le_refl _, Nat.zero_le _, by omega, z5, bv_q0_ok, ?_, hAll⟩
    unfold bv_cQ
    rw [hx 11 (by omega), hx 12 (by omega), hx 13 (by omega), hx 14 (by omega), hx 15 (by omega), hx 16 (by omega), hx 17 (by omega), hx 18 (by omega), hx 19 (by omega)]
    exact ⟨hc1 8 (by omega) (by omega) (by omega), hc1 12 (by omega) (by omega) (by omega), hc1 13 (by omega) (by omega) (by omega), hc2, hc1 15 (by omega) (by omega) (by omega), hc1 16 (by omega) (by omega) (by omega), hc1 17 (by omega) (by omega) (by omega), fun i hi => absurd hi (Nat.not_lt_zero _), hc3, fun i hi => absurd hi (Nat.not_lt_zero _), hc4, z9, z10', z11, z12, z13⟩
  · exact False.elim h
