/-! CALLS: text, the model -/
theorem bv_mW_c {M M' : bt_M} {p : Nat} {w : bt_W} (h : bt_mW M p w) (h1 : M' 67 1 = M 67 1) (h2 : M' 67 2 = M 67 2) (h3 : M' 68 = M 68) : bt_mW M' p w := by
  unfold bt_mW bt_pg
  rw [h1, h2, h3]
  exact h
theorem bv_r7 : ∀ k, k < 90 → nI k - nI k / 7 * 7 = nI (k % 7) ∧ k % 7 < 7 := by decide +kernel
def bt_CX6_text : bt_C := [(88, 1, 1, sX6_step), (124, 1, 1, sX6_readLine), (84, 1, 2, sX6_fails)]
def sX6_text : bt_Sp := bt_spM f_text
set_option maxRecDepth 100000 in
set_option maxHeartbeats 2000000 in
theorem mX6_text : bt_MT bt_TX6_text bt_FX6 bt_CX6_text 1 3 sX6_text := by
  intro as M N Rt h P hP
  obtain ⟨t, S, r, S', rfl, hI, hf, h⟩ := bt_spM_e h
  obtain ⟨w, im, u, z, q⟩ := S
  unfold f_text at hf
  split at hf
  · next _ _ _ _ _ e =>
    cases e
    obtain ⟨a1, a2, a3, a4, a5, a6, a7, a8, a9, a10, a11, a12, a13, a14, a15⟩ := id hI
    obtain ⟨b0, b1, b2, b3, b4, b5, b6, b7, b8, b9, b10⟩ := id a2
    -- what the text leaves alone
    have frame : ∀ M' : bt_M, (∀ x : Nat, x ≠ 67 → x ≠ 69 → x ≠ 70 → M' x = M x) → bv_hl M M' ∨ True := fun _ _ => Or.inr trivial
    generalize hAll : bv_all (z 0) (u 0) (u 0 + 1) 0 0 bv_q0 = A at hf
    -- the end, with a fault
    have endF : ∀ M1 e l y2, A = .inl e → (∀ x : Nat, x ≠ 67 → x ≠ 69 → x ≠ 70 → M1 x = M x) → (∀ g : Nat, g ≠ 4 → g ≠ 5 → g ≠ 6 → g ≠ 8 → (g < 12 ∨ 17 < g) → M1 67 g = M 67 g) → bv_mS M1 (z 0) (u 0) (.inl e) → P 115 [some (.ref 67), some (.int l), y2] [] M1 N := by
      intro M1 e l y2 hA hx hg hS
      rw [hA] at hf
      obtain ⟨rfl, rfl⟩ := bt_some hf
      have he2 := hS.2.2.1
      refine bt_go0 rfl hP 60 ?_
      intro M2 e2 M3 e3
      obtain ⟨u1, u2, u3⟩ := bv_up e2
      obtain ⟨v1, v2, v3⟩ := bv_up e3
      have m12 : M3 67 12 = nI e.1 := by rw [v3 12 (by omega), u3 12 (by omega)]; exact hS.1
      have m13 : M3 67 13 = nI e.2 := by rw [v3 13 (by omega), u3 13 (by omega)]; exact hS.2.2.2
      have m11 : M3 67 11 = nI e.1 := by rw [v2, u3 12 (by omega)]; exact hS.1
      have m10 : M3 67 10 = 0 := by rw [v3 10 (by omega), u2]
      have hx3 : ∀ x : Nat, x ≠ 67 → x ≠ 69 → x ≠ 70 → M3 x = M x := fun x x1 x2 x3 => by rw [v1 x x1, u1 x x1, hx x x1 x2 x3]
      have hg3 : ∀ g : Nat, (g < 3 ∨ 17 < g) → M3 67 g = M 67 g := fun g hg' => by rw [v3 g (by omega), u3 g (by omega), hg g (by omega) (by omega) (by omega) (by omega) (by omega)]
      refine ⟨fun y => ?_, fun _ => ?_⟩
      · rw [m12, bt_le0 (by omega)] at y
        have := hS.2.1
        omega
      · suffices hc : bt_mI M3 (w, im, bv_ur u e.1, z, q) by
          have key := h M3 (fun x hx' => hx3 x (by omega) (by omega) (by omega)) hc
          rw [← m13] at key
          exact key
        refine ⟨bv_mW_c a1 (hg3 1 (by omega)) (hg3 2 (by omega)) (hx3 68 (by omega) (by omega) (by omega)), ?_, ?_, ?_, ?_, ?_, ?_, ?_, ?_, ?_, ?_, ?_, ?_, ?_, ?_⟩
        · refine ⟨Nat.zero_le _, b1, he2, ?_, ?_, ?_, ?_, ?_, ?_, ?_, ?_⟩
          · rw [bv_ur_n (by omega)]; exact b3
          · rw [bv_ur_n (by omega)]; exact b4
          · rw [bv_ur_n (by omega)]; exact b5
          · rw [bv_ur_n (by omega)]; exact b6
          · intro k hk
            rw [bv_ur_n (by omega), bv_ur_n (by omega)]; exact b7 k hk
          · rw [bv_ur_n (by omega)]; exact b8
          · rw [bv_ur_n (by omega)]; exact b9
          · rw [bv_ur_n (by omega)]; exact b10
        · rw [m10]; rfl
        · intro j hj
          exact absurd hj (Nat.not_lt_zero _)
        · rw [m11]; rfl
        · rw [hg3 26 (by omega), bv_ur_n (by omega)]; exact a6
        · rw [hx3 75 (by omega) (by omega) (by omega), bv_ur_n (by omega)]; exact a7
        · rw [hx3 75 (by omega) (by omega) (by omega), bv_ur_n (by omega)]; exact a8
        · rw [bv_ur_n (by omega)]
          exact fun c => bv_mW_c (a9 c) (hg3 1 (by omega)) (hg3 2 (by omega)) (hx3 68 (by omega) (by omega) (by omega))
        · rw [bv_ur_n (by omega)]
          exact fun c => bv_mW_c (a10 c) (hg3 1 (by omega)) (hg3 2 (by omega)) (hx3 68 (by omega) (by omega) (by omega))
        · intro k hk
          rw [bv_ur_n (by omega), bv_ur_n (by omega), hx3 76 (by omega) (by omega) (by omega), hx3 77 (by omega) (by omega) (by omega), hx3 78 (by omega) (by omega) (by omega)]
          exact a11 k hk
        · rw [hg3 21 (by omega), bv_ur_n (by omega)]; exact a12
        · rw [hx3 74 (by omega) (by omega) (by omega), bv_ur_n (by omega)]; exact a13
        · rw [hx3 72 (by omega) (by omega) (by omega)]; exact a14
        · rw [hx3 73 (by omega) (by omega) (by omega)]; exact a15
    -- the end, all told
    have endG : ∀ M1 l Q y2, A = .inr (l, Q) → bv_ok Q → Q.2.2.2 ≤ Q.1 12 0 → (∀ x : Nat, x ≠ 67 → x ≠ 69 → x ≠ 70 → M1 x = M x) → (∀ g : Nat, g ≠ 4 → g ≠ 5 → g ≠ 6 → g ≠ 8 → (g < 12 ∨ 17 < g) → M1 67 g = M 67 g) → M1 67 12 = 0 → bv_mQ M1 Q → P 115 [some (.ref 67), some (.int (nI l)), y2] [] M1 N := by
      intro M1 l Q y2 hA hok hhi hx hg h12 hQ
      rw [hA] at hf
      obtain ⟨rfl, rfl⟩ := bt_some hf
      obtain ⟨q1, q2, q3, q4, q5, q6, q7, q8, q9, q10, q11, q12, q13, q14, q15⟩ := id hQ
      obtain ⟨o1, o2, o3, o4, o5, o6, o7, o8, o9, o10⟩ := id hok
      have hR8 := o1.1
      have hC6 := o1.2.1
      have loop : ∀ v pc L st M' N', (pc = 145 ∧ st = [] ∧ N' = N ∧ (∀ x : Nat, x ≠ 67 → x ≠ 68 → M' x = M1 x) ∧ (∀ g : Nat, g ≠ 10 → g ≠ 11 → M' 67 g = M1 67 g) ∧ M' 67 10 = 0 ∧ M' 67 11 = 0 ∧ ∃ k, k ≤ 90 ∧ v = 90 - k ∧ L = [some (.ref 67), some (.int (nI l)), some (.int (nI k))] ∧ (∀ j, j < k → M' 68 j = M1 69 j)) → P pc L st M' N' := by
        refine bt_loop rfl hP 60 [145] (fun v pc L st M' N' => (pc = 145 ∧ st = [] ∧ N' = N ∧ (∀ x : Nat, x ≠ 67 → x ≠ 68 → M' x = M1 x) ∧ (∀ g : Nat, g ≠ 10 → g ≠ 11 → M' 67 g = M1 67 g) ∧ M' 67 10 = 0 ∧ M' 67 11 = 0 ∧ ∃ k, k ≤ 90 ∧ v = 90 - k ∧ L = [some (.ref 67), some (.int (nI l)), some (.int (nI k))] ∧ (∀ j, j < k → M' 68 j = M1 69 j))) ?_
        rintro v pc L st M' N' ⟨rfl, rfl, hN, p1, p2, p3, p4, k, hk, rfl, rfl, p5⟩
        subst hN
        refine ⟨fun y1 => ?_, fun y1 => ?_⟩
        · rw [bt_lit, nI_leI (by omega) (by omega)] at y1
          have e90 : k = 90 := by omega
          intro M2 e2 M3 e3 M4 e4
          refine ⟨_, rfl, 0, rfl, by omega, ?_⟩
          intro M5 e5
          refine ⟨_, rfl, 1, rfl, by omega, ?_⟩
          intro M6 e6
          obtain ⟨u1, u2, u3⟩ := bv_up e2
          obtain ⟨v1, v2, v3⟩ := bv_up e3
          obtain ⟨w1, w2, w3⟩ := bv_up e4
          obtain ⟨x1, x2, x3⟩ := bv_up e5
          obtain ⟨y1, y2, y3⟩ := bv_up e6
          have hx6 : ∀ x : Nat, x ≠ 67 → x ≠ 68 → x ≠ 69 → x ≠ 70 → x ≠ 75 → M6 x = M x := fun x c1 c2 c3 c4 c5 => by rw [y1 x c5, x1 x c5, w1 x c1, v1 x c1, u1 x c1, p1 x c1 c2, hx x c1 c3 c4]
          have h68 : M6 68 = M' 68 := by rw [y1 68 (by omega), x1 68 (by omega), w1 68 (by omega), v1 68 (by omega), u1 68 (by omega)]
          have s68 : ∀ j, j < 90 → M6 68 j = M1 69 j := fun j hj => by rw [h68]; exact p5 j (by omega)
          have h67 : ∀ g : Nat, g ≠ 1 → g ≠ 2 → g ≠ 21 → M6 67 g = M' 67 g := fun g c1 c2 c3 => by rw [y1 67 (by omega), x1 67 (by omega), w3 g c3, v3 g c2, u3 g c1]
          have f1 : M6 67 1 = nI (Q.1 12 0) := by rw [y1 67 (by omega), x1 67 (by omega), w3 1 (by omega), v3 1 (by omega), u2, p2 4 (by omega) (by omega)]; exact q1
          have f2 : M6 67 2 = nI (Q.1 12 1) := by rw [y1 67 (by omega), x1 67 (by omega), w3 2 (by omega), v2, u3 5 (by omega), p2 5 (by omega) (by omega)]; exact q2
          have f21 : M6 67 21 = 0 := by rw [y1 67 (by omega), x1 67 (by omega), w2]
          have k0 : M6 75 0 = 0 := by rw [y3 0 (by omega), x2]; rfl
          have k1 : M6 75 1 = 0 := by rw [y2]; rfl
          refine h M6 (fun x hx' => hx6 x (by omega) (by omega) (by omega) (by omega) (by omega)) ?_
          show bt_mI M6 (Q.1, im, bv_us u, z, q)
          refine ⟨⟨o1, f1, f2, ?_, ?_, ?_, ?_, ?_, ?_, ?_, ?_, ?_, ?_, ?_, ?_, ?_, ?_, ?_, ?_⟩, ?_, ?_, ?_, ?_, ?_, ?_, ?_, ?_, ?_, ?_, ?_, ?_, ?_, ?_⟩
          · rw [Nat.zero_add, s68 56 (by omega)]; exact q6
          · rw [Nat.zero_add, s68 57 (by omega)]; exact q7
          · rw [Nat.zero_add, s68 88 (by omega), q10, o4]; rfl
          · rw [Nat.zero_add, s68 89 (by omega), q11, o5]; rfl
          · intro i hi; rw [Nat.zero_add, s68 _ (by omega)]; exact (q4 i hi).1
          · intro i hi; rw [Nat.zero_add, s68 _ (by omega)]; exact (q4 i hi).2.1
          · intro i hi; rw [Nat.zero_add, s68 _ (by omega)]; exact (q4 i hi).2.2
          · intro i hi; rw [Nat.zero_add, s68 _ (by omega)]; exact (q5 i (by omega)).1
          · intro i hi; rw [Nat.zero_add, s68 _ (by omega)]; exact (q5 i (by omega)).2.1
          · intro i hi; rw [Nat.zero_add, s68 _ (by omega)]; exact (q5 i (by omega)).2.2.1
          · intro i hi; rw [Nat.zero_add, s68 _ (by omega)]; exact (q5 i (by omega)).2.2.2
          · intro k hk; rw [Nat.zero_add, s68 _ (by omega)]; exact (q8 k hk).1
          · intro k hk; rw [Nat.zero_add, s68 _ (by omega)]; exact (q8 k hk).2.1
          · intro k hk; rw [Nat.zero_add, s68 _ (by omega)]; exact (q8 k hk).2.2
          · intro k hk; rw [Nat.zero_add, s68 _ (by omega), (q9 k (by omega)).1, o2]; rfl
          · intro k hk; rw [Nat.zero_add, s68 _ (by omega), (q9 k (by omega)).2, o3]; rfl
          · refine ⟨Nat.zero_le _, b1, Nat.zero_le _, ?_, Nat.zero_le _, Nat.zero_le _, Nat.zero_le _, ?_, ?_, ?_, ?_⟩
            · rw [bv_us_n (by omega)]; exact b3
            · intro k hk
              rw [bv_us_n (by omega), bv_us_n (by omega)]; exact b7 k hk
            · intro k hk
              exact absurd hk (Nat.not_lt_zero _)
            · intro c
              exact absurd c (by show ¬ (0 = 1); omega)
            · intro c
              exact absurd c (by show ¬ (0 = 1); omega)
          · rw [h67 10 (by omega) (by omega) (by omega), p3]; rfl
          · intro j hj
            exact absurd hj (Nat.not_lt_zero _)
          · rw [h67 11 (by omega) (by omega) (by omega), p4]; rfl
          · rw [h67 26 (by omega) (by omega) (by omega), p2 26 (by omega) (by omega), hg 26 (by omega) (by omega) (by omega) (by omega) (by omega), bv_us_n (by omega)]; exact a6
          · exact k0
          · exact k1
          · intro c
            exact absurd c (by show ¬ (0 = 1); omega)
          · intro c
            exact absurd c (by show ¬ (0 = 1); omega)
          · intro k hk
            rw [bv_us_n (by omega), bv_us_n (by omega), hx6 76 (by omega) (by omega) (by omega) (by omega) (by omega), hx6 77 (by omega) (by omega) (by omega) (by omega) (by omega), hx6 78 (by omega) (by omega) (by omega) (by omega) (by omega)]
            exact a11 k hk
          · exact f21
          · intro k hk
            exact absurd hk (Nat.not_lt_zero _)
          · rw [hx6 72 (by omega) (by omega) (by omega) (by omega) (by omega)]; exact a14
          · rw [hx6 73 (by omega) (by omega) (by omega) (by omega) (by omega)]; exact a15
        · rw [bt_lit, nI_leI (by omega) (by omega)] at y1
          refine ⟨_, rfl, k, rfl, by omega, ?_⟩
          refine ⟨_, rfl, k, rfl, by omega, ?_⟩
          intro M2 e2
          obtain ⟨u1, u2, u3⟩ := bv_up e2
          refine ⟨90 - (k + 1), by omega, rfl, rfl, rfl, fun x c1 c2 => by rw [u1 x c2, p1 x c1 c2], fun g c1 c2 => by rw [u1 67 (by omega), p2 g c1 c2], by rw [u1 67 (by omega)]; exact p3, by rw [u1 67 (by omega)]; exact p4, k + 1, by omega, rfl, by rw [nI_1], fun j hj => ?_⟩
          by_cases c : j = k
          · rw [c, u2, p1 69 (by omega) (by omega)]
          · rw [u3 j c]; exact p5 j (by omega)
      refine bt_go rfl hP 60 [145] P (fun _ _ _ _ _ h => h) ?_
      intro M2 e2 M3 e3
      obtain ⟨u1, u2, u3⟩ := bv_up e2
      obtain ⟨v1, v2, v3⟩ := bv_up e3
      have m12 : M3 67 12 = 0 := by rw [v3 12 (by omega), u3 12 (by omega)]; exact h12
      refine ⟨fun _ => ?_, fun y => ?_⟩
      · exact loop _ _ _ _ _ _ ⟨rfl, rfl, rfl, fun x c1 c2 => by rw [v1 x c1, u1 x c1], fun g c1 c2 => by rw [v3 g c2, u3 g c1], by rw [v3 10 (by omega), u2], by rw [v2, u3 12 (by omega)]; exact h12, 0, by omega, rfl, rfl, fun j hj => by omega⟩
      · rw [m12] at y
        exact absurd (by decide) y
    -- the lines
    have loop2 : ∀ v pc L st M' N', (pc = 67 ∧ st = [] ∧ N' = N ∧ (∀ x : Nat, x ≠ 67 → x ≠ 69 → x ≠ 70 → M' x = M x) ∧ (∀ g : Nat, g ≠ 4 → g ≠ 5 → g ≠ 6 → g ≠ 8 → (g < 12 ∨ 17 < g) → M' 67 g = M 67 g) ∧ ∃ l y2, L = [some (.ref 67), some (.int (nI l)), y2] ∧ ((∃ e, v = 0 ∧ A = .inl e ∧ bv_mS M' (z 0) (u 0) (.inl e)) ∨ ∃ p Q, p ≤ u 0 ∧ u 0 + 1 ≤ v + p ∧ bv_ok Q ∧ bv_mQ M' Q ∧ bv_mO M' Q.2.2.1 ∧ bv_mS M' (z 0) (u 0) (bv_tk (z 0) (u 0) p) ∧ bv_all (z 0) (u 0) v p l Q = A)) → P pc L st M' N' := by
      refine bt_loopP rfl hP 80 [67, 115] (fun v pc L st M' N' => (pc = 67 ∧ st = [] ∧ N' = N ∧ (∀ x : Nat, x ≠ 67 → x ≠ 69 → x ≠ 70 → M' x = M x) ∧ (∀ g : Nat, g ≠ 4 → g ≠ 5 → g ≠ 6 → g ≠ 8 → (g < 12 ∨ 17 < g) → M' 67 g = M 67 g) ∧ ∃ l y2, L = [some (.ref 67), some (.int (nI l)), y2] ∧ ((∃ e, v = 0 ∧ A = .inl e ∧ bv_mS M' (z 0) (u 0) (.inl e)) ∨ ∃ p Q, p ≤ u 0 ∧ u 0 + 1 ≤ v + p ∧ bv_ok Q ∧ bv_mQ M' Q ∧ bv_mO M' Q.2.2.1 ∧ bv_mS M' (z 0) (u 0) (bv_tk (z 0) (u 0) p) ∧ bv_all (z 0) (u 0) v p l Q = A))) ?_
      rintro v pc L st M' N' ⟨rfl, rfl, hN, hx, hg, l, y2, rfl, hcase⟩
      subst hN
      have hbr : ∀ e, A = .inl e → bv_mS M' (z 0) (u 0) (.inl e) → bt_wp bt_TX6_text bt_FX6 bt_CX6_text 1 0 (fun _ => 0) Rt [67, 115] (fun pc' L' st' M'' N'' => (∃ u', u' < v ∧ (pc' = 67 ∧ st' = [] ∧ N'' = N' ∧ (∀ x : Nat, x ≠ 67 → x ≠ 69 → x ≠ 70 → M'' x = M x) ∧ (∀ g : Nat, g ≠ 4 → g ≠ 5 → g ≠ 6 → g ≠ 8 → (g < 12 ∨ 17 < g) → M'' 67 g = M 67 g) ∧ ∃ l y2, L' = [some (.ref 67), some (.int (nI l)), y2] ∧ ((∃ e, u' = 0 ∧ A = .inl e ∧ bv_mS M'' (z 0) (u 0) (.inl e)) ∨ ∃ p Q, p ≤ u 0 ∧ u 0 + 1 ≤ u' + p ∧ bv_ok Q ∧ bv_mQ M'' Q ∧ bv_mO M'' Q.2.2.1 ∧ bv_mS M'' (z 0) (u 0) (bv_tk (z 0) (u 0) p) ∧ bv_all (z 0) (u 0) u' p l Q = A))) ∨ P pc' L' st' M'' N'') 80 (bt_suf bt_TX6_text 67) [some (.ref 67), some (.int (nI l)), y2] [] M' N' := by
        intro e hA hS
        have hb : ¬ M' 67 12 = 0 := fun y => by
          rw [hS.1, bt_n0 (by have := hS.2.2.1; omega)] at y
          have := hS.2.1
          omega
        exact ⟨fun _ => ⟨fun _ => Or.inr (endF M' e (nI l) y2 hA hx hg hS), fun y => absurd y hb⟩, fun y => absurd y hb⟩
      rcases hcase with ⟨e, rfl, hA, hS⟩ | ⟨p, Q, hp, hv, hok, hQ, hO, hS, hA⟩
      · exact hbr e hA hS
      · obtain ⟨f, rfl⟩ : ∃ f, v = f + 1 := ⟨v - 1, by omega⟩
        rw [bv_all] at hA
        cases hk : bv_tk (z 0) (u 0) p with
        | inl e =>
          rw [hk] at hA hS
          exact hbr e hA.symm hS
        | inr a =>
          rw [hk, bv_bn] at hA
          rw [hk] at hS
          have hb := bv_tk_b hp hk
          have hk4 := bv_kd_4 (z 0) (u 0) a
          refine ⟨fun y => absurd hS.1 y, fun _ => ⟨fun y1 => ?_, fun y1 => ?_⟩⟩
          · rw [hS.2.2.2.2.1, bt_n0 (by omega)] at y1
            rw [if_pos y1] at hA
            have han : a = u 0 := by
              unfold bv_kd at y1
              by_cases c : u 0 ≤ a
              · omega
              · rw [if_neg c] at y1
                split at y1
                · cases y1
                · split at y1
                  · cases y1
                  · split at y1 <;> cases y1
            have q1 := hQ.1
            have q3 := hQ.2.2.1
            have hR8 := hok.1.1
            have h8 := hok.2.2.2.2.2.2.2.1
            have hcmp : M' 67 8 < M' 67 4 ↔ Q.2.2.2 ≤ Q.1 12 0 := by
              rw [q1, q3, Int32.lt_iff_toInt_lt, bt_nI_sub1 (by omega), nI_toInt (by omega)]
              omega
            refine ⟨fun y => absurd hS.1 y, fun _ => ⟨fun y2' => ?_, fun y2' => ?_⟩⟩
            · rw [hcmp] at y2'
              rw [if_neg (by omega)] at hA
              exact Or.inr (endG M' l Q y2 hA.symm hok y2' hx hg hS.1 hQ)
            · rw [hcmp] at y2'
              rw [if_pos (by omega)] at hA
              refine ⟨rfl, fun M1 n1 n2 n3 n4 => ?_⟩
              obtain ⟨n5, n6⟩ := n3 hS.1
              refine Or.inr (endF M1 (6, u 0) (nI l) y2 hA.symm (fun x x1 x2 x3 => by rw [n1 x x1, hx x x1 x2 x3]) (fun g c1 c2 c3 c4 c5 => by rw [n2 g (by omega) (by omega), hg g c1 c2 c3 c4 c5]) ⟨n5, by show 1 ≤ 6; omega, Nat.le_refl _, ?_⟩)
              rw [n6, hS.2.2.2.1, han]
          · rw [hS.2.2.2.2.1, bt_n0 (by omega)] at y1
            rw [if_neg y1] at hA
            have mT' : bv_mT M' (z 0) (u 0) := ⟨by rw [hg 10 (by omega) (by omega) (by omega) (by omega) (by omega)]; exact a3, b0, by rw [hx 71 (by omega) (by omega) (by omega)]; exact a4, b1⟩
            have mL' : bv_mL M' := ⟨by rw [hx 72 (by omega) (by omega) (by omega)]; exact a14, by rw [hx 73 (by omega) (by omega) (by omega)]; exact a15⟩
            refine ⟨z 0, u 0, a, Q, rfl, mT', mL', hS, hok, hQ, hO, fun M1 r1 hD => ?_⟩
            have hx1 : ∀ x : Nat, x ≠ 67 → x ≠ 69 → x ≠ 70 → M1 x = M x := fun x c1 c2 c3 => by rw [r1.1 x c1 c2 c3, hx x c1 c2 c3]
            have hg1 : ∀ g : Nat, g ≠ 4 → g ≠ 5 → g ≠ 6 → g ≠ 8 → (g < 12 ∨ 17 < g) → M1 67 g = M 67 g := fun g c1 c2 c3 c4 c5 => by rw [r1.2 g c1 c2 c3 c4 c5, hg g c1 c2 c3 c4 c5]
            cases hl : bv_ln (z 0) (u 0) a Q with
            | inl e =>
              rw [hl] at hD hA
              exact Or.inl ⟨0, by omega, rfl, rfl, rfl, hx1, hg1, l + 1, _, by rw [nI_1], Or.inl ⟨e, rfl, hA.symm, hD⟩⟩
            | inr q' =>
              rw [hl] at hD hA
              have hr := bv_ln_ok hok hb.2.1 hl
              exact Or.inl ⟨f, by omega, rfl, rfl, rfl, hx1, hg1, l + 1, _, by rw [nI_1], Or.inr ⟨q'.1, q'.2, hr.2.2, by omega, hr.1, hD.2.1, hD.2.2, hD.1, hA⟩⟩
    -- the page is cleared
    have loop1 : ∀ v pc L st M' N', (pc = 34 ∧ st = [] ∧ N' = N ∧ (∀ x : Nat, x ≠ 67 → x ≠ 69 → x ≠ 70 → M' x = M x) ∧ (∀ g : Nat, g ≠ 4 → g ≠ 5 → g ≠ 6 → g ≠ 8 → (g < 12 ∨ 17 < g) → M' 67 g = M 67 g) ∧ M' 67 12 = 0 ∧ M' 67 14 = 0 ∧ M' 67 4 = 0 ∧ M' 67 5 = 0 ∧ M' 67 6 = 0 ∧ M' 67 8 = -1 ∧ ∃ k, k ≤ 90 ∧ v = 90 - k ∧ L = [some (.ref 67), some (.int 0), some (.int (nI k))] ∧ (∀ j, j < k → M' 69 j = 0) ∧ ∀ j, j < 7 → j < k → M' 70 j = 0) → P pc L st M' N' := by
      refine bt_loopP rfl hP 80 [34, 67] (fun v pc L st M' N' => (pc = 34 ∧ st = [] ∧ N' = N ∧ (∀ x : Nat, x ≠ 67 → x ≠ 69 → x ≠ 70 → M' x = M x) ∧ (∀ g : Nat, g ≠ 4 → g ≠ 5 → g ≠ 6 → g ≠ 8 → (g < 12 ∨ 17 < g) → M' 67 g = M 67 g) ∧ M' 67 12 = 0 ∧ M' 67 14 = 0 ∧ M' 67 4 = 0 ∧ M' 67 5 = 0 ∧ M' 67 6 = 0 ∧ M' 67 8 = -1 ∧ ∃ k, k ≤ 90 ∧ v = 90 - k ∧ L = [some (.ref 67), some (.int 0), some (.int (nI k))] ∧ (∀ j, j < k → M' 69 j = 0) ∧ ∀ j, j < 7 → j < k → M' 70 j = 0)) ?_
      rintro v pc L st M' N' ⟨rfl, rfl, hN, hx, hg, z12, z14, z4, z5, z6, z8, k, hk, rfl, rfl, c69, c70⟩
      subst hN
      refine ⟨fun y1 => ?_, fun y1 => ?_⟩
      · rw [bt_lit, nI_leI (by omega) (by omega)] at y1
        have mT' : bv_mT M' (z 0) (u 0) := ⟨by rw [hg 10 (by omega) (by omega) (by omega) (by omega) (by omega)]; exact a3, b0, by rw [hx 71 (by omega) (by omega) (by omega)]; exact a4, b1⟩
        refine ⟨z 0, u 0, .inr 0, rfl, mT', ⟨z12, z14, Nat.zero_le _⟩, fun M8 g8 hS8 => ?_⟩
        have d69 : ∀ j, j < 90 → M8 69 j = 0 := fun j hj => by rw [g8.1 69 (by omega)]; exact c69 j (by omega)
        have d70 : ∀ j, j < 7 → M8 70 j = 0 := fun j hj => by rw [g8.1 70 (by omega)]; exact c70 j hj (by omega)
        refine Or.inr (loop2 (u 0 + 1) _ _ _ _ _ ⟨rfl, rfl, rfl, fun x c1 c2 c3 => by rw [g8.1 x c1, hx x c1 c2 c3], fun g c1 c2 c3 c4 c5 => by rw [g8.2 g c5, hg g c1 c2 c3 c4 c5], 0, _, rfl, Or.inr ⟨0, bv_q0, Nat.zero_le _, by omega, bv_q0_ok, ?_, ⟨0, by rw [g8.2 6 (by omega), z6]; rfl, by omega, rfl⟩, hS8, hAll⟩⟩)
        refine ⟨by rw [g8.2 4 (by omega), z4]; rfl, by rw [g8.2 5 (by omega), z5]; rfl, by rw [g8.2 8 (by omega), z8]; decide, fun i hi => absurd hi (Nat.not_lt_zero _), fun i hi => ⟨by rw [d69 _ (by omega)]; show (0 : Int32) = nI 10 - 10; decide, by rw [d69 _ (by omega)]; rfl, by rw [d69 _ (by omega)]; rfl, by rw [d69 _ (by omega)]; rfl⟩, by rw [d69 _ (by omega)]; rfl, by rw [d69 _ (by omega)]; rfl, fun i hi => absurd hi (Nat.not_lt_zero _), fun k hk => ⟨d69 _ (by omega), d69 _ (by omega)⟩, d69 _ (by omega), d69 _ (by omega), by rw [d70 1 (by omega)]; rfl, by rw [d70 2 (by omega)]; rfl, by rw [d70 3 (by omega)]; rfl, by rw [d70 4 (by omega)]; rfl⟩
      · rw [bt_lit, nI_leI (by omega) (by omega)] at y1
        obtain ⟨m1, m2⟩ := bv_r7 k (by omega)
        refine ⟨_, rfl, k, rfl, by omega, ?_⟩
        intro M1 e1
        refine ⟨by decide, ?_⟩
        refine ⟨_, rfl, k % 7, m1, m2, ?_⟩
        intro M2 e2
        obtain ⟨u1, u2, u3⟩ := bv_up e1
        obtain ⟨v1, v2, v3⟩ := bv_up e2
        refine Or.inl ⟨90 - (k + 1), by omega, rfl, rfl, rfl, fun x c1 c2 c3 => by rw [v1 x c3, u1 x c2, hx x c1 c2 c3], fun g c1 c2 c3 c4 c5 => by rw [v1 67 (by omega), u1 67 (by omega), hg g c1 c2 c3 c4 c5], by rw [v1 67 (by omega), u1 67 (by omega)]; exact z12, by rw [v1 67 (by omega), u1 67 (by omega)]; exact z14, by rw [v1 67 (by omega), u1 67 (by omega)]; exact z4, by rw [v1 67 (by omega), u1 67 (by omega)]; exact z5, by rw [v1 67 (by omega), u1 67 (by omega)]; exact z6, by rw [v1 67 (by omega), u1 67 (by omega)]; exact z8, k + 1, by omega, rfl, by rw [nI_1], fun j hj => ?_, fun j hj1 hj2 => ?_⟩
        · rw [v1 69 (by omega)]
          by_cases c : j = k
          · rw [c, u2]
          · rw [u3 j c]; exact c69 j (by omega)
        · by_cases c : j = k % 7
          · rw [c, v2]
          · rw [v3 j c, u1 70 (by omega)]
            exact c70 j hj1 (by omega)
    refine bt_go rfl hP 60 [34] P (fun _ _ _ _ _ h => h) ?_
    intro M1 e1 M2 e2 M3 e3 M4 e4 M5 e5 M6 e6
    obtain ⟨c1, c2, c3⟩ := bv_up e1
    obtain ⟨d1, d2, d3⟩ := bv_up e2
    obtain ⟨f1, f2, f3⟩ := bv_up e3
    obtain ⟨g1, g2, g3⟩ := bv_up e4
    obtain ⟨i1, i2, i3⟩ := bv_up e5
    obtain ⟨j1, j2, j3⟩ := bv_up e6
    refine loop1 _ _ _ _ _ _ ⟨rfl, rfl, rfl, fun x x1 _ _ => by rw [j1 x x1, i1 x x1, g1 x x1, f1 x x1, d1 x x1, c1 x x1], fun g y1 y2 y3 y4 y5 => by rw [j3 g y4, i3 g y3, g3 g y2, f3 g y1, d3 g (by omega), c3 g (by omega)], ?_, ?_, ?_, ?_, ?_, j2, 0, by omega, rfl, rfl, fun j hj => by omega, fun j hj hj2 => by omega⟩
    · rw [j3 12 (by omega), i3 12 (by omega), g3 12 (by omega), f3 12 (by omega), d3 12 (by omega), c2]
    · rw [j3 14 (by omega), i3 14 (by omega), g3 14 (by omega), f3 14 (by omega), d2]
    · rw [j3 4 (by omega), i3 4 (by omega), g3 4 (by omega), f2]
    · rw [j3 5 (by omega), i3 5 (by omega), g2]
    · rw [j3 6 (by omega), i2]
  · cases hf
