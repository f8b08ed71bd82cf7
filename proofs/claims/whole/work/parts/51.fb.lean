/-! WHO HAD BEEN BEHIND WHOM: a level down -/
theorem bu_orb : ∀ q, q < 8 → ∀ a, a < 2 ^ q → ∀ b, b < 2 → nI a ||| (nI b <<< (nI q &&& 31)) = nI (a + b * 2 ^ q) := by decide +kernel
def bt_CX0_goDown : bt_C := [(92, 1, 4, sX4_comers), (99, 1, 4, sX4_minutes)]
def sX0_goDown : bt_Sp := fun as M N K => match as with
  | [.ref c, .ref d, .int lv, .int th] => ∃ (w : bt_W) (l b sv : Nat) (ps T : Nat → Nat), c = 49 ∧ d = 2 ∧ bt_cW M 2 w ∧ lv = nI l ∧ w 12 4 + l < w 12 0 ∧ th = nI b ∧ b ≤ 1 ∧ bt_b1 ps ∧ M 52 l = nI (bt_mk ps (w 12 1)) ∧ M 53 l = nI sv ∧ sv < 2 ^ (w 12 4 + l) ∧ (∀ k, k < w 12 1 → M (55 + l) k = nI (T k)) ∧ ∀ M', (∀ x : Nat, x ≠ 52 → x ≠ 53 → x ≠ 55 + (l + 1) → M' x = M x) → (∀ j, j ≠ l + 1 → M' 52 j = M 52 j ∧ M' 53 j = M 53 j) → M' 52 (l + 1) = nI (bt_mk (fun k => ps k + bt_cm w (w 12 4 + l) (b * w 2 (w 12 4 + l)) ps k) (w 12 1)) → M' 53 (l + 1) = nI (sv + b * 2 ^ (w 12 4 + l)) → (∀ k, k < w 12 1 → M' (55 + (l + 1)) k = nI (T k + bt_mn w (w 12 4 + l) k (ps k + bt_cm w (w 12 4 + l) (b * w 2 (w 12 4 + l)) ps k))) → K none M' N
  | _ => False
set_option maxRecDepth 100000 in
theorem mX0_goDown : bt_MT bt_TX0_goDown bt_FX0 bt_CX0_goDown 0 7 sX0_goDown := by
  intro as M N Rt h P hP
  unfold sX0_goDown at h
  split at h
  · obtain ⟨w, l, b, sv, ps, T, rfl, rfl, a1, rfl, hl, rfl, hb, hps, p1, p2, hsv, p3, h⟩ := h
    obtain ⟨hw, h8, h9, h10, h11, h12, h13, h14, h15, h16, h17, r1, r2, r3, r4, r5, r6, r7, r8⟩ := id a1
    obtain ⟨f1, f2, f3, f4, f5, f6, f7, f8, f9, f10, f11, f12, f13, f14, f15, f16, f17, f18⟩ := id hw
    have hi : M 2 16 + nI l = nI (w 12 4 + l) := by rw [h16, nI_add]
    have g9 := f9 (w 12 4 + l)
    have hg : b * w 2 (w 12 4 + l) ≤ 9 := by
      calc b * w 2 (w 12 4 + l) ≤ 1 * 9 := Nat.mul_le_mul hb g9
        _ = 9 := rfl
    generalize hgg : b * w 2 (w 12 4 + l) = g at *
    have hcb := bt_cm_b1 w (w 12 4 + l) g ps
    have hsum := bt_cm_le w (w 12 4 + l) g ps hps
    have hp1 : bt_b1 (fun k => ps k + bt_cm w (w 12 4 + l) g ps k) := hsum
    have hmk : ∀ {f : Nat → Nat}, bt_b1 f → bt_mk f (w 12 1) < 2 ^ 31 := fun {f} hf => by
      have := bt_mk_lt hf (w 12 1)
      have h2 : 2 ^ (w 12 1) ≤ 2 ^ 6 := Nat.pow_le_pow_right (by omega) f2
      omega
    have hor : M 52 l ||| nI (bt_mk (bt_cm w (w 12 4 + l) g ps) (w 12 1)) = nI (bt_mk (fun k => ps k + bt_cm w (w 12 4 + l) g ps k) (w 12 1)) := by
      rw [p1, bt_or (hmk hps) (hmk hcb), bt_mk_or hps hcb hp1]
      intro k _
      have := hsum k
      have := hcb k
      have := hps k
      omega
    generalize hpp : (fun k => ps k + bt_cm w (w 12 4 + l) g ps k) = pp at *
    have hpk : ∀ k, ps k + bt_cm w (w 12 4 + l) g ps k = pp k := fun k => by rw [← hpp]
    have loop : ∀ v pc L st M' N', (pc = 70 ∧ st = [] ∧ N' = N ∧ ∃ k, k ≤ w 12 1 ∧ v = w 12 1 - k ∧ L = [some (.ref 49), some (.ref 2), some (.int (nI l)), some (.int (nI b)), some (.int (M 2 16 + nI l)), some (.int (nI (bt_mk pp (w 12 1)))), some (.int (nI k))] ∧ (∀ x : Nat, x ≠ 52 → x ≠ 53 → x ≠ 55 + (l + 1) → M' x = M x) ∧ (∀ j, j ≠ l + 1 → M' 52 j = M 52 j ∧ M' 53 j = M 53 j) ∧ M' 52 (l + 1) = nI (bt_mk pp (w 12 1)) ∧ M' 53 (l + 1) = nI (sv + b * 2 ^ (w 12 4 + l)) ∧ ∀ j, j < k → M' (55 + (l + 1)) j = nI (T j + bt_mn w (w 12 4 + l) j (pp j))) → P pc L st M' N' := by
      refine bt_loop rfl hP 60 [70] (fun v pc L st M' N' => (pc = 70 ∧ st = [] ∧ N' = N ∧ ∃ k, k ≤ w 12 1 ∧ v = w 12 1 - k ∧ L = [some (.ref 49), some (.ref 2), some (.int (nI l)), some (.int (nI b)), some (.int (M 2 16 + nI l)), some (.int (nI (bt_mk pp (w 12 1)))), some (.int (nI k))] ∧ (∀ x : Nat, x ≠ 52 → x ≠ 53 → x ≠ 55 + (l + 1) → M' x = M x) ∧ (∀ j, j ≠ l + 1 → M' 52 j = M 52 j ∧ M' 53 j = M 53 j) ∧ M' 52 (l + 1) = nI (bt_mk pp (w 12 1)) ∧ M' 53 (l + 1) = nI (sv + b * 2 ^ (w 12 4 + l)) ∧ ∀ j, j < k → M' (55 + (l + 1)) j = nI (T j + bt_mn w (w 12 4 + l) j (pp j)))) ?_
      rintro v pc L st M' N' ⟨rfl, rfl, hN, k, hk, rfl, rfl, q1, q2, q3, q4, q5⟩
      subst hN
      have e12 : M' 2 12 = nI (w 12 1) := by rw [q1 2 (by omega) (by omega) (by omega)]; exact h12
      refine ⟨fun y1 => ?_, fun y1 => ?_⟩
      · rw [e12, nI_leI (by omega) (by omega)] at y1
        refine h M' q1 q2 q3 q4 (fun k hk => ?_)
        rw [hpk]
        exact q5 k (by omega)
      · rw [e12, nI_leI (by omega) (by omega)] at y1
        have e1 : M' 3 (w 12 4 + l) = nI (w 0 (w 12 4 + l)) := by rw [q1 3 (by omega) (by omega) (by omega)]; exact r1 _ hl
        have e7 : M' 9 k = nI (w 9 k) := by rw [q1 9 (by omega) (by omega) (by omega)]; exact r7 k (by omega)
        have e14 : M' 2 14 = nI (w 12 2) := by rw [q1 2 (by omega) (by omega) (by omega)]; exact h14
        have eT : M' (55 + l) k = nI (T k) := by rw [q1 (55 + l) (by omega) (by omega) (by omega)]; exact p3 k (by omega)
        refine ⟨_, rfl, l + 1, nI_1 l, by omega, ?_⟩
        refine ⟨_, rfl, l, rfl, by omega, ?_⟩
        refine ⟨6, bu_sh55 l (by omega), k, rfl, by omega, ?_⟩
        refine ⟨w 12 4 + l, k, w 12 1, pp, w 0 (w 12 4 + l), w 9 k, w 12 2, Or.inl rfl, hi, by omega, rfl, by omega, f2, hp1, rfl, e1, e7, e14, ?_⟩
        refine ⟨6, bu_sh55 (l + 1) (by omega), k, rfl, by omega, ?_⟩
        intro M3 e3
        have e3' : M3 = va_up M' (55 + (l + 1)) (upd (M' (55 + (l + 1))) k (M' (55 + l) k + nI (w 0 (w 12 4 + l) * if pp k = 1 then w 9 k else w 12 2))) := e3
        refine ⟨w 12 1 - (k + 1), by omega, rfl, rfl, rfl, k + 1, by omega, rfl, by rw [← nI_1], ?_, ?_, ?_, ?_, ?_⟩
        · intro x z1 z2 z3
          rw [e3', bt_up_n z3]
          exact q1 x z1 z2 z3
        · intro j hj
          rw [e3', bt_up_n (by omega), bt_up_n (by omega)]
          exact q2 j hj
        · rw [e3', bt_up_n (by omega)]
          exact q3
        · rw [e3', bt_up_n (by omega)]
          exact q4
        · intro j hj
          rw [e3', bt_up_s]
          by_cases hjk : j = k
          · rw [hjk, pk_us, eT, nI_add]
            rfl
          · rw [pk_un hjk]
            exact q5 j (by omega)
    refine bt_go rfl hP 60 [70] P (fun _ _ _ _ _ h => h) ?_
    refine ⟨_, rfl, l, rfl, by omega, ?_⟩
    refine ⟨_, rfl, w 12 4 + l, hi, by omega, ?_⟩
    refine ⟨_, rfl, l, rfl, by omega, ?_⟩
    refine ⟨w, w 12 4 + l, g, ps, Or.inl rfl, a1, hi, hl, by rw [r3 _ hl, pk_mul, hgg], hg, hps, p1, ?_⟩
    refine ⟨_, rfl, l + 1, nI_1 l, by omega, ?_⟩
    intro M1 e1
    refine ⟨_, rfl, l, rfl, by omega, ?_⟩
    refine ⟨_, rfl, l + 1, nI_1 l, by omega, ?_⟩
    intro M2 e2
    have s1 : M1 53 l = nI sv := by rw [e1, bt_up_n (by omega)]; exact p2
    refine loop _ _ _ _ _ _ ⟨rfl, rfl, rfl, 0, Nat.zero_le _, rfl, by rw [hor]; rfl, ?_, ?_, ?_, ?_, fun j hj => by omega⟩
    · intro x z1 z2 z3
      rw [e2, bt_up_n z2, e1, bt_up_n z1]
    · intro j hj
      refine ⟨?_, ?_⟩
      · rw [e2, bt_up_n (by omega), e1, bt_up_s, pk_un hj]
      · rw [e2, bt_up_s, pk_un hj, e1, bt_up_n (by omega)]
    · rw [e2, bt_up_n (by omega), e1, bt_up_s, pk_us, hor]
    · rw [e2, bt_up_s, pk_us, s1, hi, bu_orb _ (by omega) _ hsv _ (by omega)]
  · exact False.elim h
