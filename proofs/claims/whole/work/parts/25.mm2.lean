/-! THE MODEL: a page holds a world -/
def bt_mW (M : bt_M) (p : Nat) (w : bt_W) : Prop := bt_wf w ∧ M 67 1 = nI (w 12 0) ∧ M 67 2 = nI (w 12 1) ∧
  M 68 (p + 56) = nI (w 12 2) - 5 ∧ M 68 (p + 57) = nI (w 12 3) ∧ M 68 (p + 88) = nI (w 12 4) ∧ M 68 (p + 89) = nI (w 12 5) ∧
  (∀ i, i < w 12 0 → M 68 (p + 7 * i) = nI (w 0 i)) ∧ (∀ i, i < w 12 0 → M 68 (p + 7 * i + 1) = nI (w 1 i)) ∧ (∀ i, i < w 12 0 → M 68 (p + 7 * i + 2) = nI (w 2 i)) ∧ (∀ i, i < w 12 0 → M 68 (p + 7 * i + 3) = nI (w 3 i) - 10) ∧ (∀ i, i < w 12 0 → M 68 (p + 7 * i + 4) = nI (w 4 i)) ∧ (∀ i, i < w 12 0 → M 68 (p + 7 * i + 5) = nI (w 5 i)) ∧ (∀ i, i < w 12 0 → M 68 (p + 7 * i + 6) = nI (w 6 i)) ∧
  (∀ k, k < w 12 1 → M 68 (p + 58 + 5 * k) = nI (w 7 k)) ∧ (∀ k, k < w 12 1 → M 68 (p + 58 + 5 * k + 1) = nI (w 8 k)) ∧ (∀ k, k < w 12 1 → M 68 (p + 58 + 5 * k + 2) = nI (w 9 k)) ∧ (∀ k, k < w 12 1 → M 68 (p + 58 + 5 * k + 3) = nI (w 10 k)) ∧ bt_pg M p (w 12 1) (w 11)
theorem bt_psB_led (kd nd u f led : Nat) : bt_psB kd nd u f led = true ↔ bt_psB kd nd u f 0 = true ∨ (kd = 3 ∧ f = 0 ∧ led = 1) := by
  rw [bt_psB_iff, bt_psB_iff]
  unfold bt_ps
  omega
/-- who comes past by passing -/
def bt_co (w : bt_W) (u : Nat) (ps : Nat → Nat) (k : Nat) : Nat := (bt_fr w u ps (k + 1)).2
theorem bt_co_b1 (w : bt_W) (u : Nat) (ps : Nat → Nat) : bt_b1 (bt_co w u ps) := fun k => (bt_fr_01 w u ps (k + 1)).1
theorem bt_co_le (w : bt_W) (u : Nat) (ps : Nat → Nat) (hb : bt_b1 ps) (k : Nat) : ps k + bt_co w u ps k ≤ 1 := by
  have h1 := bt_co_b1 w u ps k
  have h2 := hb k
  by_cases h : ps k = 1
  · have : bt_co w u ps k = 0 := by simp [bt_co, bt_fr, h]
    omega
  · omega
/-- in front are those that are behind the tractor still -/
theorem bt_fr_ct (w : bt_W) (u : Nat) (ps : Nat → Nat) (hb : bt_b1 ps) : ∀ k, (bt_fr w u ps k).1 = bt_ct1 (fun j => 1 - (ps j + bt_co w u ps j)) k
  | 0 => rfl
  | k + 1 => by
    have ih := bt_fr_ct w u ps hb k
    have hk := hb k
    show (bt_fr w u ps (k + 1)).1 = bt_ct1 (fun j => 1 - (ps j + bt_co w u ps j)) k + (1 - (ps k + bt_co w u ps k))
    rw [← ih]
    simp only [bt_co, bt_fr]
    by_cases h1 : ps k = 1
    · simp [h1]
    · have h0 : ps k = 0 := by omega
      by_cases h2 : bt_psB (w 7 k) (w 8 k) u (bt_fr w u ps k).1 (bt_fr w u ps k).2 = true
      · simp [h0, h2]
      · simp [h0, h2]
def bt_CX6_passOn : bt_C := [(158, 1, 3, sX6_aheadOf), (139, 1, 3, sX6_isPast), (177, 1, 5, sX6_isEnough)]
def sX6_passOn : bt_Sp := fun as M N K => match as with
  | [.ref c, .int p, .int u] => ∃ p' u' w, c = 67 ∧ p = nI p' ∧ p' ≤ 450 ∧ u = nI u' ∧ u' ≤ 9 ∧ bt_mW M p' w ∧ ∀ M', (∀ x : Nat, x ≠ 68 → M' x = M x) → (∀ j : Nat, (∀ k, k < w 12 1 → j ≠ p' + 58 + 5 * k + 4) → M' 68 j = M 68 j) → bt_pg M' p' (w 12 1) (fun k => w 11 k + bt_co w u' (w 11) k) → K (some (.int (nI (bt_mk (bt_co w u' (w 11)) (w 12 1))))) M' N
  | _ => False
set_option maxHeartbeats 2000000 in
theorem mX6_passOn : bt_MT bt_TX6_passOn bt_FX6 bt_CX6_passOn 1 8 sX6_passOn := by
  intro as M N Rt h P hP
  unfold sX6_passOn at h
  split at h
  · obtain ⟨p, u, w, rfl, rfl, hp, rfl, hu, hw, h⟩ := h
    obtain ⟨hf, g1, g2, g3, g4, g5, g6, r0, r1, r2, r3, r4, r5, r6, c7, c8, c9, c10, c11⟩ := id hw
    obtain ⟨f1, f2, f3, f4, f5, f6, f7, f8, f9, f10, f11, f12, f13, f14, f15, f16, f17, f18⟩ := id hf
    have hcb := bt_co_b1 w u (w 11)
    have hcl := bt_co_le w u (w 11) f18
    have loop : ∀ v pc L st M' N', (N' = N ∧ ∃ k x5 x6 x7, k ≤ w 12 1 ∧ L = [some (.ref 67), some (.int (nI p)), some (.int (nI u)), some (.int (nI (bt_mk (bt_co w u (w 11)) k))), some (.int (nI k)), x5, x6, x7] ∧ (∀ x : Nat, x ≠ 68 → M' x = M x) ∧ (∀ j : Nat, (∀ k, k < w 12 1 → j ≠ p + 58 + 5 * k + 4) → M' 68 j = M 68 j) ∧ bt_pg M' p (w 12 1) (fun j => w 11 j + if j < k then bt_co w u (w 11) j else 0) ∧ ((pc = 5 ∧ st = [] ∧ v = 2 * (w 12 1 - k) + 1) ∨ (pc = 75 ∧ k < w 12 1 ∧ v = 2 * (w 12 1 - k) ∧ x5 = some (.int (nI (p + 58 + 5 * k))) ∧ ∃ fl mn, st = [.int (nI fl)] ∧ fl ≤ 1 ∧ x6 = some (.int (nI mn)) ∧ (w 11 k = 0 → mn = (bt_fr w u (w 11) k).1 + 1 ∧ (fl = 1 ↔ w 7 k = 3 ∧ (bt_fr w u (w 11) k).1 = 0 ∧ (bt_fr w u (w 11) k).2 = 1))))) → P pc L st M' N' := by
      refine bt_loop rfl hP 80 [5, 75] (fun v pc L st M' N' => (N' = N ∧ ∃ k x5 x6 x7, k ≤ w 12 1 ∧ L = [some (.ref 67), some (.int (nI p)), some (.int (nI u)), some (.int (nI (bt_mk (bt_co w u (w 11)) k))), some (.int (nI k)), x5, x6, x7] ∧ (∀ x : Nat, x ≠ 68 → M' x = M x) ∧ (∀ j : Nat, (∀ k, k < w 12 1 → j ≠ p + 58 + 5 * k + 4) → M' 68 j = M 68 j) ∧ bt_pg M' p (w 12 1) (fun j => w 11 j + if j < k then bt_co w u (w 11) j else 0) ∧ ((pc = 5 ∧ st = [] ∧ v = 2 * (w 12 1 - k) + 1) ∨ (pc = 75 ∧ k < w 12 1 ∧ v = 2 * (w 12 1 - k) ∧ x5 = some (.int (nI (p + 58 + 5 * k))) ∧ ∃ fl mn, st = [.int (nI fl)] ∧ fl ≤ 1 ∧ x6 = some (.int (nI mn)) ∧ (w 11 k = 0 → mn = (bt_fr w u (w 11) k).1 + 1 ∧ (fl = 1 ↔ w 7 k = 3 ∧ (bt_fr w u (w 11) k).1 = 0 ∧ (bt_fr w u (w 11) k).2 = 1)))))) ?_
      rintro v pc L st M' N' ⟨rfl, k, x5, x6, x7, hk, rfl, q1, q2, q3, hpc⟩
      have hfr := bt_fr_01 w u (w 11) k
      have hpk := f18 k
      have hmk := bt_mk_lt hcb k
      have hb' : bt_b1 (fun j => w 11 j + if j < k then bt_co w u (w 11) j else 0) := fun j => by
        have := hcl j
        have := f18 j
        simp only
        split <;> omega
      have e2 : M' 67 2 = nI (w 12 1) := by rw [q1 67 (by omega)]; exact g2
      rcases hpc with ⟨rfl, rfl, rfl⟩ | ⟨rfl, hkm, rfl, rfl, fl, mn, rfl, hfl, rfl, hfm⟩
      · refine ⟨fun q => ?_, fun q => ?_⟩
        · rw [e2, nI_leI (by omega) (by omega)] at q
          have hkm : k = w 12 1 := by omega
          subst hkm
          refine h M' q1 q2 ?_
          intro j hj
          rw [q3 j hj]
          simp only [if_pos hj]
        · rw [e2, nI_leI (by omega) (by omega)] at q
          have hkm : k < w 12 1 := by omega
          have ekd : M' 68 (p + 58 + 5 * k) = nI (w 7 k) := by
            rw [q2 _ (fun j _ => by omega)]; exact c7 k hkm
          have h7 := f14 k
          have hct : w 11 k = 0 → (if (w 11 k + if k < k then bt_co w u (w 11) k else 0) = 1 then 0 else bt_ct1 (fun j => 1 - (w 11 j + if j < k then bt_co w u (w 11) j else 0)) k) = (bt_fr w u (w 11) k).1 := by
            intro h0
            rw [if_neg (Nat.lt_irrefl k), h0, if_neg (by omega), bt_fr_ct w u (w 11) f18 k]
            exact bt_ct1_c (fun j hj => by simp only [if_pos hj])
          have hml : (if (w 11 k + if k < k then bt_co w u (w 11) k else 0) = 1 then 0 else bt_ct1 (fun j => 1 - (w 11 j + if j < k then bt_co w u (w 11) j else 0)) k) ≤ 6 := by
            have := bt_ct1_le (f := fun j => 1 - (w 11 j + if j < k then bt_co w u (w 11) j else 0)) (fun j => Nat.sub_le _ _) k
            rw [if_neg (Nat.lt_irrefl k)]
            split <;> omega
          refine ⟨p, k, fun j => w 11 j + if j < k then bt_co w u (w 11) j else 0, rfl, rfl, hp, rfl, by omega, hb', fun j hj => q3 j (by omega), ?_⟩
          dsimp only
          generalize hah : (if (w 11 k + if k < k then bt_co w u (w 11) k else 0) = 1 then 0 else bt_ct1 (fun j => 1 - (w 11 j + if j < k then bt_co w u (w 11) j else 0)) k) = ah at hct hml
          have eat : nI p + 58 + 5 * nI k = nI (p + 58 + 5 * k) := by simp only [bt_lit, pk_mul, nI_add]
          refine ⟨_, rfl, p + 58 + 5 * k, eat, by omega, ?_⟩
          have e3 : (M' 68 (p + 58 + 5 * k) = 3 ↔ w 7 k = 3) := by rw [ekd]; exact nI_eq (b := 3) (by omega) (by omega)
          have em : (nI ah + 1 = 1 ↔ ah = 0) := by
            rw [nI_1, show (1 : Int32) = nI 1 from rfl, nI_eq (by omega) (by omega)]
            omega
          have fin : ∀ fl : Nat, fl ≤ 1 → (w 11 k = 0 → (fl = 1 ↔ w 7 k = 3 ∧ (bt_fr w u (w 11) k).1 = 0 ∧ (bt_fr w u (w 11) k).2 = 1)) → ∃ u', u' < 2 * (w 12 1 - k) + 1 ∧ (N' = N' ∧ ∃ k_1 x5 x6 x7', k_1 ≤ w 12 1 ∧ [some (Value.ref 67), some (.int (nI p)), some (.int (nI u)), some (.int (nI (bt_mk (bt_co w u (w 11)) k))), some (.int (nI k)), some (.int (nI p + 58 + 5 * nI k)), some (.int (nI ah + 1)), x7] = [some (.ref 67), some (.int (nI p)), some (.int (nI u)), some (.int (nI (bt_mk (bt_co w u (w 11)) k_1))), some (.int (nI k_1)), x5, x6, x7'] ∧ (∀ x : Nat, x ≠ 68 → M' x = M x) ∧ (∀ j : Nat, (∀ k, k < w 12 1 → j ≠ p + 58 + 5 * k + 4) → M' 68 j = M 68 j) ∧ bt_pg M' p (w 12 1) (fun j => w 11 j + if j < k_1 then bt_co w u (w 11) j else 0) ∧ ((75 = 5 ∧ [Value.int (nI fl)] = [] ∧ u' = 2 * (w 12 1 - k_1) + 1) ∨ (75 = 75 ∧ k_1 < w 12 1 ∧ u' = 2 * (w 12 1 - k_1) ∧ x5 = some (.int (nI (p + 58 + 5 * k_1))) ∧ ∃ fl' mn, [Value.int (nI fl)] = [.int (nI fl')] ∧ fl' ≤ 1 ∧ x6 = some (.int (nI mn)) ∧ (w 11 k_1 = 0 → mn = (bt_fr w u (w 11) k_1).1 + 1 ∧ (fl' = 1 ↔ w 7 k_1 = 3 ∧ (bt_fr w u (w 11) k_1).1 = 0 ∧ (bt_fr w u (w 11) k_1).2 = 1))))) := by
            intro fl h1 h2
            exact ⟨2 * (w 12 1 - k), by omega, rfl, k, _, _, x7, hk, rfl, q1, q2, q3, Or.inr ⟨rfl, hkm, rfl, by rw [eat], fl, ah + 1, rfl, h1, by rw [nI_1], fun h0 => ⟨by rw [hct h0], h2 h0⟩⟩⟩
          refine ⟨fun z => fin 0 (by omega) (fun h0 => ?_), fun z => ⟨fun z2 => fin 0 (by omega) (fun h0 => ?_), fun z2 => ⟨fun z3 => fin 0 (by omega) (fun h0 => ?_), fun z3 => ⟨fun z4 => fin 0 (by omega) (fun h0 => ?_), fun z4 => fin 1 (by omega) (fun h0 => ?_)⟩⟩⟩⟩
          · rw [e3] at z; omega
          · rw [em] at z2; have := hct h0; omega
          · rw [bt_le0 (by omega)] at z3
            subst z3
            have : (bt_fr w u (w 11) 0).2 = 0 := rfl
            omega
          · rw [bt_le0 (by omega)] at z3
            obtain ⟨j, rfl⟩ : ∃ j, k = j + 1 := ⟨k - 1, by omega⟩
            rw [nI_pred, bt_bitN hcb (by omega) (by omega), if_pos (by omega), bt_n1 (by have := hcb j; omega)] at z4
            have : (bt_fr w u (w 11) (j + 1)).2 = bt_co w u (w 11) j := rfl
            omega
          · rw [bt_le0 (by omega)] at z3
            obtain ⟨j, rfl⟩ : ∃ j, k = j + 1 := ⟨k - 1, by omega⟩
            rw [nI_pred, bt_bitN hcb (by omega) (by omega), if_pos (by omega), bt_n1 (by have := hcb j; omega)] at z4
            have : (bt_fr w u (w 11) (j + 1)).2 = bt_co w u (w 11) j := rfl
            rw [e3] at z
            rw [em] at z2
            have := hct h0
            omega
      · -- it passes or not
        have epk : M' 68 (p + 58 + 5 * k + 4) = nI (w 11 k) := by
          rw [q3 k hkm]; simp
        have ekd : M' 68 (p + 58 + 5 * k) = nI (w 7 k) := by
          rw [q2 _ (fun j _ => by omega)]; exact c7 k hkm
        have end_ : M' 68 (p + 58 + 5 * k + 1) = nI (w 8 k) := by
          rw [q2 _ (fun j _ => by omega)]; exact c8 k hkm
        have stay : bt_co w u (w 11) k = 0 → ∃ u', u' < 2 * (w 12 1 - k) ∧ (N' = N' ∧ ∃ k_1 x5 x6 x7', k_1 ≤ w 12 1 ∧ [some (Value.ref 67), some (.int (nI p)), some (.int (nI u)), some (.int (nI (bt_mk (bt_co w u (w 11)) k))), some (.int (nI k + 1)), some (.int (nI (p + 58 + 5 * k))), some (.int (nI mn)), some (.int (nI fl))] = [some (.ref 67), some (.int (nI p)), some (.int (nI u)), some (.int (nI (bt_mk (bt_co w u (w 11)) k_1))), some (.int (nI k_1)), x5, x6, x7'] ∧ (∀ x : Nat, x ≠ 68 → M' x = M x) ∧ (∀ j : Nat, (∀ k, k < w 12 1 → j ≠ p + 58 + 5 * k + 4) → M' 68 j = M 68 j) ∧ bt_pg M' p (w 12 1) (fun j => w 11 j + if j < k_1 then bt_co w u (w 11) j else 0) ∧ ((5 = 5 ∧ ([] : List Value) = [] ∧ u' = 2 * (w 12 1 - k_1) + 1) ∨ (5 = 75 ∧ k_1 < w 12 1 ∧ u' = 2 * (w 12 1 - k_1) ∧ x5 = some (.int (nI (p + 58 + 5 * k_1))) ∧ ∃ fl' mn, ([] : List Value) = [.int (nI fl')] ∧ fl' ≤ 1 ∧ x6 = some (.int (nI mn)) ∧ (w 11 k_1 = 0 → mn = (bt_fr w u (w 11) k_1).1 + 1 ∧ (fl' = 1 ↔ w 7 k_1 = 3 ∧ (bt_fr w u (w 11) k_1).1 = 0 ∧ (bt_fr w u (w 11) k_1).2 = 1))))) := by
          intro hc0
          refine ⟨2 * (w 12 1 - (k + 1)) + 1, by omega, rfl, k + 1, some (.int (nI (p + 58 + 5 * k))), some (.int (nI mn)), some (.int (nI fl)), by omega, ?_, q1, q2, ?_, Or.inl ⟨rfl, rfl, rfl⟩⟩
          · rw [nI_1]
            simp [bt_mk, hc0]
          · intro j hj
            rw [q3 j hj]
            by_cases hjk : j = k
            · subst hjk
              simp [hc0]
            · by_cases hl : j < k
              · simp [hl, show j < k + 1 by omega]
              · simp [hl, show ¬ j < k + 1 by omega]
        have go : bt_co w u (w 11) k = 1 → ∀ M2, M2 = va_up M' 68 (upd (M' 68) (p + 58 + 5 * k + 4) 1) → ∃ u', u' < 2 * (w 12 1 - k) ∧ (N' = N' ∧ ∃ k_1 x5 x6 x7', k_1 ≤ w 12 1 ∧ [some (Value.ref 67), some (.int (nI p)), some (.int (nI u)), some (.int (nI (bt_mk (bt_co w u (w 11)) k) ||| ((1 : Int32) <<< (nI k &&& 31)))), some (.int (nI k + 1)), some (.int (nI (p + 58 + 5 * k))), some (.int (nI mn)), some (.int (nI fl))] = [some (.ref 67), some (.int (nI p)), some (.int (nI u)), some (.int (nI (bt_mk (bt_co w u (w 11)) k_1))), some (.int (nI k_1)), x5, x6, x7'] ∧ (∀ x : Nat, x ≠ 68 → M2 x = M x) ∧ (∀ j : Nat, (∀ k, k < w 12 1 → j ≠ p + 58 + 5 * k + 4) → M2 68 j = M 68 j) ∧ bt_pg M2 p (w 12 1) (fun j => w 11 j + if j < k_1 then bt_co w u (w 11) j else 0) ∧ ((5 = 5 ∧ ([] : List Value) = [] ∧ u' = 2 * (w 12 1 - k_1) + 1) ∨ (5 = 75 ∧ k_1 < w 12 1 ∧ u' = 2 * (w 12 1 - k_1) ∧ x5 = some (.int (nI (p + 58 + 5 * k_1))) ∧ ∃ fl' mn, ([] : List Value) = [.int (nI fl')] ∧ fl' ≤ 1 ∧ x6 = some (.int (nI mn)) ∧ (w 11 k_1 = 0 → mn = (bt_fr w u (w 11) k_1).1 + 1 ∧ (fl' = 1 ↔ w 7 k_1 = 3 ∧ (bt_fr w u (w 11) k_1).1 = 0 ∧ (bt_fr w u (w 11) k_1).2 = 1))))) := by
          rintro hc1 M2 rfl
          have hw0 : w 11 k = 0 := by have := hcl k; omega
          refine ⟨2 * (w 12 1 - (k + 1)) + 1, by omega, rfl, k + 1, some (.int (nI (p + 58 + 5 * k))), some (.int (nI mn)), some (.int (nI fl)), by omega, ?_, ?_, ?_, ?_, Or.inl ⟨rfl, rfl, rfl⟩⟩
          · rw [nI_1, bt_or1 k (by omega) _ hmk]
            simp [bt_mk, hc1]
          · intro x z
            rw [bt_up_n z]; exact q1 x z
          · intro j hj
            rw [bt_up_s, pk_un (hj k hkm)]; exact q2 j hj
          · intro j hj
            rw [bt_up_s]
            by_cases hjk : j = k
            · subst hjk
              rw [pk_us]
              simp [hc1, hw0]
              rfl
            · rw [pk_un (by omega), q3 j hj]
              by_cases hl : j < k
              · simp [hl, show j < k + 1 by omega]
              · simp [hl, show ¬ j < k + 1 by omega]
        refine ⟨p, k, w 11 k, rfl, rfl, rfl, by omega, epk, hpk, ?_⟩
        refine ⟨fun z => ?_, fun z => ?_⟩
        · rw [bt_n0 (by omega)] at z
          exact stay (by have := hcl k; omega)
        · rw [bt_n0 (by omega)] at z
          obtain ⟨hmn, hfl2⟩ := hfm z
          have hy : (bt_psB (w 7 k) (w 8 k) u (bt_fr w u (w 11) k).1 0 = true ∨ (w 7 k = 3 ∧ (bt_fr w u (w 11) k).1 = 0 ∧ (bt_fr w u (w 11) k).2 = 1)) → bt_co w u (w 11) k = 1 := fun y => by
            simp only [bt_co, bt_fr, if_neg (show ¬ w 11 k = 1 by omega), if_pos ((bt_psB_led _ _ _ _ _).mpr y)]
          have hn : ¬ (bt_psB (w 7 k) (w 8 k) u (bt_fr w u (w 11) k).1 0 = true ∨ (w 7 k = 3 ∧ (bt_fr w u (w 11) k).1 = 0 ∧ (bt_fr w u (w 11) k).2 = 1)) → bt_co w u (w 11) k = 0 := fun y => by
            simp only [bt_co, bt_fr, if_neg (show ¬ w 11 k = 1 by omega), if_neg (fun z => y ((bt_psB_led _ _ _ _ _).mp z))]
          refine ⟨fun z2 => ?_, fun z2 => ?_⟩
          · rw [bt_n0 (by omega)] at z2
            have hx := hfl2.mp (by omega)
            have hco := hy (Or.inr hx)
            refine ⟨_, rfl, p + 58 + 5 * k + 4, by simp only [bt_lit, nI_add], by omega, ?_⟩
            exact go hco
          · rw [bt_n0 (by omega)] at z2
            have hx : ¬ (w 7 k = 3 ∧ (bt_fr w u (w 11) k).1 = 0 ∧ (bt_fr w u (w 11) k).2 = 1) := fun y => by have := hfl2.mpr y; omega
            refine ⟨_, rfl, p + 58 + 5 * k, rfl, by omega, ?_⟩
            refine ⟨_, rfl, p + 58 + 5 * k + 1, by simp only [bt_lit, nI_add], by omega, ?_⟩
            refine ⟨w 7 k, w 8 k, (bt_fr w u (w 11) k).1, u, rfl, ekd, f14 k, end_, f15 k, by rw [hmn], by omega, rfl, hu, ?_⟩
            by_cases hps : bt_psB (w 7 k) (w 8 k) u (bt_fr w u (w 11) k).1 0 = true
            · have hco := hy (Or.inl hps)
              rw [if_pos hps]
              refine ⟨fun y => absurd y (by decide), fun _ => ?_⟩
              refine ⟨_, rfl, p + 58 + 5 * k + 4, by simp only [bt_lit, nI_add], by omega, ?_⟩
              exact go hco
            · have hco := hn (fun y => y.elim hps hx)
              rw [if_neg hps]
              exact ⟨fun _ => stay hco, fun y => absurd rfl y⟩
    refine bt_go rfl hP 60 [5] P (fun _ _ _ _ _ h => h) ?_
    refine loop _ _ _ _ _ _ ⟨rfl, 0, none, none, none, Nat.zero_le _, rfl, fun _ _ => rfl, fun _ _ => rfl, ?_, Or.inl ⟨rfl, rfl, rfl⟩⟩
    intro j hj
    rw [c11 j hj]
    simp
  · exact False.elim h
