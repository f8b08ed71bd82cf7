/-! THE MODEL: a stretch is driven -/
def sX6_bitsOf : bt_Sp := fun as M N K => match as with
  | [.int x] => ∃ a, x = nI a ∧ a < 256 ∧ K (some (.int (nI (bt_pc a)))) M N
  | _ => False
theorem mX6_bitsOf : bt_MT bt_TX6_bitsOf bt_FX6 [] 1 3 sX6_bitsOf := by
  intro as M N Rt h P hP
  unfold sX6_bitsOf at h
  split at h
  · obtain ⟨a, rfl, ha, h⟩ := h
    have loop : ∀ v pc L st M' N', (pc = 4 ∧ st = [] ∧ M' = M ∧ N' = N ∧ ∃ k, k ≤ 8 ∧ v = 8 - k ∧ L = [some (.int (nI a)), some (.int (nI (bt_ct1 (fun k => a / 2 ^ k % 2) k))), some (.int (nI k))]) → P pc L st M' N' := by
      refine bt_loop rfl hP 60 [4] (fun v pc L st M' N' => (pc = 4 ∧ st = [] ∧ M' = M ∧ N' = N ∧ ∃ k, k ≤ 8 ∧ v = 8 - k ∧ L = [some (.int (nI a)), some (.int (nI (bt_ct1 (fun k => a / 2 ^ k % 2) k))), some (.int (nI k))])) ?_
      rintro v pc L st M' N' ⟨rfl, rfl, rfl, rfl, k, hk, rfl, rfl⟩
      refine ⟨fun q => ?_, fun q => ?_⟩
      · rw [bt_lit, nI_leI (by omega) (by omega)] at q
        have : k = 8 := by omega
        subst this
        exact h
      · rw [bt_lit, nI_leI (by omega) (by omega)] at q
        refine ⟨8 - (k + 1), by omega, rfl, rfl, rfl, rfl, k + 1, by omega, rfl, ?_⟩
        have h3 : a / 2 ^ k ≤ a := Nat.div_le_self _ _
        rw [bt_shr (by omega) (by omega), bt_and1 (by omega), nI_add, nI_1]
        rfl
    refine bt_go rfl hP 60 [4] P (fun _ _ _ _ _ h => h) ?_
    exact loop _ _ _ _ _ _ ⟨rfl, rfl, rfl, rfl, 0, by omega, rfl, rfl⟩
  · exact False.elim h
/-- a page is written -/
def bt_mfr (p : Nat) (M M' : bt_M) : Prop := (∀ x : Nat, x ≠ 68 → M' x = M x) ∧ ∀ j : Nat, (j < p ∨ p + 90 ≤ j) → M' 68 j = M 68 j
theorem bt_dv_mW {M M' : bt_M} {p g : Nat} {w : bt_W} (hw : bt_mW M p w) (hat : w 12 4 < w 12 0) (h1 : ∀ x : Nat, x ≠ 68 → M' x = M x) (h2 : ∀ j : Nat, j ≠ p + 88 → j ≠ p + 89 → (∀ k, k < w 12 1 → j ≠ p + 58 + 5 * k + 4 ∧ j ≠ p + 58 + 5 * k + 3) → M' 68 j = M 68 j)
    (h3 : bt_pg M' p (w 12 1) (fun k => w 11 k + bt_cm w (w 12 4) g (w 11) k)) (h4 : M' 68 (p + 88) = nI (w 12 4 + 1)) (h5 : M' 68 (p + 89) = nI (w 12 5 + w 0 (w 12 4) * w 12 2)) (h6 : ∀ k, k < w 12 1 → M' 68 (p + 58 + 5 * k + 3) = nI (w 10 k + bt_mn w (w 12 4) k (w 11 k + bt_cm w (w 12 4) g (w 11) k))) : bt_mW M' p (bt_dv w g) := by
  obtain ⟨hf, g1, g2, g3, g4, g5, g6, r0, r1, r2, r3, r4, r5, r6, c7, c8, c9, c10, c11⟩ := hw
  have hn := hf.1
  have hm := hf.2.1
  refine ⟨bt_dv_wf hf hat, ?_, ?_, ?_, ?_, ?_, ?_, ?_, ?_, ?_, ?_, ?_, ?_, ?_, ?_, ?_, ?_, ?_, ?_⟩
  · rw [h1 67 (by omega)]; exact g1
  · rw [h1 67 (by omega)]; exact g2
  · rw [h2 _ (by omega) (by omega) (fun k hk => by omega)]; exact g3
  · rw [h2 _ (by omega) (by omega) (fun k hk => by omega)]; exact g4
  · exact h4
  · exact h5
  · intro i hi; have hi : i < w 12 0 := hi; rw [h2 _ (by omega) (by omega) (fun k hk => by omega)]; exact r0 i hi
  · intro i hi; have hi : i < w 12 0 := hi; rw [h2 _ (by omega) (by omega) (fun k hk => by omega)]; exact r1 i hi
  · intro i hi; have hi : i < w 12 0 := hi; rw [h2 _ (by omega) (by omega) (fun k hk => by omega)]; exact r2 i hi
  · intro i hi; have hi : i < w 12 0 := hi; rw [h2 _ (by omega) (by omega) (fun k hk => by omega)]; exact r3 i hi
  · intro i hi; have hi : i < w 12 0 := hi; rw [h2 _ (by omega) (by omega) (fun k hk => by omega)]; exact r4 i hi
  · intro i hi; have hi : i < w 12 0 := hi; rw [h2 _ (by omega) (by omega) (fun k hk => by omega)]; exact r5 i hi
  · intro i hi; have hi : i < w 12 0 := hi; rw [h2 _ (by omega) (by omega) (fun k hk => by omega)]; exact r6 i hi
  · intro i hi; have hi : i < w 12 1 := hi; rw [h2 _ (by omega) (by omega) (fun k hk => by omega)]; exact c7 i hi
  · intro i hi; have hi : i < w 12 1 := hi; rw [h2 _ (by omega) (by omega) (fun k hk => by omega)]; exact c8 i hi
  · intro i hi; have hi : i < w 12 1 := hi; rw [h2 _ (by omega) (by omega) (fun k hk => by omega)]; exact c9 i hi
  · exact h6
  · exact h3
def bt_CX6_driveOn : bt_C := [(146, 1, 2, sX6_pastOn), (181, 0, 1, sX6_bitsOf), (163, 1, 4, sX6_useOn), (184, 1, 3, sX6_passOn), (139, 1, 3, sX6_isPast), (143, 1, 2, sX6_paceOn)]
def sX6_driveOn : bt_Sp := fun as M N K => match as with
  | [.ref c, .int p, .int g] => ∃ p' g' w, c = 67 ∧ p = nI p' ∧ p' ≤ 450 ∧ g = nI g' ∧ g' ≤ 9 ∧ bt_mW M p' w ∧ w 12 4 < w 12 0 ∧ ∀ M', bt_mW M' p' (bt_dv w g') → bt_mfr p' M M' → K (some (.int (nI (bt_mk (bt_cm w (w 12 4) g' (w 11)) (w 12 1))))) M' N
  | _ => False
set_option maxHeartbeats 2000000 in
set_option maxRecDepth 100000 in
theorem mX6_driveOn : bt_MT bt_TX6_driveOn bt_FX6 bt_CX6_driveOn 1 10 sX6_driveOn := by
  intro as M N Rt h P hP
  unfold sX6_driveOn at h
  split at h
  · obtain ⟨p, g, w, rfl, rfl, hp, rfl, hg, hw, hat, h⟩ := h
    obtain ⟨hf, g1, g2, g3, g4, g5, g6, r0, r1, r2, r3, r4, r5, r6, c7, c8, c9, c10, c11⟩ := id hw
    obtain ⟨f1, f2, f3, f4, f5, f6, f7, f8, f9, f10, f11, f12, f13, f14, f15, f16, f17, f18⟩ := id hf
    have hcb := bt_cm_b1 w (w 12 4) g (w 11)
    have hsum := bt_cm_le w (w 12 4) g (w 11) f18
    -- from the times on
    have rest : ∀ M1 x3 x5 (y7 : Int32) x8 x9, (∀ x : Nat, x ≠ 68 → M1 x = M x) → (∀ j : Nat, (∀ k, k < w 12 1 → j ≠ p + 58 + 5 * k + 4) → M1 68 j = M 68 j) → bt_pg M1 p (w 12 1) (fun k => w 11 k + bt_cm w (w 12 4) g (w 11) k) → P 140 [some (.ref 67), some (.int (nI p)), some (.int (nI g)), x3, some (.int (nI (w 0 (w 12 4)))), x5, some (.int (nI (bt_mk (bt_cm w (w 12 4) g (w 11)) (w 12 1)))), some (.int y7), x8, x9] [] M1 N := by
      intro M1 x3 x5 y7 x8 x9 a1 a2 a3
      have loop : ∀ v pc L st M' N', (pc = 143 ∧ st = [] ∧ N' = N ∧ ∃ k x9, k ≤ w 12 1 ∧ v = w 12 1 - k ∧ L = [some (.ref 67), some (.int (nI p)), some (.int (nI g)), x3, some (.int (nI (w 0 (w 12 4)))), x5, some (.int (nI (bt_mk (bt_cm w (w 12 4) g (w 11)) (w 12 1)))), some (.int y7), some (.int (nI k)), x9] ∧ (∀ x : Nat, x ≠ 68 → M' x = M x) ∧ (∀ j : Nat, (∀ k, k < w 12 1 → j ≠ p + 58 + 5 * k + 4 ∧ j ≠ p + 58 + 5 * k + 3) → M' 68 j = M 68 j) ∧ bt_pg M' p (w 12 1) (fun k => w 11 k + bt_cm w (w 12 4) g (w 11) k) ∧ ∀ j, j < w 12 1 → M' 68 (p + 58 + 5 * j + 3) = nI (w 10 j + if j < k then bt_mn w (w 12 4) j (w 11 j + bt_cm w (w 12 4) g (w 11) j) else 0)) → P pc L st M' N' := by
        refine bt_loop rfl hP 80 [143] (fun v pc L st M' N' => (pc = 143 ∧ st = [] ∧ N' = N ∧ ∃ k x9, k ≤ w 12 1 ∧ v = w 12 1 - k ∧ L = [some (.ref 67), some (.int (nI p)), some (.int (nI g)), x3, some (.int (nI (w 0 (w 12 4)))), x5, some (.int (nI (bt_mk (bt_cm w (w 12 4) g (w 11)) (w 12 1)))), some (.int y7), some (.int (nI k)), x9] ∧ (∀ x : Nat, x ≠ 68 → M' x = M x) ∧ (∀ j : Nat, (∀ k, k < w 12 1 → j ≠ p + 58 + 5 * k + 4 ∧ j ≠ p + 58 + 5 * k + 3) → M' 68 j = M 68 j) ∧ bt_pg M' p (w 12 1) (fun k => w 11 k + bt_cm w (w 12 4) g (w 11) k) ∧ ∀ j, j < w 12 1 → M' 68 (p + 58 + 5 * j + 3) = nI (w 10 j + if j < k then bt_mn w (w 12 4) j (w 11 j + bt_cm w (w 12 4) g (w 11) j) else 0))) ?_
        rintro v pc L st M' N' ⟨rfl, rfl, rfl, k, x9, hk, rfl, rfl, q1, q2, q3, q4⟩
        have e2 : M' 67 2 = nI (w 12 1) := by rw [q1 67 (by omega)]; exact g2
        have e56 : M' 68 (p + 56) = nI (w 12 2) - 5 := by rw [q2 _ (fun k hk => by omega)]; exact g3
        have e88 : M' 68 (p + 88) = nI (w 12 4) := by rw [q2 _ (fun k hk => by omega)]; exact g5
        have e89 : M' 68 (p + 89) = nI (w 12 5) := by rw [q2 _ (fun k hk => by omega)]; exact g6
        refine ⟨fun q => ?_, fun q => ?_⟩
        · rw [e2, nI_leI (by omega) (by omega)] at q
          refine ⟨_, rfl, p + 89, by simp only [bt_lit, nI_add], by omega, ?_⟩
          refine ⟨p, w 12 2, rfl, rfl, hp, e56, ?_⟩
          refine ⟨_, rfl, p + 89, by simp only [bt_lit, nI_add], by omega, ?_⟩
          intro M2 d2
          refine ⟨_, rfl, p + 88, by simp only [bt_lit, nI_add], by omega, ?_⟩
          refine ⟨_, rfl, p + 88, by simp only [bt_lit, nI_add], by omega, ?_⟩
          intro M3 d3
          have b68 : ∀ j, j ≠ p + 88 → j ≠ p + 89 → M3 68 j = M' 68 j := fun j z1 z2 => by
            rw [d3, bt_up_s, pk_un z1, d2, bt_up_s, pk_un z2]
          have bx : ∀ x : Nat, x ≠ 68 → M3 x = M x := fun x z => by
            rw [d3, bt_up_n z, d2, bt_up_n z]; exact q1 x z
          refine h M3 (bt_dv_mW hw hat bx ?_ ?_ ?_ ?_ ?_) ⟨bx, ?_⟩
          · intro j z1 z2 z3
            rw [b68 j z1 z2]; exact q2 j z3
          · intro j hj
            rw [b68 _ (by omega) (by omega)]; exact q3 j hj
          · rw [d3, bt_up_s, pk_us, d2, bt_up_s, pk_un (by omega), e88, nI_1]
          · rw [d3, bt_up_s, pk_un (by omega), d2, bt_up_s, pk_us, e89, pk_mul, nI_add]
          · intro j hj
            rw [b68 _ (by omega) (by omega), q4 j hj, if_pos (by omega)]
          · intro j z
            rw [b68 _ (by omega) (by omega)]
            exact q2 j (fun k hk => by omega)
        · rw [e2, nI_leI (by omega) (by omega)] at q
          have hkm : k < w 12 1 := by omega
          have hs1 := hsum k
          have eat : nI p + 58 + 5 * nI k = nI (p + 58 + 5 * k) := by simp only [bt_lit, pk_mul, nI_add]
          have e9 : M' 68 (p + 58 + 5 * k + 2) = nI (w 9 k) := by rw [q2 _ (fun j hj => by omega)]; exact c9 k hkm
          have fin : ∀ z : Nat, z = bt_mn w (w 12 4) k (w 11 k + bt_cm w (w 12 4) g (w 11) k) → ∀ M2, M2 = va_up M' 68 (upd (M' 68) (p + 58 + 5 * k + 3) (M' 68 (p + 58 + 5 * k + 3) + nI z)) → (∀ x : Nat, x ≠ 68 → M2 x = M x) ∧ (∀ j : Nat, (∀ k, k < w 12 1 → j ≠ p + 58 + 5 * k + 4 ∧ j ≠ p + 58 + 5 * k + 3) → M2 68 j = M 68 j) ∧ bt_pg M2 p (w 12 1) (fun k => w 11 k + bt_cm w (w 12 4) g (w 11) k) ∧ ∀ j, j < w 12 1 → M2 68 (p + 58 + 5 * j + 3) = nI (w 10 j + if j < k + 1 then bt_mn w (w 12 4) j (w 11 j + bt_cm w (w 12 4) g (w 11) j) else 0) := by
            rintro z hz M2 rfl
            refine ⟨fun x z => ?_, fun j z => ?_, fun j hj => ?_, fun j hj => ?_⟩
            · rw [bt_up_n z]; exact q1 x z
            · rw [bt_up_s, pk_un (z k hkm).2]; exact q2 j z
            · rw [bt_up_s, pk_un (by omega)]; exact q3 j hj
            · rw [bt_up_s]
              by_cases hjk : j = k
              · subst hjk
                rw [pk_us, q4 j hj, if_neg (Nat.lt_irrefl j), Nat.add_zero, nI_add, if_pos (Nat.lt_succ_self j), hz]
              · rw [pk_un (by omega), q4 j hj]
                by_cases hl : j < k
                · rw [if_pos hl, if_pos (by omega)]
                · rw [if_neg hl, if_neg (by omega)]
          refine ⟨_, rfl, p + 58 + 5 * k + 3, by simp only [bt_lit, pk_mul, nI_add], by omega, ?_⟩
          refine ⟨p, k, w 11 k + bt_cm w (w 12 4) g (w 11) k, rfl, rfl, rfl, by omega, q3 k hkm, hs1, ?_⟩
          refine ⟨fun z => ?_, fun z => ?_⟩
          · rw [bt_n0 (by omega)] at z
            refine ⟨p, w 12 2, rfl, rfl, hp, e56, ?_⟩
            refine ⟨_, rfl, p + 58 + 5 * k + 3, by simp only [bt_lit, pk_mul, nI_add], by omega, ?_⟩
            intro M2 d2
            rw [pk_mul] at d2
            obtain ⟨b1, b2, b3, b4⟩ := fin _ (by rw [bt_mn, if_neg (by omega)]) M2 d2
            exact ⟨w 12 1 - (k + 1), by omega, rfl, rfl, rfl, k + 1, _, by omega, rfl, by rw [← nI_1], b1, b2, b3, b4⟩
          · rw [bt_n0 (by omega)] at z
            refine ⟨_, rfl, p + 58 + 5 * k + 2, by simp only [bt_lit, pk_mul, nI_add], by omega, ?_⟩
            refine ⟨_, rfl, p + 58 + 5 * k + 3, by simp only [bt_lit, pk_mul, nI_add], by omega, ?_⟩
            intro M2 d2
            rw [e9, pk_mul] at d2
            obtain ⟨b1, b2, b3, b4⟩ := fin _ (by rw [bt_mn, if_pos (by omega)]) M2 d2
            exact ⟨w 12 1 - (k + 1), by omega, rfl, rfl, rfl, k + 1, _, by omega, rfl, by rw [← nI_1], b1, b2, b3, b4⟩
      refine bt_go rfl hP 60 [143] P (fun _ _ _ _ _ h => h) ?_
      refine loop _ _ _ _ _ _ ⟨rfl, rfl, rfl, 0, x9, Nat.zero_le _, rfl, rfl, a1, fun j z => a2 j (fun k hk => (z k hk).1), a3, fun j hj => ?_⟩
      rw [a2 _ (fun k hk => by omega), if_neg (by omega), Nat.add_zero]
      exact c10 j hj
    have hmk : ∀ {f : Nat → Nat}, bt_b1 f → bt_mk f (w 12 1) < 64 := fun {f} hf => by
      have := bt_mk_lt hf (w 12 1)
      have h2 : 2 ^ (w 12 1) ≤ 2 ^ 6 := Nat.pow_le_pow_right (by omega) f2
      omega
    have hnb : bt_b1 (fun k => 1 - w 11 k) := bt_b1_not
    have hlt := bt_mk_lt f18 (w 12 1)
    have ebc := bt_pc_mk hnb (n := w 12 1) (by omega)
    have hct := bt_ct1_le hnb (w 12 1)
    have e5 := r5 _ hat
    have e6 := r6 _ hat
    have e1 := r1 _ hat
    have e4 := r4 _ hat
    have hmiles := r0 _ hat
    -- by passing
    have pass : ¬ bt_lb w (w 12 4) (w 11) → ∀ x4 (y5 : Int32) x6 (y7 : Int32) x8 x9, x4 = some (.int (nI (w 0 (w 12 4)))) → P 126 [some (.ref 67), some (.int (nI p)), some (.int (nI g)), some (.int (nI (w 12 4))), x4, some (.int y5), x6, some (.int y7), x8, x9] [] M N := by
      rintro hlb x4 y5 x6 y7 x8 x9 rfl
      rw [← bt_lbB_iff] at hlb
      have hcm : ∀ k, bt_cm w (w 12 4) g (w 11) k = bt_co w (bt_us w (w 12 4) g) (w 11) k := fun k => by
        unfold bt_cm bt_co
        rw [if_neg hlb]
      refine bt_go rfl hP 60 [140] P (fun _ _ _ _ _ h => h) ?_
      refine ⟨p, w 12 4, g, w 6 (w 12 4), w 1 (w 12 4), w 4 (w 12 4), rfl, rfl, hp, rfl, by omega, rfl, hg, e6, f13 _, e1, f8 _, e4, f11 _, ?_⟩
      refine ⟨p, bt_us w (w 12 4) g, w, rfl, rfl, hp, rfl, bt_us_le hf, hw, ?_⟩
      intro M' b1 b2 b3
      have hmc : bt_mk (bt_co w (bt_us w (w 12 4) g) (w 11)) (w 12 1) = bt_mk (bt_cm w (w 12 4) g (w 11)) (w 12 1) := bt_mk_c (fun k _ => (hcm k).symm)
      have := rest M' (some (.int (nI (w 12 4)))) (some (.int y5)) y7 x8 x9 b1 b2 (fun k hk => by rw [b3 k hk]; dsimp only; rw [← hcm k])
      rw [← hmc] at this
      exact this
    -- the tractor pulls in
    have pull : bt_lb w (w 12 4) (w 11) → ∀ x4 x5 x6 (y7 : Int32) x8 x9, x4 = some (.int (nI (w 0 (w 12 4)))) → x6 = some (.int (nI (bt_mk (fun k => 1 - w 11 k) (w 12 1)))) → P 88 [some (.ref 67), some (.int (nI p)), some (.int (nI g)), some (.int (nI (w 12 4))), x4, x5, x6, some (.int y7), x8, x9] [] M N := by
      rintro hlb x4 x5 x6 y7 x8 x9 rfl rfl
      rw [← bt_lbB_iff] at hlb
      have hcm : ∀ k, bt_cm w (w 12 4) g (w 11) k = 1 - w 11 k := fun k => by
        unfold bt_cm
        rw [if_pos hlb]
      have hmc : bt_mk (fun k => 1 - w 11 k) (w 12 1) = bt_mk (bt_cm w (w 12 4) g (w 11)) (w 12 1) := bt_mk_c (fun k _ => (hcm k).symm)
      have loop : ∀ v pc L st M' N', (pc = 91 ∧ st = [] ∧ N' = N ∧ ∃ k, k ≤ w 12 1 ∧ v = w 12 1 - k ∧ L = [some (.ref 67), some (.int (nI p)), some (.int (nI g)), some (.int (nI (w 12 4))), some (.int (nI (w 0 (w 12 4)))), x5, some (.int (nI (bt_mk (fun k => 1 - w 11 k) (w 12 1)))), some (.int y7), some (.int (nI k)), x9] ∧ (∀ x : Nat, x ≠ 68 → M' x = M x) ∧ (∀ j : Nat, (∀ k, k < w 12 1 → j ≠ p + 58 + 5 * k + 4) → M' 68 j = M 68 j) ∧ ∀ j, j < k → M' 68 (p + 58 + 5 * j + 4) = 1) → P pc L st M' N' := by
        refine bt_loopP rfl hP 80 [91, 140] (fun v pc L st M' N' => (pc = 91 ∧ st = [] ∧ N' = N ∧ ∃ k, k ≤ w 12 1 ∧ v = w 12 1 - k ∧ L = [some (.ref 67), some (.int (nI p)), some (.int (nI g)), some (.int (nI (w 12 4))), some (.int (nI (w 0 (w 12 4)))), x5, some (.int (nI (bt_mk (fun k => 1 - w 11 k) (w 12 1)))), some (.int y7), some (.int (nI k)), x9] ∧ (∀ x : Nat, x ≠ 68 → M' x = M x) ∧ (∀ j : Nat, (∀ k, k < w 12 1 → j ≠ p + 58 + 5 * k + 4) → M' 68 j = M 68 j) ∧ ∀ j, j < k → M' 68 (p + 58 + 5 * j + 4) = 1)) ?_
        rintro v pc L st M' N' ⟨rfl, rfl, rfl, k, hk, rfl, rfl, q1, q2, q3⟩
        have e2 : M' 67 2 = nI (w 12 1) := by rw [q1 67 (by omega)]; exact g2
        refine ⟨fun q => ?_, fun q => ?_⟩
        · rw [e2, nI_leI (by omega) (by omega)] at q
          refine Or.inr ?_
          rw [hmc]
          refine rest M' _ _ _ _ _ q1 q2 (fun j hj => ?_)
          have := f18 j
          rw [q3 j (by omega)]
          dsimp only
          rw [hcm j, show w 11 j + (1 - w 11 j) = 1 by omega]
          rfl
        · rw [e2, nI_leI (by omega) (by omega)] at q
          refine ⟨_, rfl, p + 58 + 5 * k + 4, by simp only [bt_lit, pk_mul, nI_add], by omega, ?_⟩
          rintro _ rfl
          refine Or.inl ⟨w 12 1 - (k + 1), by omega, rfl, rfl, rfl, k + 1, by omega, rfl, by rw [← nI_1], ?_, ?_, ?_⟩
          · intro x z
            rw [bt_up_n z]; exact q1 x z
          · intro j z
            rw [bt_up_s, pk_un (z k (by omega))]; exact q2 j z
          · intro j hj
            rw [bt_up_s]
            by_cases hjk : j = k
            · rw [hjk, pk_us]
            · rw [pk_un (by omega)]; exact q3 j (by omega)
      refine bt_go rfl hP 60 [91] P (fun _ _ _ _ _ h => h) ?_
      exact loop _ _ _ _ _ _ ⟨rfl, rfl, rfl, 0, Nat.zero_le _, rfl, rfl, fun _ _ => rfl, fun _ _ => rfl, fun j hj => by omega⟩
    refine bt_go rfl hP 80 [126, 88] P (fun _ _ _ _ _ h => h) ?_
    have n5 := bt_n1 (a := w 5 (w 12 4)) (by have := f12 (w 12 4); omega)
    refine ⟨_, rfl, p + 88, by simp only [bt_lit, nI_add], by omega, ?_⟩
    refine ⟨_, rfl, p + 7 * w 12 4, by rw [g5]; simp only [bt_lit, pk_mul, nI_add], by omega, ?_⟩
    rw [g5]
    refine ⟨p, w 12 1, w 11, rfl, rfl, hp, g2, f2, f18, c11, ?_⟩
    refine ⟨_, rfl, p + 57, by simp only [bt_lit, nI_add], by omega, ?_⟩
    refine ⟨_, rfl, p + 7 * w 12 4 + 5, by simp only [bt_lit, pk_mul, nI_add], by omega, ?_⟩
    have eleft : ((1 : Int32) <<< (M 67 2 &&& 31)) - 1 &&& (nI (bt_mk (w 11) (w 12 1)) ^^^ (-1)) = nI (bt_mk (fun k => 1 - w 11 k) (w 12 1)) := by
      rw [g2, bt_ev _ (by omega), bt_notN _ (by omega) _ hlt, bt_mk_not f18]
    refine ⟨fun q => ?_, fun q => ⟨fun q2 => ?_, fun q2 => ?_⟩⟩
    · rw [e5, n5] at q
      exact pass (fun z => q z.1) _ _ _ _ _ _ (by rw [hmiles])
    · rw [g4, bt_le0 (by omega)] at q2
      exact pass (fun z => z.2.1 q2) _ _ _ _ _ _ (by rw [hmiles])
    · rw [e5, n5] at q
      rw [g4, bt_le0 (by omega)] at q2
      refine ⟨bt_mk (fun k => 1 - w 11 k) (w 12 1), eleft, by have := hmk hnb; omega, ?_⟩
      rw [ebc]
      refine ⟨fun q3 => ?_, fun q3 => ?_⟩
      · rw [g4, nI_ltI (by omega) (by omega)] at q3
        exact pass (fun z => by have := z.2.2; omega) _ _ _ _ _ _ (by rw [hmiles])
      · rw [g4, nI_ltI (by omega) (by omega)] at q3
        exact pull ⟨q, q2, by omega⟩ _ _ _ _ _ _ (by rw [hmiles]) (by rw [eleft])
  · exact False.elim h
