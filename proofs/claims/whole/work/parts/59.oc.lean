/-! BY ODDS: the class's Chances -/
def bu_nW (N : bt_N) (w : bt_W) (j : Nat) : Prop := ∀ q, q < 64 → N 65 q = lN (bu_Wt w j q)
def sX1_begin : bt_Sp := fun as M N K => match as with
  | [.ref c, .ref d] => ∃ w, c = 64 ∧ d = 2 ∧ bt_cW M 2 w ∧ ∀ N', bu_nW N' w 0 → N' 64 2 = lN (10 ^ 0) → K none M N'
  | _ => False
set_option maxRecDepth 100000 in
theorem mX1_begin : bt_MT bt_TX1_begin bt_FX1 [] 0 3 sX1_begin := by
  intro as M N Rt h P hP
  unfold sX1_begin at h
  split at h
  · obtain ⟨w, rfl, rfl, a1, h⟩ := h
    obtain ⟨hw, h8, h9, h10, h11, h12, h13, h14, h15, h16, h17, r1, r2, r3, r4, r5, r6, r7, r8⟩ := id a1
    have hlt := bt_mk_lt (bt_wf11 hw) (w 12 1)
    have h64 := bu_64 hw
    have loop : ∀ v pc L st M' N', (pc = 2 ∧ st = [] ∧ M' = M ∧ ∃ k, k ≤ 64 ∧ v = 64 - k ∧ L = [some (.ref 64), some (.ref 2), some (.int (nI k))] ∧ ∀ q, q < k → N' 65 q = 0) → P pc L st M' N' := by
      refine bt_loop rfl hP 60 [2] (fun v pc L st M' N' => (pc = 2 ∧ st = [] ∧ M' = M ∧ ∃ k, k ≤ 64 ∧ v = 64 - k ∧ L = [some (.ref 64), some (.ref 2), some (.int (nI k))] ∧ ∀ q, q < k → N' 65 q = 0)) ?_
      rintro v pc L st M' N' ⟨rfl, rfl, hM, k, hk, rfl, rfl, q1⟩
      subst hM
      refine ⟨fun y1 => ?_, fun y1 => ?_⟩
      · rw [bt_lit, nI_leI (by omega) (by omega)] at y1
        refine ⟨_, rfl, bt_mk (w 11) (w 12 1), h13, by omega, ?_⟩
        intro N1 e1 N2 e2
        refine h N2 ?_ ?_
        · intro q hq
          rw [e2, bt_up_n (by omega), e1, bt_up_s, bu_Wt]
          by_cases c : bt_mk (w 11) (w 12 1) = q
          · rw [if_pos c, c, pk_uLs]
            rfl
          · rw [if_neg c, pk_uLn (fun z => c z.symm), q1 q (by omega)]
            rfl
        · rw [e2, bt_up_s, pk_uLs]
          rfl
      · rw [bt_lit, nI_leI (by omega) (by omega)] at y1
        refine ⟨_, rfl, k, rfl, by omega, ?_⟩
        intro N1 e1
        refine ⟨64 - (k + 1), by omega, rfl, rfl, rfl, k + 1, by omega, rfl, by rw [nI_1], fun q hq => ?_⟩
        rw [e1, bt_up_s]
        by_cases c : q = k
        · rw [c, pk_uLs]
        · rw [pk_uLn c]
          exact q1 q (by omega)
    refine bt_go rfl hP 60 [2] P (fun _ _ _ _ _ h => h) ?_
    exact loop _ _ _ _ _ _ ⟨rfl, rfl, rfl, 0, by omega, rfl, rfl, fun q hq => by omega⟩
  · exact False.elim h
/-- one set's share -/
def bu_sh1 (w : bt_W) (j m q : Nat) : Nat := bu_Wt w j m * ((if bu_st w (w 12 4 + j) (w 2 (w 12 4 + j)) m = q then w 3 (w 12 4 + j) else 0) + (if bu_st w (w 12 4 + j) 0 m = q then 10 - w 3 (w 12 4 + j) else 0))
def bt_CX1_spreadOne : bt_C := [(46, 1, 4, sX4_comers), (53, 0, 5, sArrcopyL)]
def sX1_spreadOne : bt_Sp := fun as M N K => match as with
  | [.ref c, .ref d, .int i] => ∃ w j, c = 64 ∧ d = 2 ∧ bt_cW M 2 w ∧ i = nI (w 12 4 + j) ∧ w 12 4 + j < w 12 0 ∧ bu_nW N w j ∧ N 64 2 = lN (10 ^ j) ∧ ∀ N', bu_nW N' w (j + 1) → N' 64 2 = lN (10 ^ (j + 1)) → K none M N'
  | _ => False
set_option maxHeartbeats 1000000 in
set_option maxRecDepth 100000 in
theorem mX1_spreadOne : bt_MT bt_TX1_spreadOne bt_FX1 bt_CX1_spreadOne 0 5 sX1_spreadOne := by
  intro as M N Rt h P hP
  unfold sX1_spreadOne at h
  split at h
  · obtain ⟨w, j, rfl, rfl, a1, rfl, hj, hN, hN2, h⟩ := h
    obtain ⟨hw, h8, h9, h10, h11, h12, h13, h14, h15, h16, h17, r1, r2, r3, r4, r5, r6, r7, r8⟩ := id a1
    obtain ⟨f1, f2, f3, f4, f5, f6, f7, f8, f9, f10, f11, f12, f13, f14, f15, f16, f17, f18⟩ := id hw
    have h64 := bu_64 hw
    have hsets : (1 : Int32) <<< (M 2 12 &&& 31) = nI (2 ^ w 12 1) := by rw [h12, bu_sl1 _ (by omega)]
    have g10 := f10 (w 12 4 + j)
    have m3 := r3 _ hj
    have m4 := r4 _ hj
    have o1 : (M 6 (w 12 4 + j)).toInt64 = lN (w 3 (w 12 4 + j)) := by rw [m4, nI_l (by omega)]
    have o2 : (10 - M 6 (w 12 4 + j)).toInt64 = lN (10 - w 3 (w 12 4 + j)) := by rw [m4, show (10 : Int32) = nI 10 from rfl, pk_sub g10, nI_l (by omega)]
    have hst : ∀ g m, m < 2 ^ w 12 1 → nI m ||| nI (bt_mk (bt_cm w (w 12 4 + j) g (fun k => m / 2 ^ k % 2)) (w 12 1)) = nI (bu_st w (w 12 4 + j) g m) := by
      intro g m hm
      have hc := bt_cm_b1 w (w 12 4 + j) g (fun k => m / 2 ^ k % 2)
      have hs : bt_b1 (fun k => m / 2 ^ k % 2 + bt_cm w (w 12 4 + j) g (fun k => m / 2 ^ k % 2) k) := bt_cm_le w (w 12 4 + j) g _ bu_m2
      have hlt := bt_mk_lt hc (w 12 1)
      have e : m = bt_mk (fun k => m / 2 ^ k % 2) (w 12 1) := by rw [bu_mkb, Nat.mod_eq_of_lt hm]
      have e2 := bt_mk_or (n := w 12 1) (bu_m2 (f := fun k => m / 2 ^ k)) hc hs (fun k _ => by
        have k1 : m / 2 ^ k % 2 + bt_cm w (w 12 4 + j) g (fun k => m / 2 ^ k % 2) k ≤ 1 := hs k
        show m / 2 ^ k % 2 + bt_cm w (w 12 4 + j) g (fun k => m / 2 ^ k % 2) k = 1 ↔ m / 2 ^ k % 2 = 1 ∨ bt_cm w (w 12 4 + j) g (fun k => m / 2 ^ k % 2) k = 1
        omega)
      rw [bt_or (by omega) (by omega), ← e] at *
      rw [e2]
      rfl
    have hpm : ∀ m, m < 2 ^ w 12 1 → nI m = nI (bt_mk (fun k => m / 2 ^ k % 2) (w 12 1)) := fun m hm => by rw [bu_mkb, Nat.mod_eq_of_lt hm]
    have loop2 : ∀ v pc L st M' N', (pc = 33 ∧ st = [] ∧ M' = M ∧ ∃ k, k ≤ 2 ^ w 12 1 ∧ v = 2 ^ w 12 1 - k ∧ L = [some (.ref 64), some (.ref 2), some (.int (nI (w 12 4 + j))), some (.int (nI (2 ^ w 12 1))), some (.int (nI k))] ∧ N' 65 = N 65 ∧ N' 64 = N 64 ∧ ∀ q, q < 2 ^ w 12 1 → N' 66 q = lN (bt_ct1 (fun m => bu_sh1 w j m q) k)) → P pc L st M' N' := by
      refine bt_loop rfl hP 100 [33] (fun v pc L st M' N' => (pc = 33 ∧ st = [] ∧ M' = M ∧ ∃ k, k ≤ 2 ^ w 12 1 ∧ v = 2 ^ w 12 1 - k ∧ L = [some (.ref 64), some (.ref 2), some (.int (nI (w 12 4 + j))), some (.int (nI (2 ^ w 12 1))), some (.int (nI k))] ∧ N' 65 = N 65 ∧ N' 64 = N 64 ∧ ∀ q, q < 2 ^ w 12 1 → N' 66 q = lN (bt_ct1 (fun m => bu_sh1 w j m q) k))) ?_
      rintro v pc L st M' N' ⟨rfl, rfl, hM, k, hk, rfl, rfl, q1, q2, q3⟩
      subst hM
      refine ⟨fun y1 => ?_, fun y1 => ?_⟩
      · rw [nI_leI (by omega) (by omega)] at y1
        have e : k = 2 ^ w 12 1 := by omega
        refine ⟨_, _, 2 ^ w 12 1, rfl, rfl, rfl, rfl, rfl, h64, h64, ?_⟩
        intro N1 e1 N2 e2
        refine h N2 ?_ ?_
        · intro q hq
          rw [e2, bt_up_n (by omega), e1, bt_up_s]
          by_cases c : q < 2 ^ w 12 1
          · rw [bt_cpy0 c, q3 q c, e]
            rfl
          · have ec : va_cpy (N' 66) (N' 65) 0 0 (2 ^ w 12 1) q = N' 65 q := pk_cpy_out (Or.inr (by omega))
            rw [ec, q1, hN q hq, bu_Wt_0 hw (by omega), bu_Wt_0 hw (by omega)]
        · rw [e2, bt_up_s, pk_uLs, e1, bt_up_n (by omega), q2, hN2, show (10 : Int64) = lN 10 from rfl, lN_mul, Nat.pow_succ]
      · rw [nI_leI (by omega) (by omega)] at y1
        have hkl : k < 2 ^ w 12 1 := by omega
        have w65 : N' 65 k = lN (bu_Wt w j k) := by rw [q1]; exact hN k (by omega)
        refine ⟨_, rfl, k, rfl, by omega, ?_⟩
        refine ⟨fun y2 => ?_, fun y2 => ?_⟩
        · rw [bt_cmp_eq, w65] at y2
          refine ⟨2 ^ w 12 1 - (k + 1), by omega, rfl, rfl, rfl, k + 1, by omega, rfl, by rw [nI_1], q1, q2, fun q hq => ?_⟩
          rw [bt_ct1, ← lN_add, q3 q hq]
          unfold bu_sh1
          rw [← lN_mul, y2, Int64.zero_mul, Int64.add_zero]
        · have s1 := bu_st_lt w (w 12 4 + j) (w 2 (w 12 4 + j)) k
          have s2 := bu_st_lt w (w 12 4 + j) 0 k
          refine ⟨_, rfl, w 12 4 + j, rfl, by omega, ?_⟩
          refine ⟨w, w 12 4 + j, w 2 (w 12 4 + j), fun p => k / 2 ^ p % 2, Or.inl rfl, a1, rfl, hj, m3, f9 _, bu_m2, hpm k hkl, ?_⟩
          refine ⟨_, rfl, bu_st w (w 12 4 + j) (w 2 (w 12 4 + j)) k, hst _ k hkl, by omega, ?_⟩
          refine ⟨_, rfl, k, rfl, by omega, ?_⟩
          refine ⟨_, rfl, w 12 4 + j, rfl, by omega, ?_⟩
          refine ⟨_, rfl, bu_st w (w 12 4 + j) (w 2 (w 12 4 + j)) k, hst _ k hkl, by omega, ?_⟩
          intro N1 e1
          refine ⟨w, w 12 4 + j, 0, fun p => k / 2 ^ p % 2, Or.inl rfl, a1, rfl, hj, rfl, by omega, bu_m2, hpm k hkl, ?_⟩
          refine ⟨_, rfl, bu_st w (w 12 4 + j) 0 k, hst _ k hkl, by omega, ?_⟩
          refine ⟨_, rfl, k, rfl, by omega, ?_⟩
          refine ⟨_, rfl, w 12 4 + j, rfl, by omega, ?_⟩
          refine ⟨_, rfl, bu_st w (w 12 4 + j) 0 k, hst _ k hkl, by omega, ?_⟩
          intro N2 e2
          have v65 : N1 65 k = lN (bu_Wt w j k) := by rw [e1, bt_up_n (by omega)]; exact w65
          rw [w65, o1] at e1
          rw [v65, o2] at e2
          refine ⟨2 ^ w 12 1 - (k + 1), by omega, rfl, rfl, rfl, k + 1, by omega, rfl, by rw [nI_1], ?_, ?_, fun q hq => ?_⟩
          · rw [e2, bt_up_n (by omega), e1, bt_up_n (by omega)]
            exact q1
          · rw [e2, bt_up_n (by omega), e1, bt_up_n (by omega)]
            exact q2
          · have n1 : N1 66 q = lN (bt_ct1 (fun m => bu_sh1 w j m q) k + (if bu_st w (w 12 4 + j) (w 2 (w 12 4 + j)) k = q then bu_Wt w j k * w 3 (w 12 4 + j) else 0)) := by
              rw [e1, bt_up_s]
              by_cases c : bu_st w (w 12 4 + j) (w 2 (w 12 4 + j)) k = q
              · rw [c, pk_uLs, if_pos rfl, q3 q hq, lN_mul, lN_add]
              · rw [pk_uLn (fun z => c z.symm), if_neg c, q3 q hq, Nat.add_zero]
            have n2 : N2 66 q = lN (bt_ct1 (fun m => bu_sh1 w j m q) k + (if bu_st w (w 12 4 + j) (w 2 (w 12 4 + j)) k = q then bu_Wt w j k * w 3 (w 12 4 + j) else 0) + (if bu_st w (w 12 4 + j) 0 k = q then bu_Wt w j k * (10 - w 3 (w 12 4 + j)) else 0)) := by
              rw [e2, bt_up_s]
              by_cases c : bu_st w (w 12 4 + j) 0 k = q
              · rw [c, pk_uLs, if_pos rfl, n1, lN_mul, lN_add]
              · rw [pk_uLn (fun z => c z.symm), if_neg c, n1, Nat.add_zero]
            rw [n2, bt_ct1]
            unfold bu_sh1
            rw [Nat.mul_add, ← Nat.add_assoc]
            congr 2
            · congr 1
              split
              · rfl
              · rw [Nat.mul_zero]
            · split
              · rfl
              · rw [Nat.mul_zero]
    have loop1 : ∀ v pc L st M' N', (pc = 10 ∧ st = [] ∧ M' = M ∧ ∃ k, k ≤ 2 ^ w 12 1 ∧ v = 2 ^ w 12 1 - k ∧ L = [some (.ref 64), some (.ref 2), some (.int (nI (w 12 4 + j))), some (.int (nI (2 ^ w 12 1))), some (.int (nI k))] ∧ N' 65 = N 65 ∧ N' 64 = N 64 ∧ ∀ q, q < k → N' 66 q = 0) → P pc L st M' N' := by
      refine bt_loopP rfl hP 100 [10, 33] (fun v pc L st M' N' => (pc = 10 ∧ st = [] ∧ M' = M ∧ ∃ k, k ≤ 2 ^ w 12 1 ∧ v = 2 ^ w 12 1 - k ∧ L = [some (.ref 64), some (.ref 2), some (.int (nI (w 12 4 + j))), some (.int (nI (2 ^ w 12 1))), some (.int (nI k))] ∧ N' 65 = N 65 ∧ N' 64 = N 64 ∧ ∀ q, q < k → N' 66 q = 0)) ?_
      rintro v pc L st M' N' ⟨rfl, rfl, hM, k, hk, rfl, rfl, q1, q2, q3⟩
      subst hM
      refine ⟨fun y1 => ?_, fun y1 => ?_⟩
      · rw [nI_leI (by omega) (by omega)] at y1
        exact Or.inr (loop2 _ _ _ _ _ _ ⟨rfl, rfl, rfl, 0, Nat.zero_le _, rfl, rfl, q1, q2, fun q hq => q3 q (by omega)⟩)
      · rw [nI_leI (by omega) (by omega)] at y1
        refine ⟨_, rfl, k, rfl, by omega, ?_⟩
        intro N1 e1
        refine Or.inl ⟨2 ^ w 12 1 - (k + 1), by omega, rfl, rfl, rfl, k + 1, by omega, rfl, by rw [nI_1], ?_, ?_, fun q hq => ?_⟩
        · rw [e1, bt_up_n (by omega)]
          exact q1
        · rw [e1, bt_up_n (by omega)]
          exact q2
        · rw [e1, bt_up_s]
          by_cases c : q = k
          · rw [c, pk_uLs]
          · rw [pk_uLn c]
            exact q3 q (by omega)
    refine bt_go rfl hP 60 [10] P (fun _ _ _ _ _ h => h) ?_
    exact loop1 _ _ _ _ _ _ ⟨rfl, rfl, rfl, 0, Nat.zero_le _, rfl, by rw [hsets]; rfl, rfl, rfl, fun q hq => by omega⟩
  · exact False.elim h
