/-! CALLS, BOTH SIDES: dare -/
def bt_CX5_dare : bt_C := [(51, 0, 3, sX5_within), (218, 1, 1, sX4_firstBehind), (223, 1, 4, sX1_bestDaring), (201, 0, 3, sX5_lowest)]
def sX5_dare : bt_Sp := bt_spC f_dare
set_option maxRecDepth 100000 in
theorem mX5_dare : bt_MT bt_TX5_dare bt_FX5 bt_CX5_dare 3 6 sX5_dare := by
  intro as M N Rt h P hP
  obtain ⟨t, S, r, S', rfl, hI, hf, h⟩ := bt_spC_e h
  obtain ⟨w, im, u, z, q⟩ := S
  unfold f_dare at hf
  split at hf
  · next v x _ _ _ _ _ e =>
    cases e
    obtain ⟨rfl, rfl⟩ := bt_some hf
    obtain ⟨a1, a2, a3, a4, a5, a6, a7, a8, a9, a10, a11, a12⟩ := id hI
    obtain ⟨hw, h8, h9, h10, h11, h12, h13, h14, h15, h16, h17, r1, r2, r3, r4, r5, r6, r7, r8⟩ := id a1
    obtain ⟨f1, f2, f3, f4, f5, f6, f7, f8, f9, f10, f11, f12, f13, f14, f15, f16, f17, f18⟩ := id hw
    have hbad : ¬ (bt_in v 100 ∧ bt_in x 3) → Rt (some (.long (-1))) M N := fun y => by
      rw [if_neg y] at h
      exact h M N (fun _ _ => rfl) hI
    refine bt_go0 rfl hP 80 ?_
    refine ⟨fun y => ?_, fun y => ⟨fun y2 => ?_, fun y2 => ?_⟩⟩
    · rw [bt_bi_0, bt_in_c (k := 99) (show (99 : Int32) = nI 99 from rfl) (by omega)] at y
      exact hbad (fun c => y c.1)
    rotate_left
    · rw [bt_bi_0, bt_in_c (k := 2) (show (2 : Int32) = nI 2 from rfl) (by omega)] at y2
      exact hbad (fun c => y2 c.2)
    · rw [bt_bi_n0, bt_in_c (k := 99) (show (99 : Int32) = nI 99 from rfl) (by omega)] at y
      rw [bt_bi_n0, bt_in_c (k := 2) (show (2 : Int32) = nI 2 from rfl) (by omega)] at y2
      have ok : bt_in v 100 ∧ bt_in x 3 := ⟨y, y2⟩
      rw [if_pos ok] at h
      obtain ⟨v, hv, rfl⟩ := bt_in_e y
      rw [bt_clm (by omega)] at h
      refine ⟨w, Or.inl rfl, a1, ?_⟩
      by_cases c : bt_fb w < w 12 1
      · rw [if_pos c] at h ⊢
        refine ⟨fun _ => ?_, fun z => absurd (Int32.not_lt.mp (nI_pos (show bt_fb w < 2 ^ 31 by omega))) z⟩
        refine ⟨w, bt_fb w, v, rfl, rfl, a1, rfl, c, rfl, by omega, fun M1 N1 t1 t2 t3 => ?_⟩
        have key := h M1 N1 (fun x hx => t1 x (by omega)) (bt_cI_same hI (fun x hx => t1 x (by omega)) (by rw [t1 49 (by omega)]))
        have hb := bt_bd_n hw (bt_fb w) v (j := w 12 0 - w 12 4) (by omega)
        have hp := (bt_p10 (w 12 0 - w 12 4) (by omega)).2
        refine ⟨fun z2 => ?_, fun z2 => ?_⟩
        · rw [if_neg z2] at key
          exact ⟨_, _, rfl, t3, hp.2, by omega, by omega, key⟩
        · rw [if_pos z2, ← t2] at key
          exact key
      · rw [if_neg c] at h ⊢
        refine ⟨fun z => absurd z (by decide), fun _ => ?_⟩
        exact h M N (fun _ _ => rfl) hI
  · cases hf
def bt_CX6_dare : bt_C := [(46, 0, 3, sX6_in), (246, 1, 1, sX6_firstBehind), (143, 1, 2, sX6_paceOn), (251, 1, 3, sX6_chance), (228, 0, 3, sX6_lowest)]
def sX6_dare : bt_Sp := bt_spM f_dare
set_option maxRecDepth 100000 in
theorem mX6_dare : bt_MT bt_TX6_dare bt_FX6 bt_CX6_dare 3 17 sX6_dare := by
  intro as M N Rt h P hP
  obtain ⟨t, S, r, S', rfl, hI, hf, h⟩ := bt_spM_e h
  obtain ⟨w, im, u, z, q⟩ := S
  unfold f_dare at hf
  split at hf
  · next v x _ _ _ _ _ e =>
    cases e
    obtain ⟨rfl, rfl⟩ := bt_some hf
    obtain ⟨a1, a2, a3, a4, a5, a6, a7, a8, a9, a10, a11, a12, a13, a14, a15⟩ := id hI
    obtain ⟨hw, g1, g2, g3, g4, g5, g6, r0, r1, r2, r3, r4, r5, r6, c7, c8, c9, c10, c11⟩ := id a1
    obtain ⟨f1, f2, f3, f4, f5, f6, f7, f8, f9, f10, f11, f12, f13, f14, f15, f16, f17, f18⟩ := id hw
    simp only [Nat.zero_add] at g3 g4 g5 g6 r0 r1 r2 r3 r4 r5 r6 c7 c8 c9 c10
    have hbad : ¬ (bt_in v 100 ∧ bt_in x 3) → Rt (some (.long (-1))) M N := fun y => by
      rw [if_neg y] at h
      exact h M (fun _ _ => rfl) hI
    refine bt_go rfl hP 80 [85] P (fun _ _ _ _ _ h => h) ?_
    refine ⟨fun y => ?_, fun y => ⟨fun y2 => ?_, fun y2 => ?_⟩⟩
    · rw [bt_bi_0, bt_inl_c (k := 99) (show (99 : Int64) = lN 99 from rfl) (by omega)] at y
      exact hbad (fun c => y c.1)
    rotate_left
    · rw [bt_bi_0, bt_inl_c (k := 2) (show (2 : Int64) = lN 2 from rfl) (by omega)] at y2
      exact hbad (fun c => y2 c.2)
    · rw [bt_bi_n0, bt_inl_c (k := 99) (show (99 : Int64) = lN 99 from rfl) (by omega)] at y
      rw [bt_bi_n0, bt_inl_c (k := 2) (show (2 : Int64) = lN 2 from rfl) (by omega)] at y2
      have ok : bt_in v 100 ∧ bt_in x 3 := ⟨y, y2⟩
      rw [if_pos ok] at h
      obtain ⟨v, hv, rfl⟩ := bt_in_e y
      rw [bt_clm (by omega)] at h
      refine ⟨w, rfl, a1, ?_⟩
      by_cases c : bt_fb w < w 12 1
      · rw [if_pos c] at h ⊢
        generalize bt_fb w = k at c h
        have hn4 : ¬ nI k = -4 := fun z => by
          have := congrArg Int32.toInt z
          rw [nI_toInt (by omega)] at this
          have e4 : (-4 : Int32).toInt = -4 := by decide
          omega
        have loop : ∀ u pc L st M' N', (pc = 85 ∧ st = [] ∧ M' = M ∧ N' = N ∧ ∃ (j : Nat) (s i : Int32) (y12 y13 y14 y15 y16 : Option Value), j ≤ w 12 0 - w 12 4 ∧ u = w 12 0 - w 12 4 - j ∧ i = nI (w 12 0 - j) - 1 ∧ s.toInt = bt_sz w k j ∧ L = [some (.ref 67), some (.int (nI v)), some (.int x), some (.int (nI k)), some (.int (nI (w 12 2) - M 68 (58 + 5 * k + 2))), some (.long (lN (bt_bd w k v j))), none, some (.long (lN (10 ^ j))), none, some (.int s), some (.int (bt_wh w k v j)), some (.int i), y12, y13, y14, y15, y16]) → P pc L st M' N' := by
          refine bt_loop rfl hP 100 [85] (fun u pc L st M' N' => (pc = 85 ∧ st = [] ∧ M' = M ∧ N' = N ∧ ∃ (j : Nat) (s i : Int32) (y12 y13 y14 y15 y16 : Option Value), j ≤ w 12 0 - w 12 4 ∧ u = w 12 0 - w 12 4 - j ∧ i = nI (w 12 0 - j) - 1 ∧ s.toInt = bt_sz w k j ∧ L = [some (.ref 67), some (.int (nI v)), some (.int x), some (.int (nI k)), some (.int (nI (w 12 2) - M 68 (58 + 5 * k + 2))), some (.long (lN (bt_bd w k v j))), none, some (.long (lN (10 ^ j))), none, some (.int s), some (.int (bt_wh w k v j)), some (.int i), y12, y13, y14, y15, y16])) ?_
          rintro u pc L st M' N' ⟨rfl, rfl, hM, hN, j, s, i, y12, y13, y14, y15, y16, hj, rfl, hi, hs, rfl⟩
          have hh := h
          rw [← hM] at g5 a1 c9 r0 hh ⊢
          rw [← hN] at hh
          refine ⟨_, rfl, 88, rfl, by omega, ⟨fun z1 => ?_, fun z1 => ?_⟩⟩
          · rw [g5, bt_dlt hi f1 (by omega)] at z1
            have e : j = w 12 0 - w 12 4 := by omega
            have key := hh M' (fun _ _ => rfl) (by rw [hM]; exact hI)
            rw [← e] at key
            have hb := bt_bd_n hw k v (j := j) (by omega)
            have hp := (bt_p10 j (by omega)).2
            refine ⟨fun z2 => ?_, fun z2 => ?_⟩
            · rw [if_neg z2] at key
              exact ⟨_, _, rfl, rfl, hp.2, by omega, by omega, key⟩
            · rw [if_pos z2] at key
              exact key
          · rw [g5, bt_dlt hi f1 (by omega)] at z1
            obtain ⟨i', hi'⟩ : ∃ i', w 12 0 - j = i' + 1 := ⟨w 12 0 - j - 1, by omega⟩
            have ei : i = nI i' := by rw [hi, hi', nI_pred]
            have ej : w 12 0 - 1 - j = i' := by omega
            have m0 : M' 68 (7 * i') = nI (w 0 i') := r0 i' (by omega)
            have m9 : M' 68 (58 + 5 * k + 2) = nI (w 9 k) := c9 k c
            have sz := bt_sz_le hw k j
            have sz1 := bt_sz_le hw k (j + 1)
            have hX : (s + M' 68 (7 * i') * (nI (w 12 2) - M' 68 (58 + 5 * k + 2))).toInt = bt_sz w k (j + 1) := by
              rw [m0, m9, bu_sv hs (by omega) (f7 i') f4 (f16 k), bt_sz, ej]
              rfl
            have hb := bt_bd_n hw k v (j := j) (by omega)
            have hp := (bt_p10 j (by omega)).2.1
            have hgo := bt_gz_m (t := bt_ch w i' k) (v := v) (p := 10 ^ j) (b := bt_bd w k v j) (bt_ch_le hw i' k) (by rw [hX]; omega) (by omega) hp hb
            rw [hX] at hgo
            have hwait : (10 : Int64) * lN (bt_bd w k v j) = lN (10 * bt_bd w k v j) := lN_mul 10 _
            have hgo2 := hgo
            rw [← ej] at hgo2
            obtain ⟨s1, s2, s3, s4⟩ := bt_bd_step hw (k := k) (v := v) (j := j) (by omega) hgo2
            rw [← hwait] at s1 s2 s3 s4
            rw [ej] at s1 s2 s3 s4
            have ii : i + (-1) = nI (w 12 0 - (j + 1)) - 1 := by
              rw [bt_m1, ei, show w 12 0 - (j + 1) = i' by omega]
            have sc : lN (10 ^ j) * (10 : Int64) = lN (10 ^ (j + 1)) := by
              rw [show (10 : Int64) = lN 10 from rfl, lN_mul, Nat.pow_succ]
            refine ⟨_, rfl, 7 * i', by rw [ei]; simp only [bt_lit, pk_mul], by omega, ?_⟩
            refine ⟨w, i', k, rfl, a1, ei, by omega, rfl, c, ?_⟩
            refine ⟨fun z2 => ⟨fun z3 => ?_, fun z3 => ?_⟩, fun z2 => ⟨fun z3 => ?_, fun z3 => ?_⟩⟩
            · rw [bt_cmp_le, ← Int64.not_lt] at z2
              have w1 : bt_wh w k v (j + 1) = bt_wh w k v j := by
                rw [bt_wh, ej, if_neg (fun q => z2 (s1.mpr q))]
              exact ⟨w 12 0 - w 12 4 - (j + 1), by omega, rfl, rfl, rfl, hN, j + 1, _, _, _, _, _, _, _, by omega, rfl, ii, hX, by rw [s4 z2, w1, sc]⟩
            · exact absurd z2 z3
            · exact absurd z3 z2
            · rw [bt_cmp_le, ← Int64.not_lt, Classical.not_not] at z2
              have w1 : bt_wh w k v (j + 1) = i := by
                rw [bt_wh, ej, if_pos (s1.mp z2), ei]
              exact ⟨w 12 0 - w 12 4 - (j + 1), by omega, rfl, rfl, rfl, hN, j + 1, _, _, _, _, _, _, _, by omega, rfl, ii, hX, by rw [← s3 z2, w1, sc]⟩
        refine ⟨fun _ => ?_, fun z => absurd z hn4⟩
        refine ⟨0, w 12 2, rfl, rfl, by omega, by simpa using g3, ?_⟩
        refine ⟨_, rfl, 58 + 5 * k + 2, by simp only [bt_lit, pk_mul, nI_add], by omega, ?_⟩
        exact loop _ _ _ _ _ _ ⟨rfl, rfl, rfl, rfl, 0, 0, _, none, none, none, none, none, by omega, rfl, by rw [g1]; rfl, rfl, rfl⟩
      · rw [if_neg c] at h ⊢
        refine ⟨fun z => absurd rfl z, fun _ => ?_⟩
        exact h M (fun _ _ => rfl) hI
  · cases hf
