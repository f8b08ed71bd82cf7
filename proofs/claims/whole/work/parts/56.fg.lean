/-! WHO HAD BEEN BEHIND WHOM: the model's calls -/
def bt_CX6_fits : bt_C := [(46, 0, 3, sX6_in), (214, 1, 1, sX6_leftMany), (258, 1, 2, sX6_isAsSeen)]
def sX6_fits : bt_Sp := bt_spM f_fits
set_option maxRecDepth 100000 in
theorem mX6_fits : bt_MT bt_TX6_fits bt_FX6 bt_CX6_fits 1 8 sX6_fits := by
  intro as M N Rt h P hP
  obtain ⟨t, S, r, S', rfl, hI, hf, h⟩ := bt_spM_e h
  obtain ⟨w, im, u, z, q⟩ := S
  unfold f_fits at hf
  split at hf
  · next x _ _ _ _ _ e =>
    cases e
    obtain ⟨rfl, rfl⟩ := bt_some hf
    obtain ⟨a1, a2, a3, a4, a5, a6, a7, a8, a9, a10, a11, a12, a13, a14, a15⟩ := id hI
    obtain ⟨b0, b1, b2, b3, b4, b5, b6, b7, b8, b9, b10⟩ := id a2
    obtain ⟨hw, g1, g2, g3, g4, g5, g6, r0, r1, r2, r3, r4, r5, r6, c7, c8, c9, c10, c11⟩ := id a1
    have f1 := hw.1
    have f2 := hw.2.1
    have f3 := hw.2.2.1
    simp only [Nat.zero_add] at g5
    refine bt_go rfl hP 80 [39] P (fun _ _ _ _ _ h => h) ?_
    refine ⟨fun y => ?_, fun y => ?_⟩
    · rw [bt_bi_n0, bt_inl_c (k := 3) (show (3 : Int64) = lN 3 from rfl) (by omega)] at y
      rw [if_pos y] at h
      have hFF : bu_FF w (z 1) (z 2) (u 5) = bu_sc (w 12 4) (bu_fu w (z 1) (z 2) (u 5) (2 ^ (w 12 0 - w 12 4))) := bu_fu_fo hw _ _ _ _
      rw [hFF] at h
      have hB := bu_fu_b hw (z 1) (z 2) (u 5)
      have hsub : w 12 0 - w 12 4 ≤ 8 := by omega
      have e2 : 2 ^ w 12 0 - 2 ^ w 12 4 = (2 ^ (w 12 0 - w 12 4) - 1) * 2 ^ w 12 4 := by
        rw [Nat.sub_mul, ← Nat.pow_add, Nat.one_mul, show w 12 0 - w 12 4 + w 12 4 = w 12 0 by omega]
      have e3 : 2 ^ (w 12 0 - w 12 4) * 2 ^ w 12 4 = 2 ^ w 12 0 := by
        rw [← Nat.pow_add, show w 12 0 - w 12 4 + w 12 4 = w 12 0 by omega]
      have h256 := bu_2p hsub
      have h256b := bu_2p f1
      have hpos := Nat.two_pow_pos (w 12 0 - w 12 4)
      generalize hlf : w 12 0 - w 12 4 = lf at *
      have loop : ∀ v pc L st M' N', (pc = 39 ∧ st = [] ∧ N' = N ∧ bt_tm M M' ∧ ∃ s, s ≤ 2 ^ lf ∧ v = 2 ^ lf - s ∧ L = [some (.ref 67), some (.int x), some (.int (nI (bu_fu w (z 1) (z 2) (u 5) s).1)), some (.int (if (bu_fu w (z 1) (z 2) (u 5) s).1 = 0 then -4 else nI (bu_fu w (z 1) (z 2) (u 5) s).2.1)), some (.int (nI (2 ^ lf - 1))), some (.int (nI (bu_fu w (z 1) (z 2) (u 5) s).2.2.1)), some (.int (nI (bu_fu w (z 1) (z 2) (u 5) s).2.2.2.1)), some (.int (nI s))]) → P pc L st M' N' := by
        refine bt_loop rfl hP 80 [39] (fun v pc L st M' N' => (pc = 39 ∧ st = [] ∧ N' = N ∧ bt_tm M M' ∧ ∃ s, s ≤ 2 ^ lf ∧ v = 2 ^ lf - s ∧ L = [some (.ref 67), some (.int x), some (.int (nI (bu_fu w (z 1) (z 2) (u 5) s).1)), some (.int (if (bu_fu w (z 1) (z 2) (u 5) s).1 = 0 then -4 else nI (bu_fu w (z 1) (z 2) (u 5) s).2.1)), some (.int (nI (2 ^ lf - 1))), some (.int (nI (bu_fu w (z 1) (z 2) (u 5) s).2.2.1)), some (.int (nI (bu_fu w (z 1) (z 2) (u 5) s).2.2.2.1)), some (.int (nI s))])) ?_
        rintro v pc L st M' N' ⟨rfl, rfl, hN, t1, s, hs, rfl, rfl⟩
        subst hN
        obtain ⟨i1, i2, i3, i4, i5⟩ := hB s hs
        refine ⟨fun y1 => ?_, fun y1 => ?_⟩
        · rw [nI_ltI (by omega) (by omega)] at y1
          have e : s = 2 ^ lf := by omega
          have key0 := h M' (bt_tm_fx t1) (bt_tm_I hI t1)
          rw [← e] at key0
          have e88 : M' 68 88 = nI (w 12 4) := by rw [t1.2 88 (by omega)]; exact g5
          generalize bu_fu w (z 1) (z 2) (u 5) s = F at *
          obtain ⟨c, m, a, n, g⟩ := F
          dsimp only at i1 i2 i3 i4 i5 ⊢
          have key : Rt (some (.int (if x = 0 then nI c else if c = 0 then -4 else if x = 1 then nI (m * 2 ^ w 12 4) else if x = 2 then nI (a * 2 ^ w 12 4) else nI (2 ^ w 12 0 - 2 ^ w 12 4 - n * 2 ^ w 12 4)))) M' N' := key0
          have hsm : ∀ y, y < 2 ^ lf → nI y <<< (M' 68 88 &&& 31) = nI (y * 2 ^ w 12 4) := fun y hy => by
            rw [e88, bt_shlN (by omega)]
            have : y * 2 ^ w 12 4 < 2 ^ lf * 2 ^ w 12 4 := Nat.mul_lt_mul_of_pos_right hy (Nat.two_pow_pos _)
            omega
          refine ⟨fun y2 => ⟨fun y3 => absurd y2 y3, fun y3 => ?_⟩, fun y2 => ⟨fun y3 => ?_, fun y3 => ⟨fun y4 => ?_, fun y4 => absurd y4 y2⟩⟩⟩
          · rw [if_pos y2] at key
            exact key
          · rw [bt_n0 (by omega)] at y3
            rw [if_neg y2, if_neg y3] at key
            rw [if_neg y3]
            refine ⟨fun y4 => ⟨fun y5 => ?_, fun y5 => ?_⟩, fun y4 => ?_⟩
            · rw [if_neg y4, if_neg y5, e2, ← Nat.sub_mul, ← hsm _ (by omega), ← bt_notN lf (by omega) n i4] at key
              exact ⟨_, rfl, 88, rfl, by omega, key⟩
            · rw [if_neg y4, if_pos y5, ← hsm _ i3] at key
              exact ⟨_, rfl, 88, rfl, by omega, key⟩
            · have := i2 y3
              rw [if_pos y4, ← hsm _ (by omega)] at key
              exact ⟨_, rfl, 88, rfl, by omega, key⟩
          · rw [bt_n0 (by omega)] at y3
            rw [if_neg y2, if_pos y3] at key
            exact key
        · rw [nI_ltI (by omega) (by omega)] at y1
          have e21 : M' 67 21 = nI (u 5) := by rw [t1.1 67 (by omega)]; exact a12
          refine ⟨w, s, u 5, z 1, z 2, rfl, bt_tm_live t1 a1, rfl, by omega, e21, b6, fun j hj => ?_, fun M2 q1 q2 => ?_⟩
          · rw [t1.1 74 (by omega)]
            exact ⟨(a13 j hj).1, (a13 j hj).2, (b8 j hj).1, (b8 j hj).2⟩
          · have t2 := bt_tm_fr t1 (by omega) q1
            have hu : bu_fu w (z 1) (z 2) (u 5) (s + 1) = bu_ad (bu_ft (bu_we w s 10) (z 1) (z 2) (u 5)) s (bt_mk (bu_we w s 11) (w 12 1)) (bu_fu w (z 1) (z 2) (u 5) s) := rfl
            generalize bu_fu w (z 1) (z 2) (u 5) s = F at *
            by_cases hft : bu_ft (bu_we w s 10) (z 1) (z 2) (u 5) = true
            · rw [hft] at hu ⊢
              unfold bu_ad at hu
              rw [if_pos rfl] at hu ⊢
              refine ⟨fun y3 => absurd y3 (by decide), fun _ => ⟨fun y3 => ?_, fun y3 => ?_⟩⟩
              · rw [bt_n0 (by omega)] at y3
                refine ⟨2 ^ lf - (s + 1), by omega, rfl, rfl, rfl, t2, s + 1, by omega, rfl, ?_⟩
                have := i2 y3
                rw [hu]
                dsimp only
                rw [if_neg y3, if_neg (show ¬ F.1 + 1 = 0 by omega), if_neg y3, Nat.min_eq_left (by omega), nI_1, nI_1, bt_and (by omega) (by omega), bt_or (by omega) (by omega)]
              · rw [bt_n0 (by omega)] at y3
                refine ⟨2 ^ lf - (s + 1), by omega, rfl, rfl, rfl, t2, s + 1, by omega, rfl, ?_⟩
                rw [hu]
                dsimp only
                rw [if_neg (show ¬ F.1 + 1 = 0 by omega), if_pos y3, nI_1, nI_1, bt_and (by omega) (by omega), bt_or (by omega) (by omega)]
            · rw [if_neg hft]
              unfold bu_ad at hu
              rw [if_neg hft] at hu
              refine ⟨fun _ => ?_, fun y3 => absurd rfl y3⟩
              exact ⟨2 ^ lf - (s + 1), by omega, rfl, rfl, rfl, t2, s + 1, by omega, rfl, by rw [hu, nI_1]⟩
      refine ⟨w, rfl, a1, ?_⟩
      rw [hlf]
      exact loop _ _ _ _ _ _ ⟨rfl, rfl, rfl, bt_tm_rf, 0, Nat.zero_le _, rfl, by
        rw [bt_ev lf (by omega)]
        show _ = ([some (.ref 67), some (.int x), some (.int (nI 0)), some (.int (-4)), some (.int (nI (2 ^ lf - 1))), some (.int (nI (2 ^ (w 12 0 - w 12 4) - 1))), some (.int (nI 0)), some (.int (nI 0))] : bt_L)
        rw [hlf]
        rfl⟩
    · rw [bt_bi_0, bt_inl_c (k := 3) (show (3 : Int64) = lN 3 from rfl) (by omega)] at y
      rw [if_neg y] at h
      exact h M (fun _ _ => rfl) hI
  · cases hf
def bt_CX6_could : bt_C := [(214, 1, 1, sX6_leftMany), (258, 1, 2, sX6_isAsSeen), (146, 1, 2, sX6_pastOn)]
def sX6_could : bt_Sp := bt_spM f_could
set_option maxRecDepth 100000 in
theorem mX6_could : bt_MT bt_TX6_could bt_FX6 bt_CX6_could 1 3 sX6_could := by
  intro as M N Rt h P hP
  obtain ⟨t, S, r, S', rfl, hI, hf, h⟩ := bt_spM_e h
  obtain ⟨w, im, u, z, q⟩ := S
  unfold f_could at hf
  split at hf
  · next _ _ _ _ _ e =>
    cases e
    obtain ⟨rfl, rfl⟩ := bt_some hf
    obtain ⟨a1, a2, a3, a4, a5, a6, a7, a8, a9, a10, a11, a12, a13, a14, a15⟩ := id hI
    obtain ⟨b0, b1, b2, b3, b4, b5, b6, b7, b8, b9, b10⟩ := id a2
    obtain ⟨hw, g1, g2, g3, g4, g5, g6, r0, r1, r2, r3, r4, r5, r6, c7, c8, c9, c10, c11⟩ := id a1
    have f1 := hw.1
    have f2 := hw.2.1
    have f3 := hw.2.2.1
    have hFF : bu_FF w (z 1) (z 2) (u 5) = bu_sc (w 12 4) (bu_fu w (z 1) (z 2) (u 5) (2 ^ (w 12 0 - w 12 4))) := bu_fu_fo hw _ _ _ _
    rw [hFF] at h
    have hB := bu_fu_b hw (z 1) (z 2) (u 5)
    have hsub : w 12 0 - w 12 4 ≤ 8 := by omega
    have h256 := bu_2p hsub
    have h64 := bu_2p (a := w 12 1) (by omega)
    have hpl := fun s => bt_mk_lt (bt_wf11 (bu_we_wf hw s)) (w 12 1)
    have hwe1 : ∀ s, bu_we w s 12 1 = w 12 1 := fun s => (bt_dn_12 w (bu_gf w s) (w 12 0 - w 12 4)).2.1 1 (by omega) (by omega)
    generalize hlf : w 12 0 - w 12 4 = lf at *
    have loop : ∀ v pc L st M' N', (pc = 4 ∧ st = [] ∧ N' = N ∧ bt_tm M M' ∧ ∃ s, s ≤ 2 ^ lf ∧ v = 2 ^ lf - s ∧ L = [some (.ref 67), some (.int (nI (bu_fu w (z 1) (z 2) (u 5) s).2.2.2.2)), some (.int (nI s))]) → P pc L st M' N' := by
      refine bt_loop rfl hP 80 [4] (fun v pc L st M' N' => (pc = 4 ∧ st = [] ∧ N' = N ∧ bt_tm M M' ∧ ∃ s, s ≤ 2 ^ lf ∧ v = 2 ^ lf - s ∧ L = [some (.ref 67), some (.int (nI (bu_fu w (z 1) (z 2) (u 5) s).2.2.2.2)), some (.int (nI s))])) ?_
      rintro v pc L st M' N' ⟨rfl, rfl, hN, t1, s, hs, rfl, rfl⟩
      subst hN
      obtain ⟨i1, i2, i3, i4, i5⟩ := hB s hs
      refine ⟨w, rfl, bt_tm_live t1 a1, ?_⟩
      rw [hlf]
      refine ⟨fun y1 => ?_, fun y1 => ?_⟩
      · rw [bu_sl1 lf (by omega), nI_leI (by omega) (by omega)] at y1
        have e : s = 2 ^ lf := by omega
        have key := h M' (bt_tm_fx t1) (bt_tm_I hI t1)
        rw [← e] at key
        exact key
      · rw [bu_sl1 lf (by omega), nI_leI (by omega) (by omega)] at y1
        have e21 : M' 67 21 = nI (u 5) := by rw [t1.1 67 (by omega)]; exact a12
        refine ⟨w, s, u 5, z 1, z 2, rfl, bt_tm_live t1 a1, rfl, by omega, e21, b6, fun j hj => ?_, fun M2 q1 q2 => ?_⟩
        · rw [t1.1 74 (by omega)]
          exact ⟨(a13 j hj).1, (a13 j hj).2, (b8 j hj).1, (b8 j hj).2⟩
        · have t2 := bt_tm_fr t1 (by omega) q1
          have hu : bu_fu w (z 1) (z 2) (u 5) (s + 1) = bu_ad (bu_ft (bu_we w s 10) (z 1) (z 2) (u 5)) s (bt_mk (bu_we w s 11) (w 12 1)) (bu_fu w (z 1) (z 2) (u 5) s) := rfl
          generalize bu_fu w (z 1) (z 2) (u 5) s = F at *
          have k2 := q2.2.2.1
          have k11 := q2.2.2.2.2.2.2.2.2.2.2.2.2.2.2.2.2.2.2
          rw [hwe1] at k2 k11
          have hp := hpl s
          by_cases hft : bu_ft (bu_we w s 10) (z 1) (z 2) (u 5) = true
          · rw [hft] at hu ⊢
            unfold bu_ad at hu
            rw [if_pos rfl] at hu ⊢
            refine ⟨fun y3 => absurd y3 (by decide), fun _ => ?_⟩
            refine ⟨360, w 12 1, bu_we w s 11, rfl, rfl, by omega, k2, f2, bt_wf11 q2.1, k11, ?_⟩
            refine ⟨2 ^ lf - (s + 1), by omega, rfl, rfl, rfl, t2, s + 1, by omega, rfl, ?_⟩
            rw [hu]
            dsimp only
            rw [nI_1, bt_or (by omega) (by omega)]
          · rw [if_neg hft]
            unfold bu_ad at hu
            rw [if_neg hft] at hu
            refine ⟨fun _ => ?_, fun y3 => absurd rfl y3⟩
            exact ⟨2 ^ lf - (s + 1), by omega, rfl, rfl, rfl, t2, s + 1, by omega, rfl, by rw [hu, nI_1, bt_or0]⟩
    refine bt_go rfl hP 60 [4] P (fun _ _ _ _ _ h => h) ?_
    exact loop _ _ _ _ _ _ ⟨rfl, rfl, rfl, bt_tm_rf, 0, Nat.zero_le _, rfl, rfl⟩
  · cases hf
