/-! WHO HAD BEEN BEHIND WHOM: the model's trials -/
def bu_wr (w : bt_W) (s k : Nat) : Nat → Int32
  | 0 => -4
  | j + 1 => if k < w 12 1 ∧ bt_cm w (w 12 4 + j) (bu_gf w s (w 12 4 + j)) (bt_dn w (bu_gf w s) j 11) k = 1 then nI (w 12 4 + j) else bu_wr w s k j
theorem bu_gf_9 {w : bt_W} (hw : bt_wf w) (s i : Nat) : bu_gf w s i ≤ 9 := by
  unfold bu_gf
  have h1 := Nat.mod_lt (s / 2 ^ (i - w 12 4)) (show 0 < 2 by omega)
  calc s / 2 ^ (i - w 12 4) % 2 * w 2 i ≤ 1 * 9 := Nat.mul_le_mul (by omega) (hw.2.2.2.2.2.2.2.2.1 i)
    _ = 9 := rfl
def bt_CX6_triesBy : bt_C := [(199, 1, 3, sX6_copies), (187, 1, 2, sX6_areLeft), (196, 1, 2, sX6_ownGap), (190, 1, 3, sX6_driveOn)]
def sX6_triesBy : bt_Sp := fun as M N K => match as with
  | [.ref c, .int s, .int k] => ∃ w s' k', c = 67 ∧ bt_mW M 0 w ∧ s = nI s' ∧ s' < 256 ∧ k = nI k' ∧ k' < 6 ∧ ∀ M', bt_mfr 360 M M' → bt_mW M' 360 (bu_we w s') → K (some (.int (bu_wr w s' k' (w 12 0 - w 12 4)))) M' N
  | _ => False
set_option maxRecDepth 100000 in
theorem mX6_triesBy : bt_MT bt_TX6_triesBy bt_FX6 bt_CX6_triesBy 1 7 sX6_triesBy := by
  intro as M N Rt h P hP
  unfold sX6_triesBy at h
  split at h
  · obtain ⟨w, s, k, rfl, a1, rfl, hs, rfl, hk, h⟩ := h
    obtain ⟨hw, g1, g2, g3, g4, g5, g6, r0, r1, r2, r3, r4, r5, r6, c7, c8, c9, c10, c11⟩ := id a1
    obtain ⟨f1, f2, f3, f4, f5, f6, f7, f8, f9, f10, f11, f12, f13, f14, f15, f16, f17, f18⟩ := id hw
    simp only [Nat.zero_add] at g5
    have loop : ∀ v pc L st M' N', (pc = 11 ∧ st = [] ∧ N' = N ∧ ∃ j y4 y5 y6, j ≤ w 12 0 - w 12 4 ∧ v = w 12 0 - w 12 4 - j ∧ L = [some (.ref 67), some (.int (nI s)), some (.int (nI k)), some (.int (bu_wr w s k j)), y4, y5, y6] ∧ bt_mfr 360 M M' ∧ bt_mW M' 360 (bt_dn w (bu_gf w s) j)) → P pc L st M' N' := by
      refine bt_loop rfl hP 80 [11] (fun v pc L st M' N' => (pc = 11 ∧ st = [] ∧ N' = N ∧ ∃ j y4 y5 y6, j ≤ w 12 0 - w 12 4 ∧ v = w 12 0 - w 12 4 - j ∧ L = [some (.ref 67), some (.int (nI s)), some (.int (nI k)), some (.int (bu_wr w s k j)), y4, y5, y6] ∧ bt_mfr 360 M M' ∧ bt_mW M' 360 (bt_dn w (bu_gf w s) j))) ?_
      rintro v pc L st M' N' ⟨rfl, rfl, hN, j, y4, y5, y6, hj, rfl, rfl, t1, p1⟩
      subst hN
      obtain ⟨d1, d2, d3⟩ := bt_dn_12 w (bu_gf w s) j
      obtain ⟨e0, e1, e2, e3, e4, e5, e6, s0, s1, s2, s3, s4, s5, s6, s7, s8, s9, s10, s11⟩ := id p1
      rw [d2 0 (by omega) (by omega)] at e1
      rw [d1] at e5
      rw [d2 0 (by omega) (by omega), d3 2 (by omega)] at s2
      have e88 : M' 68 88 = nI (w 12 4) := by rw [t1.2 88 (by omega)]; exact g5
      refine ⟨360, w 12 4 + j, w 12 0, rfl, rfl, by omega, e5, by omega, e1, f1, ?_⟩
      by_cases hl : w 12 4 + j < w 12 0
      · rw [if_pos hl]
        refine ⟨fun z => absurd z (by decide), fun _ => ?_⟩
        refine ⟨_, rfl, 360 + 88, rfl, by omega, ?_⟩
        refine ⟨_, rfl, 88, rfl, by omega, ?_⟩
        have hsub : M' 68 (360 + 88) - M' 68 88 = nI j := by
          rw [e5, e88, pk_sub (by omega), Nat.add_sub_cancel_left]
        have hbit : nI s >>> ((M' 68 (360 + 88) - M' 68 88) &&& 31) &&& 1 = nI (s / 2 ^ j % 2) := by
          rw [hsub, bu_rbit (by omega) (by omega)]
        have hm2 := Nat.mod_lt (s / 2 ^ j) (show 0 < 2 by omega)
        have hlt : (bt_dn w (bu_gf w s) j) 12 4 < (bt_dn w (bu_gf w s) j) 12 0 := by
          rw [d1, d2 0 (by omega) (by omega)]
          exact hl
        have eb := bt_bitN (bt_cm_b1 (bt_dn w (bu_gf w s) j) (bt_dn w (bu_gf w s) j 12 4) (bu_gf w s (w 12 4 + j)) (bt_dn w (bu_gf w s) j 11)) (n := bt_dn w (bu_gf w s) j 12 1) (k := k) (by rw [d2 1 (by omega) (by omega)]; omega) (by omega)
        have ec : nI (if k < bt_dn w (bu_gf w s) j 12 1 then bt_cm (bt_dn w (bu_gf w s) j) (bt_dn w (bu_gf w s) j 12 4) (bu_gf w s (w 12 4 + j)) (bt_dn w (bu_gf w s) j 11) k else 0) = 1 ↔ (k < w 12 1 ∧ bt_cm w (w 12 4 + j) (bu_gf w s (w 12 4 + j)) (bt_dn w (bu_gf w s) j 11) k = 1) := by
          rw [d2 1 (by omega) (by omega), d1, bu_cm_c d3 d2]
          have b1 := bt_cm_b1 w (w 12 4 + j) (bu_gf w s (w 12 4 + j)) (bt_dn w (bu_gf w s) j 11) k
          by_cases c : k < w 12 1
          · rw [if_pos c, bt_n1 (by omega)]
            exact ⟨fun z => ⟨c, z⟩, fun z => z.2⟩
          · rw [if_neg c]
            exact ⟨fun z => absurd z (by decide), fun z => absurd z.1 c⟩
        refine ⟨fun z1 => ?_, fun z1 => ?_⟩
        · rw [hbit, bt_n1 (by omega)] at z1
          have hg : (0 : Int32) = nI (bu_gf w s (w 12 4 + j)) := by
            rw [bu_gf_s, show s / 2 ^ j % 2 = 0 by omega, Nat.zero_mul]
            rfl
          refine ⟨fun _ => ?_, fun z => absurd rfl z⟩
          refine ⟨360, bu_gf w s (w 12 4 + j), _, rfl, rfl, by omega, hg, bu_gf_9 hw _ _, p1, hlt, fun M2 q1 q2 => ?_⟩
          refine ⟨fun z2 => ?_, fun z2 => ?_⟩
          · rw [eb, ec] at z2
            have ea : bu_wr w s k (j + 1) = bu_wr w s k j := by rw [bu_wr, if_neg z2]
            exact ⟨w 12 0 - w 12 4 - (j + 1), by omega, rfl, rfl, rfl, j + 1, _, _, _, by omega, rfl, by rw [ea], bt_mfr_tr t1 q2, q1⟩
          · rw [eb, ec] at z2
            have ea : bu_wr w s k (j + 1) = nI (w 12 4 + j) := by rw [bu_wr, if_pos z2]
            exact ⟨w 12 0 - w 12 4 - (j + 1), by omega, rfl, rfl, rfl, j + 1, _, _, _, by omega, rfl, by rw [ea, ← e5], bt_mfr_tr t1 q2, q1⟩
        · rw [hbit, bt_n1 (by omega)] at z1
          have hg : nI (w 2 (w 12 4 + j)) = nI (bu_gf w s (w 12 4 + j)) := by
            rw [bu_gf_s, z1, Nat.one_mul]
          refine ⟨fun z => absurd z (by decide), fun _ => ?_⟩
          refine ⟨360, w 12 4 + j, w 2 (w 12 4 + j), rfl, rfl, by omega, e5, by omega, s2 _ hl, ?_⟩
          refine ⟨360, bu_gf w s (w 12 4 + j), _, rfl, rfl, by omega, hg, bu_gf_9 hw _ _, p1, hlt, fun M2 q1 q2 => ?_⟩
          refine ⟨fun z2 => ?_, fun z2 => ?_⟩
          · rw [eb, ec] at z2
            have ea : bu_wr w s k (j + 1) = bu_wr w s k j := by rw [bu_wr, if_neg z2]
            exact ⟨w 12 0 - w 12 4 - (j + 1), by omega, rfl, rfl, rfl, j + 1, _, _, _, by omega, rfl, by rw [ea], bt_mfr_tr t1 q2, q1⟩
          · rw [eb, ec] at z2
            have ea : bu_wr w s k (j + 1) = nI (w 12 4 + j) := by rw [bu_wr, if_pos z2]
            exact ⟨w 12 0 - w 12 4 - (j + 1), by omega, rfl, rfl, rfl, j + 1, _, _, _, by omega, rfl, by rw [ea, ← e5], bt_mfr_tr t1 q2, q1⟩
      · rw [if_neg hl]
        have e : j = w 12 0 - w 12 4 := by omega
        rw [e] at p1 ⊢
        refine ⟨fun _ => h M' t1 p1, fun z => absurd rfl z⟩
    refine bt_go rfl hP 60 [11] P (fun _ _ _ _ _ h => h) ?_
    refine ⟨0, 360, rfl, rfl, by omega, rfl, by omega, by omega, fun M3 p2 p3 => ?_⟩
    exact loop _ _ _ _ _ _ ⟨rfl, rfl, rfl, 0, none, none, none, by omega, rfl, rfl, p2, bt_mW_copy a1 p2.1 p3⟩
  · exact False.elim h
def bt_CX6_isAsSeen : bt_C := [(217, 1, 3, sX6_triesBy)]
def sX6_isAsSeen : bt_Sp := fun as M N K => match as with
  | [.ref c, .int s] => ∃ (w : bt_W) (s' n : Nat) (z1 z2 : Nat → Nat), c = 67 ∧ bt_mW M 0 w ∧ s = nI s' ∧ s' < 256 ∧ M 67 21 = nI n ∧ n ≤ 6 ∧ (∀ j, j < n → M 74 (2 * j) = nI (z1 j) ∧ M 74 (2 * j + 1) = nI (z2 j) ∧ z1 j < w 12 1 ∧ z2 j ≤ 999) ∧ ∀ M', bt_mfr 360 M M' → bt_mW M' 360 (bu_we w s') → K (some (.int (if bu_ft (bu_we w s' 10) z1 z2 n = true then 1 else 0))) M' N
  | _ => False
set_option maxRecDepth 100000 in
theorem mX6_isAsSeen : bt_MT bt_TX6_isAsSeen bt_FX6 bt_CX6_isAsSeen 2 4 sX6_isAsSeen := by
  intro as M N Rt h P hP
  unfold sX6_isAsSeen at h
  split at h
  · obtain ⟨w, s, n, z1, z2, rfl, a1, rfl, hs, h5, hn, hz, h⟩ := h
    have hw := a1.1
    have f2 := hw.2.1
    have hT : ∀ k, bu_we w s 10 k < 2 ^ 31 := fun k => by
      have q := bu_we_wf hw s
      have q1 := q.2.2.2.2.2.2.2.2.2.2.2.2.2.2.2.2.1 k
      have q2 := q.2.2.1
      have q3 := q.1
      omega
    have loop : ∀ v pc L st M' N', (pc = 11 ∧ st = [] ∧ N' = N ∧ bt_mfr 360 M M' ∧ bt_mW M' 360 (bu_we w s) ∧ ∃ j, j ≤ n ∧ v = n - j ∧ L = [some (.ref 67), some (.int (nI s)), some (.int (if bu_ft (bu_we w s 10) z1 z2 j = true then 1 else 0)), some (.int (nI j))]) → P pc L st M' N' := by
      refine bt_loop rfl hP 80 [11] (fun v pc L st M' N' => (pc = 11 ∧ st = [] ∧ N' = N ∧ bt_mfr 360 M M' ∧ bt_mW M' 360 (bu_we w s) ∧ ∃ j, j ≤ n ∧ v = n - j ∧ L = [some (.ref 67), some (.int (nI s)), some (.int (if bu_ft (bu_we w s 10) z1 z2 j = true then 1 else 0)), some (.int (nI j))])) ?_
      rintro v pc L st M' N' ⟨rfl, rfl, hN, t1, p1, j, hj, rfl, rfl⟩
      subst hN
      have e21 : M' 67 21 = nI n := by rw [t1.1 67 (by omega)]; exact h5
      refine ⟨fun y1 => ?_, fun y1 => ?_⟩
      · rw [e21, nI_leI (by omega) (by omega)] at y1
        have e : j = n := by omega
        have key := h M' t1 p1
        rw [e]
        refine ⟨?_, key⟩
        split
        · exact Or.inr rfl
        · exact Or.inl rfl
      · rw [e21, nI_leI (by omega) (by omega)] at y1
        obtain ⟨c1, c2, c3, c4⟩ := hz j (by omega)
        rw [← t1.1 74 (by omega)] at c1 c2
        have c5 : M' 68 (360 + 58 + 5 * z1 j + 3) = nI (bu_we w s 10 (z1 j)) := bt_mW_time p1 (by
          have := (bt_dn_12 w (bu_gf w s) (w 12 0 - w 12 4)).2.1 1 (by omega) (by omega)
          unfold bu_we
          rw [this]
          exact c3)
        by_cases hf : bu_ft (bu_we w s 10) z1 z2 j = true
        · rw [if_pos hf]
          refine ⟨fun z => absurd z (by decide), fun _ => ?_⟩
          refine ⟨_, rfl, 2 * j, by simp only [bt_lit, pk_mul], by omega, ?_⟩
          refine ⟨_, rfl, 360 + 58 + 5 * z1 j + 3, by rw [c1]; simp only [bt_lit, pk_mul, nI_add], by omega, ?_⟩
          refine ⟨_, rfl, 2 * j + 1, by simp only [bt_lit, pk_mul, nI_add], by omega, ?_⟩
          have c6 := hT (z1 j)
          refine ⟨fun y2 => ?_, fun y2 => ?_⟩
          · rw [c5, c2, nI_eq (by omega) (by omega)] at y2
            have g1 : ¬ bu_ft (bu_we w s 10) z1 z2 (j + 1) = true := by
              rw [bu_ft, hf]
              simp [y2]
            exact ⟨n - (j + 1), by omega, rfl, rfl, rfl, t1, p1, j + 1, by omega, rfl, by rw [if_neg g1, nI_1]⟩
          · rw [c5, c2, nI_eq (by omega) (by omega)] at y2
            have g1 : bu_ft (bu_we w s 10) z1 z2 (j + 1) = true := by
              rw [bu_ft, hf]
              simp [y2]
            exact ⟨n - (j + 1), by omega, rfl, rfl, rfl, t1, p1, j + 1, by omega, rfl, by rw [if_pos g1, nI_1]⟩
        · rw [if_neg hf]
          refine ⟨fun _ => ?_, fun z => absurd rfl z⟩
          have g1 : ¬ bu_ft (bu_we w s 10) z1 z2 (j + 1) = true := by
            rw [bu_ft]
            simp [hf]
          exact ⟨n - (j + 1), by omega, rfl, rfl, rfl, t1, p1, j + 1, by omega, rfl, by rw [if_neg g1, nI_1]⟩
    refine bt_go rfl hP 60 [11] P (fun _ _ _ _ _ h => h) ?_
    refine ⟨w, s, 0, rfl, a1, rfl, hs, rfl, by omega, fun M1 q1 q2 => ?_⟩
    exact loop _ _ _ _ _ _ ⟨rfl, rfl, rfl, q1, q2, 0, by omega, rfl, rfl⟩
  · exact False.elim h
