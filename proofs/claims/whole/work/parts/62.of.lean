/-! BY ODDS: the model's sums -/
def bt_CX6_weightOf : bt_C := [(214, 1, 1, sX6_leftMany)]
def sX6_weightOf : bt_Sp := fun as M N K => match as with
  | [.ref c, .int s] => ∃ w s', c = 67 ∧ bt_mW M 0 w ∧ s = nI s' ∧ s' < 256 ∧ K (some (.long (lN (bu_wt w s' (w 12 0 - w 12 4))))) M N
  | _ => False
set_option maxRecDepth 100000 in
theorem mX6_weightOf : bt_MT bt_TX6_weightOf bt_FX6 bt_CX6_weightOf 3 6 sX6_weightOf := by
  intro as M N Rt h P hP
  unfold sX6_weightOf at h
  split at h
  · obtain ⟨w, s, rfl, a1, rfl, hs, h⟩ := h
    obtain ⟨hw, g1, g2, g3, g4, g5, g6, r0, r1, r2, r3, r4, r5, r6, c7, c8, c9, c10, c11⟩ := id a1
    obtain ⟨f1, f2, f3, f4, f5, f6, f7, f8, f9, f10, f11, f12, f13, f14, f15, f16, f17, f18⟩ := id hw
    simp only [Nat.zero_add] at g5 r3
    have loop : ∀ v pc L st M' N', (pc = 5 ∧ st = [] ∧ M' = M ∧ N' = N ∧ ∃ t y5, t ≤ w 12 0 - w 12 4 ∧ v = w 12 0 - w 12 4 - t ∧ L = [some (.ref 67), some (.int (nI s)), some (.long (lN (bu_wt w s t))), none, some (.int (nI t)), y5]) → P pc L st M' N' := by
      refine bt_loop rfl hP 80 [5] (fun v pc L st M' N' => (pc = 5 ∧ st = [] ∧ M' = M ∧ N' = N ∧ ∃ t y5, t ≤ w 12 0 - w 12 4 ∧ v = w 12 0 - w 12 4 - t ∧ L = [some (.ref 67), some (.int (nI s)), some (.long (lN (bu_wt w s t))), none, some (.int (nI t)), y5])) ?_
      rintro v pc L st M' N' ⟨rfl, rfl, hM, hN, t, y5, ht, rfl, rfl⟩
      subst hM
      subst hN
      refine ⟨w, rfl, a1, ⟨fun y1 => ?_, fun y1 => ?_⟩⟩
      · rw [nI_leI (by omega) (by omega)] at y1
        have e : t = w 12 0 - w 12 4 := by omega
        rw [e]
        exact h
      · rw [nI_leI (by omega) (by omega)] at y1
        have o10 := f10 (w 12 4 + t)
        have eo : M' 68 (7 * (w 12 4 + t) + 3) + 10 = nI (w 3 (w 12 4 + t)) := by
          rw [r3 _ (by omega), bt_m10]
        have en : (10 : Int32) - (M' 68 (7 * (w 12 4 + t) + 3) + 10) = nI (10 - w 3 (w 12 4 + t)) := by
          rw [eo, show (10 : Int32) = nI 10 from rfl, pk_sub o10]
        have hb := bu_rbit (t := s) (p := t) (by omega) (by omega)
        have hm2 := Nat.mod_lt (s / 2 ^ t) (show 0 < 2 by omega)
        refine ⟨_, rfl, 88, rfl, by omega, ?_⟩
        refine ⟨_, rfl, 7 * (w 12 4 + t) + 3, by rw [g5]; simp only [bt_lit, pk_mul, nI_add], by omega, ?_⟩
        refine ⟨fun y2 => ?_, fun y2 => ?_⟩
        · rw [hb, bt_n1 (by omega)] at y2
          have e : lN (bu_wt w s t) * ((10 : Int32) - (M' 68 (7 * (w 12 4 + t) + 3) + 10)).toInt64 = lN (bu_wt w s (t + 1)) := by
            rw [en, nI_l (by omega), lN_mul, bu_wt, if_neg y2]
          exact ⟨w 12 0 - w 12 4 - (t + 1), by omega, rfl, rfl, rfl, rfl, t + 1, _, by omega, rfl, by rw [← e, nI_1]⟩
        · rw [hb, bt_n1 (by omega)] at y2
          have e : lN (bu_wt w s t) * (M' 68 (7 * (w 12 4 + t) + 3) + 10).toInt64 = lN (bu_wt w s (t + 1)) := by
            rw [eo, nI_l (by omega), lN_mul, bu_wt, if_pos y2]
          exact ⟨w 12 0 - w 12 4 - (t + 1), by omega, rfl, rfl, rfl, rfl, t + 1, _, by omega, rfl, by rw [← e, nI_1]⟩
    refine bt_go rfl hP 60 [5] P (fun _ _ _ _ _ h => h) ?_
    exact loop _ _ _ _ _ _ ⟨rfl, rfl, rfl, rfl, 0, none, by omega, rfl, rfl⟩
  · exact False.elim h
def bt_CX6_allWeight : bt_C := [(214, 1, 1, sX6_leftMany)]
def sX6_allWeight : bt_Sp := fun as M N K => match as with
  | [.ref c] => ∃ w, c = 67 ∧ bt_mW M 0 w ∧ K (some (.long (lN (10 ^ (w 12 0 - w 12 4))))) M N
  | _ => False
theorem mX6_allWeight : bt_MT bt_TX6_allWeight bt_FX6 bt_CX6_allWeight 3 4 sX6_allWeight := by
  intro as M N Rt h P hP
  unfold sX6_allWeight at h
  split at h
  · obtain ⟨w, rfl, a1, h⟩ := h
    have f1 := a1.1.1
    have loop : ∀ v pc L st M' N', (pc = 4 ∧ st = [] ∧ M' = M ∧ N' = N ∧ ∃ t, t ≤ w 12 0 - w 12 4 ∧ v = w 12 0 - w 12 4 - t ∧ L = [some (.ref 67), some (.long (lN (10 ^ t))), none, some (.int (nI t))]) → P pc L st M' N' := by
      refine bt_loop rfl hP 80 [4] (fun v pc L st M' N' => (pc = 4 ∧ st = [] ∧ M' = M ∧ N' = N ∧ ∃ t, t ≤ w 12 0 - w 12 4 ∧ v = w 12 0 - w 12 4 - t ∧ L = [some (.ref 67), some (.long (lN (10 ^ t))), none, some (.int (nI t))])) ?_
      rintro v pc L st M' N' ⟨rfl, rfl, hM, hN, t, ht, rfl, rfl⟩
      subst hM
      subst hN
      refine ⟨w, rfl, a1, ⟨fun y1 => ?_, fun y1 => ?_⟩⟩
      · rw [nI_leI (by omega) (by omega)] at y1
        have e : t = w 12 0 - w 12 4 := by omega
        rw [e]
        exact h
      · rw [nI_leI (by omega) (by omega)] at y1
        exact ⟨w 12 0 - w 12 4 - (t + 1), by omega, rfl, rfl, rfl, rfl, t + 1, by omega, rfl, by rw [show (10 : Int64) = lN 10 from rfl, lN_mul, nI_1, Nat.pow_succ]⟩
    refine bt_go rfl hP 60 [4] P (fun _ _ _ _ _ h => h) ?_
    exact loop _ _ _ _ _ _ ⟨rfl, rfl, rfl, rfl, 0, by omega, rfl, rfl⟩
  · exact False.elim h
def bu_ps (w : bt_W) (k o s : Nat) : Nat := if 10 ≤ o then (if bu_wr w s k (w 12 0 - w 12 4) = nI (o - 10) then 1 else 0) else if o = 2 then bt_ct1 (fun k => 1 - bu_we w s 11 k) (w 12 1) else if o = 0 then bu_we w s 11 k else bu_we w s 10 k
theorem bu_ps_le {w : bt_W} (hw : bt_wf w) (k o s : Nat) : bu_ps w k o s ≤ 648 := by
  have h1 := bu_we10 hw s k
  have h2 := bt_wf11 (bu_we_wf hw s) k
  have h3 := bt_ct1_le (f := fun k => 1 - bu_we w s 11 k) bt_b1_not (w 12 1)
  have h4 := hw.2.1
  unfold bu_ps
  split
  · split <;> omega
  · split
    · omega
    · split <;> omega
theorem bu_ct_not {f : Nat → Nat} (h : bt_b1 f) : ∀ n, bt_ct1 (fun k => 1 - f k) n + bt_ct1 f n = n
  | 0 => rfl
  | n + 1 => by
    have h1 := bu_ct_not h n
    have h2 := h n
    simp only [bt_ct1]
    omega
def bt_CX6_meanOf : bt_C := [(214, 1, 1, sX6_leftMany), (217, 1, 3, sX6_triesBy), (146, 1, 2, sX6_pastOn), (181, 0, 1, sX6_bitsOf), (220, 1, 2, sX6_weightOf), (224, 1, 1, sX6_allWeight), (228, 0, 3, sX6_lowest)]
def sX6_meanOf : bt_Sp := fun as M N K => match as with
  | [.ref c, .int k, .int o, .int x] => ∃ w k' o', c = 67 ∧ bt_mW M 0 w ∧ k = nI k' ∧ k' < 6 ∧ o = nI o' ∧ o' ≤ 18 ∧ (o' = 2 ∨ 10 ≤ o' ∨ k' < w 12 1) ∧ ∀ M', bt_tm M M' → K (some (.long (bt_lw (bu_X w (w 12 0 - w 12 4) (bu_ps w k' o')) (10 ^ (w 12 0 - w 12 4)) x))) M' N
  | _ => False
set_option maxHeartbeats 1000000 in
set_option maxRecDepth 100000 in
theorem mX6_meanOf : bt_MT bt_TX6_meanOf bt_FX6 bt_CX6_meanOf 3 10 sX6_meanOf := by
  intro as M N Rt h P hP
  unfold sX6_meanOf at h
  split at h
  · next x =>
    obtain ⟨w, k, o, rfl, a1, rfl, hk, rfl, ho, hko, h⟩ := h
    have hw := a1.1
    have f1 := hw.1
    have f2 := hw.2.1
    have f3 := hw.2.2.1
    have hp := bu_10 (j := w 12 0 - w 12 4) (by omega)
    have hb := bu_X_le hw (j := w 12 0 - w 12 4) (c := 648) (f := bu_ps w k o) (fun s _ => bu_ps_le hw k o s)
    have hX : bu_X w (w 12 0 - w 12 4) (bu_ps w k o) = bt_ct1 (fun s => bu_ps w k o s * bu_wt w s (w 12 0 - w 12 4)) (2 ^ (w 12 0 - w 12 4)) := rfl
    have hwe1 : ∀ s, bu_we w s 12 1 = w 12 1 := fun s => (bt_dn_12 w (bu_gf w s) (w 12 0 - w 12 4)).2.1 1 (by omega) (by omega)
    have hps : ∀ s, bu_ps w k o s = if 10 ≤ o then (if bu_wr w s k (w 12 0 - w 12 4) = nI (o - 10) then 1 else 0) else if o = 2 then bt_ct1 (fun k => 1 - bu_we w s 11 k) (w 12 1) else if o = 0 then bu_we w s 11 k else bu_we w s 10 k := fun s => rfl
    have hle := bu_ps_le hw k o
    have h256 := bu_2p (a := w 12 0 - w 12 4) (by omega)
    generalize hlf : w 12 0 - w 12 4 = lf at *
    have loop : ∀ v pc L st M' N', (N' = N ∧ bt_tm M M' ∧ ∃ (s : Nat) (y8 y9 : Option Value), ((pc = 6 ∧ st = [] ∧ s ≤ 2 ^ lf ∧ v = 2 * (2 ^ lf - s) + 1 ∧ ∃ y7, L = [some (.ref 67), some (.int (nI k)), some (.int (nI o)), some (.int x), some (.long (lN (bt_ct1 (fun s => bu_ps w k o s * bu_wt w s lf) s))), none, some (.int (nI s)), y7, y8, y9]) ∨ (pc = 96 ∧ s < 2 ^ lf ∧ st = [.long (lN (bu_ps w k o s))] ∧ v = 2 * (2 ^ lf - s) ∧ ∃ y7, L = [some (.ref 67), some (.int (nI k)), some (.int (nI o)), some (.int x), some (.long (lN (bt_ct1 (fun s => bu_ps w k o s * bu_wt w s lf) s))), none, some (.int (nI s)), some (.int y7), y8, y9]))) → P pc L st M' N' := by
      refine bt_loop rfl hP 80 [6, 96] (fun v pc L st M' N' => (N' = N ∧ bt_tm M M' ∧ ∃ (s : Nat) (y8 y9 : Option Value), ((pc = 6 ∧ st = [] ∧ s ≤ 2 ^ lf ∧ v = 2 * (2 ^ lf - s) + 1 ∧ ∃ y7, L = [some (.ref 67), some (.int (nI k)), some (.int (nI o)), some (.int x), some (.long (lN (bt_ct1 (fun s => bu_ps w k o s * bu_wt w s lf) s))), none, some (.int (nI s)), y7, y8, y9]) ∨ (pc = 96 ∧ s < 2 ^ lf ∧ st = [.long (lN (bu_ps w k o s))] ∧ v = 2 * (2 ^ lf - s) ∧ ∃ y7, L = [some (.ref 67), some (.int (nI k)), some (.int (nI o)), some (.int x), some (.long (lN (bt_ct1 (fun s => bu_ps w k o s * bu_wt w s lf) s))), none, some (.int (nI s)), some (.int y7), y8, y9])))) ?_
      rintro v pc L st M' N' ⟨hN, t1, s, y8, y9, ⟨rfl, rfl, hs, rfl, y7, rfl⟩ | ⟨rfl, hs, rfl, rfl, y7, rfl⟩⟩
      · subst hN
        have a1' := bt_tm_live t1 a1
        refine ⟨w, rfl, a1', ?_⟩
        rw [hlf]
        refine ⟨fun y1 => ?_, fun y1 => ?_⟩
        · rw [bu_sl1 lf (by omega), nI_leI (by omega) (by omega)] at y1
          have e : s = 2 ^ lf := by omega
          rw [e]
          refine ⟨w, rfl, a1', ?_⟩
          rw [hlf]
          refine ⟨bt_ct1 (fun s => bu_ps w k o s * bu_wt w s lf) (2 ^ lf), _, rfl, rfl, hp.1, by omega, by omega, ?_⟩
          exact h M' t1
        · rw [bu_sl1 lf (by omega), nI_leI (by omega) (by omega)] at y1
          refine ⟨w, s, k, rfl, a1', rfl, by omega, rfl, hk, fun M2 q1 q2 => ?_⟩
          have t2 := bt_tm_fr t1 (by omega) q1
          have hbk := hps s
          have hle1 := hle s
          rw [hlf]
          refine ⟨fun y2 => ?_, fun y2 => ?_⟩
          · rw [bt_lit, nI_ltI (by omega) (by omega)] at y2
            rw [if_neg (by omega)] at hbk
            refine ⟨fun y3 => ?_, fun y3 => ?_⟩
            · have o2 : ¬ o = 2 := fun z => y3 (by rw [z]; rfl)
              have hkc : k < bu_we w s 12 1 := by
                rw [hwe1]
                omega
              rw [if_neg o2] at hbk
              refine ⟨fun y4 => ?_, fun y4 => ?_⟩
              · rw [bt_n0 (by omega)] at y4
                rw [if_neg y4] at hbk
                refine ⟨_, rfl, 360 + 58 + 5 * k + 3, by simp only [bt_lit, pk_mul, nI_add], by omega, ?_⟩
                refine ⟨2 * (2 ^ lf - s), by omega, rfl, t2, s, y8, y9, Or.inr ⟨rfl, by omega, ?_, rfl, _, rfl⟩⟩
                rw [bt_mW_time q2 hkc, ← hbk, nI_l (by omega)]
              · rw [bt_n0 (by omega)] at y4
                rw [if_pos y4] at hbk
                refine ⟨_, rfl, 360 + 58 + 5 * k + 4, by simp only [bt_lit, pk_mul, nI_add], by omega, ?_⟩
                refine ⟨2 * (2 ^ lf - s), by omega, rfl, t2, s, y8, y9, Or.inr ⟨rfl, by omega, ?_, rfl, _, rfl⟩⟩
                rw [bt_mW_past q2 hkc, ← hbk, nI_l (by omega)]
            · have o2 : o = 2 := (nI_eq (b := 2) (by omega) (by omega)).mp y3
              rw [if_pos o2] at hbk
              have k2 := q2.2.2.1
              have k11 := q2.2.2.2.2.2.2.2.2.2.2.2.2.2.2.2.2.2.2
              rw [hwe1] at k2 k11
              have hb1 : bt_b1 (bu_we w s 11) := bt_wf11 q2.1
              have hmk := bt_mk_lt hb1 (w 12 1)
              have h64 := bu_64 hw
              have hcn := bu_ct_not hb1 (w 12 1)
              refine ⟨360, w 12 1, bu_we w s 11, rfl, rfl, by omega, k2, f2, hb1, k11, ?_⟩
              refine ⟨bt_mk (bu_we w s 11) (w 12 1), rfl, by omega, ?_⟩
              refine ⟨2 * (2 ^ lf - s), by omega, rfl, t2, s, y8, y9, Or.inr ⟨rfl, by omega, ?_, rfl, _, rfl⟩⟩
              rw [k2, bt_pc_mk hb1 (by omega), pk_sub (by omega), nI_l (by omega), hbk, show w 12 1 - bt_ct1 (bu_we w s 11) (w 12 1) = bt_ct1 (fun k => 1 - bu_we w s 11 k) (w 12 1) by omega]
          · rw [bt_lit, nI_ltI (by omega) (by omega)] at y2
            rw [if_pos (by omega)] at hbk
            have e10 : nI o - 10 = nI (o - 10) := by rw [show (10 : Int32) = nI 10 from rfl, pk_sub (by omega)]
            refine ⟨fun y3 => ?_, fun y3 => ?_⟩
            · rw [e10] at y3
              rw [if_neg y3] at hbk
              refine ⟨2 * (2 ^ lf - s), by omega, rfl, t2, s, y8, y9, Or.inr ⟨rfl, by omega, ?_, rfl, _, rfl⟩⟩
              rw [hbk]
              rfl
            · rw [e10] at y3
              rw [if_pos y3] at hbk
              refine ⟨2 * (2 ^ lf - s), by omega, rfl, t2, s, y8, y9, Or.inr ⟨rfl, by omega, ?_, rfl, _, rfl⟩⟩
              rw [hbk]
              rfl
      · subst hN
        refine ⟨w, s, rfl, bt_tm_live t1 a1, rfl, by omega, ?_⟩
        rw [hlf]
        exact ⟨2 * (2 ^ lf - (s + 1)) + 1, by omega, rfl, t1, s + 1, _, _, Or.inl ⟨rfl, rfl, by omega, rfl, _, by rw [bt_ct1, lN_mul, lN_add, nI_1]⟩⟩
    refine bt_go rfl hP 60 [6] P (fun _ _ _ _ _ h => h) ?_
    exact loop _ _ _ _ _ _ ⟨rfl, bt_tm_rf, 0, none, none, Or.inl ⟨rfl, rfl, Nat.zero_le _, rfl, none, rfl⟩⟩
  · exact False.elim h
