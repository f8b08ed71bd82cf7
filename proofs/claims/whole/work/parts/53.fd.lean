/-! WHO HAD BEEN BEHIND WHOM: the class tries all sets -/
theorem bu_sl1 : ∀ n, n < 9 → (1 : Int32) <<< (nI n &&& 31) = nI (2 ^ n) := by decide +kernel
theorem bu_rbit {t p : Nat} (ht : t < 2 ^ 31) (hp : p < 32) : nI t >>> (nI p &&& 31) &&& 1 = nI (t / 2 ^ p % 2) := by
  rw [bt_shr ht hp, bt_and1 (Nat.lt_of_le_of_lt (Nat.div_le_self _ _) ht)]
theorem bu_sub2 {n l : Nat} (h : l < n) : nI n - 1 - nI l = nI (n - 1 - l) := by
  rw [show (1 : Int32) = nI 1 from rfl, pk_sub (by omega), pk_sub (by omega)]
def bt_CX0_tryAllSets : bt_C := [(39, 1, 1, sX4_stretchesLeft), (59, 0, 5, sArrcopyI), (71, 0, 1, sJ6_numberOfTrailingZeros_0f7a4), (77, 0, 2, sX5_bit), (81, 1, 4, sX0_goDown), (85, 1, 4, sX0_judge)]
def sX0_tryAllSets : bt_Sp := fun as M N K => match as with
  | [.ref c, .ref d] => ∃ (w : bt_W) (n : Nat) (z1 z2 : Nat → Nat), c = 49 ∧ d = 2 ∧ bt_cW M 2 w ∧ M 49 5 = nI n ∧ n ≤ 6 ∧ (∀ j, j < n → M 50 j = nI (z1 j) ∧ M 51 j = nI (z2 j) ∧ z1 j < w 12 1 ∧ z2 j ≤ 999) ∧ ∀ M', (∀ x : Nat, (x < 49 ∨ x = 50 ∨ x = 51 ∨ 63 < x) → M' x = M x) → M' 49 5 = M 49 5 → bu_cF M' (bu_fo w z1 z2 n (List.range (2 ^ (w 12 0 - w 12 4)))) → K none M' N
  | _ => False
def bu_tw (M M' : bt_M) : Prop := (∀ x : Nat, (x < 49 ∨ x = 50 ∨ x = 51 ∨ 63 < x) → M' x = M x) ∧ M' 49 5 = M 49 5
set_option maxHeartbeats 1000000 in
set_option maxRecDepth 100000 in
theorem mX0_tryAllSets : bt_MT bt_TX0_tryAllSets bt_FX0 bt_CX0_tryAllSets 0 6 sX0_tryAllSets := by
  intro as M N Rt h P hP
  unfold sX0_tryAllSets at h
  split at h
  · obtain ⟨w, n, z1, z2, rfl, rfl, a1, h5, hn, hz, h⟩ := h
    obtain ⟨hw, h8, h9, h10, h11, h12, h13, h14, h15, h16, h17, r1, r2, r3, r4, r5, r6, r7, r8⟩ := id a1
    obtain ⟨f1, f2, f3, f4, f5, f6, f7, f8, f9, f10, f11, f12, f13, f14, f15, f16, f17, f18⟩ := id hw
    have hlf : w 12 4 + (w 12 0 - w 12 4) = w 12 0 := by omega
    have hB := fun l hl hll => bu_fo_B hw z1 z2 n l hl hll
    have hwe : ∀ s, bu_we w s = bt_dn w (bu_gf w s) (w 12 0 - w 12 4) := fun s => rfl
    have hT : ∀ s k, bu_we w s 10 k < 2 ^ 31 := fun s k => by
      have q := bu_we_wf hw s
      have q1 := q.2.2.2.2.2.2.2.2.2.2.2.2.2.2.2.2.1 k
      have q2 := q.2.2.1
      have q3 := q.1
      omega
    have hsl := fun s => bu_s_lt hw (s := s)
    have hpl := bu_we_p hw
    have hop : ∀ F s, bu_op w z1 z2 n F s = bu_ad (bu_ft (bu_we w s 10) z1 z2 n) (s * 2 ^ w 12 4) (bt_mk (bu_we w s 11) (w 12 1)) F := fun F s => rfl
    generalize hl : w 12 0 - w 12 4 = lf at *
    have hlf8 : lf ≤ 8 := by omega
    have h256 := bu_2p hlf8
    have kcW : ∀ M', bu_tw M M' → bt_cW M' 2 w := fun M' t => bt_cW_kept a1 (fun x _ _ => t.1 x (by omega))
    have loop : ∀ v pc L st M' N', (st = [] ∧ N' = N ∧ ∃ (t : Nat) (y4 : Option Value), bu_tw M M' ∧ bu_cF M' (bu_fo w z1 z2 n ((List.range t).map (bu_rv lf))) ∧ ((pc = 74 ∧ t ≤ 2 ^ lf ∧ v = (2 ^ lf - t) * 20 + 19 ∧ (∃ y5, L = [some (.ref 49), some (.ref 2), some (.int (nI lf)), some (.int (nI t)), y4, y5]) ∧ ∀ l, l ≤ (if t = 0 then 0 else lf) → bu_lv M' w (bu_rv lf (t - 1)) l) ∨ (pc = 103 ∧ t < 2 ^ lf ∧ ∃ l x4, l ≤ lf ∧ v = (2 ^ lf - t) * 20 + (lf - l) ∧ L = [some (.ref 49), some (.ref 2), some (.int (nI lf)), some (.int (nI t)), some (.int x4), some (.int (nI l))] ∧ ∀ l', l' ≤ l → bu_lv M' w (bu_rv lf t) l'))) → P pc L st M' N' := by
      refine bt_loop rfl hP 100 [74, 103] (fun v pc L st M' N' => (st = [] ∧ N' = N ∧ ∃ (t : Nat) (y4 : Option Value), bu_tw M M' ∧ bu_cF M' (bu_fo w z1 z2 n ((List.range t).map (bu_rv lf))) ∧ ((pc = 74 ∧ t ≤ 2 ^ lf ∧ v = (2 ^ lf - t) * 20 + 19 ∧ (∃ y5, L = [some (.ref 49), some (.ref 2), some (.int (nI lf)), some (.int (nI t)), y4, y5]) ∧ ∀ l, l ≤ (if t = 0 then 0 else lf) → bu_lv M' w (bu_rv lf (t - 1)) l) ∨ (pc = 103 ∧ t < 2 ^ lf ∧ ∃ l x4, l ≤ lf ∧ v = (2 ^ lf - t) * 20 + (lf - l) ∧ L = [some (.ref 49), some (.ref 2), some (.int (nI lf)), some (.int (nI t)), some (.int x4), some (.int (nI l))] ∧ ∀ l', l' ≤ l → bu_lv M' w (bu_rv lf t) l')))) ?_
      rintro v pc L st M' N' ⟨rfl, hN, t, y4, tw, cF, ⟨rfl, ht, rfl, ⟨y5, rfl⟩, lv⟩ | ⟨rfl, ht, l, x4, hl2, rfl, rfl, lv⟩⟩
      · subst hN
        refine ⟨fun y1 => ?_, fun y1 => ?_⟩
        · rw [bu_sl1 lf (by omega), nI_leI (by omega) (by omega)] at y1
          have e : t = 2 ^ lf := by omega
          rw [e, bu_fo_p (bu_rv_p lf (by omega))] at cF
          exact h M' tw.1 tw.2 cF
        · rw [bu_sl1 lf (by omega), nI_leI (by omega) (by omega)] at y1
          refine ⟨fun y2 => ?_, fun y2 => ?_⟩
          · rw [bt_n0 (by omega)] at y2
            obtain ⟨z5, z6, z7⟩ := bu_tz_ok t (by omega) (by omega)
            have z8 : bu_tz t < lf := (Nat.pow_lt_pow_iff_right (a := 2) (by omega)).mp (by omega)
            refine ⟨t, rfl, by omega, by omega, ?_⟩
            refine ⟨(2 ^ lf - t) * 20 + (lf - (lf - 1 - bu_tz t)), by omega, rfl, rfl, t, none, tw, cF, Or.inr ⟨rfl, by omega, lf - 1 - bu_tz t, _, by omega, rfl, by rw [bu_sub2 z8], fun l' hl' => ?_⟩⟩
            have lv1 := lv l' (by rw [if_neg y2]; omega)
            refine bu_lv_c lv1 (fun j hj => ?_)
            rw [bu_rv_b (by omega), bu_rv_b (by omega)]
            exact bu_tz_b t (by omega) (by omega) _ (by omega) (by omega)
          · rw [bt_n0 (by omega)] at y2
            have lv0 := lv 0 (by omega)
            rw [y2] at lv0
            refine ⟨(2 ^ lf - t) * 20 + (lf - 0), by omega, rfl, rfl, t, none, tw, cF, Or.inr ⟨rfl, by omega, 0, _, by omega, rfl, rfl, fun l' hl' => ?_⟩⟩
            have e0 : l' = 0 := by omega
            rw [e0, y2]
            exact lv0
      · subst hN
        have hcW := kcW M' tw
        refine ⟨fun y1 => ?_, fun y1 => ?_⟩
        · rw [nI_leI (by omega) (by omega)] at y1
          have e : l = lf := by omega
          obtain ⟨v1, v2, v3⟩ := lv lf (by omega)
          have hr := bu_rv_lt lf t
          rw [bu_mkb, Nat.mod_eq_of_lt hr] at v2
          have e5 : M' 49 5 = nI n := by rw [tw.2]; exact h5
          have hB1 := hB ((List.range t).map (bu_rv lf)) (fun s hs => by
            obtain ⟨q, _, rfl⟩ := List.mem_map.mp hs
            exact bu_rv_lt lf q) (by rw [List.length_map, List.length_range]; omega)
          refine ⟨_, rfl, lf, rfl, by omega, ?_⟩
          refine ⟨_, rfl, lf, rfl, by omega, ?_⟩
          refine ⟨_, rfl, lf, rfl, by omega, ?_⟩
          refine ⟨lf, bt_mk (bu_we w (bu_rv lf t) 11) (w 12 1), bu_rv lf t * 2 ^ w 12 4, n, w 12 1, bu_we w (bu_rv lf t) 10, z1, z2, bu_fo w z1 z2 n ((List.range t).map (bu_rv lf)), rfl, ?_, hpl _, v2, hsl _ hr, rfl, by omega, e5, hn, f2, ?_, ?_, hT _, cF, hB1, fun M2 s1 s2 s3 => ?_⟩
          · rw [hwe]
            exact v1
          · intro j hj
            rw [tw.1 50 (by omega), tw.1 51 (by omega)]
            exact hz j hj
          · rw [hwe]
            exact v3
          · have cF2 : bu_cF M2 (bu_fo w z1 z2 n ((List.range (t + 1)).map (bu_rv lf))) := by
              rw [List.range_succ, List.map_append, List.map_cons, List.map_nil, bu_fo_1, hop]
              exact s3
            refine ⟨(2 ^ lf - (t + 1)) * 20 + 19, by omega, rfl, rfl, t + 1, _, ⟨fun x hx => ?_, ?_⟩, cF2, Or.inl ⟨rfl, by omega, rfl, ⟨_, by rw [nI_1]⟩, fun l' hl' => ?_⟩⟩
            · rw [s1 x (by omega)]
              exact tw.1 x hx
            · rw [s2]
              exact tw.2
            · rw [if_neg (by omega)] at hl'
              refine bu_lv_k (lv l' (by omega)) ⟨?_, ?_⟩ ?_
              · rw [s1 52 (by omega)]
              · rw [s1 53 (by omega)]
              · rw [s1 (55 + l') (by omega)]
        · rw [nI_leI (by omega) (by omega)] at y1
          have hlt : l < lf := by omega
          obtain ⟨v1, v2, v3⟩ := lv l (by omega)
          have hb : nI t >>> ((nI lf - 1 - nI l) &&& 31) &&& 1 = nI (bu_rv lf t / 2 ^ l % 2) := by
            rw [bu_sub2 hlt, bu_rbit (by omega) (by omega), bu_rv_b hlt]
          have hb1 : bu_rv lf t / 2 ^ l % 2 ≤ 1 := by
            have := Nat.mod_lt (bu_rv lf t / 2 ^ l) (show 0 < 2 by omega)
            omega
          have hps : bt_b1 (bt_dn w (bu_gf w (bu_rv lf t)) l 11) := bt_wf11 (bt_dn_wf _ hw l (by omega))
          have hsv : bt_mk (fun j => bu_rv lf t / 2 ^ j % 2) l * 2 ^ w 12 4 < 2 ^ (w 12 4 + l) := by
            rw [Nat.pow_add, Nat.mul_comm (2 ^ w 12 4)]
            exact Nat.mul_lt_mul_of_pos_right (bt_mk_lt bu_m2 l) (Nat.two_pow_pos _)
          refine ⟨w, l, bu_rv lf t / 2 ^ l % 2, bt_mk (fun j => bu_rv lf t / 2 ^ j % 2) l * 2 ^ w 12 4, bt_dn w (bu_gf w (bu_rv lf t)) l 11, bt_dn w (bu_gf w (bu_rv lf t)) l 10, rfl, rfl, hcW, rfl, by omega, hb, hb1, hps, v1, v2, hsv, v3, fun M2 s1 s2 s3 s4 s5 => ?_⟩
          refine ⟨(2 ^ lf - t) * 20 + (lf - (l + 1)), by omega, rfl, rfl, t, none, ⟨fun x hx => ?_, ?_⟩, ?_, Or.inr ⟨rfl, by omega, l + 1, _, by omega, rfl, by rw [nI_1], fun l' hl' => ?_⟩⟩
          · rw [s1 x (by omega) (by omega) (by omega)]
            exact tw.1 x hx
          · rw [s1 49 (by omega) (by omega) (by omega)]
            exact tw.2
          · unfold bu_cF
            rw [s1 49 (by omega) (by omega) (by omega)]
            exact cF
          · by_cases he : l' = l + 1
            · rw [he]
              refine ⟨?_, ?_, fun k hk => ?_⟩
              · rw [s3]
                congr 1
                refine bt_mk_c (fun k _ => ?_)
                rw [bu_dn11, bu_gf_s]
              · rw [s4, bt_mk, Nat.add_mul, Nat.mul_assoc, ← Nat.pow_add, Nat.add_comm l]
              · rw [s5 k hk, bu_dn10, bu_gf_s]
            · exact bu_lv_k (lv l' (by omega)) (s2 l' he) (s1 (55 + l') (by omega) (by omega) (by omega))
    refine bt_go rfl hP 100 [74] P (fun _ _ _ _ _ h => h) ?_
    intro M1 e1 M2 e2
    have c2 : bt_cW M2 2 w := bt_cW_kept a1 (fun x _ _ => by rw [e2, bt_up_n (by omega), e1, bt_up_n (by omega)])
    refine ⟨w, Or.inl rfl, c2, ?_⟩
    intro M3 e3 M4 e4 M5 e5
    refine ⟨_, rfl, 0, rfl, by omega, fun M6 e6 => ?_⟩
    refine ⟨_, rfl, 0, rfl, by omega, fun M7 e7 => ?_⟩
    refine ⟨_, rfl, 0, rfl, by omega, ?_⟩
    refine ⟨_, _, 6, rfl, rfl, rfl, rfl, rfl, by omega, by omega, fun M8 e8 => ?_⟩
    have e8' : M8 = va_up M7 55 (va_cpy (M7 10) (M7 55) 0 0 6) := e8
    have k1 : M1 49 = upd (M 49) 6 0 := by rw [e1, bt_up_s]
    have k2 : M2 49 = upd (M1 49) 7 0 := by rw [e2, bt_up_s]
    have k3 : M3 49 = upd (M2 49) 8 (nI (2 ^ w 12 0 - 2 ^ w 12 4)) := by rw [e3, bt_up_s]
    have k4 : M4 49 = upd (M3 49) 9 0 := by rw [e4, bt_up_s]
    have k5 : M5 49 = upd (M4 49) 10 0 := by rw [e5, bt_up_s]
    have k8 : M8 49 = M5 49 := by rw [e8', bt_up_n (by omega), e7, bt_up_n (by omega), e6, bt_up_n (by omega)]
    have o5 : ∀ x : Nat, x ≠ 49 → M5 x = M x := fun x hx => by rw [e5, bt_up_n hx, e4, bt_up_n hx, e3, bt_up_n hx, e2, bt_up_n hx, e1, bt_up_n hx]
    have o8 : ∀ x : Nat, x ≠ 49 → x ≠ 52 → x ≠ 53 → x ≠ 55 → M8 x = M x := fun x x1 x2 x3 x4 => by rw [e8', bt_up_n x4, e7, bt_up_n x3, e6, bt_up_n x2, o5 x x1]
    have tw : bu_tw M M8 := by
      refine ⟨fun x hx => o8 x (by omega) (by omega) (by omega) (by omega), ?_⟩
      rw [k8, k5, pk_un (by omega), k4, pk_un (by omega), k3, pk_un (by omega), k2, pk_un (by omega), k1, pk_un (by omega)]
    have hleft : M8 2 8 - M8 2 16 = nI lf := by
      rw [o8 2 (by omega) (by omega) (by omega) (by omega), h8, h16, pk_sub f3, hl]
    refine loop _ _ _ _ _ _ ⟨rfl, rfl, 0, none, tw, ⟨?_, ?_, ?_, ?_, ?_⟩, Or.inl ⟨rfl, Nat.zero_le _, rfl, ⟨none, by rw [hleft]; rfl⟩, fun l hl0 => ?_⟩⟩
    · rw [k8, k5, pk_un (by omega), k4, pk_un (by omega), k3, pk_un (by omega), k2, pk_un (by omega), k1, pk_us]
      rfl
    · rw [k8, k5, pk_un (by omega), k4, pk_un (by omega), k3, pk_un (by omega), k2, pk_us]
      rfl
    · rw [k8, k5, pk_un (by omega), k4, pk_un (by omega), k3, pk_us]
      rfl
    · rw [k8, k5, pk_un (by omega), k4, pk_us]
      rfl
    · rw [k8, k5, pk_us]
      rfl
    · rw [if_pos rfl] at hl0
      have e0 : l = 0 := by omega
      rw [e0]
      refine ⟨?_, ?_, fun k hk => ?_⟩
      · rw [e8', bt_up_n (by omega), e7, bt_up_n (by omega), e6, bt_up_s, pk_us, o5 2 (by omega)]
        exact h13
      · rw [e8', bt_up_n (by omega), e7, bt_up_s, pk_us, bt_mk, Nat.zero_mul]
        rfl
      · rw [e8']
        show va_up M7 55 (va_cpy (M7 10) (M7 55) 0 0 6) 55 k = _
        rw [bt_up_s, bt_cpy0 (by omega), e7, bt_up_n (by omega), e6, bt_up_n (by omega), o5 10 (by omega)]
        exact r8 k hk
  · exact False.elim h
