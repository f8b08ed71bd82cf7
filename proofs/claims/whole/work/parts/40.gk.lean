/-! CALLS, BOTH SIDES: the tail, drifting gaps -/
theorem bt_us16 (s : Int32) : (s.toUInt32 >>> ((16 : Int32).toUInt32 &&& Int32.toUInt32 31)).toInt32 &&& 32767 = (s >>> ((16 : Int32) &&& 31)) &&& 32767 := by
  apply Int32.toBitVec_inj.mp
  rw [Int32.toBitVec_and, Int32.toBitVec_and, Int32.toBitVec_shiftRight, show ((16 : Int32) &&& 31).toBitVec.smod 32 = 16#32 from by decide]
  show (s.toBitVec >>> 16) &&& 32767#32 = (s.toBitVec.sshiftRight' 16#32) &&& 32767#32
  generalize s.toBitVec = x
  have hb : ∀ i, (h : i < 32) → ¬ i < 15 → (32767#32)[i] = false := by decide
  ext i hi
  rw [BitVec.getElem_and, BitVec.getElem_and]
  by_cases h : i < 15
  · rw [BitVec.sshiftRight_eq', BitVec.getElem_sshiftRight, BitVec.getElem_ushiftRight]
    have e : (16#32).toNat = 16 := rfl
    rw [dif_pos (by rw [e]; omega), BitVec.getLsbD_eq_getElem (show 16 + i < 32 by omega)]
    rfl
  · rw [hb i hi h, Bool.and_false, Bool.and_false]
theorem bt_and15 (x : Int32) : x &&& 32767 = nI (x.toBitVec.toNat % 32768) := by
  apply Int32.toBitVec_inj.mp
  apply BitVec.eq_of_toNat_eq
  rw [pk_tn (by omega), Int32.toBitVec_and, BitVec.toNat_and]
  show x.toBitVec.toNat &&& (2 ^ 15 - 1) = _
  rw [Nat.and_two_pow_sub_one_eq_mod]
/-- the next number, the gap that it tells -/
def bt_lgc (s : Int32) : Int32 := s * 1103515245 + 12345
def bt_dg (s : Int32) : Nat := (s >>> ((16 : Int32) &&& 31)).toBitVec.toNat % 32768 % 10
theorem bt_dg_c (s : Int32) : (s.toUInt32 >>> ((16 : Int32).toUInt32 &&& Int32.toUInt32 31)).toInt32 &&& 32767 = nI ((s >>> ((16 : Int32) &&& 31)).toBitVec.toNat % 32768) := by
  rw [bt_us16, bt_and15]
theorem bt_dg_r (a : Nat) (h : a < 32768) : nI a - nI a / 10 * 10 = nI (a % 10) := pk_rem (d := 10) (by omega) (by omega) (by omega)
theorem bt_dg_le (s : Int32) : bt_dg s ≤ 9 := by
  unfold bt_dg
  omega
def bt_lsq (s : Int32) : Nat → Int32
  | 0 => s
  | j + 1 => bt_lgc (bt_lsq s j)
def bt_dw (w : bt_W) (s : Int32) : Nat → bt_W := bt_dn w (fun i => bt_dg (bt_lsq s (i - w 12 4 + 1)))
theorem bt_dw_s (w : bt_W) (s : Int32) (j : Nat) : bt_dw w s (j + 1) = bt_dv (bt_dw w s j) (bt_dg (bt_lsq s (j + 1))) := by
  unfold bt_dw
  rw [bt_dn, show w 12 4 + j - w 12 4 + 1 = j + 1 by omega]
theorem bt_nI_add3 (a j : Nat) : nI (a + j) + 1 = nI (a + (j + 1)) := by rw [nI_1, Nat.add_assoc]

def f_tail : bt_fn := fun t S => match t, S with
  | [.int n], (w, im, u, z, q) => some (.int (if bt_in n 9 then nI (2 ^ w 12 1 - 1 - bt_mk (bt_dn w (w 2) (min n.toNatClampNeg (w 12 0 - w 12 4)) 11) (w 12 1)) else -1), (w, im, u, z, q))
  | _, _ => none

def bt_CX5_tail : bt_C := [(51, 0, 3, sX5_within), (76, 1, 2, sX4_takeFrom), (176, 0, 2, sJ9_min_7cf53), (170, 1, 2, sX4_driveOne), (181, 1, 2, sX4_behind)]
def sX5_tail : bt_Sp := bt_spC f_tail
set_option maxRecDepth 100000 in
theorem mX5_tail : bt_MT bt_TX5_tail bt_FX5 bt_CX5_tail 1 4 sX5_tail := by
  intro as M N Rt h P hP
  obtain ⟨t, S, r, S', rfl, hI, hf, h⟩ := bt_spC_e h
  obtain ⟨w, im, u, z, q⟩ := S
  unfold f_tail at hf
  split at hf
  · next n _ _ _ _ _ e =>
    cases e
    obtain ⟨rfl, rfl⟩ := bt_some hf
    obtain ⟨a1, a2, a3, a4, a5, a6, a7, a8, a9, a10, a11, a12⟩ := id hI
    obtain ⟨b0, b1, b2, b3, b4, b5, b6, b7, b8, b9, b10⟩ := id a2
    obtain ⟨hw, h8, h9, h10, h11, h12, h13, h14, h15, h16, h17, r1, r2, r3, r4, r5, r6, r7, r8⟩ := id a1
    obtain ⟨f1, f2, f3, f4, f5, f6, f7, f8, f9, f10, f11, f12, f13, f14, f15, f16, f17, f18⟩ := id hw
    refine bt_go rfl hP 60 [51] P (fun _ _ _ _ _ h => h) ?_
    refine ⟨fun y => ?_, fun y => ?_⟩
    · rw [bt_bi_n0, bt_in_c (k := 8) (show (8 : Int32) = nI 8 from rfl) (by omega)] at y
      rw [if_pos y] at h
      obtain ⟨n, hn, rfl⟩ := bt_in_e y
      rw [bt_clm (by omega)] at h
      obtain ⟨J, hJ⟩ : ∃ J, J = min n (w 12 0 - w 12 4) := ⟨_, rfl⟩
      rw [← hJ] at h
      have hh := h
      have loop : ∀ v pc L st M' N', (pc = 51 ∧ st = [] ∧ N' = N ∧ ∃ j, j ≤ J ∧ v = J - j ∧ L = [some (.ref 0), some (.int (nI n)), some (.int (nI (w 12 4 + J))), some (.int (nI (w 12 4 + j)))] ∧ bt_tq M M' ∧ bt_cW M' 79 (bt_dn w (w 2) j)) → P pc L st M' N' := by
        refine bt_loop rfl hP 60 [51] (fun v pc L st M' N' => (pc = 51 ∧ st = [] ∧ N' = N ∧ ∃ j, j ≤ J ∧ v = J - j ∧ L = [some (.ref 0), some (.int (nI n)), some (.int (nI (w 12 4 + J))), some (.int (nI (w 12 4 + j)))] ∧ bt_tq M M' ∧ bt_cW M' 79 (bt_dn w (w 2) j))) ?_
        rintro v pc L st M' N' ⟨rfl, rfl, hN, j, hj, rfl, rfl, t1, p1⟩
        obtain ⟨d1, d2, d3⟩ := bt_dn_12 w (w 2) j
        obtain ⟨e0, e8, e9, e10, e11, e12, e13, e14, e15, e16, e17, s1, s2, s3, s4, s5, s6, s7, s8⟩ := id p1
        rw [d2 1 (by omega) (by omega)] at e12 e13
        rw [d2 0 (by omega) (by omega), d3 2 (by omega)] at s3
        refine ⟨fun z1 => ?_, fun z1 => ?_⟩
        · rw [nI_leI (by omega) (by omega)] at z1
          have e : j = J := by omega
          rw [e] at e13 e0
          refine ⟨w 12 1, _, Or.inr rfl, e12, f2, e13, bt_mk_lt (fun k => bt_wf11 e0 k) _, ?_⟩
          rw [hN]
          exact hh M' N (bt_tq_fr t1) (bt_tq_I hI t1)
        · rw [nI_leI (by omega) (by omega)] at z1
          refine ⟨_, rfl, w 12 4 + j, rfl, by omega, ?_⟩
          refine ⟨_, w 2 (w 12 4 + j), Or.inr rfl, p1, by rw [d1, d2 0 (by omega) (by omega)]; omega, s3 _ (by omega), f9 _, fun M2 q1 q2 => ?_⟩
          exact ⟨J - (j + 1), by omega, rfl, rfl, hN, j + 1, by omega, rfl, by rw [bt_nI_add3], bt_tq_frm t1 q2, q1⟩
      refine ⟨w, by unfold bt_tf; decide, a1, fun M1 c1 c2 => ?_⟩
      have t1 : bt_tq M M1 := bt_tq_out bt_tq_rf c2
      have e8 : M1 2 8 = nI (w 12 0) := by rw [t1 2 (by omega)]; exact h8
      have e16 : M1 2 16 = nI (w 12 4) := by rw [t1 2 (by omega)]; exact h16
      have eJ : (if M1 2 8 < M1 2 16 + nI n then M1 2 8 else M1 2 16 + nI n) = nI (w 12 4 + J) := by
        rw [e8, e16, nI_add]
        by_cases c : w 12 0 < w 12 4 + n
        · rw [if_pos ((nI_ltI (by omega) (by omega)).mpr c)]
          congr 1
          omega
        · rw [if_neg (fun d => c ((nI_ltI (by omega) (by omega)).mp d))]
          congr 1
          omega
      exact loop _ _ _ _ _ _ ⟨rfl, rfl, rfl, 0, by omega, rfl, by rw [eJ, e16]; rfl, t1, c1⟩
    · rw [bt_bi_0, bt_in_c (k := 8) (show (8 : Int32) = nI 8 from rfl) (by omega)] at y
      rw [if_neg y] at h
      exact h M N (fun _ _ => rfl) hI
  · cases hf

def bt_CX6_tail : bt_C := [(46, 0, 3, sX6_in), (199, 1, 3, sX6_copies), (187, 1, 2, sX6_areLeft), (196, 1, 2, sX6_ownGap), (190, 1, 3, sX6_driveOn), (146, 1, 2, sX6_pastOn)]
def sX6_tail : bt_Sp := bt_spM f_tail
set_option maxRecDepth 100000 in
theorem mX6_tail : bt_MT bt_TX6_tail bt_FX6 bt_CX6_tail 1 3 sX6_tail := by
  intro as M N Rt h P hP
  obtain ⟨t, S, r, S', rfl, hI, hf, h⟩ := bt_spM_e h
  obtain ⟨w, im, u, z, q⟩ := S
  unfold f_tail at hf
  split at hf
  · next n _ _ _ _ _ e =>
    cases e
    obtain ⟨rfl, rfl⟩ := bt_some hf
    obtain ⟨a1, a2, a3, a4, a5, a6, a7, a8, a9, a10, a11, a12, a13, a14, a15⟩ := id hI
    obtain ⟨b0, b1, b2, b3, b4, b5, b6, b7, b8, b9, b10⟩ := id a2
    obtain ⟨hw, g1, g2, g3, g4, g5, g6, r0, r1, r2, r3, r4, r5, r6, c7, c8, c9, c10, c11⟩ := id a1
    obtain ⟨f1, f2, f3, f4, f5, f6, f7, f8, f9, f10, f11, f12, f13, f14, f15, f16, f17, f18⟩ := id hw
    simp only [Nat.zero_add] at g3 g4 g5 g6 r0 r1 r2 r3 r4 r5 r6 c7 c8 c9 c10
    refine bt_go rfl hP 60 [24] P (fun _ _ _ _ _ h => h) ?_
    refine ⟨fun y => ?_, fun y => ?_⟩
    · rw [bt_bi_n0, bt_inl_c (k := 8) (show (8 : Int64) = lN 8 from rfl) (by omega)] at y
      rw [if_pos y] at h
      obtain ⟨n, hn, rfl⟩ := bt_in_e y
      rw [bt_clm (by omega)] at h
      obtain ⟨J, hJ⟩ : ∃ J, J = min n (w 12 0 - w 12 4) := ⟨_, rfl⟩
      rw [← hJ] at h
      have hh := h
      have loop : ∀ v pc L st M' N', (pc = 24 ∧ st = [] ∧ N' = N ∧ ∃ j, j ≤ J ∧ v = J - j ∧ L = [some (.ref 67), some (.int (nI n)), some (.int (nI j))] ∧ bt_tm M M' ∧ bt_mW M' 360 (bt_dn w (w 2) j)) → P pc L st M' N' := by
        refine bt_loop rfl hP 60 [24] (fun v pc L st M' N' => (pc = 24 ∧ st = [] ∧ N' = N ∧ ∃ j, j ≤ J ∧ v = J - j ∧ L = [some (.ref 67), some (.int (nI n)), some (.int (nI j))] ∧ bt_tm M M' ∧ bt_mW M' 360 (bt_dn w (w 2) j))) ?_
        rintro v pc L st M' N' ⟨rfl, rfl, hN, j, hj, rfl, rfl, t1, p1⟩
        obtain ⟨d1, d2, d3⟩ := bt_dn_12 w (w 2) j
        obtain ⟨e0, e1, e2, e3, e4, e5, e6, s0, s1, s2, s3, s4, s5, s6, s7, s8, s9, s10, s11⟩ := id p1
        rw [d2 0 (by omega) (by omega)] at e1
        rw [d1] at e5
        rw [d2 1 (by omega) (by omega)] at e2 s11
        rw [d2 0 (by omega) (by omega), d3 2 (by omega)] at s2
        have fin : j = J → Rt (some (.int ((1 : Int32) <<< (M' 67 2 &&& 31) - 1 &&& (nI (bt_mk (bt_dn w (w 2) j 11) (w 12 1)) ^^^ (-1))))) M' N' := fun e => by
          have key := hh M' (bt_tm_fx t1) (bt_tm_I hI t1)
          rw [e2, bt_ev _ (by omega), bt_notN _ (by omega) _ (bt_mk_lt (fun k => bt_wf11 e0 k) _), hN, e]
          exact key
        refine ⟨fun z1 => ?_, fun z1 => ?_⟩
        · rw [nI_leI (by omega) (by omega)] at z1
          exact ⟨360, w 12 1, _, rfl, rfl, by omega, e2, f2, fun k => bt_wf11 e0 k, s11, fin (by omega)⟩
        · rw [nI_leI (by omega) (by omega)] at z1
          refine ⟨360, w 12 4 + j, w 12 0, rfl, rfl, by omega, e5, by omega, e1, f1, ?_⟩
          by_cases hl : w 12 4 + j < w 12 0
          · rw [if_pos hl]
            refine ⟨fun z => absurd z (by decide), fun _ => ?_⟩
            refine ⟨360, w 12 4 + j, w 2 (w 12 4 + j), rfl, rfl, by omega, e5, by omega, s2 _ hl, ?_⟩
            refine ⟨360, w 2 (w 12 4 + j), _, rfl, rfl, by omega, rfl, f9 _, p1, ?_, fun M2 q1 q2 => ?_⟩
            · rw [d1, d2 0 (by omega) (by omega)]; exact hl
            · exact ⟨J - (j + 1), by omega, rfl, rfl, hN, j + 1, by omega, rfl, by rw [nI_1 j], bt_tm_fr t1 (by omega) q2, q1⟩
          · rw [if_neg hl]
            refine ⟨fun _ => ?_, fun z => absurd rfl z⟩
            exact ⟨360, w 12 1, _, rfl, rfl, by omega, e2, f2, fun k => bt_wf11 e0 k, s11, fin (by omega)⟩
      refine ⟨0, 360, rfl, rfl, by omega, rfl, by omega, by omega, fun M3 p2 p3 => ?_⟩
      exact loop _ _ _ _ _ _ ⟨rfl, rfl, rfl, 0, by omega, rfl, rfl, bt_tm_fr bt_tm_rf (by omega) p2, bt_mW_copy a1 p2.1 p3⟩
    · rw [bt_bi_0, bt_inl_c (k := 8) (show (8 : Int64) = lN 8 from rfl) (by omega)] at y
      rw [if_neg y] at h
      exact h M (fun _ _ => rfl) hI
  · cases hf

def f_drift : bt_fn := fun t S => match t, S with
  | [.int s, .int x], (w, im, u, z, q) => some (.int (if bt_in x 2 then (if x = 0 then nI (bt_st (bt_dw w s (w 12 0 - w 12 4))) else nI (bt_mk (bt_dw w s (w 12 0 - w 12 4) 11) (w 12 1))) else -1), (w, im, u, z, q))
  | _, _ => none

theorem bt_dw_12 (w : bt_W) (s : Int32) (j : Nat) : bt_dw w s j 12 4 = w 12 4 + j ∧ (∀ k, k ≠ 4 → k ≠ 5 → bt_dw w s j 12 k = w 12 k) ∧ (∀ f, f < 10 → bt_dw w s j f = w f) := bt_dn_12 w _ j

def bt_CX5_drift : bt_C := [(51, 0, 3, sX5_within), (76, 1, 2, sX4_takeFrom), (170, 1, 2, sX4_driveOne), (255, 1, 1, sX4_sumOfTimes)]
def sX5_drift : bt_Sp := bt_spC f_drift
set_option maxRecDepth 100000 in
theorem mX5_drift : bt_MT bt_TX5_drift bt_FX5 bt_CX5_drift 1 5 sX5_drift := by
  intro as M N Rt h P hP
  obtain ⟨t, S, r, S', rfl, hI, hf, h⟩ := bt_spC_e h
  obtain ⟨w, im, u, z, q⟩ := S
  unfold f_drift at hf
  split at hf
  · next s x _ _ _ _ _ e =>
    cases e
    obtain ⟨rfl, rfl⟩ := bt_some hf
    obtain ⟨a1, a2, a3, a4, a5, a6, a7, a8, a9, a10, a11, a12⟩ := id hI
    obtain ⟨b0, b1, b2, b3, b4, b5, b6, b7, b8, b9, b10⟩ := id a2
    obtain ⟨hw, h8, h9, h10, h11, h12, h13, h14, h15, h16, h17, r1, r2, r3, r4, r5, r6, r7, r8⟩ := id a1
    obtain ⟨f1, f2, f3, f4, f5, f6, f7, f8, f9, f10, f11, f12, f13, f14, f15, f16, f17, f18⟩ := id hw
    refine bt_go rfl hP 60 [33] P (fun _ _ _ _ _ h => h) ?_
    refine ⟨fun y => ?_, fun y => ?_⟩
    · rw [bt_bi_n0, bt_in_c (k := 1) (show (1 : Int32) = nI 1 from rfl) (by omega)] at y
      rw [if_pos y] at h
      have hh := h
      have loop : ∀ v pc L st M' N', (pc = 33 ∧ st = [] ∧ N' = N ∧ ∃ j, j ≤ w 12 0 - w 12 4 ∧ v = w 12 0 - w 12 4 - j ∧ L = [some (.ref 0), some (.int s), some (.int x), some (.int (bt_lsq s j)), some (.int (nI (w 12 4 + j)))] ∧ bt_tq M M' ∧ bt_cW M' 79 (bt_dw w s j)) → P pc L st M' N' := by
        refine bt_loop rfl hP 60 [33] (fun v pc L st M' N' => (pc = 33 ∧ st = [] ∧ N' = N ∧ ∃ j, j ≤ w 12 0 - w 12 4 ∧ v = w 12 0 - w 12 4 - j ∧ L = [some (.ref 0), some (.int s), some (.int x), some (.int (bt_lsq s j)), some (.int (nI (w 12 4 + j)))] ∧ bt_tq M M' ∧ bt_cW M' 79 (bt_dw w s j))) ?_
        rintro v pc L st M' N' ⟨rfl, rfl, hN, j, hj, rfl, rfl, t1, p1⟩
        obtain ⟨d1, d2, d3⟩ := bt_dw_12 w s j
        have e8 : M' 2 8 = nI (w 12 0) := by rw [t1 2 (by omega)]; exact h8
        obtain ⟨e0, k8, k9, k10, k11, k12, k13, rest⟩ := id p1
        rw [d2 1 (by omega) (by omega)] at k13
        refine ⟨fun z1 => ?_, fun z1 => ?_⟩
        · rw [e8, nI_leI (by omega) (by omega)] at z1
          have e : j = w 12 0 - w 12 4 := by omega
          have key := hh M' N' (bt_tq_fr t1) (bt_tq_I hI t1)
          rw [← e] at key
          refine ⟨fun z2 => ?_, fun z2 => ?_⟩
          · rw [if_neg z2, ← k13] at key
            exact key
          · rw [if_pos z2] at key
            exact ⟨_, Or.inr rfl, p1, key⟩
        · rw [e8, nI_leI (by omega) (by omega)] at z1
          refine ⟨by decide, ?_⟩
          refine ⟨_, bt_dg (bt_lsq s (j + 1)), Or.inr rfl, p1, by rw [d1, d2 0 (by omega) (by omega)]; omega, ?_, bt_dg_le _, fun M2 q1 q2 => ?_⟩
          · rw [bt_dg_c, bt_dg_r _ (by omega)]
            rfl
          · exact ⟨w 12 0 - w 12 4 - (j + 1), by omega, rfl, rfl, hN, j + 1, by omega, rfl, by rw [bt_nI_add3]; rfl, bt_tq_frm t1 q2, by rw [bt_dw_s]; exact q1⟩
      refine ⟨w, by unfold bt_tf; decide, a1, fun M1 c1 c2 => ?_⟩
      have t1 : bt_tq M M1 := bt_tq_out bt_tq_rf c2
      have e16 : M1 2 16 = nI (w 12 4) := by rw [t1 2 (by omega)]; exact h16
      exact loop _ _ _ _ _ _ ⟨rfl, rfl, rfl, 0, by omega, rfl, by rw [e16]; rfl, t1, c1⟩
    · rw [bt_bi_0, bt_in_c (k := 1) (show (1 : Int32) = nI 1 from rfl) (by omega)] at y
      rw [if_neg y] at h
      exact h M N (fun _ _ => rfl) hI
  · cases hf

def bt_CX6_drift : bt_C := [(46, 0, 3, sX6_in), (199, 1, 3, sX6_copies), (187, 1, 2, sX6_areLeft), (190, 1, 3, sX6_driveOn), (208, 1, 2, sX6_timesOn), (146, 1, 2, sX6_pastOn)]
def sX6_drift : bt_Sp := bt_spM f_drift
set_option maxRecDepth 100000 in
theorem mX6_drift : bt_MT bt_TX6_drift bt_FX6 bt_CX6_drift 1 4 sX6_drift := by
  intro as M N Rt h P hP
  obtain ⟨t, S, r, S', rfl, hI, hf, h⟩ := bt_spM_e h
  obtain ⟨w, im, u, z, q⟩ := S
  unfold f_drift at hf
  split at hf
  · next s x _ _ _ _ _ e =>
    cases e
    obtain ⟨rfl, rfl⟩ := bt_some hf
    obtain ⟨a1, a2, a3, a4, a5, a6, a7, a8, a9, a10, a11, a12, a13, a14, a15⟩ := id hI
    obtain ⟨b0, b1, b2, b3, b4, b5, b6, b7, b8, b9, b10⟩ := id a2
    obtain ⟨hw, g1, g2, g3, g4, g5, g6, r0, r1, r2, r3, r4, r5, r6, c7, c8, c9, c10, c11⟩ := id a1
    obtain ⟨f1, f2, f3, f4, f5, f6, f7, f8, f9, f10, f11, f12, f13, f14, f15, f16, f17, f18⟩ := id hw
    simp only [Nat.zero_add] at g3 g4 g5 g6 r0 r1 r2 r3 r4 r5 r6 c7 c8 c9 c10
    refine bt_go rfl hP 60 [22] P (fun _ _ _ _ _ h => h) ?_
    refine ⟨fun y => ?_, fun y => ?_⟩
    · rw [bt_bi_n0, bt_inl_c (k := 1) (show (1 : Int64) = lN 1 from rfl) (by omega)] at y
      rw [if_pos y] at h
      have hh := h
      have loop : ∀ v pc L st M' N', (pc = 22 ∧ st = [] ∧ N' = N ∧ ∃ j, j ≤ w 12 0 - w 12 4 ∧ v = w 12 0 - w 12 4 - j ∧ L = [some (.ref 67), some (.int s), some (.int x), some (.int (bt_lsq s j))] ∧ bt_tm M M' ∧ bt_mW M' 360 (bt_dw w s j)) → P pc L st M' N' := by
        refine bt_loop rfl hP 60 [22] (fun v pc L st M' N' => (pc = 22 ∧ st = [] ∧ N' = N ∧ ∃ j, j ≤ w 12 0 - w 12 4 ∧ v = w 12 0 - w 12 4 - j ∧ L = [some (.ref 67), some (.int s), some (.int x), some (.int (bt_lsq s j))] ∧ bt_tm M M' ∧ bt_mW M' 360 (bt_dw w s j))) ?_
        rintro v pc L st M' N' ⟨rfl, rfl, hN, j, hj, rfl, rfl, t1, p1⟩
        obtain ⟨d1, d2, d3⟩ := bt_dw_12 w s j
        obtain ⟨e0, e1, e2, e3, e4, e5, e6, s0, s1, s2, s3, s4, s5, s6, s7, s8, s9, s10, s11⟩ := id p1
        rw [d2 0 (by omega) (by omega)] at e1
        rw [d1] at e5
        rw [d2 1 (by omega) (by omega)] at e2 s11
        refine ⟨360, w 12 4 + j, w 12 0, rfl, rfl, by omega, e5, by omega, e1, f1, ?_⟩
        by_cases hl : w 12 4 + j < w 12 0
        · rw [if_pos hl]
          refine ⟨fun z => absurd z (by decide), fun _ => ⟨by decide, ?_⟩⟩
          refine ⟨360, bt_dg (bt_lsq s (j + 1)), _, rfl, rfl, by omega, ?_, bt_dg_le _, p1, ?_, fun M2 q1 q2 => ?_⟩
          · rw [bt_and15, bt_dg_r _ (by omega)]
            rfl
          · rw [d1, d2 0 (by omega) (by omega)]; exact hl
          · exact ⟨w 12 0 - w 12 4 - (j + 1), by omega, rfl, rfl, hN, j + 1, by omega, rfl, rfl, bt_tm_fr t1 (by omega) q2, by rw [bt_dw_s]; exact q1⟩
        · rw [if_neg hl]
          have e : j = w 12 0 - w 12 4 := by omega
          have key := hh M' (bt_tm_fx t1) (bt_tm_I hI t1)
          rw [← e, ← hN] at key
          refine ⟨fun _ => ?_, fun z => absurd rfl z⟩
          refine ⟨fun z2 => ?_, fun z2 => ?_⟩
          · rw [if_neg z2] at key
            exact ⟨360, w 12 1, _, rfl, rfl, by omega, e2, f2, fun k => bt_wf11 e0 k, s11, key⟩
          · rw [if_pos z2] at key
            exact ⟨360, _, rfl, rfl, by omega, p1, key⟩
      refine ⟨0, 360, rfl, rfl, by omega, rfl, by omega, by omega, fun M3 p2 p3 => ?_⟩
      exact loop _ _ _ _ _ _ ⟨rfl, rfl, rfl, 0, by omega, rfl, rfl, bt_tm_fr bt_tm_rf (by omega) p2, bt_mW_copy a1 p2.1 p3⟩
    · rw [bt_bi_0, bt_inl_c (k := 1) (show (1 : Int64) = lN 1 from rfl) (by omega)] at y
      rw [if_neg y] at h
      exact h M (fun _ _ => rfl) hI
  · cases hf
