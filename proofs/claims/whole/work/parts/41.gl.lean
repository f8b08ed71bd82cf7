/-! CALLS, BOTH SIDES: who is ahead, what is lost -/
def bt_cj (w : bt_W) (j k : Nat) : Nat := bt_cm (bt_dn w (w 2) j) (bt_dn w (w 2) j 12 4) (w 2 (w 12 4 + j)) (bt_dn w (w 2) j 11) k
def bt_ah (w : bt_W) (k : Nat) : Nat → Int32
  | 0 => -4
  | j + 1 => if bt_cj w j k = 1 then nI (w 12 4 + j) else bt_ah w k j
theorem bt_dn_11 (w : bt_W) (j k : Nat) : bt_dn w (w 2) (j + 1) 11 k = bt_dn w (w 2) j 11 k + bt_cj w j k := by
  simp [bt_dn, bt_dv, bt_cj]
theorem bt_dn_p1 {w : bt_W} {j k : Nat} (h : bt_dn w (w 2) j 11 k = 1) : ∀ d, bt_dn w (w 2) (j + d) 11 k = 1
  | 0 => h
  | d + 1 => by
    have ih := bt_dn_p1 h d
    rw [← Nat.add_assoc, bt_dn_11, ih]
    unfold bt_cj
    rw [bt_cm_ps _ _ _ _ _ ih]
theorem bt_ah_fix {w : bt_W} (hw : bt_wf w) {j k : Nat} (hj : w 12 4 + j ≤ w 12 0) (h : bt_cj w j k = 1) : ∀ d, bt_ah w k (j + 1 + d) = nI (w 12 4 + j)
  | 0 => by rw [Nat.add_zero, bt_ah, if_pos h]
  | d + 1 => by
    have h1 := bt_wf11 (bt_dn_wf (w 2) hw j hj) k
    have h0 : bt_dn w (w 2) j 11 k = 0 := by
      by_cases c : bt_dn w (w 2) j 11 k = 1
      · have := bt_cm_ps (bt_dn w (w 2) j) (bt_dn w (w 2) j 12 4) (w 2 (w 12 4 + j)) (bt_dn w (w 2) j 11) k c
        unfold bt_cj at h
        omega
      · omega
    have h2 : bt_dn w (w 2) (j + 1) 11 k = 1 := by rw [bt_dn_11, h0, h]
    have h3 := bt_dn_p1 h2 d
    have h4 : ¬ bt_cj w (j + 1 + d) k = 1 := by
      unfold bt_cj
      rw [bt_cm_ps _ _ _ _ _ h3]
      omega
    rw [← Nat.add_assoc, bt_ah, if_neg h4]
    exact bt_ah_fix hw hj h d

def f_ahead : bt_fn := fun t S => match t, S with
  | [.int k, .int x], (w, im, u, z, q) => some (.int (if (bt_in k (w 12 1) ∧ bt_in x 2) then (if x = 0 then nI (bt_de w 10 k.toNatClampNeg) else bt_ah w k.toNatClampNeg (w 12 0 - w 12 4)) else -1), (w, im, u, z, q))
  | _, _ => none

def bt_CX5_ahead : bt_C := [(136, 1, 2, sX5_isCar), (51, 0, 3, sX5_within), (76, 1, 2, sX4_takeFrom), (173, 1, 1, sX4_driveToEnd), (170, 1, 2, sX4_driveOne), (126, 0, 2, sX5_bit)]
def sX5_ahead : bt_Sp := bt_spC f_ahead
set_option maxRecDepth 100000 in
theorem mX5_ahead : bt_MT bt_TX5_ahead bt_FX5 bt_CX5_ahead 1 4 sX5_ahead := by
  intro as M N Rt h P hP
  obtain ⟨t, S, r, S', rfl, hI, hf, h⟩ := bt_spC_e h
  obtain ⟨w, im, u, z, q⟩ := S
  unfold f_ahead at hf
  split at hf
  · next k x _ _ _ _ _ e =>
    cases e
    obtain ⟨rfl, rfl⟩ := bt_some hf
    obtain ⟨a1, a2, a3, a4, a5, a6, a7, a8, a9, a10, a11, a12⟩ := id hI
    obtain ⟨b0, b1, b2, b3, b4, b5, b6, b7, b8, b9, b10⟩ := id a2
    obtain ⟨hw, h8, h9, h10, h11, h12, h13, h14, h15, h16, h17, r1, r2, r3, r4, r5, r6, r7, r8⟩ := id a1
    obtain ⟨f1, f2, f3, f4, f5, f6, f7, f8, f9, f10, f11, f12, f13, f14, f15, f16, f17, f18⟩ := id hw
    have hbad : ¬ (bt_in k (w 12 1) ∧ bt_in x 2) → Rt (some (.int (-1))) M N := fun y => by
      rw [if_neg y] at h
      exact h M N (fun _ _ => rfl) hI
    refine bt_go rfl hP 60 [60] P (fun _ _ _ _ _ h => h) ?_
    refine ⟨w 12 1, rfl, h12, f2, ⟨fun y => ?_, fun y => ⟨fun y2 => ?_, fun y2 => ?_⟩⟩⟩
    · rw [bt_bi_0] at y
      exact hbad (fun c => y c.1)
    rotate_left
    · rw [bt_bi_0, bt_in_c (k := 1) (show (1 : Int32) = nI 1 from rfl) (by omega)] at y2
      exact hbad (fun c => y2 c.2)
    · rw [bt_bi_n0] at y
      rw [bt_bi_n0, bt_in_c (k := 1) (show (1 : Int32) = nI 1 from rfl) (by omega)] at y2
      have ok : (bt_in k (w 12 1) ∧ bt_in x 2) := ⟨y, y2⟩
      rw [if_pos ok] at h
      obtain ⟨k, hk, rfl⟩ := bt_in_e y
      rw [bt_clm (by omega)] at h
      have hh := h
      have loop : ¬ x = 0 → ∀ v pc L st M' N', (pc = 60 ∧ st = [] ∧ N' = N ∧ ∃ j, j ≤ w 12 0 - w 12 4 ∧ v = w 12 0 - w 12 4 - j ∧ L = [some (.ref 0), some (.int (nI k)), some (.int x), some (.int (nI (w 12 4 + j)))] ∧ bt_tq M M' ∧ bt_cW M' 79 (bt_dn w (w 2) j) ∧ bt_ah w k j = -4) → P pc L st M' N' := by
        intro hx
        rw [if_neg hx] at hh
        refine bt_loop rfl hP 60 [60] (fun v pc L st M' N' => (pc = 60 ∧ st = [] ∧ N' = N ∧ ∃ j, j ≤ w 12 0 - w 12 4 ∧ v = w 12 0 - w 12 4 - j ∧ L = [some (.ref 0), some (.int (nI k)), some (.int x), some (.int (nI (w 12 4 + j)))] ∧ bt_tq M M' ∧ bt_cW M' 79 (bt_dn w (w 2) j) ∧ bt_ah w k j = -4)) ?_
        rintro v pc L st M' N' ⟨rfl, rfl, hN, j, hj, rfl, rfl, t1, p1, p2⟩
        obtain ⟨d1, d2, d3⟩ := bt_dn_12 w (w 2) j
        have e8 : M' 2 8 = nI (w 12 0) := by rw [t1 2 (by omega)]; exact h8
        obtain ⟨e0, k8, k9, k10, k11, k12, k13, k14, k15, k16, k17, s1, s2, s3, rest⟩ := id p1
        rw [d2 0 (by omega) (by omega), d3 2 (by omega)] at s3
        refine ⟨fun z1 => ?_, fun z1 => ?_⟩
        · rw [e8, nI_leI (by omega) (by omega)] at z1
          have e : j = w 12 0 - w 12 4 := by omega
          have key := hh M' N' (bt_tq_fr t1) (bt_tq_I hI t1)
          rw [← e, p2] at key
          exact key
        · rw [e8, nI_leI (by omega) (by omega)] at z1
          refine ⟨_, rfl, w 12 4 + j, rfl, by omega, ?_⟩
          refine ⟨_, w 2 (w 12 4 + j), Or.inr rfl, p1, by rw [d1, d2 0 (by omega) (by omega)]; omega, s3 _ (by omega), f9 _, fun M2 q1 q2 => ?_⟩
          have t2 := bt_tq_frm t1 q2
          have eb := bt_bitN (bt_cm_b1 (bt_dn w (w 2) j) (bt_dn w (w 2) j 12 4) (w 2 (w 12 4 + j)) (bt_dn w (w 2) j 11)) (n := bt_dn w (w 2) j 12 1) (k := k) (by rw [d2 1 (by omega) (by omega)]; omega) (by omega)
          rw [if_pos (by rw [d2 1 (by omega) (by omega)]; exact hk)] at eb
          have eb1 : bt_cj w j k ≤ 1 := bt_cm_b1 _ _ _ _ k
          refine ⟨fun z2 => ?_, fun z2 => ?_⟩
          · have z3 : ¬ bt_cj w j k = 1 := fun c => z2 (by rw [eb]; exact congrArg nI c)
            exact ⟨w 12 0 - w 12 4 - (j + 1), by omega, rfl, rfl, hN, j + 1, by omega, rfl, by rw [bt_nI_add3], t2, q1, by rw [bt_ah, if_neg z3]; exact p2⟩
          · have z3 : bt_cj w j k = 1 := by
              rw [eb] at z2
              exact (nI_eq (b := 1) (by have := eb1; unfold bt_cj at this; omega) (by omega)).mp z2
            have key := hh M2 N' (bt_tq_fr t2) (bt_tq_I hI t2)
            rw [show w 12 0 - w 12 4 = j + 1 + (w 12 0 - w 12 4 - (j + 1)) by omega, bt_ah_fix hw (by omega) z3] at key
            exact key
      refine ⟨w, by unfold bt_tf; decide, a1, fun M1 c1 c2 => ?_⟩
      have t1 : bt_tq M M1 := bt_tq_out bt_tq_rf c2
      have e16 : M1 2 16 = nI (w 12 4) := by rw [t1 2 (by omega)]; exact h16
      refine ⟨fun z1 => ?_, fun z1 => ?_⟩
      · exact loop z1 _ _ _ _ _ _ ⟨rfl, rfl, rfl, 0, by omega, rfl, by rw [e16]; rfl, t1, c1, rfl⟩
      · rw [if_pos z1] at h
        refine ⟨w, Or.inr rfl, c1, fun M2 d1 d2 => ?_⟩
        have t2 := bt_tq_frm t1 d2
        have e1 := bt_cW_time d1 (k := k) (by rw [bt_de_12 w 1 (by omega) (by omega)]; exact hk)
        refine ⟨_, rfl, k, rfl, by omega, ?_⟩
        have key := h M2 N (bt_tq_fr t2) (bt_tq_I hI t2)
        rw [← e1] at key
        exact key
  · cases hf

def bt_CX6_ahead : bt_C := [(153, 1, 2, sX6_isCar), (46, 0, 3, sX6_in), (199, 1, 3, sX6_copies), (187, 1, 2, sX6_areLeft), (196, 1, 2, sX6_ownGap), (190, 1, 3, sX6_driveOn)]
def sX6_ahead : bt_Sp := bt_spM f_ahead
set_option maxRecDepth 100000 in
theorem mX6_ahead : bt_MT bt_TX6_ahead bt_FX6 bt_CX6_ahead 1 6 sX6_ahead := by
  intro as M N Rt h P hP
  obtain ⟨t, S, r, S', rfl, hI, hf, h⟩ := bt_spM_e h
  obtain ⟨w, im, u, z, q⟩ := S
  unfold f_ahead at hf
  split at hf
  · next k x _ _ _ _ _ e =>
    cases e
    obtain ⟨rfl, rfl⟩ := bt_some hf
    obtain ⟨a1, a2, a3, a4, a5, a6, a7, a8, a9, a10, a11, a12, a13, a14, a15⟩ := id hI
    obtain ⟨b0, b1, b2, b3, b4, b5, b6, b7, b8, b9, b10⟩ := id a2
    obtain ⟨hw, g1, g2, g3, g4, g5, g6, r0, r1, r2, r3, r4, r5, r6, c7, c8, c9, c10, c11⟩ := id a1
    obtain ⟨f1, f2, f3, f4, f5, f6, f7, f8, f9, f10, f11, f12, f13, f14, f15, f16, f17, f18⟩ := id hw
    simp only [Nat.zero_add] at g3 g4 g5 g6 r0 r1 r2 r3 r4 r5 r6 c7 c8 c9 c10
    have hbad : ¬ (bt_in k (w 12 1) ∧ bt_in x 2) → Rt (some (.int (-1))) M N := fun y => by
      rw [if_neg y] at h
      exact h M (fun _ _ => rfl) hI
    refine bt_go rfl hP 60 [31] P (fun _ _ _ _ _ h => h) ?_
    refine ⟨w 12 1, rfl, g2, f2, ⟨fun y => ?_, fun y => ⟨fun y2 => ?_, fun y2 => ?_⟩⟩⟩
    · rw [bt_bi_0] at y
      exact hbad (fun c => y c.1)
    rotate_left
    · rw [bt_bi_0, bt_inl_c (k := 1) (show (1 : Int64) = lN 1 from rfl) (by omega)] at y2
      exact hbad (fun c => y2 c.2)
    · rw [bt_bi_n0] at y
      rw [bt_bi_n0, bt_inl_c (k := 1) (show (1 : Int64) = lN 1 from rfl) (by omega)] at y2
      have ok : (bt_in k (w 12 1) ∧ bt_in x 2) := ⟨y, y2⟩
      rw [if_pos ok] at h
      obtain ⟨k, hk, rfl⟩ := bt_in_e y
      rw [bt_clm (by omega)] at h
      have hh := h
      have loop : ∀ v pc L st M' N', (pc = 31 ∧ st = [] ∧ N' = N ∧ ∃ j y4 y5, j ≤ w 12 0 - w 12 4 ∧ v = w 12 0 - w 12 4 - j ∧ L = [some (.ref 67), some (.int (nI k)), some (.int x), some (.int (bt_ah w k j)), y4, y5] ∧ bt_tm M M' ∧ bt_mW M' 360 (bt_dn w (w 2) j)) → P pc L st M' N' := by
        refine bt_loop rfl hP 60 [31] (fun v pc L st M' N' => (pc = 31 ∧ st = [] ∧ N' = N ∧ ∃ j y4 y5, j ≤ w 12 0 - w 12 4 ∧ v = w 12 0 - w 12 4 - j ∧ L = [some (.ref 67), some (.int (nI k)), some (.int x), some (.int (bt_ah w k j)), y4, y5] ∧ bt_tm M M' ∧ bt_mW M' 360 (bt_dn w (w 2) j))) ?_
        rintro v pc L st M' N' ⟨rfl, rfl, hN, j, y4, y5, hj, rfl, rfl, t1, p1⟩
        obtain ⟨d1, d2, d3⟩ := bt_dn_12 w (w 2) j
        obtain ⟨e0, e1, e2, e3, e4, e5, e6, s0, s1, s2, s3, s4, s5, s6, s7, s8, s9, s10, s11⟩ := id p1
        rw [d2 0 (by omega) (by omega)] at e1
        rw [d1] at e5
        rw [d2 1 (by omega) (by omega)] at s10
        rw [d2 0 (by omega) (by omega), d3 2 (by omega)] at s2
        refine ⟨360, w 12 4 + j, w 12 0, rfl, rfl, by omega, e5, by omega, e1, f1, ?_⟩
        by_cases hl : w 12 4 + j < w 12 0
        · rw [if_pos hl]
          refine ⟨fun z => absurd z (by decide), fun _ => ?_⟩
          refine ⟨_, rfl, 360 + 88, rfl, by omega, ?_⟩
          refine ⟨360, w 12 4 + j, w 2 (w 12 4 + j), rfl, rfl, by omega, e5, by omega, s2 _ hl, ?_⟩
          refine ⟨360, w 2 (w 12 4 + j), _, rfl, rfl, by omega, rfl, f9 _, p1, ?_, fun M2 q1 q2 => ?_⟩
          · rw [d1, d2 0 (by omega) (by omega)]; exact hl
          · have eb := bt_bitN (bt_cm_b1 (bt_dn w (w 2) j) (bt_dn w (w 2) j 12 4) (w 2 (w 12 4 + j)) (bt_dn w (w 2) j 11)) (n := bt_dn w (w 2) j 12 1) (k := k) (by rw [d2 1 (by omega) (by omega)]; omega) (by omega)
            rw [if_pos (by rw [d2 1 (by omega) (by omega)]; exact hk)] at eb
            have eb1 : bt_cj w j k ≤ 1 := bt_cm_b1 _ _ _ _ k
            refine ⟨fun z2 => ?_, fun z2 => ?_⟩
            · have z3 : ¬ bt_cj w j k = 1 := fun c => z2 (by rw [eb]; exact congrArg nI c)
              have ea : bt_ah w k (j + 1) = bt_ah w k j := by rw [bt_ah, if_neg z3]
              exact ⟨w 12 0 - w 12 4 - (j + 1), by omega, rfl, rfl, hN, j + 1, _, _, by omega, rfl, by rw [ea], bt_tm_fr t1 (by omega) q2, q1⟩
            · have z3 : bt_cj w j k = 1 := by
                rw [eb] at z2
                exact (nI_eq (b := 1) (by have := eb1; unfold bt_cj at this; omega) (by omega)).mp z2
              have ea : bt_ah w k (j + 1) = nI (w 12 4 + j) := by rw [bt_ah, if_pos z3]
              exact ⟨w 12 0 - w 12 4 - (j + 1), by omega, rfl, rfl, hN, j + 1, _, _, by omega, rfl, by rw [ea, ← e5], bt_tm_fr t1 (by omega) q2, q1⟩
        · rw [if_neg hl]
          have e : j = w 12 0 - w 12 4 := by omega
          have key := hh M' (bt_tm_fx t1) (bt_tm_I hI t1)
          unfold bt_de at key
          rw [← e, ← hN] at key
          refine ⟨fun _ => ?_, fun z => absurd rfl z⟩
          refine ⟨fun z2 => ?_, fun z2 => ?_⟩
          · rw [if_neg z2] at key
            exact key
          · rw [if_pos z2, ← s10 k hk] at key
            exact ⟨_, rfl, 360 + 58 + 5 * k + 3, by simp only [bt_lit, pk_mul, nI_add], by omega, key⟩
      refine ⟨0, 360, rfl, rfl, by omega, rfl, by omega, by omega, fun M3 p2 p3 => ?_⟩
      exact loop _ _ _ _ _ _ ⟨rfl, rfl, rfl, 0, none, none, by omega, rfl, rfl, bt_tm_fr bt_tm_rf (by omega) p2, bt_mW_copy a1 p2.1 p3⟩
  · cases hf
