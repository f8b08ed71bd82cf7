/-! CALLS, BOTH SIDES: what is lost -/
def bt_wa (w : bt_W) : bt_W := fun f k => if f = 11 then 1 else w f k
def bt_s9 (w : bt_W) : Nat → Nat
  | 0 => 0
  | k + 1 => bt_s9 w k + w 9 k
theorem bt_wa_n (w : bt_W) {f : Nat} (h : f ≠ 11) : bt_wa w f = w f := by
  funext k
  simp [bt_wa, h]
theorem bt_wa_wf {w : bt_W} (h : bt_wf w) : bt_wf (bt_wa w) := by
  obtain ⟨f1, f2, f3, f4, f5, f6, f7, f8, f9, f10, f11, f12, f13, f14, f15, f16, f17, f18⟩ := h
  unfold bt_wf
  rw [bt_wa_n w (f := 12) (by omega), bt_wa_n w (f := 0) (by omega), bt_wa_n w (f := 1) (by omega), bt_wa_n w (f := 2) (by omega), bt_wa_n w (f := 3) (by omega), bt_wa_n w (f := 4) (by omega), bt_wa_n w (f := 5) (by omega), bt_wa_n w (f := 6) (by omega), bt_wa_n w (f := 7) (by omega), bt_wa_n w (f := 8) (by omega), bt_wa_n w (f := 9) (by omega), bt_wa_n w (f := 10) (by omega)]
  exact ⟨f1, f2, f3, f4, f5, f6, f7, f8, f9, f10, f11, f12, f13, f14, f15, f16, f17, fun k => by simp [bt_wa]⟩
theorem bt_cW_all {M M' : bt_M} {c : Nat} {w : bt_W} (hw : bt_cW M c w) (h1 : ∀ x : Nat, x ≠ c → M' x = M x) (h2 : ∀ i, i ≠ 13 → M' c i = M c i) (h3 : M' c 13 = nI (2 ^ w 12 1 - 1)) : bt_cW M' c (bt_wa w) := by
  obtain ⟨hf, g8, g9, g10, g11, g12, g13, g14, g15, g16, g17, r1, r2, r3, r4, r5, r6, r7, r8⟩ := hw
  unfold bt_cW
  rw [bt_wa_n w (f := 12) (by omega), bt_wa_n w (f := 0) (by omega), bt_wa_n w (f := 1) (by omega), bt_wa_n w (f := 2) (by omega), bt_wa_n w (f := 3) (by omega), bt_wa_n w (f := 4) (by omega), bt_wa_n w (f := 5) (by omega), bt_wa_n w (f := 6) (by omega), bt_wa_n w (f := 7) (by omega), bt_wa_n w (f := 8) (by omega), bt_wa_n w (f := 9) (by omega), bt_wa_n w (f := 10) (by omega)]
  have e11 : bt_wa w 11 = fun _ => 1 := by
    funext k
    simp [bt_wa]
  rw [e11, bt_mk_1, h2 8 (by omega), h2 9 (by omega), h2 10 (by omega), h2 11 (by omega), h2 12 (by omega), h2 14 (by omega), h2 15 (by omega), h2 16 (by omega), h2 17 (by omega), h1 (c + 1) (by omega), h1 (c + 2) (by omega), h1 (c + 3) (by omega), h1 (c + 4) (by omega), h1 (c + 5) (by omega), h1 (c + 6) (by omega), h1 (c + 7) (by omega), h1 (c + 8) (by omega)]
  exact ⟨bt_wa_wf hf, g8, g9, g10, g11, g12, h3, g14, g15, g16, g17, r1, r2, r3, r4, r5, r6, r7, r8⟩
theorem bt_dn_all (w : bt_W) (gf : Nat → Nat) : ∀ j k, bt_dn (bt_wa w) gf j 11 k = 1 ∧ bt_dn (bt_wa w) gf j 10 k = w 10 k + bt_ml w (w 12 4) j * w 9 k
  | 0, k => by simp [bt_dn, bt_wa, bt_ml]
  | j + 1, k => by
    obtain ⟨h1, h2⟩ := bt_dn_all w gf j k
    obtain ⟨d1, d2, d3⟩ := bt_dn_12 (bt_wa w) gf j
    have e12 : bt_wa w 12 = w 12 := bt_wa_n w (by omega)
    have hc := bt_cm_ps (bt_dn (bt_wa w) gf j) (bt_dn (bt_wa w) gf j 12 4) (gf (bt_wa w 12 4 + j)) (bt_dn (bt_wa w) gf j 11) k h1
    constructor
    · show bt_dn (bt_wa w) gf j 11 k + bt_cm (bt_dn (bt_wa w) gf j) (bt_dn (bt_wa w) gf j 12 4) (gf (bt_wa w 12 4 + j)) (bt_dn (bt_wa w) gf j 11) k = 1
      rw [h1, hc]
    · show bt_dn (bt_wa w) gf j 10 k + bt_mn (bt_dn (bt_wa w) gf j) (bt_dn (bt_wa w) gf j 12 4) k (bt_dn (bt_wa w) gf j 11 k + bt_cm (bt_dn (bt_wa w) gf j) (bt_dn (bt_wa w) gf j 12 4) (gf (bt_wa w 12 4 + j)) (bt_dn (bt_wa w) gf j 11) k) = _
      rw [h1, hc, h2, d1, e12]
      unfold bt_mn
      rw [if_pos rfl, d3 0 (by omega), d3 9 (by omega), bt_wa_n w (by omega), bt_wa_n w (by omega), bt_ml, Nat.add_mul, Nat.add_assoc]
theorem bt_sumk_all (w v : bt_W) (a : Nat) (h : ∀ k, v 10 k = w 10 k + a * w 9 k) : ∀ m, bt_sumk v m = bt_sumk w m + a * bt_s9 w m
  | 0 => by simp [bt_sumk, bt_s9]
  | m + 1 => by
    rw [bt_sumk, bt_sumk, bt_s9, bt_sumk_all w v a h m, h m, Nat.mul_add]
    omega
theorem bt_st_all (w : bt_W) : bt_st (bt_de (bt_wa w)) = bt_st w + bt_ml w (w 12 4) (w 12 0 - w 12 4) * bt_s9 w (w 12 1) := by
  have e12 : bt_wa w 12 = w 12 := bt_wa_n w (by omega)
  unfold bt_st
  rw [bt_de_12 _ 1 (by omega) (by omega), e12]
  apply bt_sumk_all
  intro k
  unfold bt_de
  rw [e12]
  exact (bt_dn_all w _ _ k).2
theorem bt_subsub (a b c : Int32) : a - b - c = a - (b + c) := by
  apply Int32.toBitVec_inj.mp
  simp only [Int32.toBitVec_sub, Int32.toBitVec_add]
  rw [BitVec.sub_eq_add_neg, BitVec.sub_eq_add_neg, BitVec.sub_eq_add_neg, BitVec.neg_add, BitVec.sub_eq_add_neg, BitVec.add_assoc]
theorem bt_mW_pace {M : bt_M} {p k : Nat} {w : bt_W} (h : bt_mW M p w) (hk : k < w 12 1) : M 68 (p + 58 + 5 * k + 2) = nI (w 9 k) := by
  obtain ⟨hf, g1, g2, g3, g4, g5, g6, r0, r1, r2, r3, r4, r5, r6, c7, c8, c9, c10, c11⟩ := h
  exact c9 k hk

def f_lost : bt_fn := fun t S => match t, S with
  | [], (w, im, u, z, q) => some (.int (nI (bt_st (bt_de w)) - nI (bt_st (bt_de (bt_wa w)))), (w, im, u, z, q))
  | _, _ => none

def bt_CX5_lost : bt_C := [(76, 1, 2, sX4_takeFrom), (184, 1, 1, sX4_everybody), (173, 1, 1, sX4_driveToEnd)]
def sX5_lost : bt_Sp := bt_spC f_lost
set_option maxRecDepth 100000 in
theorem mX5_lost : bt_MT bt_TX5_lost bt_FX5 bt_CX5_lost 1 2 sX5_lost := by
  intro as M N Rt h P hP
  obtain ⟨t, S, r, S', rfl, hI, hf, h⟩ := bt_spC_e h
  obtain ⟨w, im, u, z, q⟩ := S
  unfold f_lost at hf
  split at hf
  · next _ _ _ _ _ e =>
    cases e
    obtain ⟨rfl, rfl⟩ := bt_some hf
    obtain ⟨a1, a2, a3, a4, a5, a6, a7, a8, a9, a10, a11, a12⟩ := id hI
    obtain ⟨b0, b1, b2, b3, b4, b5, b6, b7, b8, b9, b10⟩ := id a2
    obtain ⟨hw, h8, h9, h10, h11, h12, h13, h14, h15, h16, h17, r1, r2, r3, r4, r5, r6, r7, r8⟩ := id a1
    obtain ⟨f1, f2, f3, f4, f5, f6, f7, f8, f9, f10, f11, f12, f13, f14, f15, f16, f17, f18⟩ := id hw
    refine bt_go0 rfl hP 60 ?_
    refine ⟨w, by unfold bt_tf; decide, a1, fun M1 c1 c2 => ?_⟩
    have t1 : bt_tq M M1 := bt_tq_out bt_tq_rf c2
    refine ⟨w 12 1, Or.inr rfl, c1.2.2.2.2.2.1, f2, ?_⟩
    intro M2 e2
    have t2 : bt_tq M M2 := by rw [e2]; exact bt_tq_up t1 (by omega) (by omega)
    have p2 : bt_cW M2 79 (bt_wa w) := bt_cW_all c1 (fun x hx => by rw [e2, bt_up_n hx]) (fun i hi => by rw [e2, bt_up_s, pk_un hi]) (by rw [e2, bt_up_s]; exact pk_us)
    refine ⟨_, Or.inr rfl, p2, fun M3 q1 q2 => ?_⟩
    have t3 := bt_tq_frm t2 q2
    refine ⟨w, by unfold bt_tf; decide, bt_tq_live t3 a1, fun M4 c3 c4 => ?_⟩
    have t4 := bt_tq_out t3 c4
    refine ⟨_, Or.inr rfl, c3, fun M5 q3 q4 => ?_⟩
    have t5 := bt_tq_frm t4 q4
    exact h M5 N (bt_tq_fr t5) (bt_tq_I hI t5)
  · cases hf

def bt_CX6_lost : bt_C := [(205, 1, 2, sX6_triesFrom), (208, 1, 2, sX6_timesOn), (211, 1, 1, sX6_milesLeft)]
def sX6_lost : bt_Sp := bt_spM f_lost
set_option maxRecDepth 100000 in
theorem mX6_lost : bt_MT bt_TX6_lost bt_FX6 bt_CX6_lost 1 3 sX6_lost := by
  intro as M N Rt h P hP
  obtain ⟨t, S, r, S', rfl, hI, hf, h⟩ := bt_spM_e h
  obtain ⟨w, im, u, z, q⟩ := S
  unfold f_lost at hf
  split at hf
  · next _ _ _ _ _ e =>
    cases e
    obtain ⟨rfl, rfl⟩ := bt_some hf
    obtain ⟨a1, a2, a3, a4, a5, a6, a7, a8, a9, a10, a11, a12, a13, a14, a15⟩ := id hI
    obtain ⟨b0, b1, b2, b3, b4, b5, b6, b7, b8, b9, b10⟩ := id a2
    obtain ⟨hw, g1, g2, g3, g4, g5, g6, r0, r1, r2, r3, r4, r5, r6, c7, c8, c9, c10, c11⟩ := id a1
    obtain ⟨f1, f2, f3, f4, f5, f6, f7, f8, f9, f10, f11, f12, f13, f14, f15, f16, f17, f18⟩ := id hw
    simp only [Nat.zero_add] at g3 g4 g5 g6 r0 r1 r2 r3 r4 r5 r6 c7 c8 c9 c10
    rw [bt_st_all] at h
    refine bt_go rfl hP 60 [21] P (fun _ _ _ _ _ h => h) ?_
    refine ⟨0, w, rfl, rfl, by omega, a1, fun M1 d2 d1 => ?_⟩
    have t1 : bt_tm M M1 := bt_tm_fr bt_tm_rf (by omega) d2
    have l1 := bt_tm_live t1 a1
    refine ⟨360, _, rfl, rfl, by omega, d1, ?_⟩
    refine ⟨0, w, rfl, rfl, by omega, l1, ?_⟩
    have key := h M1 (bt_tm_fx t1) (bt_tm_I hI t1)
    have loop : ∀ v pc L st M' N', (pc = 21 ∧ st = [] ∧ N' = N ∧ ∃ k, k ≤ w 12 1 ∧ v = w 12 1 - k ∧ L = [some (.ref 67), some (.int (nI (bt_st (bt_de w)) - nI (bt_st w + bt_ml w (w 12 4) (w 12 0 - w 12 4) * bt_s9 w k))), some (.int (nI k))] ∧ M' = M1) → P pc L st M' N' := by
      refine bt_loop rfl hP 60 [21] (fun v pc L st M' N' => (pc = 21 ∧ st = [] ∧ N' = N ∧ ∃ k, k ≤ w 12 1 ∧ v = w 12 1 - k ∧ L = [some (.ref 67), some (.int (nI (bt_st (bt_de w)) - nI (bt_st w + bt_ml w (w 12 4) (w 12 0 - w 12 4) * bt_s9 w k))), some (.int (nI k))] ∧ M' = M1)) ?_
      rintro v pc L st M' N' ⟨rfl, rfl, hN, k, hk, rfl, rfl, hM⟩
      subst hM
      refine ⟨fun z1 => ?_, fun z1 => ?_⟩
      · rw [l1.2.2.1, nI_leI (by omega) (by omega)] at z1
        have e : k = w 12 1 := by omega
        rw [e, hN]
        exact key
      · rw [l1.2.2.1, nI_leI (by omega) (by omega)] at z1
        refine ⟨w, rfl, l1, ?_⟩
        have e9 := bt_mW_pace l1 (k := k) (by omega)
        refine ⟨_, rfl, 0 + 58 + 5 * k + 2, by rw [Nat.zero_add]; simp only [bt_lit, pk_mul, nI_add], by omega, ?_⟩
        refine ⟨w 12 1 - (k + 1), by omega, rfl, rfl, hN, k + 1, by omega, rfl, ?_, rfl⟩
        rw [e9, pk_mul, bt_subsub, nI_add, nI_1 k, bt_s9, Nat.mul_add, ← Nat.add_assoc]
    exact loop _ _ _ _ _ _ ⟨rfl, rfl, rfl, 0, by omega, rfl, by rw [bt_s9, Nat.mul_zero, Nat.add_zero]; rfl, rfl⟩
  · cases hf
