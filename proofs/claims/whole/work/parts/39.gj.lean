/-! CALLS, BOTH SIDES: what a car would need, a fair least -/
def bt_nef (w : bt_W) (k : Nat) : Nat → Nat → Int32
  | 0, _ => -4
  | r + 1, n => if bt_de (bt_w1 w 8 k n) 11 k = 0 then nI n else bt_nef w k r (n + 1)
theorem bt_w1_w1 (w : bt_W) (f k a b : Nat) : bt_w1 (bt_w1 w f k a) f k b = bt_w1 w f k b := by
  funext f' k'
  unfold bt_w1
  by_cases h : f' = f ∧ k' = k
  · rw [if_pos h, if_pos h]
  · rw [if_neg h, if_neg h, if_neg h]
theorem bt_cW_pe {M : bt_M} {c : Nat} {w : bt_W} (h : bt_cW M c w) : bt_wf w := h.1
theorem bt_wf11 {w : bt_W} (h : bt_wf w) (k : Nat) : w 11 k ≤ 1 := h.2.2.2.2.2.2.2.2.2.2.2.2.2.2.2.2.2 k

def f_need : bt_fn := fun t S => match t, S with
  | [.int k], (w, im, u, z, q) => some (.int (if bt_in k (w 12 1) then (if w 11 k.toNatClampNeg = 1 then -2 else bt_nef w k.toNatClampNeg 9 1) else -1), (w, im, u, z, q))
  | _, _ => none

def bt_CX5_need : bt_C := [(136, 1, 2, sX5_isCar), (126, 0, 2, sX5_bit), (76, 1, 2, sX4_takeFrom), (173, 1, 1, sX4_driveToEnd)]
def sX5_need : bt_Sp := bt_spC f_need
set_option maxRecDepth 100000 in
theorem mX5_need : bt_MT bt_TX5_need bt_FX5 bt_CX5_need 1 3 sX5_need := by
  intro as M N Rt h P hP
  obtain ⟨t, S, r, S', rfl, hI, hf, h⟩ := bt_spC_e h
  obtain ⟨w, im, u, z, q⟩ := S
  unfold f_need at hf
  split at hf
  · next k _ _ _ _ _ e =>
    cases e
    obtain ⟨rfl, rfl⟩ := bt_some hf
    obtain ⟨a1, a2, a3, a4, a5, a6, a7, a8, a9, a10, a11, a12⟩ := id hI
    obtain ⟨b0, b1, b2, b3, b4, b5, b6, b7, b8, b9, b10⟩ := id a2
    obtain ⟨hw, h8, h9, h10, h11, h12, h13, h14, h15, h16, h17, r1, r2, r3, r4, r5, r6, r7, r8⟩ := id a1
    obtain ⟨f1, f2, f3, f4, f5, f6, f7, f8, f9, f10, f11, f12, f13, f14, f15, f16, f17, f18⟩ := id hw
    refine bt_go rfl hP 60 [30] P (fun _ _ _ _ _ h => h) ?_
    refine ⟨w 12 1, rfl, h12, f2, ⟨fun y => ?_, fun y => ?_⟩⟩
    · rw [bt_bi_n0] at y
      rw [if_pos y] at h
      obtain ⟨k, hk, rfl⟩ := bt_in_e y
      rw [bt_clm (by omega)] at h
      have e0 := bt_cW_past a1 hk
      have k1 := bt_wf11 hw k
      have loop : ¬ w 11 k = 1 → ∀ v pc L st M' N', (pc = 30 ∧ st = [] ∧ N' = N ∧ ∃ n, 1 ≤ n ∧ n ≤ 10 ∧ v = 10 - n ∧ L = [some (.ref 0), some (.int (nI k)), some (.int (nI n))] ∧ bt_tq M M' ∧ bt_nef w k (10 - n) n = bt_nef w k 9 1) → P pc L st M' N' := by
        intro hk1
        rw [if_neg hk1] at h
        have hh := h
        refine bt_loop rfl hP 60 [30] (fun v pc L st M' N' => (pc = 30 ∧ st = [] ∧ N' = N ∧ ∃ n, 1 ≤ n ∧ n ≤ 10 ∧ v = 10 - n ∧ L = [some (.ref 0), some (.int (nI k)), some (.int (nI n))] ∧ bt_tq M M' ∧ bt_nef w k (10 - n) n = bt_nef w k 9 1)) ?_
        rintro v pc L st M' N' ⟨rfl, rfl, rfl, n, n1, n2, rfl, rfl, t1, p1⟩
        refine ⟨fun z1 => ?_, fun z1 => ?_⟩
        · rw [bt_lit, nI_ltI (by omega) (by omega)] at z1
          have e : 10 - n = 0 := by omega
          rw [e] at p1
          rw [← p1] at hh
          exact hh M' N' (bt_tq_fr t1) (bt_tq_I hI t1)
        · rw [bt_lit, nI_ltI (by omega) (by omega)] at z1
          obtain ⟨r, hr⟩ : ∃ r, 10 - n = r + 1 := ⟨9 - n, by omega⟩
          rw [hr, bt_nef] at p1
          refine ⟨w, by unfold bt_tf; decide, bt_tq_live t1 a1, fun M1 c1 c2 => ?_⟩
          have t2 := bt_tq_out t1 c2
          refine ⟨_, rfl, k, rfl, by omega, fun M4 e4 => ?_⟩
          have t4 : bt_tq M M4 := by rw [e4]; exact bt_tq_up t2 (by omega) (by omega)
          have p4 : bt_cW M4 79 (bt_w1 w 8 k n) := bt_cW_row (f := 8) (r := 6) c1 (show n ≤ 9 by omega) (by omega) (fun x hx => by rw [e4, bt_up_n hx]) (fun i => by
            rw [e4, bt_up_s]
            by_cases hi : i = k
            · rw [hi, pk_us, if_pos rfl]
            · rw [pk_un hi, if_neg hi])
          refine ⟨_, Or.inr rfl, p4, fun M6 q1 q2 => ?_⟩
          have t6 := bt_tq_frm t4 q2
          have e6 := bt_cW_past q1 (k := k) (by rw [bt_de_12 _ 1 (by omega) (by omega), bt_w1_n (by omega)]; exact hk)
          have k6 := bt_wf11 q1.1 k
          refine ⟨fun z2 => ?_, fun z2 => ?_⟩
          · have z3 : ¬ bt_de (bt_w1 w 8 k n) 11 k = 0 := fun c => z2 (by rw [e6, c]; rfl)
            rw [if_neg z3] at p1
            exact ⟨10 - (n + 1), by omega, rfl, rfl, rfl, n + 1, by omega, by omega, rfl, by rw [nI_1 n], t6, by rw [show 10 - (n + 1) = r by omega]; exact p1⟩
          · have z3 : bt_de (bt_w1 w 8 k n) 11 k = 0 := by
              rw [e6] at z2
              exact (bt_z01 k6).mp z2
            rw [if_pos z3] at p1
            rw [← p1] at hh
            exact hh M6 N' (bt_tq_fr t6) (bt_tq_I hI t6)
      refine ⟨fun z1 => ?_, fun z1 => ?_⟩
      · have hk1 : ¬ w 11 k = 1 := fun c => z1 (by rw [e0, c]; rfl)
        exact loop hk1 _ _ _ _ _ _ ⟨rfl, rfl, rfl, 1, by omega, by omega, rfl, rfl, bt_tq_rf, rfl⟩
      · have hk1 : w 11 k = 1 := by
          rw [e0] at z1
          exact (nI_eq (b := 1) (by omega) (by omega)).mp z1
        rw [if_pos hk1] at h
        exact h M N (fun _ _ => rfl) hI
    · rw [bt_bi_0] at y
      rw [if_neg y] at h
      exact h M N (fun _ _ => rfl) hI
  · cases hf

def bt_CX6_need : bt_C := [(153, 1, 2, sX6_isCar), (139, 1, 3, sX6_isPast), (199, 1, 3, sX6_copies), (205, 1, 2, sX6_triesFrom)]
def sX6_need : bt_Sp := bt_spM f_need
set_option maxRecDepth 100000 in
theorem mX6_need : bt_MT bt_TX6_need bt_FX6 bt_CX6_need 1 3 sX6_need := by
  intro as M N Rt h P hP
  obtain ⟨t, S, r, S', rfl, hI, hf, h⟩ := bt_spM_e h
  obtain ⟨w, im, u, z, q⟩ := S
  unfold f_need at hf
  split at hf
  · next k _ _ _ _ _ e =>
    cases e
    obtain ⟨rfl, rfl⟩ := bt_some hf
    obtain ⟨a1, a2, a3, a4, a5, a6, a7, a8, a9, a10, a11, a12, a13, a14, a15⟩ := id hI
    obtain ⟨b0, b1, b2, b3, b4, b5, b6, b7, b8, b9, b10⟩ := id a2
    obtain ⟨hw, g1, g2, g3, g4, g5, g6, r0, r1, r2, r3, r4, r5, r6, c7, c8, c9, c10, c11⟩ := id a1
    obtain ⟨f1, f2, f3, f4, f5, f6, f7, f8, f9, f10, f11, f12, f13, f14, f15, f16, f17, f18⟩ := id hw
    simp only [Nat.zero_add] at g3 g4 g5 g6 r0 r1 r2 r3 r4 r5 r6 c7 c8 c9 c10
    refine bt_go rfl hP 60 [32] P (fun _ _ _ _ _ h => h) ?_
    refine ⟨w 12 1, rfl, g2, f2, ⟨fun y => ?_, fun y => ?_⟩⟩
    · rw [bt_bi_n0] at y
      rw [if_pos y] at h
      obtain ⟨k, hk, rfl⟩ := bt_in_e y
      rw [bt_clm (by omega)] at h
      have k1 := bt_wf11 hw k
      have loop : ¬ w 11 k = 1 → ∀ v pc L st M' N', (pc = 32 ∧ st = [] ∧ N' = N ∧ ∃ n w', 1 ≤ n ∧ n ≤ 10 ∧ v = 10 - n ∧ L = [some (.ref 67), some (.int (nI k)), some (.int (nI n))] ∧ bt_tm M M' ∧ bt_mW M' 450 w' ∧ (∀ a, bt_w1 w' 8 k a = bt_w1 w 8 k a) ∧ bt_nef w k (10 - n) n = bt_nef w k 9 1) → P pc L st M' N' := by
        intro hk1
        rw [if_neg hk1] at h
        refine bt_loop rfl hP 60 [32] (fun v pc L st M' N' => (pc = 32 ∧ st = [] ∧ N' = N ∧ ∃ n w', 1 ≤ n ∧ n ≤ 10 ∧ v = 10 - n ∧ L = [some (.ref 67), some (.int (nI k)), some (.int (nI n))] ∧ bt_tm M M' ∧ bt_mW M' 450 w' ∧ (∀ a, bt_w1 w' 8 k a = bt_w1 w 8 k a) ∧ bt_nef w k (10 - n) n = bt_nef w k 9 1)) ?_
        rintro v pc L st M' N' ⟨rfl, rfl, rfl, n, w', n1, n2, rfl, rfl, t1, c1, ew, p1⟩
        refine ⟨fun z1 => ?_, fun z1 => ?_⟩
        · rw [bt_lit, nI_ltI (by omega) (by omega)] at z1
          have e : 10 - n = 0 := by omega
          rw [e] at p1
          rw [← p1] at h
          exact h M' (bt_tm_fx t1) (bt_tm_I hI t1)
        · rw [bt_lit, nI_ltI (by omega) (by omega)] at z1
          obtain ⟨r, hr⟩ : ∃ r, 10 - n = r + 1 := ⟨9 - n, by omega⟩
          rw [hr, bt_nef] at p1
          refine ⟨_, rfl, 450 + 58 + 5 * k + 1, by simp only [bt_lit, pk_mul, nI_add], by omega, fun M4 e4 => ?_⟩
          have t4 : bt_tm M M4 := by rw [e4]; exact bt_tm_up t1 (by omega)
          have p4 : bt_mW M4 450 (bt_w1 w' 8 k n) := bt_mW_car (f := 8) c1 (by omega) (by omega) (by omega) (show n ≤ 9 by omega) (fun x hx => by rw [e4, bt_up_n hx]) (fun j hj => by rw [e4, bt_up_s, pk_un (by omega)]) (by rw [e4, bt_up_s]; exact pk_us)
          rw [ew n] at p4
          refine ⟨450, _, rfl, rfl, by omega, p4, fun M6 q2 q1 => ?_⟩
          have t6 := bt_tm_fr t4 (by omega) q2
          have p6 : bt_mW M6 450 (bt_w1 w 8 k n) := bt_mW_fr p4 q2 (by omega)
          have e6 := bt_mW_past q1 (k := k) (by rw [bt_de_12 _ 1 (by omega) (by omega), bt_w1_n (by omega)]; exact hk)
          have k6 := bt_wf11 q1.1 k
          refine ⟨360, k, _, rfl, rfl, rfl, by omega, e6, k6, ⟨fun z2 => ?_, fun z2 => ?_⟩⟩
          · have z3 : ¬ bt_de (bt_w1 w 8 k n) 11 k = 0 := fun c => z2 (by rw [c]; rfl)
            rw [if_neg z3] at p1
            exact ⟨10 - (n + 1), by omega, rfl, rfl, rfl, n + 1, _, by omega, by omega, rfl, by rw [nI_1 n], t6, p6, fun a => bt_w1_w1 w 8 k n a, by rw [show 10 - (n + 1) = r by omega]; exact p1⟩
          · have z3 : bt_de (bt_w1 w 8 k n) 11 k = 0 := (bt_z01 k6).mp z2
            rw [if_pos z3] at p1
            rw [← p1] at h
            exact h M6 (bt_tm_fx t6) (bt_tm_I hI t6)
      refine ⟨0, k, _, rfl, rfl, rfl, by omega, bt_mW_past a1 hk, k1, ⟨fun z1 => ?_, fun z1 => ?_⟩⟩
      · have hk1 : ¬ w 11 k = 1 := fun c => by rw [c] at z1; exact absurd z1 (by decide)
        refine ⟨0, 450, rfl, rfl, by omega, rfl, by omega, by omega, fun M3 p2 p3 => ?_⟩
        exact loop hk1 _ _ _ _ _ _ ⟨rfl, rfl, rfl, 1, w, by omega, by omega, rfl, rfl, bt_tm_fr bt_tm_rf (by omega) p2, bt_mW_copy a1 p2.1 p3, fun _ => rfl, rfl⟩
      · have hk1 : w 11 k = 1 := by
          have : ¬ w 11 k = 0 := fun c => z1 (by rw [c]; rfl)
          omega
        rw [if_pos hk1] at h
        exact h M (fun _ _ => rfl) hI
    · rw [bt_bi_0] at y
      rw [if_neg y] at h
      exact h M (fun _ _ => rfl) hI
  · cases hf

def bt_ff (w : bt_W) : Nat → Nat × Nat
  | 0 => (0, 0)
  | n + 1 => if n = 0 ∨ bt_st (bt_de (bt_w1 w 12 3 n)) < (bt_ff w n).2 then (n, bt_st (bt_de (bt_w1 w 12 3 n))) else bt_ff w n
theorem bt_st_le {w : bt_W} (h : bt_wf w) : bt_st w ≤ 3888 := by
  have := bt_sumk_le h (w 12 1)
  have := h.2.1
  unfold bt_st
  omega
theorem bt_de_wf {w : bt_W} (h : bt_wf w) : bt_wf (bt_de w) := bt_dn_wf _ h _ (by have := h.2.2.1; omega)
theorem bt_ff_le {w : bt_W} (h : bt_wf w) : ∀ n, n ≤ 7 → (bt_ff w n).1 ≤ 6 ∧ (bt_ff w n).2 ≤ 3888
  | 0, _ => by simp [bt_ff]
  | n + 1, hn => by
    have ih := bt_ff_le h n (by omega)
    have := bt_st_le (bt_de_wf (bt_wf_le h (v := n) (by omega)))
    simp only [bt_ff]
    split
    · exact ⟨by omega, this⟩
    · exact ih

def f_fair : bt_fn := fun t S => match t, S with
  | [.int x], (w, im, u, z, q) => some (.int (if bt_in x 2 then (if x = 0 then nI (bt_ff w 7).1 else nI (bt_ff w 7).2) else -1), (w, im, u, z, q))
  | _, _ => none

def bt_CX5_fair : bt_C := [(51, 0, 3, sX5_within), (76, 1, 2, sX4_takeFrom), (173, 1, 1, sX4_driveToEnd)]
def sX5_fair : bt_Sp := bt_spC f_fair
set_option maxRecDepth 100000 in
theorem mX5_fair : bt_MT bt_TX5_fair bt_FX5 bt_CX5_fair 1 6 sX5_fair := by
  intro as M N Rt h P hP
  obtain ⟨t, S, r, S', rfl, hI, hf, h⟩ := bt_spC_e h
  obtain ⟨w, im, u, z, q⟩ := S
  unfold f_fair at hf
  split at hf
  · next x _ _ _ _ _ e =>
    cases e
    obtain ⟨rfl, rfl⟩ := bt_some hf
    obtain ⟨a1, a2, a3, a4, a5, a6, a7, a8, a9, a10, a11, a12⟩ := id hI
    obtain ⟨b0, b1, b2, b3, b4, b5, b6, b7, b8, b9, b10⟩ := id a2
    obtain ⟨hw, h8, h9, h10, h11, h12, h13, h14, h15, h16, h17, r1, r2, r3, r4, r5, r6, r7, r8⟩ := id a1
    obtain ⟨f1, f2, f3, f4, f5, f6, f7, f8, f9, f10, f11, f12, f13, f14, f15, f16, f17, f18⟩ := id hw
    refine bt_go rfl hP 60 [18] P (fun _ _ _ _ _ h => h) ?_
    refine ⟨fun y => ?_, fun y => ?_⟩
    · rw [bt_bi_n0, bt_in_c (k := 1) (show (1 : Int32) = nI 1 from rfl) (by omega)] at y
      rw [if_pos y] at h
      have hh := h
      have loop : ∀ v pc L st M' N', (pc = 18 ∧ st = [] ∧ N' = N ∧ ∃ n y, n ≤ 7 ∧ v = 7 - n ∧ L = [some (.ref 0), some (.int x), some (.int (nI (bt_ff w n).1)), some (.int (nI (bt_ff w n).2)), some (.int (nI n)), y] ∧ bt_tq M M') → P pc L st M' N' := by
        refine bt_loop rfl hP 60 [18] (fun v pc L st M' N' => (pc = 18 ∧ st = [] ∧ N' = N ∧ ∃ n y, n ≤ 7 ∧ v = 7 - n ∧ L = [some (.ref 0), some (.int x), some (.int (nI (bt_ff w n).1)), some (.int (nI (bt_ff w n).2)), some (.int (nI n)), y] ∧ bt_tq M M')) ?_
        rintro v pc L st M' N' ⟨rfl, rfl, rfl, n, yy, n2, rfl, rfl, t1⟩
        refine ⟨fun z1 => ?_, fun z1 => ?_⟩
        · rw [bt_lit, nI_ltI (by omega) (by omega)] at z1
          have e : n = 7 := by omega
          subst e
          refine ⟨fun z2 => ?_, fun z2 => ?_⟩
          · rw [if_neg z2] at hh
            exact hh M' N' (bt_tq_fr t1) (bt_tq_I hI t1)
          · rw [if_pos z2] at hh
            exact hh M' N' (bt_tq_fr t1) (bt_tq_I hI t1)
        · rw [bt_lit, nI_ltI (by omega) (by omega)] at z1
          refine ⟨w, by unfold bt_tf; decide, bt_tq_live t1 a1, fun M1 c1 c2 => ?_⟩
          have t2 := bt_tq_out t1 c2
          intro M4 e4
          have t4 : bt_tq M M4 := by rw [e4]; exact bt_tq_up t2 (by omega) (by omega)
          have p4 : bt_cW M4 79 (bt_w1 w 12 3 n) := bt_cW_le c1 (by omega) (fun x hx => by rw [e4, bt_up_n hx]) (fun i hi => by rw [e4, bt_up_s, pk_un hi]) (by rw [e4, bt_up_s]; exact pk_us)
          refine ⟨_, Or.inr rfl, p4, fun M6 q1 q2 => ?_⟩
          have t6 := bt_tq_frm t4 q2
          have l1 := bt_ff_le hw n (by omega)
          have l2 := bt_st_le q1.1
          refine ⟨fun z2 => ?_, fun z2 => ⟨fun z3 => ?_, fun z3 => ?_⟩⟩
          · have z3 : n = 0 := (nI_eq (b := 0) (by omega) (by omega)).mp z2
            have e : bt_ff w (n + 1) = (n, bt_st (bt_de (bt_w1 w 12 3 n))) := by rw [bt_ff, if_pos (Or.inl z3)]
            exact ⟨7 - (n + 1), by omega, rfl, rfl, rfl, n + 1, _, by omega, rfl, by rw [e, nI_1 n], t6⟩
          · rw [nI_leI (by omega) (by omega)] at z3
            have z4 : ¬ n = 0 := fun c => z2 (by rw [c]; rfl)
            have e : bt_ff w (n + 1) = bt_ff w n := by rw [bt_ff, if_neg (by omega)]
            exact ⟨7 - (n + 1), by omega, rfl, rfl, rfl, n + 1, _, by omega, rfl, by rw [e, nI_1 n], t6⟩
          · rw [nI_leI (by omega) (by omega)] at z3
            have e : bt_ff w (n + 1) = (n, bt_st (bt_de (bt_w1 w 12 3 n))) := by rw [bt_ff, if_pos (Or.inr (by omega))]
            exact ⟨7 - (n + 1), by omega, rfl, rfl, rfl, n + 1, _, by omega, rfl, by rw [e, nI_1 n], t6⟩
      exact loop _ _ _ _ _ _ ⟨rfl, rfl, rfl, 0, none, by omega, rfl, rfl, bt_tq_rf⟩
    · rw [bt_bi_0, bt_in_c (k := 1) (show (1 : Int32) = nI 1 from rfl) (by omega)] at y
      rw [if_neg y] at h
      exact h M N (fun _ _ => rfl) hI
  · cases hf

def bt_CX6_fair : bt_C := [(46, 0, 3, sX6_in), (199, 1, 3, sX6_copies), (205, 1, 2, sX6_triesFrom), (208, 1, 2, sX6_timesOn)]
def sX6_fair : bt_Sp := bt_spM f_fair
set_option maxRecDepth 100000 in
theorem mX6_fair : bt_MT bt_TX6_fair bt_FX6 bt_CX6_fair 1 6 sX6_fair := by
  intro as M N Rt h P hP
  obtain ⟨t, S, r, S', rfl, hI, hf, h⟩ := bt_spM_e h
  obtain ⟨w, im, u, z, q⟩ := S
  unfold f_fair at hf
  split at hf
  · next x _ _ _ _ _ e =>
    cases e
    obtain ⟨rfl, rfl⟩ := bt_some hf
    obtain ⟨a1, a2, a3, a4, a5, a6, a7, a8, a9, a10, a11, a12, a13, a14, a15⟩ := id hI
    obtain ⟨b0, b1, b2, b3, b4, b5, b6, b7, b8, b9, b10⟩ := id a2
    obtain ⟨hw, g1, g2, g3, g4, g5, g6, r0, r1, r2, r3, r4, r5, r6, c7, c8, c9, c10, c11⟩ := id a1
    obtain ⟨f1, f2, f3, f4, f5, f6, f7, f8, f9, f10, f11, f12, f13, f14, f15, f16, f17, f18⟩ := id hw
    simp only [Nat.zero_add] at g3 g4 g5 g6 r0 r1 r2 r3 r4 r5 r6 c7 c8 c9 c10
    refine bt_go rfl hP 60 [28] P (fun _ _ _ _ _ h => h) ?_
    refine ⟨fun y => ?_, fun y => ?_⟩
    · rw [bt_bi_n0, bt_inl_c (k := 1) (show (1 : Int64) = lN 1 from rfl) (by omega)] at y
      rw [if_pos y] at h
      have loop : ∀ v pc L st M' N', (pc = 28 ∧ st = [] ∧ N' = N ∧ ∃ n y w', n ≤ 7 ∧ v = 7 - n ∧ L = [some (.ref 67), some (.int x), some (.int (nI (bt_ff w n).2)), some (.int (if n = 0 then -4 else nI (bt_ff w n).1)), some (.int (nI n)), y] ∧ bt_tm M M' ∧ bt_mW M' 450 w' ∧ ∀ a, bt_w1 w' 12 3 a = bt_w1 w 12 3 a) → P pc L st M' N' := by
        refine bt_loop rfl hP 60 [28] (fun v pc L st M' N' => (pc = 28 ∧ st = [] ∧ N' = N ∧ ∃ n y w', n ≤ 7 ∧ v = 7 - n ∧ L = [some (.ref 67), some (.int x), some (.int (nI (bt_ff w n).2)), some (.int (if n = 0 then -4 else nI (bt_ff w n).1)), some (.int (nI n)), y] ∧ bt_tm M M' ∧ bt_mW M' 450 w' ∧ ∀ a, bt_w1 w' 12 3 a = bt_w1 w 12 3 a)) ?_
        rintro v pc L st M' N' ⟨rfl, rfl, hN, n, yy, w', n2, rfl, rfl, t1, c1, ew⟩
        subst hN
        have l1 := bt_ff_le hw n (by omega)
        refine ⟨fun z1 => ?_, fun z1 => ?_⟩
        · rw [bt_lit, nI_ltI (by omega) (by omega)] at z1
          have e : n = 7 := by omega
          subst e
          have hh := h M' (bt_tm_fx t1) (bt_tm_I hI t1)
          refine ⟨fun z2 => ?_, fun z2 => ?_⟩
          · rw [if_neg z2] at hh
            exact hh
          · rw [if_pos z2] at hh
            exact hh
        · rw [bt_lit, nI_ltI (by omega) (by omega)] at z1
          refine ⟨_, rfl, 507, rfl, by omega, fun M4 e4 => ?_⟩
          have t4 : bt_tm M M4 := by rw [e4]; exact bt_tm_up t1 (by omega)
          have p4 : bt_mW M4 450 (bt_w1 w' 12 3 n) := bt_mW_le c1 (by omega) (fun x hx => by rw [e4, bt_up_n hx]) (fun j hj => by rw [e4, bt_up_s, pk_un (by omega)]) (by rw [e4, bt_up_s]; exact pk_us)
          rw [ew n] at p4
          refine ⟨450, _, rfl, rfl, by omega, p4, fun M6 q2 q1 => ?_⟩
          have t6 := bt_tm_fr t4 (by omega) q2
          have p6 : bt_mW M6 450 (bt_w1 w 12 3 n) := bt_mW_fr p4 q2 (by omega)
          have l2 := bt_st_le q1.1
          have n4 : ¬ n = 0 → ¬ (if n = 0 then (-4 : Int32) else nI (bt_ff w n).1) = -4 := fun c => by
            rw [if_neg c]
            have : ∀ a, a < 7 → ¬ nI a = -4 := by decide
            exact this _ (by omega)
          refine ⟨fun z2 => ?_, fun z2 => ⟨360, _, rfl, rfl, by omega, q1, ⟨fun z3 => ?_, fun z3 => ?_⟩⟩⟩
          · have z3 : n = 0 := by
              by_cases c : n = 0
              · exact c
              · exact absurd z2 (n4 c)
            have e : bt_ff w (n + 1) = (n, bt_st (bt_de (bt_w1 w 12 3 n))) := by rw [bt_ff, if_pos (Or.inl z3)]
            refine ⟨fun c => absurd c (by decide), fun _ => ⟨fun c => absurd c (by decide), fun _ => ⟨360, _, rfl, rfl, by omega, q1, ?_⟩⟩⟩
            exact ⟨7 - (n + 1), by omega, rfl, rfl, rfl, n + 1, _, _, by omega, rfl, by rw [e, nI_1 n, if_neg (show ¬ n + 1 = 0 by omega)], t6, p6, fun a => bt_w1_w1 w 12 3 n a⟩
          · rw [nI_leI (by omega) (by omega)] at z3
            have z4 : ¬ n = 0 := fun c => z2 (by rw [if_pos c])
            have e : bt_ff w (n + 1) = bt_ff w n := by rw [bt_ff, if_neg (by omega)]
            refine ⟨fun _ => ⟨fun _ => ?_, fun c => absurd rfl c⟩, fun c => absurd rfl c⟩
            exact ⟨7 - (n + 1), by omega, rfl, rfl, rfl, n + 1, _, _, by omega, rfl, by rw [if_neg z4, e, nI_1 n, if_neg (show ¬ n + 1 = 0 by omega)], t6, p6, fun a => bt_w1_w1 w 12 3 n a⟩
          · rw [nI_leI (by omega) (by omega)] at z3
            have z4 : ¬ n = 0 := fun c => z2 (by rw [if_pos c])
            have e : bt_ff w (n + 1) = (n, bt_st (bt_de (bt_w1 w 12 3 n))) := by rw [bt_ff, if_pos (Or.inr (by omega))]
            refine ⟨fun c => absurd c (by decide), fun _ => ⟨fun c => absurd c (by decide), fun _ => ⟨360, _, rfl, rfl, by omega, q1, ?_⟩⟩⟩
            exact ⟨7 - (n + 1), by omega, rfl, rfl, rfl, n + 1, _, _, by omega, rfl, by rw [e, nI_1 n, if_neg (show ¬ n + 1 = 0 by omega)], t6, p6, fun a => bt_w1_w1 w 12 3 n a⟩
      refine ⟨0, 450, rfl, rfl, by omega, rfl, by omega, by omega, fun M3 p2 p3 => ?_⟩
      exact loop _ _ _ _ _ _ ⟨rfl, rfl, rfl, 0, none, w, by omega, rfl, rfl, bt_tm_fr bt_tm_rf (by omega) p2, bt_mW_copy a1 p2.1 p3, fun _ => rfl⟩
    · rw [bt_bi_0, bt_inl_c (k := 1) (show (1 : Int64) = lN 1 from rfl) (by omega)] at y
      rw [if_neg y] at h
      exact h M (fun _ _ => rfl) hI
  · cases hf
