/-! CALLS, BOTH SIDES: the best place of a third lane, of a lay by -/
def bt_w3 (w : bt_W) (t i : Nat) : bt_W := if t = 6 then bt_w1 w 6 i 1 else bt_w1 (bt_w1 w 5 i 1) 12 3 1
def bt_sv (w : bt_W) (t i : Nat) : Int32 := nI (bt_st (bt_de w)) - nI (bt_st (bt_de (bt_w3 w t i)))
def bt_bp (w : bt_W) (t : Nat) : Nat → Int32 × Int32
  | 0 => (-4, 0)
  | j + 1 => if w t (w 12 4 + j) = 1 then bt_bp w t j else if bt_sv w t (w 12 4 + j) ≤ (bt_bp w t j).2 then bt_bp w t j else (nI (w 12 4 + j), bt_sv w t (w 12 4 + j))
def bt_br (w : bt_W) (t : Nat) (x : Int32) : Int32 := if x = 0 ∨ (bt_bp w t (w 12 0 - w 12 4)).1 = -4 then (bt_bp w t (w 12 0 - w 12 4)).1 else (bt_bp w t (w 12 0 - w 12 4)).2
theorem bt_w1_id (w : bt_W) (f k : Nat) : bt_w1 w f k (w f k) = w := by
  funext f' k'
  unfold bt_w1
  by_cases h : f' = f ∧ k' = k
  · rw [if_pos h, h.1, h.2]
  · rw [if_neg h]
theorem bt_br_p {w : bt_W} {t j : Nat} {x : Int32} (e : j = w 12 0 - w 12 4) (h : x = 0 ∨ (bt_bp w t j).1 = -4) : bt_br w t x = (bt_bp w t j).1 := by
  unfold bt_br
  rw [← e, if_pos h]
theorem bt_br_s {w : bt_W} {t j : Nat} {x : Int32} (e : j = w 12 0 - w 12 4) (h1 : ¬ x = 0) (h2 : ¬ (bt_bp w t j).1 = -4) : bt_br w t x = (bt_bp w t j).2 := by
  unfold bt_br
  rw [← e, if_neg (fun c => c.elim h1 h2)]
theorem bt_bp_k {w : bt_W} {t j : Nat} (h1 : ¬ w t (w 12 4 + j) = 1) (h2 : bt_sv w t (w 12 4 + j) ≤ (bt_bp w t j).2) : bt_bp w t (j + 1) = bt_bp w t j := by
  rw [bt_bp, if_neg h1, if_pos h2]
theorem bt_bp_n {w : bt_W} {t j : Nat} (h1 : ¬ w t (w 12 4 + j) = 1) (h2 : ¬ bt_sv w t (w 12 4 + j) ≤ (bt_bp w t j).2) : bt_bp w t (j + 1) = (nI (w 12 4 + j), bt_sv w t (w 12 4 + j)) := by
  rw [bt_bp, if_neg h1, if_neg h2]
def bt_CX5_bestPlace : bt_C := [(76, 1, 2, sX4_takeFrom), (173, 1, 1, sX4_driveToEnd), (126, 0, 2, sX5_bit), (162, 0, 3, sX5_withBit)]
def sX5_bestPlace : bt_Sp := fun as M N K => match as with
  | [.ref c, .int b, .int x] => ∃ w, c = 0 ∧ bt_cW M 2 w ∧ ∀ M', bt_tq M M' → K (some (.int (bt_br w (if b = 0 then 5 else 6) x))) M' N
  | _ => False

set_option maxRecDepth 100000 in
theorem mX5_bestPlace : bt_MT bt_TX5_bestPlace bt_FX5 bt_CX5_bestPlace 1 8 sX5_bestPlace := by
  intro as M N Rt h P hP
  unfold sX5_bestPlace at h
  split at h
  · next c0 b x =>
    obtain ⟨w, rfl, a1, h⟩ := h
    obtain ⟨hw, h8, h9, h10, h11, h12, h13, h14, h15, h16, h17, r1, r2, r3, r4, r5, r6, r7, r8⟩ := id a1
    obtain ⟨f1, f2, f3, f4, f5, f6, f7, f8, f9, f10, f11, f12, f13, f14, f15, f16, f17, f18⟩ := id hw
    obtain ⟨t, ht⟩ : ∃ t, t = if b = 0 then 5 else 6 := ⟨_, rfl⟩
    rw [← ht] at h
    have hh := h
    have loop : ∀ v pc L st M' N', (pc = 35 ∧ st = [] ∧ N' = N ∧ ∃ j y, j ≤ w 12 0 - w 12 4 ∧ v = w 12 0 - w 12 4 - j ∧ L = [some (.ref 0), some (.int b), some (.int x), some (.int (nI (bt_st (bt_de w)))), some (.int (bt_bp w t j).1), some (.int (bt_bp w t j).2), some (.int (nI (w 12 4 + j))), y] ∧ bt_tq M M') → P pc L st M' N' := by
      refine bt_loop rfl hP 90 [35] (fun v pc L st M' N' => (pc = 35 ∧ st = [] ∧ N' = N ∧ ∃ j y, j ≤ w 12 0 - w 12 4 ∧ v = w 12 0 - w 12 4 - j ∧ L = [some (.ref 0), some (.int b), some (.int x), some (.int (nI (bt_st (bt_de w)))), some (.int (bt_bp w t j).1), some (.int (bt_bp w t j).2), some (.int (nI (w 12 4 + j))), y] ∧ bt_tq M M')) ?_
      rintro v pc L st M' N' ⟨rfl, rfl, hN, j, yy, hj, rfl, rfl, t1⟩
      have e8 : M' 2 8 = nI (w 12 0) := by rw [t1 2 (by omega)]; exact h8
      have e10 : M' 2 10 = nI (bt_mk (w 5) (w 12 0)) := by rw [t1 2 (by omega)]; exact h10
      have e11 : M' 2 11 = nI (bt_mk (w 6) (w 12 0)) := by rw [t1 2 (by omega)]; exact h11
      refine ⟨fun z1 => ?_, fun z1 => ?_⟩
      · rw [e8, nI_leI (by omega) (by omega)] at z1
        have e : j = w 12 0 - w 12 4 := by omega
        have key := hh M' t1
        rw [← hN] at key
        refine ⟨fun z2 => ?_, fun z2 => ⟨fun z3 => ?_, fun z3 => ?_⟩⟩
        · rw [bt_br_p e (Or.inl z2)] at key
          exact key
        · rw [bt_br_s e z2 z3] at key
          exact key
        · rw [bt_br_p e (Or.inr z3)] at key
          exact key
      · rw [e8, nI_leI (by omega) (by omega)] at z1
        have skip : w t (w 12 4 + j) = 1 → bt_bp w t (j + 1) = bt_bp w t j := fun c => by rw [bt_bp, if_pos c]
        have nI1 : ∀ a : Nat, a ≤ 1 → (nI a = 1 ↔ a = 1) := by
          intro a ha
          exact ⟨fun c => (nI_eq (b := 1) (by omega) (by omega)).mp c, fun c => by rw [c]; rfl⟩
        refine ⟨fun z2 => ?_, fun z2 => ?_⟩
        · rw [if_pos z2] at ht
          subst ht
          have eb := bt_bitN f12 (n := w 12 0) (k := w 12 4 + j) (by omega) (by omega)
          rw [if_pos (by omega), ← e10] at eb
          refine ⟨fun z3 => ?_, fun z3 => ?_⟩
          · have z4 : ¬ w 5 (w 12 4 + j) = 1 := fun c => z3 (by rw [eb, c]; rfl)
            refine ⟨w, by unfold bt_tf; decide, bt_tq_live t1 a1, fun M1 c1 c2 => ?_⟩
            have t2 := bt_tq_out t1 c2
            refine ⟨fun _ => ?_, fun c => absurd z2 c⟩
            intro M2 e2
            have t3 : bt_tq M M2 := by rw [e2]; exact bt_tq_up t2 (by omega) (by omega)
            have sb := bt_setb f12 (n := w 12 0) (i := w 12 4 + j) (by omega) (by omega) 1
            have p2 : bt_cW M2 79 (bt_w1 w 5 (w 12 4 + j) 1) := bt_cW_mask (f := 5) (s := 10) c1 (by omega) (by omega) (fun x hx => by rw [e2, bt_up_n hx]) (fun i hi => by rw [e2, bt_up_s, pk_un hi]) (by rw [e2, bt_up_s, pk_us, c1.2.2.2.1]; exact sb)
            intro M3 e3
            have t4 : bt_tq M M3 := by rw [e3]; exact bt_tq_up t3 (by omega) (by omega)
            have p3 : bt_cW M3 79 (bt_w3 w 5 (w 12 4 + j)) := bt_cW_le p2 (by omega) (fun x hx => by rw [e3, bt_up_n hx]) (fun i hi => by rw [e3, bt_up_s, pk_un hi]) (by rw [e3, bt_up_s]; exact pk_us)
            refine ⟨_, Or.inr rfl, p3, fun M4 q1 q2 => ?_⟩
            have t5 := bt_tq_frm t4 q2
            refine ⟨fun z5 => ?_, fun z5 => ?_⟩
            · have e : bt_bp w 5 (j + 1) = bt_bp w 5 j := bt_bp_k z4 z5
              exact ⟨w 12 0 - w 12 4 - (j + 1), by omega, rfl, rfl, hN, j + 1, _, by omega, rfl, by rw [e, bt_nI_add3], t5⟩
            · have e : bt_bp w 5 (j + 1) = (nI (w 12 4 + j), bt_sv w 5 (w 12 4 + j)) := bt_bp_n z4 z5
              exact ⟨w 12 0 - w 12 4 - (j + 1), by omega, rfl, rfl, hN, j + 1, _, by omega, rfl, by rw [e, bt_nI_add3]; rfl, t5⟩
          · have z4 : w 5 (w 12 4 + j) = 1 := by
              rw [eb, nI1 _ (f12 _)] at z3
              exact z3
            exact ⟨w 12 0 - w 12 4 - (j + 1), by omega, rfl, rfl, hN, j + 1, _, by omega, rfl, by rw [skip z4, bt_nI_add3], t1⟩
        · rw [if_neg z2] at ht
          subst ht
          have eb := bt_bitN f13 (n := w 12 0) (k := w 12 4 + j) (by omega) (by omega)
          rw [if_pos (by omega), ← e11] at eb
          refine ⟨fun z3 => ?_, fun z3 => ?_⟩
          · have z4 : ¬ w 6 (w 12 4 + j) = 1 := fun c => z3 (by rw [eb, c]; rfl)
            refine ⟨w, by unfold bt_tf; decide, bt_tq_live t1 a1, fun M1 c1 c2 => ?_⟩
            have t2 := bt_tq_out t1 c2
            refine ⟨fun c => absurd c z2, fun _ => ?_⟩
            intro M2 e2
            have t3 : bt_tq M M2 := by rw [e2]; exact bt_tq_up t2 (by omega) (by omega)
            have sb := bt_setb f13 (n := w 12 0) (i := w 12 4 + j) (by omega) (by omega) 1
            have p2 : bt_cW M2 79 (bt_w3 w 6 (w 12 4 + j)) := bt_cW_mask (f := 6) (s := 11) c1 (by omega) (by omega) (fun x hx => by rw [e2, bt_up_n hx]) (fun i hi => by rw [e2, bt_up_s, pk_un hi]) (by rw [e2, bt_up_s, pk_us, c1.2.2.2.2.1]; exact sb)
            refine ⟨_, Or.inr rfl, p2, fun M4 q1 q2 => ?_⟩
            have t5 := bt_tq_frm t3 q2
            refine ⟨fun z5 => ?_, fun z5 => ?_⟩
            · have e : bt_bp w 6 (j + 1) = bt_bp w 6 j := bt_bp_k z4 z5
              exact ⟨w 12 0 - w 12 4 - (j + 1), by omega, rfl, rfl, hN, j + 1, _, by omega, rfl, by rw [e, bt_nI_add3], t5⟩
            · have e : bt_bp w 6 (j + 1) = (nI (w 12 4 + j), bt_sv w 6 (w 12 4 + j)) := bt_bp_n z4 z5
              exact ⟨w 12 0 - w 12 4 - (j + 1), by omega, rfl, rfl, hN, j + 1, _, by omega, rfl, by rw [e, bt_nI_add3]; rfl, t5⟩
          · have z4 : w 6 (w 12 4 + j) = 1 := by
              rw [eb, nI1 _ (f13 _)] at z3
              exact z3
            exact ⟨w 12 0 - w 12 4 - (j + 1), by omega, rfl, rfl, hN, j + 1, _, by omega, rfl, by rw [skip z4, bt_nI_add3], t1⟩
    refine bt_go rfl hP 60 [35] P (fun _ _ _ _ _ h => h) ?_
    refine ⟨w, by unfold bt_tf; decide, a1, fun M1 c1 c2 => ?_⟩
    have t1 : bt_tq M M1 := bt_tq_out bt_tq_rf c2
    refine ⟨_, Or.inr rfl, c1, fun M4 q1 q2 => ?_⟩
    have t5 := bt_tq_frm t1 q2
    have e16 : M4 2 16 = nI (w 12 4) := by rw [t5 2 (by omega)]; exact h16
    exact loop _ _ _ _ _ _ ⟨rfl, rfl, rfl, 0, none, by omega, rfl, by rw [e16]; rfl, t5⟩
  · exact False.elim h

def f_third : bt_fn := fun t S => match t, S with
  | [.int x], (w, im, u, z, q) => some (.int (if bt_in x 2 then bt_br w 6 x else -1), (w, im, u, z, q))
  | _, _ => none

def bt_CX5_third : bt_C := [(51, 0, 3, sX5_within), (214, 1, 3, sX5_bestPlace)]
def sX5_third : bt_Sp := bt_spC f_third
set_option maxRecDepth 100000 in
theorem mX5_third : bt_MT bt_TX5_third bt_FX5 bt_CX5_third 1 2 sX5_third := by
  intro as M N Rt h P hP
  obtain ⟨t, S, r, S', rfl, hI, hf, h⟩ := bt_spC_e h
  obtain ⟨w, im, u, z, q⟩ := S
  unfold f_third at hf
  split at hf
  · next x _ _ _ _ _ e =>
    cases e
    obtain ⟨rfl, rfl⟩ := bt_some hf
    obtain ⟨a1, a2, a3, a4, a5, a6, a7, a8, a9, a10, a11, a12⟩ := id hI
    obtain ⟨b0, b1, b2, b3, b4, b5, b6, b7, b8, b9, b10⟩ := id a2
    obtain ⟨hw, h8, h9, h10, h11, h12, h13, h14, h15, h16, h17, r1, r2, r3, r4, r5, r6, r7, r8⟩ := id a1
    obtain ⟨f1, f2, f3, f4, f5, f6, f7, f8, f9, f10, f11, f12, f13, f14, f15, f16, f17, f18⟩ := id hw
    refine bt_go0 rfl hP 60 ?_
    refine ⟨fun y => ?_, fun y => ?_⟩
    · rw [bt_bi_0, bt_in_c (k := 1) (show (1 : Int32) = nI 1 from rfl) (by omega)] at y
      rw [if_neg y] at h
      exact h M N (fun _ _ => rfl) hI
    · rw [bt_bi_n0, bt_in_c (k := 1) (show (1 : Int32) = nI 1 from rfl) (by omega)] at y
      rw [if_pos y] at h
      exact ⟨w, rfl, a1, fun M' t => h M' N (bt_tq_fr t) (bt_tq_I hI t)⟩
  · cases hf

def f_layby : bt_fn := fun t S => match t, S with
  | [.int x], (w, im, u, z, q) => some (.int (if bt_in x 2 then bt_br w 5 x else -1), (w, im, u, z, q))
  | _, _ => none

def bt_CX5_layby : bt_C := [(51, 0, 3, sX5_within), (214, 1, 3, sX5_bestPlace)]
def sX5_layby : bt_Sp := bt_spC f_layby
set_option maxRecDepth 100000 in
theorem mX5_layby : bt_MT bt_TX5_layby bt_FX5 bt_CX5_layby 1 2 sX5_layby := by
  intro as M N Rt h P hP
  obtain ⟨t, S, r, S', rfl, hI, hf, h⟩ := bt_spC_e h
  obtain ⟨w, im, u, z, q⟩ := S
  unfold f_layby at hf
  split at hf
  · next x _ _ _ _ _ e =>
    cases e
    obtain ⟨rfl, rfl⟩ := bt_some hf
    obtain ⟨a1, a2, a3, a4, a5, a6, a7, a8, a9, a10, a11, a12⟩ := id hI
    obtain ⟨b0, b1, b2, b3, b4, b5, b6, b7, b8, b9, b10⟩ := id a2
    obtain ⟨hw, h8, h9, h10, h11, h12, h13, h14, h15, h16, h17, r1, r2, r3, r4, r5, r6, r7, r8⟩ := id a1
    obtain ⟨f1, f2, f3, f4, f5, f6, f7, f8, f9, f10, f11, f12, f13, f14, f15, f16, f17, f18⟩ := id hw
    refine bt_go0 rfl hP 60 ?_
    refine ⟨fun y => ?_, fun y => ?_⟩
    · rw [bt_bi_0, bt_in_c (k := 1) (show (1 : Int32) = nI 1 from rfl) (by omega)] at y
      rw [if_neg y] at h
      exact h M N (fun _ _ => rfl) hI
    · rw [bt_bi_n0, bt_in_c (k := 1) (show (1 : Int32) = nI 1 from rfl) (by omega)] at y
      rw [if_pos y] at h
      exact ⟨w, rfl, a1, fun M' t => h M' N (bt_tq_fr t) (bt_tq_I hI t)⟩
  · cases hf

theorem bt_mW_st5 {M : bt_M} {i : Nat} {w : bt_W} (h : bt_mW M 0 w) (hi : i < w 12 0) : M 68 (7 * i + 5) = nI (w 5 i) := by
  obtain ⟨hf, g1, g2, g3, g4, g5, g6, r0, r1, r2, r3, r4, r5, r6, c7, c8, c9, c10, c11⟩ := h
  have := r5 i hi
  rw [Nat.zero_add] at this
  exact this
theorem bt_mW_st6 {M : bt_M} {i : Nat} {w : bt_W} (h : bt_mW M 0 w) (hi : i < w 12 0) : M 68 (7 * i + 6) = nI (w 6 i) := by
  obtain ⟨hf, g1, g2, g3, g4, g5, g6, r0, r1, r2, r3, r4, r5, r6, c7, c8, c9, c10, c11⟩ := h
  have := r6 i hi
  rw [Nat.zero_add] at this
  exact this
def bt_CX6_mostSaved : bt_C := [(205, 1, 2, sX6_triesFrom), (208, 1, 2, sX6_timesOn), (199, 1, 3, sX6_copies)]
def sX6_mostSaved : bt_Sp := fun as M N K => match as with
  | [.ref c, .int t, .int x] => ∃ w t', c = 67 ∧ t = nI t' ∧ (t' = 5 ∨ t' = 6) ∧ bt_mW M 0 w ∧ ∀ M', bt_tm M M' → K (some (.int (bt_br w t' x))) M' N
  | _ => False
set_option maxRecDepth 100000 in
theorem mX6_mostSaved : bt_MT bt_TX6_mostSaved bt_FX6 bt_CX6_mostSaved 1 8 sX6_mostSaved := by
  intro as M N Rt h P hP
  unfold sX6_mostSaved at h
  split at h
  · next c0 t0 x =>
    obtain ⟨w, t, rfl, rfl, ht, a1, h⟩ := h
    obtain ⟨hw, g1, g2, g3, g4, g5, g6, r0, r1, r2, r3, r4, r5, r6, c7, c8, c9, c10, c11⟩ := id a1
    obtain ⟨f1, f2, f3, f4, f5, f6, f7, f8, f9, f10, f11, f12, f13, f14, f15, f16, f17, f18⟩ := id hw
    have hh := h
    have loop : ∀ v pc L st M' N', (pc = 29 ∧ st = [] ∧ N' = N ∧ ∃ j y, j ≤ w 12 0 - w 12 4 ∧ v = w 12 0 - w 12 4 - j ∧ L = [some (.ref 67), some (.int (nI t)), some (.int x), some (.int (nI (bt_st (bt_de w)))), some (.int (bt_bp w t j).2), some (.int (bt_bp w t j).1), some (.int (nI (w 12 4 + j))), y] ∧ bt_tm M M') → P pc L st M' N' := by
      refine bt_loop rfl hP 90 [29] (fun v pc L st M' N' => (pc = 29 ∧ st = [] ∧ N' = N ∧ ∃ j y, j ≤ w 12 0 - w 12 4 ∧ v = w 12 0 - w 12 4 - j ∧ L = [some (.ref 67), some (.int (nI t)), some (.int x), some (.int (nI (bt_st (bt_de w)))), some (.int (bt_bp w t j).2), some (.int (bt_bp w t j).1), some (.int (nI (w 12 4 + j))), y] ∧ bt_tm M M')) ?_
      rintro v pc L st M' N' ⟨rfl, rfl, hN, j, yy, hj, rfl, rfl, t1⟩
      have l1 := bt_tm_live t1 a1
      have e1 : M' 67 1 = nI (w 12 0) := l1.2.1
      refine ⟨fun z1 => ?_, fun z1 => ?_⟩
      · rw [e1, nI_leI (by omega) (by omega)] at z1
        have e : j = w 12 0 - w 12 4 := by omega
        have key := hh M' t1
        rw [← hN] at key
        refine ⟨fun z2 => ?_, fun z2 => ⟨fun z3 => ?_, fun z3 => ?_⟩⟩
        · rw [bt_br_p e (Or.inr z2)] at key
          exact key
        · rw [bt_br_s e z3 z2] at key
          exact key
        · rw [bt_br_p e (Or.inl z3)] at key
          exact key
      · rw [e1, nI_leI (by omega) (by omega)] at z1
        have skip : w t (w 12 4 + j) = 1 → bt_bp w t (j + 1) = bt_bp w t j := fun c => by rw [bt_bp, if_pos c]
        rcases ht with rfl | rfl
        · have ec := bt_mW_st5 l1 (i := w 12 4 + j) (by omega)
          have eb := f12 (w 12 4 + j)
          refine ⟨_, rfl, 7 * (w 12 4 + j) + 5, by simp only [bt_lit, pk_mul, nI_add], by omega, ⟨fun z2 => ?_, fun z2 => ?_⟩⟩
          · have z4 : w 5 (w 12 4 + j) = 1 := by
              have : ¬ w 5 (w 12 4 + j) = 0 := fun c => z2 (by rw [ec, c]; rfl)
              omega
            exact ⟨w 12 0 - w 12 4 - (j + 1), by omega, rfl, rfl, hN, j + 1, _, by omega, rfl, by rw [skip z4, bt_nI_add3], t1⟩
          · have z4 : ¬ w 5 (w 12 4 + j) = 1 := fun c => by
              rw [ec, c] at z2
              exact absurd z2 (by decide)
            refine ⟨0, 450, rfl, rfl, by omega, rfl, by omega, by omega, fun M1 c1 c2 => ?_⟩
            have t2 := bt_tm_fr t1 (by omega) c1
            have p1 : bt_mW M1 450 w := bt_mW_copy l1 c1.1 c2
            refine ⟨_, rfl, 450 + 7 * (w 12 4 + j) + 5, by simp only [bt_lit, pk_mul, nI_add], by omega, fun M2 e2 => ?_⟩
            have t3 : bt_tm M M2 := by rw [e2]; exact bt_tm_up t2 (by omega)
            have p2 : bt_mW M2 450 (bt_w1 w 5 (w 12 4 + j) 1) := bt_mW_st (f := 5) p1 (by omega) (by omega) (by decide) (fun x hx => by rw [e2, bt_up_n hx]) (fun i hi => by rw [e2, bt_up_s, pk_un hi]) (by rw [e2, bt_up_s, pk_us]; rfl)
            refine ⟨fun c => absurd rfl c, fun _ => ?_⟩
            refine ⟨_, rfl, 507, rfl, by omega, fun M3 e3 => ?_⟩
            have t4 : bt_tm M M3 := by rw [e3]; exact bt_tm_up t3 (by omega)
            have p3 : bt_mW M3 450 (bt_w3 w 5 (w 12 4 + j)) := bt_mW_le p2 (by omega) (fun x hx => by rw [e3, bt_up_n hx]) (fun i hi => by rw [e3, bt_up_s, pk_un hi]) (by rw [e3, bt_up_s]; exact pk_us)
            refine ⟨450, _, rfl, rfl, by omega, p3, fun M4 q2 q1 => ?_⟩
            have t5 := bt_tm_fr t4 (by omega) q2
            refine ⟨360, _, rfl, rfl, by omega, q1, ?_⟩
            refine ⟨fun z5 => ⟨fun _ => ?_, fun c => absurd z5 c⟩, fun z5 => ⟨fun c => absurd c z5, fun _ => ?_⟩⟩
            · have e : bt_bp w 5 (j + 1) = bt_bp w 5 j := bt_bp_k z4 z5
              exact ⟨w 12 0 - w 12 4 - (j + 1), by omega, rfl, rfl, hN, j + 1, _, by omega, rfl, by rw [e, bt_nI_add3], t5⟩
            · have e : bt_bp w 5 (j + 1) = (nI (w 12 4 + j), bt_sv w 5 (w 12 4 + j)) := bt_bp_n z4 z5
              exact ⟨w 12 0 - w 12 4 - (j + 1), by omega, rfl, rfl, hN, j + 1, _, by omega, rfl, by rw [e, bt_nI_add3]; rfl, t5⟩
        · have ec := bt_mW_st6 l1 (i := w 12 4 + j) (by omega)
          have eb := f13 (w 12 4 + j)
          refine ⟨_, rfl, 7 * (w 12 4 + j) + 6, by simp only [bt_lit, pk_mul, nI_add], by omega, ⟨fun z2 => ?_, fun z2 => ?_⟩⟩
          · have z4 : w 6 (w 12 4 + j) = 1 := by
              have : ¬ w 6 (w 12 4 + j) = 0 := fun c => z2 (by rw [ec, c]; rfl)
              omega
            exact ⟨w 12 0 - w 12 4 - (j + 1), by omega, rfl, rfl, hN, j + 1, _, by omega, rfl, by rw [skip z4, bt_nI_add3], t1⟩
          · have z4 : ¬ w 6 (w 12 4 + j) = 1 := fun c => by
              rw [ec, c] at z2
              exact absurd z2 (by decide)
            refine ⟨0, 450, rfl, rfl, by omega, rfl, by omega, by omega, fun M1 c1 c2 => ?_⟩
            have t2 := bt_tm_fr t1 (by omega) c1
            have p1 : bt_mW M1 450 w := bt_mW_copy l1 c1.1 c2
            refine ⟨_, rfl, 450 + 7 * (w 12 4 + j) + 6, by simp only [bt_lit, pk_mul, nI_add], by omega, fun M2 e2 => ?_⟩
            have t3 : bt_tm M M2 := by rw [e2]; exact bt_tm_up t2 (by omega)
            have p2 : bt_mW M2 450 (bt_w1 w 6 (w 12 4 + j) 1) := bt_mW_st (f := 6) p1 (by omega) (by omega) (by decide) (fun x hx => by rw [e2, bt_up_n hx]) (fun i hi => by rw [e2, bt_up_s, pk_un hi]) (by rw [e2, bt_up_s, pk_us]; rfl)
            refine ⟨fun _ => ?_, fun c => absurd c (by decide)⟩
            refine ⟨_, rfl, 57, rfl, by omega, ?_⟩
            refine ⟨_, rfl, 507, rfl, by omega, fun M3 e3 => ?_⟩
            have t4 : bt_tm M M3 := by rw [e3]; exact bt_tm_up t3 (by omega)
            have e57 : M2 68 57 = nI (w 12 3) := by rw [t3.2 57 (by omega)]; simpa using g4
            have p3 : bt_mW M3 450 (bt_w3 w 6 (w 12 4 + j)) := by
              have := bt_mW_le (v := w 12 3) p2 f5 (M' := M3) (fun x hx => by rw [e3, bt_up_n hx]) (fun i hi => by rw [e3, bt_up_s, pk_un hi]) (by rw [e3, bt_up_s, e57]; exact pk_us)
              rw [show bt_w1 (bt_w1 w 6 (w 12 4 + j) 1) 12 3 (w 12 3) = bt_w1 w 6 (w 12 4 + j) 1 from by
                have e := bt_w1_id (bt_w1 w 6 (w 12 4 + j) 1) 12 3
                rw [bt_w1_n (f' := 12) (by omega)] at e
                exact e] at this
              exact this
            refine ⟨450, _, rfl, rfl, by omega, p3, fun M4 q2 q1 => ?_⟩
            have t5 := bt_tm_fr t4 (by omega) q2
            refine ⟨360, _, rfl, rfl, by omega, q1, ?_⟩
            refine ⟨fun z5 => ⟨fun _ => ?_, fun c => absurd z5 c⟩, fun z5 => ⟨fun c => absurd c z5, fun _ => ?_⟩⟩
            · have e : bt_bp w 6 (j + 1) = bt_bp w 6 j := bt_bp_k z4 z5
              exact ⟨w 12 0 - w 12 4 - (j + 1), by omega, rfl, rfl, hN, j + 1, _, by omega, rfl, by rw [e, bt_nI_add3], t5⟩
            · have e : bt_bp w 6 (j + 1) = (nI (w 12 4 + j), bt_sv w 6 (w 12 4 + j)) := bt_bp_n z4 z5
              exact ⟨w 12 0 - w 12 4 - (j + 1), by omega, rfl, rfl, hN, j + 1, _, by omega, rfl, by rw [e, bt_nI_add3]; rfl, t5⟩
    refine bt_go rfl hP 60 [29] P (fun _ _ _ _ _ h => h) ?_
    refine ⟨0, w, rfl, rfl, by omega, a1, fun M1 d2 d1 => ?_⟩
    have t1 : bt_tm M M1 := bt_tm_fr bt_tm_rf (by omega) d2
    have l1 := bt_tm_live t1 a1
    refine ⟨360, _, rfl, rfl, by omega, d1, ?_⟩
    have e88 : M1 68 88 = nI (w 12 4) := by simpa using l1.2.2.2.2.2.1
    refine ⟨_, rfl, 88, rfl, by omega, ?_⟩
    exact loop _ _ _ _ _ _ ⟨rfl, rfl, rfl, 0, none, by omega, rfl, by rw [e88]; rfl, t1⟩
  · exact False.elim h

def bt_CX6_third : bt_C := [(46, 0, 3, sX6_in), (241, 1, 3, sX6_mostSaved)]
def sX6_third : bt_Sp := bt_spM f_third
set_option maxRecDepth 100000 in
theorem mX6_third : bt_MT bt_TX6_third bt_FX6 bt_CX6_third 1 2 sX6_third := by
  intro as M N Rt h P hP
  obtain ⟨t, S, r, S', rfl, hI, hf, h⟩ := bt_spM_e h
  obtain ⟨w, im, u, z, q⟩ := S
  unfold f_third at hf
  split at hf
  · next x _ _ _ _ _ e =>
    cases e
    obtain ⟨rfl, rfl⟩ := bt_some hf
    obtain ⟨a1, a2, a3, a4, a5, a6, a7, a8, a9, a10, a11, a12, a13, a14, a15⟩ := id hI
    obtain ⟨b0, b1, b2, b3, b4, b5, b6, b7, b8, b9, b10⟩ := id a2
    obtain ⟨hw, g1, g2, g3, g4, g5, g6, r0, r1, r2, r3, r4, r5, r6, c7, c8, c9, c10, c11⟩ := id a1
    obtain ⟨f1, f2, f3, f4, f5, f6, f7, f8, f9, f10, f11, f12, f13, f14, f15, f16, f17, f18⟩ := id hw
    simp only [Nat.zero_add] at g3 g4 g5 g6 r0 r1 r2 r3 r4 r5 r6 c7 c8 c9 c10
    refine bt_go0 rfl hP 60 ?_
    refine ⟨fun y => ?_, fun y => ?_⟩
    · rw [bt_bi_0, bt_inl_c (k := 1) (show (1 : Int64) = lN 1 from rfl) (by omega)] at y
      rw [if_neg y] at h
      exact h M (fun _ _ => rfl) hI
    · rw [bt_bi_n0, bt_inl_c (k := 1) (show (1 : Int64) = lN 1 from rfl) (by omega)] at y
      rw [if_pos y] at h
      exact ⟨w, 6, rfl, rfl, by omega, a1, fun M' t => h M' (bt_tm_fx t) (bt_tm_I hI t)⟩
  · cases hf

def bt_CX6_layby : bt_C := [(46, 0, 3, sX6_in), (241, 1, 3, sX6_mostSaved)]
def sX6_layby : bt_Sp := bt_spM f_layby
set_option maxRecDepth 100000 in
theorem mX6_layby : bt_MT bt_TX6_layby bt_FX6 bt_CX6_layby 1 2 sX6_layby := by
  intro as M N Rt h P hP
  obtain ⟨t, S, r, S', rfl, hI, hf, h⟩ := bt_spM_e h
  obtain ⟨w, im, u, z, q⟩ := S
  unfold f_layby at hf
  split at hf
  · next x _ _ _ _ _ e =>
    cases e
    obtain ⟨rfl, rfl⟩ := bt_some hf
    obtain ⟨a1, a2, a3, a4, a5, a6, a7, a8, a9, a10, a11, a12, a13, a14, a15⟩ := id hI
    obtain ⟨b0, b1, b2, b3, b4, b5, b6, b7, b8, b9, b10⟩ := id a2
    obtain ⟨hw, g1, g2, g3, g4, g5, g6, r0, r1, r2, r3, r4, r5, r6, c7, c8, c9, c10, c11⟩ := id a1
    obtain ⟨f1, f2, f3, f4, f5, f6, f7, f8, f9, f10, f11, f12, f13, f14, f15, f16, f17, f18⟩ := id hw
    simp only [Nat.zero_add] at g3 g4 g5 g6 r0 r1 r2 r3 r4 r5 r6 c7 c8 c9 c10
    refine bt_go0 rfl hP 60 ?_
    refine ⟨fun y => ?_, fun y => ?_⟩
    · rw [bt_bi_0, bt_inl_c (k := 1) (show (1 : Int64) = lN 1 from rfl) (by omega)] at y
      rw [if_neg y] at h
      exact h M (fun _ _ => rfl) hI
    · rw [bt_bi_n0, bt_inl_c (k := 1) (show (1 : Int64) = lN 1 from rfl) (by omega)] at y
      rw [if_pos y] at h
      exact ⟨w, 5, rfl, rfl, by omega, a1, fun M' t => h M' (bt_tm_fx t) (bt_tm_I hI t)⟩
  · cases hf
