/-! CALLS, BOTH SIDES: trials: the cost of a car, what it would need -/
theorem bt_de_12 (w : bt_W) (k : Nat) (h4 : k ≠ 4) (h5 : k ≠ 5) : bt_de w 12 k = w 12 k := (bt_dn_12 w (w 2) _).2.1 k h4 h5
theorem bt_cW_time {M : bt_M} {c k : Nat} {w : bt_W} (h : bt_cW M c w) (hk : k < w 12 1) : M (c + 8) k = nI (w 10 k) := by
  obtain ⟨hf, g8, g9, g10, g11, g12, g13, g14, g15, g16, g17, r1, r2, r3, r4, r5, r6, r7, r8⟩ := h
  exact r8 k hk
theorem bt_cW_past {M : bt_M} {c k : Nat} {w : bt_W} (h : bt_cW M c w) (hk : k < w 12 1) : M c 13 >>> (nI k &&& 31) &&& 1 = nI (w 11 k) := by
  obtain ⟨hf, g8, g9, g10, g11, g12, g13, g14, g15, g16, g17, r1, r2, r3, r4, r5, r6, r7, r8⟩ := h
  have h6 := hf.2.1
  rw [g13, bt_bitN hf.2.2.2.2.2.2.2.2.2.2.2.2.2.2.2.2.2 (by omega) (by omega), if_pos hk]
theorem bt_mW_time {M : bt_M} {p k : Nat} {w : bt_W} (h : bt_mW M p w) (hk : k < w 12 1) : M 68 (p + 58 + 5 * k + 3) = nI (w 10 k) := by
  obtain ⟨hf, g1, g2, g3, g4, g5, g6, r0, r1, r2, r3, r4, r5, r6, c7, c8, c9, c10, c11⟩ := h
  exact c10 k hk
theorem bt_mW_past {M : bt_M} {p k : Nat} {w : bt_W} (h : bt_mW M p w) (hk : k < w 12 1) : M 68 (p + 58 + 5 * k + 4) = nI (w 11 k) := by
  obtain ⟨hf, g1, g2, g3, g4, g5, g6, r0, r1, r2, r3, r4, r5, r6, c7, c8, c9, c10, c11⟩ := h
  exact c11 k hk
/-- the trial world holds a copy, nothing else is changed -/
def bt_tq (M M' : bt_M) : Prop := ∀ x : Nat, (x < 79 ∨ 87 < x) → M' x = M x
theorem bt_tq_I {M M' : bt_M} {S : bt_S} (h : bt_cI M S) (ht : bt_tq M M') : bt_cI M' S := bt_cI_same h (fun x hx => ht x (by omega)) (by rw [ht 49 (by omega)])
theorem bt_tq_fr {M M' : bt_M} (ht : bt_tq M M') : bt_cfr M M' := fun x hx => ht x (by omega)
theorem bt_tq_out {M M' M'' : bt_M} (ht : bt_tq M M') (h : bt_out 79 M' M'') : bt_tq M M'' := fun x hx => by rw [h x (by omega), ht x hx]
theorem bt_tq_frm {M M' M'' : bt_M} (ht : bt_tq M M') (h : bt_frm 79 M' M'') : bt_tq M M'' := fun x hx => by rw [h x (by omega) (by omega), ht x hx]
theorem bt_tq_live {M M' : bt_M} {w : bt_W} (ht : bt_tq M M') (h : bt_cW M 2 w) : bt_cW M' 2 w := bt_cW_kept h (fun x _ _ => ht x (by omega))
theorem bt_tq_up {M M' : bt_M} (ht : bt_tq M M') {c : Nat} {g : Nat → Int32} (h1 : 79 ≤ c) (h2 : c ≤ 87) : bt_tq M (va_up M' c g) := fun x hx => by rw [bt_up_n (by omega), ht x hx]
/-- pages 360 and 450 of the model may change -/
def bt_tm (M M' : bt_M) : Prop := (∀ x : Nat, x ≠ 68 → M' x = M x) ∧ ∀ j, j < 360 → M' 68 j = M 68 j
theorem bt_tm_I {M M' : bt_M} {S : bt_S} (h : bt_mI M S) (ht : bt_tm M M') : bt_mI M' S := bt_mI_same h (fun x _ x1 _ _ => ht.1 x x1) (fun j hj => ht.2 j (by omega))
theorem bt_tm_fx {M M' : bt_M} (ht : bt_tm M M') : bt_mfx M M' := fun x hx => ht.1 x (by omega)
theorem bt_tm_fr {M M' M'' : bt_M} (ht : bt_tm M M') {p : Nat} (hp : 360 ≤ p) (h : bt_mfr p M' M'') : bt_tm M M'' := ⟨fun x hx => by rw [h.1 x hx, ht.1 x hx], fun j hj => by rw [h.2 j (by omega), ht.2 j hj]⟩
theorem bt_tm_rf {M : bt_M} : bt_tm M M := ⟨fun _ _ => rfl, fun _ _ => rfl⟩
theorem bt_tm_live {M M' : bt_M} {w : bt_W} (ht : bt_tm M M') (h : bt_mW M 0 w) : bt_mW M' 0 w := bt_mW_kept h ht.1 (fun j _ hj => ht.2 j (by omega))
theorem bt_tm_up {M M' : bt_M} (ht : bt_tm M M') {i : Nat} {v : Int32} (h1 : 360 ≤ i) : bt_tm M (va_up M' 68 (upd (M' 68) i v)) := ⟨fun x hx => by rw [bt_up_n hx, ht.1 x hx], fun j hj => by rw [bt_up_s, pk_un (by omega), ht.2 j hj]⟩
theorem bt_tq_rf {M : bt_M} : bt_tq M M := fun _ _ => rfl
def bt_w2 (w : bt_W) (k : Nat) : bt_W := bt_w1 (bt_w1 w 7 k 2) 8 k 1
theorem bt_w2_12 (w : bt_W) (k j : Nat) : bt_w2 w k 12 j = w 12 j := by
  unfold bt_w2
  rw [bt_w1_n (by omega), bt_w1_n (by omega)]

def f_cost : bt_fn := fun t S => match t, S with
  | [.int k], (w, im, u, z, q) => some (.int (if bt_in k (w 12 1) then 10000 + (nI (bt_st (bt_de w)) - nI (bt_de w 10 k.toNatClampNeg)) - (nI (bt_st (bt_de (bt_w2 w k.toNatClampNeg))) - nI (bt_de (bt_w2 w k.toNatClampNeg) 10 k.toNatClampNeg)) else -1), (w, im, u, z, q))
  | _, _ => none

def bt_CX5_cost : bt_C := [(136, 1, 2, sX5_isCar), (76, 1, 2, sX4_takeFrom), (173, 1, 1, sX4_driveToEnd)]
def sX5_cost : bt_Sp := bt_spC f_cost
set_option maxRecDepth 100000 in
theorem mX5_cost : bt_MT bt_TX5_cost bt_FX5 bt_CX5_cost 1 4 sX5_cost := by
  intro as M N Rt h P hP
  obtain ⟨t, S, r, S', rfl, hI, hf, h⟩ := bt_spC_e h
  obtain ⟨w, im, u, z, q⟩ := S
  unfold f_cost at hf
  split at hf
  · next k _ _ _ _ _ e =>
    cases e
    obtain ⟨rfl, rfl⟩ := bt_some hf
    obtain ⟨a1, a2, a3, a4, a5, a6, a7, a8, a9, a10, a11, a12⟩ := id hI
    obtain ⟨b0, b1, b2, b3, b4, b5, b6, b7, b8, b9, b10⟩ := id a2
    obtain ⟨hw, h8, h9, h10, h11, h12, h13, h14, h15, h16, h17, r1, r2, r3, r4, r5, r6, r7, r8⟩ := id a1
    obtain ⟨f1, f2, f3, f4, f5, f6, f7, f8, f9, f10, f11, f12, f13, f14, f15, f16, f17, f18⟩ := id hw
    refine bt_go0 rfl hP 60 ?_
    refine ⟨w 12 1, rfl, h12, f2, ⟨fun y => ?_, fun y => ?_⟩⟩
    · rw [bt_bi_n0] at y
      rw [if_pos y] at h
      obtain ⟨k, hk, rfl⟩ := bt_in_e y
      rw [bt_clm (by omega)] at h
      refine ⟨w, by unfold bt_tf; decide, a1, fun M1 c1 c2 => ?_⟩
      have t1 : bt_tq M M1 := bt_tq_out bt_tq_rf c2
      refine ⟨w, Or.inr rfl, c1, fun M2 d1 d2 => ?_⟩
      have t2 := bt_tq_frm t1 d2
      have e1 := bt_cW_time d1 (k := k) (by rw [bt_de_12 w 1 (by omega) (by omega)]; exact hk)
      refine ⟨_, rfl, k, rfl, by omega, ?_⟩
      refine ⟨w, by unfold bt_tf; decide, bt_tq_live t2 a1, fun M3 p1 p2 => ?_⟩
      have t3 := bt_tq_out t2 p2
      refine ⟨_, rfl, k, rfl, by omega, fun M4 e4 => ?_⟩
      have t4 : bt_tq M M4 := by rw [e4]; exact bt_tq_up t3 (by omega) (by omega)
      have p4 : bt_cW M4 79 (bt_w1 w 7 k 2) := bt_cW_row (f := 7) (r := 5) p1 (by decide) (by omega) (fun x hx => by rw [e4, bt_up_n hx]) (fun i => by
        rw [e4, bt_up_s]
        by_cases hi : i = k
        · rw [hi, pk_us, if_pos rfl]; rfl
        · rw [pk_un hi, if_neg hi])
      refine ⟨_, rfl, k, rfl, by omega, fun M5 e5 => ?_⟩
      have t5 : bt_tq M M5 := by rw [e5]; exact bt_tq_up t4 (by omega) (by omega)
      have p5 : bt_cW M5 79 (bt_w2 w k) := bt_cW_row (f := 8) (r := 6) p4 (by decide) (by omega) (fun x hx => by rw [e5, bt_up_n hx]) (fun i => by
        rw [e5, bt_up_s]
        by_cases hi : i = k
        · rw [hi, pk_us, if_pos rfl]; rfl
        · rw [pk_un hi, if_neg hi])
      refine ⟨_, Or.inr rfl, p5, fun M6 q1 q2 => ?_⟩
      have t6 := bt_tq_frm t5 q2
      have e6 := bt_cW_time q1 (k := k) (by rw [bt_de_12 _ 1 (by omega) (by omega), bt_w2_12]; exact hk)
      refine ⟨_, rfl, k, rfl, by omega, ?_⟩
      have key := h M6 N (bt_tq_fr t6) (bt_tq_I hI t6)
      rw [← e1, ← e6] at key
      exact key
    · rw [bt_bi_0] at y
      rw [if_neg y] at h
      exact h M N (fun _ _ => rfl) hI
  · cases hf

def bt_CX6_timesOfOthers : bt_C := [(208, 1, 2, sX6_timesOn)]
def sX6_timesOfOthers : bt_Sp := fun as M N K => match as with
  | [.ref c, .int k] => ∃ w k', c = 67 ∧ bt_mW M 360 w ∧ k = nI k' ∧ k' < w 12 1 ∧ K (some (.int (nI (bt_st w) - nI (w 10 k')))) M N
  | _ => False
theorem mX6_timesOfOthers : bt_MT bt_TX6_timesOfOthers bt_FX6 bt_CX6_timesOfOthers 1 2 sX6_timesOfOthers := by
  intro as M N Rt h P hP
  unfold sX6_timesOfOthers at h
  split at h
  · obtain ⟨w, k, rfl, hw, rfl, hk, h⟩ := h
    have f2 := hw.1.2.1
    have e1 := bt_mW_time hw hk
    refine bt_go0 rfl hP 60 ?_
    refine ⟨360, w, rfl, rfl, by omega, hw, ?_⟩
    refine ⟨_, rfl, 360 + 58 + 5 * k + 3, by simp only [bt_lit, pk_mul, nI_add], by omega, ?_⟩
    rw [← e1] at h
    exact h
  · exact False.elim h

def bt_CX6_cost : bt_C := [(153, 1, 2, sX6_isCar), (205, 1, 2, sX6_triesFrom), (238, 1, 2, sX6_timesOfOthers), (199, 1, 3, sX6_copies)]
def sX6_cost : bt_Sp := bt_spM f_cost
set_option maxRecDepth 100000 in
theorem mX6_cost : bt_MT bt_TX6_cost bt_FX6 bt_CX6_cost 1 3 sX6_cost := by
  intro as M N Rt h P hP
  obtain ⟨t, S, r, S', rfl, hI, hf, h⟩ := bt_spM_e h
  obtain ⟨w, im, u, z, q⟩ := S
  unfold f_cost at hf
  split at hf
  · next k _ _ _ _ _ e =>
    cases e
    obtain ⟨rfl, rfl⟩ := bt_some hf
    obtain ⟨a1, a2, a3, a4, a5, a6, a7, a8, a9, a10, a11, a12, a13, a14, a15⟩ := id hI
    obtain ⟨b0, b1, b2, b3, b4, b5, b6, b7, b8, b9, b10⟩ := id a2
    obtain ⟨hw, g1, g2, g3, g4, g5, g6, r0, r1, r2, r3, r4, r5, r6, c7, c8, c9, c10, c11⟩ := id a1
    obtain ⟨f1, f2, f3, f4, f5, f6, f7, f8, f9, f10, f11, f12, f13, f14, f15, f16, f17, f18⟩ := id hw
    simp only [Nat.zero_add] at g3 g4 g5 g6 r0 r1 r2 r3 r4 r5 r6 c7 c8 c9 c10
    refine bt_go0 rfl hP 60 ?_
    refine ⟨w 12 1, rfl, g2, f2, ⟨fun y => ?_, fun y => ?_⟩⟩
    · rw [bt_bi_n0] at y
      rw [if_pos y] at h
      obtain ⟨k, hk, rfl⟩ := bt_in_e y
      rw [bt_clm (by omega)] at h
      refine ⟨0, w, rfl, rfl, by omega, a1, fun M1 d2 d1 => ?_⟩
      have t1 : bt_tm M M1 := bt_tm_fr bt_tm_rf (by omega) d2
      refine ⟨bt_de w, k, rfl, d1, rfl, by rw [bt_de_12 w 1 (by omega) (by omega)]; exact hk, ?_⟩
      refine ⟨0, 450, rfl, rfl, by omega, rfl, by omega, by omega, fun M3 p2 p3 => ?_⟩
      have t3 := bt_tm_fr t1 (by omega) p2
      have p1 : bt_mW M3 450 w := bt_mW_copy (bt_tm_live t1 a1) p2.1 p3
      refine ⟨_, rfl, 450 + 58 + 5 * k, by simp only [bt_lit, pk_mul, nI_add], by omega, fun M4 e4 => ?_⟩
      have t4 : bt_tm M M4 := by rw [e4]; exact bt_tm_up t3 (by omega)
      have p4 : bt_mW M4 450 (bt_w1 w 7 k 2) := bt_mW_car (f := 7) p1 (by omega) (by omega) (by omega) (by decide) (fun x hx => by rw [e4, bt_up_n hx]) (fun j hj => by rw [e4, bt_up_s, pk_un (by omega)]) (by rw [e4, bt_up_s]; exact pk_us)
      refine ⟨_, rfl, 450 + 58 + 5 * k + 1, by simp only [bt_lit, pk_mul, nI_add], by omega, fun M5 e5 => ?_⟩
      have t5 : bt_tm M M5 := by rw [e5]; exact bt_tm_up t4 (by omega)
      have p5 : bt_mW M5 450 (bt_w2 w k) := bt_mW_car (f := 8) p4 (by omega) (by omega) (by omega) (by decide) (fun x hx => by rw [e5, bt_up_n hx]) (fun j hj => by rw [e5, bt_up_s, pk_un (by omega)]) (by rw [e5, bt_up_s]; exact pk_us)
      refine ⟨450, _, rfl, rfl, by omega, p5, fun M6 q2 q1 => ?_⟩
      have t6 := bt_tm_fr t5 (by omega) q2
      refine ⟨_, k, rfl, q1, rfl, by rw [bt_de_12 _ 1 (by omega) (by omega), bt_w2_12]; exact hk, ?_⟩
      exact h M6 (bt_tm_fx t6) (bt_tm_I hI t6)
    · rw [bt_bi_0] at y
      rw [if_neg y] at h
      exact h M (fun _ _ => rfl) hI
  · cases hf
