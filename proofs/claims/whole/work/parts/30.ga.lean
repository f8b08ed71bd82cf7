/-! CALLS, BOTH SIDES: what there is, what is changed. f_.. : the answer and the new state -/
theorem bt_some {a a' : Value} {b b' : bt_S} (h : some (a, b) = some (a', b')) : a = a' ∧ b = b' := Prod.mk.inj (Option.some.inj h)
def bt_CX5_isStretch : bt_C := [(51, 0, 3, sX5_within)]
def sX5_isStretch : bt_Sp := fun as M N K => match as with
  | [.ref c, .int i] => ∃ n, c = 0 ∧ M 2 8 = nI n ∧ n ≤ 8 ∧ K (some (.int (bt_bi (bt_in i n)))) M N
  | _ => False
theorem mX5_isStretch : bt_MT bt_TX5_isStretch bt_FX5 bt_CX5_isStretch 2 2 sX5_isStretch := by
  intro as M N Rt h P hP
  unfold sX5_isStretch at h
  split at h
  · next c i =>
    obtain ⟨n, rfl, hn, hn8, h⟩ := h
    rw [← bt_bi_c (bt_in_last (x := i) (n := n) (by omega))] at h
    simp only [← hn] at h
    exact bt_go0 rfl hP 20 ⟨bt_bi_01, h⟩
  · exact False.elim h
def bt_CX5_isCar : bt_C := [(51, 0, 3, sX5_within)]
def sX5_isCar : bt_Sp := fun as M N K => match as with
  | [.ref c, .int i] => ∃ n, c = 0 ∧ M 2 12 = nI n ∧ n ≤ 6 ∧ K (some (.int (bt_bi (bt_in i n)))) M N
  | _ => False
theorem mX5_isCar : bt_MT bt_TX5_isCar bt_FX5 bt_CX5_isCar 2 2 sX5_isCar := by
  intro as M N Rt h P hP
  unfold sX5_isCar at h
  split at h
  · next c i =>
    obtain ⟨n, rfl, hn, hn8, h⟩ := h
    rw [← bt_bi_c (bt_in_last (x := i) (n := n) (by omega))] at h
    simp only [← hn] at h
    exact bt_go0 rfl hP 20 ⟨bt_bi_01, h⟩
  · exact False.elim h
def sX5_exchange : bt_Sp := fun as M N K => match as with
  | [.ref a, .int i, .int v] => ∃ n j, bt_sh a = (1, 0, n) ∧ i = nI j ∧ j < n ∧ ∀ M', M' = va_up M a (upd (M a) j v) → K (some (.int (M a j))) M' N
  | _ => False
theorem mX5_exchange : bt_MT bt_TX5_exchange bt_FX5 [] 1 4 sX5_exchange := by
  intro as M N Rt h P hP
  unfold sX5_exchange at h
  split at h
  · obtain ⟨n, j, hsh, rfl, hj, h⟩ := h
    exact bt_go0 rfl hP 20 ⟨n, hsh, j, rfl, hj, n, hsh, j, rfl, hj, fun M' e => h M' e⟩
  · exact False.elim h
def bt_CX6_isRoad : bt_C := [(46, 0, 3, sX6_in)]
def sX6_isRoad : bt_Sp := fun as M N K => match as with
  | [.ref c, .int i] => ∃ n, c = 67 ∧ M 67 1 = nI n ∧ n ≤ 8 ∧ K (some (.int (bt_bi (bt_in i n)))) M N
  | _ => False
theorem mX6_isRoad : bt_MT bt_TX6_isRoad bt_FX6 bt_CX6_isRoad 2 2 sX6_isRoad := by
  intro as M N Rt h P hP
  unfold sX6_isRoad at h
  split at h
  · next c i =>
    obtain ⟨n, rfl, hn, hn8, h⟩ := h
    rw [← bt_bi_c (bt_inl_last (x := i) (n := n) (by omega))] at h
    simp only [← hn] at h
    exact bt_go0 rfl hP 20 ⟨bt_bi_01, h⟩
  · exact False.elim h
def bt_CX6_isCar : bt_C := [(46, 0, 3, sX6_in)]
def sX6_isCar : bt_Sp := fun as M N K => match as with
  | [.ref c, .int i] => ∃ n, c = 67 ∧ M 67 2 = nI n ∧ n ≤ 6 ∧ K (some (.int (bt_bi (bt_in i n)))) M N
  | _ => False
theorem mX6_isCar : bt_MT bt_TX6_isCar bt_FX6 bt_CX6_isCar 2 2 sX6_isCar := by
  intro as M N Rt h P hP
  unfold sX6_isCar at h
  split at h
  · next c i =>
    obtain ⟨n, rfl, hn, hn8, h⟩ := h
    rw [← bt_bi_c (bt_inl_last (x := i) (n := n) (by omega))] at h
    simp only [← hn] at h
    exact bt_go0 rfl hP 20 ⟨bt_bi_01, h⟩
  · exact False.elim h
def sX6_sets : bt_Sp := fun as M N K => match as with
  | [.ref c, .int g, .int i, .int v] => c = 67 ∧ (g = 0 → K (some (.int (-1))) M N) ∧ (¬ g = 0 → ∃ j, i = nI j ∧ j < 540 ∧ ∀ M', M' = va_up M 68 (upd (M 68) j v) → K (some (.int (M 68 j))) M' N)
  | _ => False
theorem mX6_sets : bt_MT bt_TX6_sets bt_FX6 [] 1 5 sX6_sets := by
  intro as M N Rt h P hP
  unfold sX6_sets at h
  split at h
  · obtain ⟨rfl, h0, h1⟩ := h
    refine bt_go0 rfl hP 20 ⟨fun q => ?_, fun q => ?_⟩
    · obtain ⟨j, rfl, hj, h⟩ := h1 q
      exact ⟨_, rfl, j, rfl, hj, _, rfl, j, rfl, hj, fun M' e => h M' e⟩
    · exact h0 q
  · exact False.elim h
theorem bt_bi_n0 {p : Prop} [Decidable p] : ¬ bt_bi p = 0 ↔ p := by
  by_cases h : p <;> simp [bt_bi, h]
theorem bt_clm {j : Nat} (h : j < 2 ^ 31) : (nI j).toNatClampNeg = j := nI_clamp h
theorem bt_inl_c {x : Int32} {c : Int64} {k : Nat} (hc : c = lN k) (h : k < 2 ^ 31) : ((0 : Int64) ≤ x.toInt64 ∧ x.toInt64 ≤ c) ↔ bt_in x (k + 1) := by
  rw [hc]
  exact bt_inl_top h
theorem bt_in_c {x c : Int32} {k : Nat} (hc : c = nI k) (h : k + 1 < 2 ^ 31) : ((0 : Int32) ≤ x ∧ x ≤ c) ↔ bt_in x (k + 1) := by
  rw [hc]
  exact bt_in_top h

def f_fault : bt_fn := fun t S => match t, S with
  | [], (w, im, u, z, q) => some (.int (nI (u 1)), (w, im, u, z, q))
  | _, _ => none

def sX5_fault : bt_Sp := bt_spC f_fault
set_option maxRecDepth 100000 in
theorem mX5_fault : bt_MT bt_TX5_fault bt_FX5 [] 1 1 sX5_fault := by
  intro as M N Rt h P hP
  obtain ⟨t, S, r, S', rfl, hI, hf, h⟩ := bt_spC_e h
  obtain ⟨w, im, u, z, q⟩ := S
  unfold f_fault at hf
  split at hf
  · next _ _ _ _ _ e =>
    cases e
    obtain ⟨rfl, rfl⟩ := bt_some hf
    obtain ⟨a1, a2, a3, a4, a5, a6, a7, a8, a9, a10, a11, a12⟩ := id hI
    obtain ⟨b0, b1, b2, b3, b4, b5, b6, b7, b8, b9, b10⟩ := id a2
    obtain ⟨hw, h8, h9, h10, h11, h12, h13, h14, h15, h16, h17, r1, r2, r3, r4, r5, r6, r7, r8⟩ := id a1
    obtain ⟨f1, f2, f3, f4, f5, f6, f7, f8, f9, f10, f11, f12, f13, f14, f15, f16, f17, f18⟩ := id hw
    have key := h M N (fun _ _ => rfl) hI
    rw [← a5] at key
    exact bt_go0 rfl hP 20 key
  · cases hf

def sX6_fault : bt_Sp := bt_spM f_fault
set_option maxRecDepth 100000 in
theorem mX6_fault : bt_MT bt_TX6_fault bt_FX6 [] 1 1 sX6_fault := by
  intro as M N Rt h P hP
  obtain ⟨t, S, r, S', rfl, hI, hf, h⟩ := bt_spM_e h
  obtain ⟨w, im, u, z, q⟩ := S
  unfold f_fault at hf
  split at hf
  · next _ _ _ _ _ e =>
    cases e
    obtain ⟨rfl, rfl⟩ := bt_some hf
    obtain ⟨a1, a2, a3, a4, a5, a6, a7, a8, a9, a10, a11, a12, a13, a14, a15⟩ := id hI
    obtain ⟨b0, b1, b2, b3, b4, b5, b6, b7, b8, b9, b10⟩ := id a2
    obtain ⟨hw, g1, g2, g3, g4, g5, g6, r0, r1, r2, r3, r4, r5, r6, c7, c8, c9, c10, c11⟩ := id a1
    obtain ⟨f1, f2, f3, f4, f5, f6, f7, f8, f9, f10, f11, f12, f13, f14, f15, f16, f17, f18⟩ := id hw
    simp only [Nat.zero_add] at g3 g4 g5 g6 r0 r1 r2 r3 r4 r5 r6 c7 c8 c9 c10
    have key := h M (fun _ _ => rfl) hI
    rw [← a5] at key
    exact bt_go0 rfl hP 20 key
  · cases hf

def f_torn : bt_fn := fun t S => match t, S with
  | [], (w, im, u, z, q) => some (.int (nI (u 2)), (w, im, u, z, q))
  | _, _ => none

def sX5_torn : bt_Sp := bt_spC f_torn
set_option maxRecDepth 100000 in
theorem mX5_torn : bt_MT bt_TX5_torn bt_FX5 [] 1 1 sX5_torn := by
  intro as M N Rt h P hP
  obtain ⟨t, S, r, S', rfl, hI, hf, h⟩ := bt_spC_e h
  obtain ⟨w, im, u, z, q⟩ := S
  unfold f_torn at hf
  split at hf
  · next _ _ _ _ _ e =>
    cases e
    obtain ⟨rfl, rfl⟩ := bt_some hf
    obtain ⟨a1, a2, a3, a4, a5, a6, a7, a8, a9, a10, a11, a12⟩ := id hI
    obtain ⟨b0, b1, b2, b3, b4, b5, b6, b7, b8, b9, b10⟩ := id a2
    obtain ⟨hw, h8, h9, h10, h11, h12, h13, h14, h15, h16, h17, r1, r2, r3, r4, r5, r6, r7, r8⟩ := id a1
    obtain ⟨f1, f2, f3, f4, f5, f6, f7, f8, f9, f10, f11, f12, f13, f14, f15, f16, f17, f18⟩ := id hw
    have key := h M N (fun _ _ => rfl) hI
    rw [← a7] at key
    exact bt_go0 rfl hP 20 key
  · cases hf

def sX6_torn : bt_Sp := bt_spM f_torn
set_option maxRecDepth 100000 in
theorem mX6_torn : bt_MT bt_TX6_torn bt_FX6 [] 1 1 sX6_torn := by
  intro as M N Rt h P hP
  obtain ⟨t, S, r, S', rfl, hI, hf, h⟩ := bt_spM_e h
  obtain ⟨w, im, u, z, q⟩ := S
  unfold f_torn at hf
  split at hf
  · next _ _ _ _ _ e =>
    cases e
    obtain ⟨rfl, rfl⟩ := bt_some hf
    obtain ⟨a1, a2, a3, a4, a5, a6, a7, a8, a9, a10, a11, a12, a13, a14, a15⟩ := id hI
    obtain ⟨b0, b1, b2, b3, b4, b5, b6, b7, b8, b9, b10⟩ := id a2
    obtain ⟨hw, g1, g2, g3, g4, g5, g6, r0, r1, r2, r3, r4, r5, r6, c7, c8, c9, c10, c11⟩ := id a1
    obtain ⟨f1, f2, f3, f4, f5, f6, f7, f8, f9, f10, f11, f12, f13, f14, f15, f16, f17, f18⟩ := id hw
    simp only [Nat.zero_add] at g3 g4 g5 g6 r0 r1 r2 r3 r4 r5 r6 c7 c8 c9 c10
    have key := h M (fun _ _ => rfl) hI
    rw [← a6] at key
    exact bt_go0 rfl hP 20 key
  · cases hf

def f_rule : bt_fn := fun t S => match t, S with
  | [.int x], (w, im, u, z, q) => some (.int (if x = 0 then nI (w 12 0) else if x = 1 then nI (w 12 1) else if x = 2 then nI (w 12 2) else if x = 3 then nI (w 12 3) else if x = 4 then nI (w 12 4) else if x = 5 then nI (w 12 5) else if x = 6 then nI (bt_mk (w 11) (w 12 1)) else -1), (w, im, u, z, q))
  | _, _ => none

def sX5_rule : bt_Sp := bt_spC f_rule
set_option maxRecDepth 100000 in
theorem mX5_rule : bt_MT bt_TX5_rule bt_FX5 [] 1 2 sX5_rule := by
  intro as M N Rt h P hP
  obtain ⟨t, S, r, S', rfl, hI, hf, h⟩ := bt_spC_e h
  obtain ⟨w, im, u, z, q⟩ := S
  unfold f_rule at hf
  split at hf
  · next x _ _ _ _ _ e =>
    cases e
    obtain ⟨rfl, rfl⟩ := bt_some hf
    obtain ⟨a1, a2, a3, a4, a5, a6, a7, a8, a9, a10, a11, a12⟩ := id hI
    obtain ⟨b0, b1, b2, b3, b4, b5, b6, b7, b8, b9, b10⟩ := id a2
    obtain ⟨hw, h8, h9, h10, h11, h12, h13, h14, h15, h16, h17, r1, r2, r3, r4, r5, r6, r7, r8⟩ := id a1
    obtain ⟨f1, f2, f3, f4, f5, f6, f7, f8, f9, f10, f11, f12, f13, f14, f15, f16, f17, f18⟩ := id hw
    have key := h M N (fun _ _ => rfl) hI
    refine bt_go0 rfl hP 20 ?_
    refine ⟨fun z0 => ?_, fun z0 => ⟨fun z1 => ?_, fun z1 => ⟨fun z2 => ?_, fun z2 => ⟨fun z3 => ?_, fun z3 => ⟨fun z4 => ?_, fun z4 => ⟨fun z5 => ?_, fun z5 => ⟨fun z6 => ?_, fun z6 => ?_⟩⟩⟩⟩⟩⟩⟩
    · rw [if_pos z0] at key
      rw [← h8] at key
      exact key
    · rw [if_neg z0, if_pos z1] at key
      rw [← h12] at key
      exact key
    · rw [if_neg z0, if_neg z1, if_pos z2] at key
      rw [← h14] at key
      exact key
    · rw [if_neg z0, if_neg z1, if_neg z2, if_pos z3] at key
      rw [← h15] at key
      exact key
    · rw [if_neg z0, if_neg z1, if_neg z2, if_neg z3, if_pos z4] at key
      rw [← h16] at key
      exact key
    · rw [if_neg z0, if_neg z1, if_neg z2, if_neg z3, if_neg z4, if_pos z5] at key
      rw [← h17] at key
      exact key
    · rw [if_neg z0, if_neg z1, if_neg z2, if_neg z3, if_neg z4, if_neg z5, if_pos z6] at key
      rw [← h13] at key
      exact key
    · rw [if_neg z0, if_neg z1, if_neg z2, if_neg z3, if_neg z4, if_neg z5, if_neg z6] at key
      exact key
  · cases hf

def bt_CX6_rule : bt_C := [(143, 1, 2, sX6_paceOn), (146, 1, 2, sX6_pastOn)]
def sX6_rule : bt_Sp := bt_spM f_rule
set_option maxRecDepth 100000 in
theorem mX6_rule : bt_MT bt_TX6_rule bt_FX6 bt_CX6_rule 1 2 sX6_rule := by
  intro as M N Rt h P hP
  obtain ⟨t, S, r, S', rfl, hI, hf, h⟩ := bt_spM_e h
  obtain ⟨w, im, u, z, q⟩ := S
  unfold f_rule at hf
  split at hf
  · next x _ _ _ _ _ e =>
    cases e
    obtain ⟨rfl, rfl⟩ := bt_some hf
    obtain ⟨a1, a2, a3, a4, a5, a6, a7, a8, a9, a10, a11, a12, a13, a14, a15⟩ := id hI
    obtain ⟨b0, b1, b2, b3, b4, b5, b6, b7, b8, b9, b10⟩ := id a2
    obtain ⟨hw, g1, g2, g3, g4, g5, g6, r0, r1, r2, r3, r4, r5, r6, c7, c8, c9, c10, c11⟩ := id a1
    obtain ⟨f1, f2, f3, f4, f5, f6, f7, f8, f9, f10, f11, f12, f13, f14, f15, f16, f17, f18⟩ := id hw
    simp only [Nat.zero_add] at g3 g4 g5 g6 r0 r1 r2 r3 r4 r5 r6 c7 c8 c9 c10
    have key := h M (fun _ _ => rfl) hI
    refine bt_go0 rfl hP 40 ?_
    refine ⟨fun z0 => ?_, fun z0 => ⟨fun z1 => ?_, fun z1 => ⟨fun z2 => ?_, fun z2 => ⟨fun z3 => ?_, fun z3 => ⟨fun z4 => ?_, fun z4 => ⟨fun z5 => ?_, fun z5 => ⟨fun z6 => ?_, fun z6 => ?_⟩⟩⟩⟩⟩⟩⟩
    · rw [if_pos z0] at key
      rw [← g1] at key
      exact key
    · rw [if_neg z0, if_pos z1] at key
      rw [← g2] at key
      exact key
    · rw [if_neg z0, if_neg z1, if_pos z2] at key
      exact ⟨0, w 12 2, rfl, rfl, by omega, by simpa using g3, key⟩
    · rw [if_neg z0, if_neg z1, if_neg z2, if_pos z3] at key
      rw [← g4] at key
      exact ⟨_, rfl, 57, rfl, by omega, key⟩
    · rw [if_neg z0, if_neg z1, if_neg z2, if_neg z3, if_pos z4] at key
      rw [← g5] at key
      exact ⟨_, rfl, 88, rfl, by omega, key⟩
    · rw [if_neg z0, if_neg z1, if_neg z2, if_neg z3, if_neg z4, if_pos z5] at key
      rw [← g6] at key
      exact ⟨_, rfl, 89, rfl, by omega, key⟩
    · rw [if_neg z0, if_neg z1, if_neg z2, if_neg z3, if_neg z4, if_neg z5, if_pos z6] at key
      exact ⟨0, w 12 1, w 11, rfl, rfl, by omega, g2, f2, f18, c11, key⟩
    · rw [if_neg z0, if_neg z1, if_neg z2, if_neg z3, if_neg z4, if_neg z5, if_neg z6] at key
      exact key
  · cases hf

def f_road : bt_fn := fun t S => match t, S with
  | [.int i, .int x], (w, im, u, z, q) => some (.int (if bt_in i (w 12 0) then if x = 0 then nI (w 0 i.toNatClampNeg) else if x = 1 then nI (w 1 i.toNatClampNeg) else if x = 2 then nI (w 2 i.toNatClampNeg) else if x = 3 then nI (w 3 i.toNatClampNeg) else if x = 4 then nI (w 4 i.toNatClampNeg) else if x = 5 then nI (w 5 i.toNatClampNeg) else if x = 6 then nI (w 6 i.toNatClampNeg) else -1 else -1), (w, im, u, z, q))
  | _, _ => none

def bt_CX5_road : bt_C := [(107, 1, 2, sX5_isStretch), (126, 0, 2, sX5_bit)]
def sX5_road : bt_Sp := bt_spC f_road
set_option maxRecDepth 100000 in
theorem mX5_road : bt_MT bt_TX5_road bt_FX5 bt_CX5_road 1 3 sX5_road := by
  intro as M N Rt h P hP
  obtain ⟨t, S, r, S', rfl, hI, hf, h⟩ := bt_spC_e h
  obtain ⟨w, im, u, z, q⟩ := S
  unfold f_road at hf
  split at hf
  · next i x _ _ _ _ _ e =>
    cases e
    obtain ⟨rfl, rfl⟩ := bt_some hf
    obtain ⟨a1, a2, a3, a4, a5, a6, a7, a8, a9, a10, a11, a12⟩ := id hI
    obtain ⟨b0, b1, b2, b3, b4, b5, b6, b7, b8, b9, b10⟩ := id a2
    obtain ⟨hw, h8, h9, h10, h11, h12, h13, h14, h15, h16, h17, r1, r2, r3, r4, r5, r6, r7, r8⟩ := id a1
    obtain ⟨f1, f2, f3, f4, f5, f6, f7, f8, f9, f10, f11, f12, f13, f14, f15, f16, f17, f18⟩ := id hw
    have key := h M N (fun _ _ => rfl) hI
    refine bt_go0 rfl hP 40 ?_
    refine ⟨w 12 0, rfl, h8, f1, ⟨fun y => ?_, fun y => ?_⟩⟩
    · rw [bt_bi_n0] at y
      rw [if_pos y] at key
      obtain ⟨j, hj, rfl⟩ := bt_in_e y
      rw [bt_clm (by omega)] at key
      refine ⟨fun z0 => ?_, fun z0 => ⟨fun z1 => ?_, fun z1 => ⟨fun z2 => ?_, fun z2 => ⟨fun z3 => ?_, fun z3 => ⟨fun z4 => ?_, fun z4 => ⟨fun z5 => ?_, fun z5 => ⟨fun z6 => ?_, fun z6 => ?_⟩⟩⟩⟩⟩⟩⟩
      · rw [if_pos z0] at key
        rw [← r1 j hj] at key
        exact ⟨_, rfl, j, rfl, by omega, key⟩
      · rw [if_neg z0, if_pos z1] at key
        rw [← r2 j hj] at key
        exact ⟨_, rfl, j, rfl, by omega, key⟩
      · rw [if_neg z0, if_neg z1, if_pos z2] at key
        rw [← r3 j hj] at key
        exact ⟨_, rfl, j, rfl, by omega, key⟩
      · rw [if_neg z0, if_neg z1, if_neg z2, if_pos z3] at key
        rw [← r4 j hj] at key
        exact ⟨_, rfl, j, rfl, by omega, key⟩
      · rw [if_neg z0, if_neg z1, if_neg z2, if_neg z3, if_pos z4] at key
        have e := bt_bitN f11 (n := w 12 0) (k := j) (by omega) (by omega)
        rw [if_pos hj, ← h9] at e
        rw [← e] at key
        exact key
      · rw [if_neg z0, if_neg z1, if_neg z2, if_neg z3, if_neg z4, if_pos z5] at key
        have e := bt_bitN f12 (n := w 12 0) (k := j) (by omega) (by omega)
        rw [if_pos hj, ← h10] at e
        rw [← e] at key
        exact key
      · rw [if_neg z0, if_neg z1, if_neg z2, if_neg z3, if_neg z4, if_neg z5, if_pos z6] at key
        have e := bt_bitN f13 (n := w 12 0) (k := j) (by omega) (by omega)
        rw [if_pos hj, ← h11] at e
        rw [← e] at key
        exact key
      · rw [if_neg z0, if_neg z1, if_neg z2, if_neg z3, if_neg z4, if_neg z5, if_neg z6] at key
        exact key
    · rw [bt_bi_0] at y
      rw [if_neg y] at key
      exact key
  · cases hf

def bt_CX6_road : bt_C := [(149, 1, 2, sX6_isRoad), (46, 0, 3, sX6_in)]
def sX6_road : bt_Sp := bt_spM f_road
set_option maxRecDepth 100000 in
theorem mX6_road : bt_MT bt_TX6_road bt_FX6 bt_CX6_road 1 3 sX6_road := by
  intro as M N Rt h P hP
  obtain ⟨t, S, r, S', rfl, hI, hf, h⟩ := bt_spM_e h
  obtain ⟨w, im, u, z, q⟩ := S
  unfold f_road at hf
  split at hf
  · next i x _ _ _ _ _ e =>
    cases e
    obtain ⟨rfl, rfl⟩ := bt_some hf
    obtain ⟨a1, a2, a3, a4, a5, a6, a7, a8, a9, a10, a11, a12, a13, a14, a15⟩ := id hI
    obtain ⟨b0, b1, b2, b3, b4, b5, b6, b7, b8, b9, b10⟩ := id a2
    obtain ⟨hw, g1, g2, g3, g4, g5, g6, r0, r1, r2, r3, r4, r5, r6, c7, c8, c9, c10, c11⟩ := id a1
    obtain ⟨f1, f2, f3, f4, f5, f6, f7, f8, f9, f10, f11, f12, f13, f14, f15, f16, f17, f18⟩ := id hw
    simp only [Nat.zero_add] at g3 g4 g5 g6 r0 r1 r2 r3 r4 r5 r6 c7 c8 c9 c10
    have key := h M (fun _ _ => rfl) hI
    refine bt_go0 rfl hP 40 ?_
    refine ⟨w 12 0, rfl, g1, f1, ⟨fun y => ?_, fun y => ⟨fun y2 => ?_, fun y2 => ?_⟩⟩⟩
    · rw [bt_bi_0] at y
      rw [if_neg y] at key
      exact key
    · rw [bt_bi_0, bt_inl_c (k := 6) (show (6 : Int64) = lN 6 from rfl) (by omega)] at y2
      rw [bt_bi_n0] at y
      have hx : ∀ a : Nat, a < 7 → ¬ x = nI a := fun a ha e => y2 (by rw [e, bt_in_nI (by omega)]; omega)
      rw [if_pos y, if_neg (show ¬ x = 0 from hx 0 (by omega)), if_neg (show ¬ x = 1 from hx 1 (by omega)), if_neg (show ¬ x = 2 from hx 2 (by omega)), if_neg (show ¬ x = 3 from hx 3 (by omega)), if_neg (show ¬ x = 4 from hx 4 (by omega)), if_neg (show ¬ x = 5 from hx 5 (by omega)), if_neg (show ¬ x = 6 from hx 6 (by omega))] at key
      exact key
    · rw [bt_bi_n0, bt_inl_c (k := 6) (show (6 : Int64) = lN 6 from rfl) (by omega)] at y2
      rw [bt_bi_n0] at y
      rw [if_pos y] at key
      obtain ⟨j, hj, rfl⟩ := bt_in_e y
      obtain ⟨a, ha, rfl⟩ := bt_in_e y2
      rw [bt_clm (by omega)] at key
      have hm : nI 7 * nI j + nI a = nI (7 * j + a) := by rw [pk_mul, nI_add]
      refine ⟨_, rfl, 7 * j + a, hm, by omega, ?_⟩
      have key2 : Rt (some (.int (nI (w a j)))) M N := by
        rcases (show a = 0 ∨ a = 1 ∨ a = 2 ∨ a = 3 ∨ a = 4 ∨ a = 5 ∨ a = 6 by omega) with rfl | rfl | rfl | rfl | rfl | rfl | rfl <;> exact key
      refine ⟨fun y3 => ?_, fun y3 => ?_⟩
      · have : M 68 (7 * j + a) = nI (w a j) := by
          rcases (show a = 0 ∨ a = 1 ∨ a = 2 ∨ a = 3 ∨ a = 4 ∨ a = 5 ∨ a = 6 by omega) with rfl | rfl | rfl | rfl | rfl | rfl | rfl
          · exact r0 j hj
          · exact r1 j hj
          · exact r2 j hj
          · exact absurd rfl y3
          · exact r4 j hj
          · exact r5 j hj
          · exact r6 j hj
        rw [← Int32.add_zero (nI (w a j)), ← this] at key2
        exact key2
      · have ha3 : a = 3 := (nI_eq (b := 3) (by omega) (by omega)).mp y3
        subst ha3
        rw [← bt_m10 (nI (w 3 j)), ← r3 j hj] at key2
        exact key2
  · cases hf

def f_car : bt_fn := fun t S => match t, S with
  | [.int i, .int x], (w, im, u, z, q) => some (.int (if bt_in i (w 12 1) then if x = 0 then nI (w 7 i.toNatClampNeg) else if x = 1 then nI (w 8 i.toNatClampNeg) else if x = 2 then nI (w 9 i.toNatClampNeg) else if x = 3 then nI (w 10 i.toNatClampNeg) else if x = 4 then nI (w 11 i.toNatClampNeg) else if x = 5 then nI (if w 11 i.toNatClampNeg = 1 then 0 else bt_ct1 (fun j => 1 - w 11 j) i.toNatClampNeg) else -1 else -1), (w, im, u, z, q))
  | _, _ => none

def bt_CX5_car : bt_C := [(136, 1, 2, sX5_isCar), (126, 0, 2, sX5_bit), (151, 1, 2, sX4_behindAheadOf)]
def sX5_car : bt_Sp := bt_spC f_car
set_option maxRecDepth 100000 in
theorem mX5_car : bt_MT bt_TX5_car bt_FX5 bt_CX5_car 1 3 sX5_car := by
  intro as M N Rt h P hP
  obtain ⟨t, S, r, S', rfl, hI, hf, h⟩ := bt_spC_e h
  obtain ⟨w, im, u, z, q⟩ := S
  unfold f_car at hf
  split at hf
  · next i x _ _ _ _ _ e =>
    cases e
    obtain ⟨rfl, rfl⟩ := bt_some hf
    obtain ⟨a1, a2, a3, a4, a5, a6, a7, a8, a9, a10, a11, a12⟩ := id hI
    obtain ⟨b0, b1, b2, b3, b4, b5, b6, b7, b8, b9, b10⟩ := id a2
    obtain ⟨hw, h8, h9, h10, h11, h12, h13, h14, h15, h16, h17, r1, r2, r3, r4, r5, r6, r7, r8⟩ := id a1
    obtain ⟨f1, f2, f3, f4, f5, f6, f7, f8, f9, f10, f11, f12, f13, f14, f15, f16, f17, f18⟩ := id hw
    have key := h M N (fun _ _ => rfl) hI
    refine bt_go0 rfl hP 40 ?_
    refine ⟨w 12 1, rfl, h12, f2, ⟨fun y => ?_, fun y => ?_⟩⟩
    · rw [bt_bi_n0] at y
      rw [if_pos y] at key
      obtain ⟨j, hj, rfl⟩ := bt_in_e y
      rw [bt_clm (by omega)] at key
      refine ⟨fun z0 => ?_, fun z0 => ⟨fun z1 => ?_, fun z1 => ⟨fun z2 => ?_, fun z2 => ⟨fun z3 => ?_, fun z3 => ⟨fun z4 => ?_, fun z4 => ⟨fun z5 => ?_, fun z5 => ?_⟩⟩⟩⟩⟩⟩
      · rw [if_pos z0] at key
        rw [← r5 j hj] at key
        exact ⟨_, rfl, j, rfl, by omega, key⟩
      · rw [if_neg z0, if_pos z1] at key
        rw [← r6 j hj] at key
        exact ⟨_, rfl, j, rfl, by omega, key⟩
      · rw [if_neg z0, if_neg z1, if_pos z2] at key
        rw [← r7 j hj] at key
        exact ⟨_, rfl, j, rfl, by omega, key⟩
      · rw [if_neg z0, if_neg z1, if_neg z2, if_pos z3] at key
        rw [← r8 j hj] at key
        exact ⟨_, rfl, j, rfl, by omega, key⟩
      · rw [if_neg z0, if_neg z1, if_neg z2, if_neg z3, if_pos z4] at key
        have e := bt_bitN f18 (n := w 12 1) (k := j) (by omega) (by omega)
        rw [if_pos hj, ← h13] at e
        rw [← e] at key
        exact key
      · rw [if_neg z0, if_neg z1, if_neg z2, if_neg z3, if_neg z4, if_pos z5] at key
        exact ⟨w, j, Or.inl rfl, a1, rfl, hj, key⟩
      · rw [if_neg z0, if_neg z1, if_neg z2, if_neg z3, if_neg z4, if_neg z5] at key
        exact key
    · rw [bt_bi_0] at y
      rw [if_neg y] at key
      exact key
  · cases hf

def bt_CX6_car : bt_C := [(153, 1, 2, sX6_isCar), (46, 0, 3, sX6_in), (158, 1, 3, sX6_aheadOf)]
def sX6_car : bt_Sp := bt_spM f_car
set_option maxRecDepth 100000 in
theorem mX6_car : bt_MT bt_TX6_car bt_FX6 bt_CX6_car 1 3 sX6_car := by
  intro as M N Rt h P hP
  obtain ⟨t, S, r, S', rfl, hI, hf, h⟩ := bt_spM_e h
  obtain ⟨w, im, u, z, q⟩ := S
  unfold f_car at hf
  split at hf
  · next i x _ _ _ _ _ e =>
    cases e
    obtain ⟨rfl, rfl⟩ := bt_some hf
    obtain ⟨a1, a2, a3, a4, a5, a6, a7, a8, a9, a10, a11, a12, a13, a14, a15⟩ := id hI
    obtain ⟨b0, b1, b2, b3, b4, b5, b6, b7, b8, b9, b10⟩ := id a2
    obtain ⟨hw, g1, g2, g3, g4, g5, g6, r0, r1, r2, r3, r4, r5, r6, c7, c8, c9, c10, c11⟩ := id a1
    obtain ⟨f1, f2, f3, f4, f5, f6, f7, f8, f9, f10, f11, f12, f13, f14, f15, f16, f17, f18⟩ := id hw
    simp only [Nat.zero_add] at g3 g4 g5 g6 r0 r1 r2 r3 r4 r5 r6 c7 c8 c9 c10
    have key := h M (fun _ _ => rfl) hI
    refine bt_go0 rfl hP 40 ?_
    refine ⟨w 12 1, rfl, g2, f2, ⟨fun y => ?_, fun y => ⟨fun y2 => ?_, fun y2 => ?_⟩⟩⟩
    · rw [bt_bi_0] at y
      rw [if_neg y] at key
      exact key
    · rw [bt_bi_n0, bt_inl_c (k := 5) (show (5 : Int64) = lN 5 from rfl) (by omega)] at y2
      rw [bt_bi_n0] at y
      rw [if_pos y] at key
      obtain ⟨j, hj, rfl⟩ := bt_in_e y
      obtain ⟨a, ha, rfl⟩ := bt_in_e y2
      rw [bt_clm (by omega)] at key
      refine ⟨fun y3 => ?_, fun y3 => ?_⟩
      · have hm : nI 58 + nI 5 * nI j + nI a = nI (58 + 5 * j + a) := by rw [pk_mul, nI_add, nI_add]
        refine ⟨_, rfl, 58 + 5 * j + a, hm, by omega, ?_⟩
        rcases (show a = 0 ∨ a = 1 ∨ a = 2 ∨ a = 3 ∨ a = 4 ∨ a = 5 by omega) with rfl | rfl | rfl | rfl | rfl | rfl
        · have key : Rt (some (.int (nI (w 7 j)))) M N := key
          rw [← c7 j hj] at key; exact key
        · have key : Rt (some (.int (nI (w 8 j)))) M N := key
          rw [← c8 j hj] at key; exact key
        · have key : Rt (some (.int (nI (w 9 j)))) M N := key
          rw [← c9 j hj] at key; exact key
        · have key : Rt (some (.int (nI (w 10 j)))) M N := key
          rw [← c10 j hj] at key; exact key
        · have key : Rt (some (.int (nI (w 11 j)))) M N := key
          have e := c11 j hj
          rw [Nat.zero_add] at e
          rw [← e] at key; exact key
        · exact absurd rfl y3
      · have ha5 : a = 5 := (nI_eq (b := 5) (by omega) (by omega)).mp y3
        subst ha5
        have key : Rt (some (.int (nI (if w 11 j = 1 then 0 else bt_ct1 (fun j => 1 - w 11 j) j)))) M N := key
        exact ⟨0, j, w 11, rfl, rfl, by omega, rfl, by omega, f18, fun k hk => c11 k (by omega), key⟩
    · rw [bt_bi_0, bt_inl_c (k := 5) (show (5 : Int64) = lN 5 from rfl) (by omega)] at y2
      rw [bt_bi_n0] at y
      have hx : ∀ a : Nat, a < 6 → ¬ x = nI a := fun a ha e => y2 (by rw [e, bt_in_nI (by omega)]; omega)
      rw [if_pos y, if_neg (show ¬ x = 0 from hx 0 (by omega)), if_neg (show ¬ x = 1 from hx 1 (by omega)), if_neg (show ¬ x = 2 from hx 2 (by omega)), if_neg (show ¬ x = 3 from hx 3 (by omega)), if_neg (show ¬ x = 4 from hx 4 (by omega)), if_neg (show ¬ x = 5 from hx 5 (by omega))] at key
      exact key
  · cases hf

def f_use : bt_fn := fun t S => match t, S with
  | [.int i, .int g], (w, im, u, z, q) => some (.int (if bt_in i (w 12 0) ∧ bt_in g 10 then nI (bt_us w i.toNatClampNeg g.toNatClampNeg) else -1), (w, im, u, z, q))
  | _, _ => none

def bt_CX5_use : bt_C := [(107, 1, 2, sX5_isStretch), (51, 0, 3, sX5_within), (155, 1, 3, sX4_ofUse)]
def sX5_use : bt_Sp := bt_spC f_use
set_option maxRecDepth 100000 in
theorem mX5_use : bt_MT bt_TX5_use bt_FX5 bt_CX5_use 1 3 sX5_use := by
  intro as M N Rt h P hP
  obtain ⟨t, S, r, S', rfl, hI, hf, h⟩ := bt_spC_e h
  obtain ⟨w, im, u, z, q⟩ := S
  unfold f_use at hf
  split at hf
  · next i g _ _ _ _ _ e =>
    cases e
    obtain ⟨rfl, rfl⟩ := bt_some hf
    obtain ⟨a1, a2, a3, a4, a5, a6, a7, a8, a9, a10, a11, a12⟩ := id hI
    obtain ⟨b0, b1, b2, b3, b4, b5, b6, b7, b8, b9, b10⟩ := id a2
    obtain ⟨hw, h8, h9, h10, h11, h12, h13, h14, h15, h16, h17, r1, r2, r3, r4, r5, r6, r7, r8⟩ := id a1
    obtain ⟨f1, f2, f3, f4, f5, f6, f7, f8, f9, f10, f11, f12, f13, f14, f15, f16, f17, f18⟩ := id hw
    have key := h M N (fun _ _ => rfl) hI
    refine bt_go0 rfl hP 40 ?_
    refine ⟨w 12 0, rfl, h8, f1, ⟨fun y => ?_, fun y => ?_⟩⟩
    · rw [bt_bi_0] at y
      rw [if_neg (fun c => y c.1)] at key
      exact key
    · rw [bt_bi_n0] at y
      refine ⟨fun y2 => ?_, fun y2 => ?_⟩
      · rw [bt_bi_n0, bt_in_c (k := 9) (show (9 : Int32) = nI 9 from rfl) (by omega)] at y2
        rw [if_pos ⟨y, y2⟩] at key
        obtain ⟨j, hj, rfl⟩ := bt_in_e y
        obtain ⟨a, ha, rfl⟩ := bt_in_e y2
        rw [bt_clm (by omega), bt_clm (by omega)] at key
        exact ⟨w, j, a, Or.inl rfl, a1, rfl, hj, rfl, by omega, key⟩
      · rw [bt_bi_0, bt_in_c (k := 9) (show (9 : Int32) = nI 9 from rfl) (by omega)] at y2
        rw [if_neg (fun c => y2 c.2)] at key
        exact key
  · cases hf

def bt_CX6_use : bt_C := [(149, 1, 2, sX6_isRoad), (46, 0, 3, sX6_in), (163, 1, 4, sX6_useOn)]
def sX6_use : bt_Sp := bt_spM f_use
set_option maxRecDepth 100000 in
theorem mX6_use : bt_MT bt_TX6_use bt_FX6 bt_CX6_use 1 3 sX6_use := by
  intro as M N Rt h P hP
  obtain ⟨t, S, r, S', rfl, hI, hf, h⟩ := bt_spM_e h
  obtain ⟨w, im, u, z, q⟩ := S
  unfold f_use at hf
  split at hf
  · next i g _ _ _ _ _ e =>
    cases e
    obtain ⟨rfl, rfl⟩ := bt_some hf
    obtain ⟨a1, a2, a3, a4, a5, a6, a7, a8, a9, a10, a11, a12, a13, a14, a15⟩ := id hI
    obtain ⟨b0, b1, b2, b3, b4, b5, b6, b7, b8, b9, b10⟩ := id a2
    obtain ⟨hw, g1, g2, g3, g4, g5, g6, r0, r1, r2, r3, r4, r5, r6, c7, c8, c9, c10, c11⟩ := id a1
    obtain ⟨f1, f2, f3, f4, f5, f6, f7, f8, f9, f10, f11, f12, f13, f14, f15, f16, f17, f18⟩ := id hw
    simp only [Nat.zero_add] at g3 g4 g5 g6 r0 r1 r2 r3 r4 r5 r6 c7 c8 c9 c10
    have key := h M (fun _ _ => rfl) hI
    refine bt_go0 rfl hP 40 ?_
    refine ⟨w 12 0, rfl, g1, f1, ⟨fun y => ?_, fun y => ?_⟩⟩
    · rw [bt_bi_0] at y
      rw [if_neg (fun c => y c.1)] at key
      exact key
    · rw [bt_bi_n0] at y
      refine ⟨fun y2 => ?_, fun y2 => ?_⟩
      · rw [bt_bi_0, bt_inl_c (k := 9) (show (9 : Int64) = lN 9 from rfl) (by omega)] at y2
        rw [if_neg (fun c => y2 c.2)] at key
        exact key
      · rw [bt_bi_n0, bt_inl_c (k := 9) (show (9 : Int64) = lN 9 from rfl) (by omega)] at y2
        rw [if_pos ⟨y, y2⟩] at key
        obtain ⟨j, hj, rfl⟩ := bt_in_e y
        obtain ⟨a, ha, rfl⟩ := bt_in_e y2
        rw [bt_clm (by omega), bt_clm (by omega)] at key
        exact ⟨0, j, a, w 6 j, w 1 j, w 4 j, rfl, rfl, by omega, rfl, by omega, rfl, by omega, by simpa using r6 j hj, f13 j, by simpa using r1 j hj, f8 j, by simpa using r4 j hj, f11 j, key⟩
  · cases hf

def f_gap : bt_fn := fun t S => match t, S with
  | [.int i, .int v], (w, im, u, z, q) => some (.int (if bt_in i (w 12 0) ∧ bt_in v 10 then nI (w 2 i.toNatClampNeg) else -1), (if bt_in i (w 12 0) ∧ bt_in v 10 then bt_w1 w 2 i.toNatClampNeg v.toNatClampNeg else w, im, u, z, q))
  | _, _ => none

def bt_CX5_gap : bt_C := [(107, 1, 2, sX5_isStretch), (51, 0, 3, sX5_within), (158, 0, 3, sX5_exchange)]
def sX5_gap : bt_Sp := bt_spC f_gap
set_option maxRecDepth 100000 in
theorem mX5_gap : bt_MT bt_TX5_gap bt_FX5 bt_CX5_gap 1 3 sX5_gap := by
  intro as M N Rt h P hP
  obtain ⟨t, S, r, S', rfl, hI, hf, h⟩ := bt_spC_e h
  obtain ⟨w, im, u, z, q⟩ := S
  unfold f_gap at hf
  split at hf
  · next i v _ _ _ _ _ e =>
    cases e
    obtain ⟨rfl, rfl⟩ := bt_some hf
    obtain ⟨a1, a2, a3, a4, a5, a6, a7, a8, a9, a10, a11, a12⟩ := id hI
    obtain ⟨b0, b1, b2, b3, b4, b5, b6, b7, b8, b9, b10⟩ := id a2
    obtain ⟨hw, h8, h9, h10, h11, h12, h13, h14, h15, h16, h17, r1, r2, r3, r4, r5, r6, r7, r8⟩ := id a1
    obtain ⟨f1, f2, f3, f4, f5, f6, f7, f8, f9, f10, f11, f12, f13, f14, f15, f16, f17, f18⟩ := id hw
    refine bt_go0 rfl hP 40 ?_
    refine ⟨w 12 0, rfl, h8, f1, ⟨fun y => ?_, fun y => ?_⟩⟩
    · rw [bt_bi_0] at y
      rw [if_neg (fun c => y c.1), if_neg (fun c => y c.1)] at h
      exact h M N (fun _ _ => rfl) hI
    · rw [bt_bi_n0] at y
      refine ⟨fun y2 => ?_, fun y2 => ?_⟩
      · rw [bt_bi_n0, bt_in_c (k := 9) (show (9 : Int32) = nI 9 from rfl) (by omega)] at y2
        rw [if_pos ⟨y, y2⟩, if_pos ⟨y, y2⟩] at h
        obtain ⟨j, hj, rfl⟩ := bt_in_e y
        obtain ⟨a, ha, rfl⟩ := bt_in_e y2
        rw [bt_clm (by omega), bt_clm (by omega)] at h
        refine ⟨_, j, rfl, rfl, by omega, fun M' e => ?_⟩
        have key := h M' N (fun x hx => by rw [e, bt_up_n (by omega)]) (bt_cI_live hI (bt_cW_row (r := 3) a1 (show a ≤ bt_at bt_bnd 2 0 from Nat.le_of_lt_succ ha) (by omega) (fun x hx => by rw [e, bt_up_n (by omega)]) (fun i => by rw [e, bt_up_s]; rfl)) ⟨rfl, rfl⟩ (fun x hx => by rw [e, bt_up_n (by omega)]))
        rw [← r3 j hj] at key
        exact key
      · rw [bt_bi_0, bt_in_c (k := 9) (show (9 : Int32) = nI 9 from rfl) (by omega)] at y2
        rw [if_neg (fun c => y2 c.2), if_neg (fun c => y2 c.2)] at h
        exact h M N (fun _ _ => rfl) hI
  · cases hf

def bt_CX6_gap : bt_C := [(149, 1, 2, sX6_isRoad), (46, 0, 3, sX6_in), (167, 1, 4, sX6_sets)]
def sX6_gap : bt_Sp := bt_spM f_gap
set_option maxRecDepth 100000 in
theorem mX6_gap : bt_MT bt_TX6_gap bt_FX6 bt_CX6_gap 1 3 sX6_gap := by
  intro as M N Rt h P hP
  obtain ⟨t, S, r, S', rfl, hI, hf, h⟩ := bt_spM_e h
  obtain ⟨w, im, u, z, q⟩ := S
  unfold f_gap at hf
  split at hf
  · next i v _ _ _ _ _ e =>
    cases e
    obtain ⟨rfl, rfl⟩ := bt_some hf
    obtain ⟨a1, a2, a3, a4, a5, a6, a7, a8, a9, a10, a11, a12, a13, a14, a15⟩ := id hI
    obtain ⟨b0, b1, b2, b3, b4, b5, b6, b7, b8, b9, b10⟩ := id a2
    obtain ⟨hw, g1, g2, g3, g4, g5, g6, r0, r1, r2, r3, r4, r5, r6, c7, c8, c9, c10, c11⟩ := id a1
    obtain ⟨f1, f2, f3, f4, f5, f6, f7, f8, f9, f10, f11, f12, f13, f14, f15, f16, f17, f18⟩ := id hw
    simp only [Nat.zero_add] at g3 g4 g5 g6 r0 r1 r2 r3 r4 r5 r6 c7 c8 c9 c10
    refine bt_go0 rfl hP 40 ?_
    have hbad : ¬ (bt_in i (w 12 0) ∧ bt_in v 10) → Rt (some (.int (-1))) M N := fun y => by
      rw [if_neg y, if_neg y] at h
      exact h M (fun _ _ => rfl) hI
    refine ⟨w 12 0, rfl, g1, f1, ⟨fun y => ?_, fun y => ?_⟩⟩
    · rw [bt_bi_0] at y
      exact ⟨rfl, fun _ => hbad (fun c => y c.1), fun c => absurd rfl c⟩
    · rw [bt_bi_n0] at y
      refine ⟨fun y2 => ?_, fun y2 => ?_⟩
      · rw [bt_bi_0, bt_inl_c (k := 9) (show (9 : Int64) = lN 9 from rfl) (by omega)] at y2
        exact ⟨rfl, fun _ => hbad (fun c => y2 c.2), fun c => absurd rfl c⟩
      · rw [bt_bi_n0, bt_inl_c (k := 9) (show (9 : Int64) = lN 9 from rfl) (by omega)] at y2
        rw [if_pos ⟨y, y2⟩, if_pos ⟨y, y2⟩] at h
        obtain ⟨j, hj, rfl⟩ := bt_in_e y
        obtain ⟨a, ha, rfl⟩ := bt_in_e y2
        rw [bt_clm (by omega), bt_clm (by omega)] at h
        refine ⟨rfl, fun c => absurd c (by decide), fun _ => ⟨7 * j + 2, by simp only [bt_lit, pk_mul, nI_add], by omega, fun M' e => ?_⟩⟩
        have key := h M' (fun x hx => by rw [e, bt_up_n (by omega)]) (bt_mI_live hI (bt_mW_st (f := 2) a1 (by omega) (by omega) (show a ≤ bt_at bt_bnd 2 0 from Nat.le_of_lt_succ ha) (fun x hx => by rw [e, bt_up_n hx]) (fun i hi => by rw [e, bt_up_s, pk_un (by omega)]) (by rw [if_neg (by omega), e, bt_up_s, Nat.zero_add, pk_us])) ⟨rfl, rfl⟩ (fun x _ hx => by rw [e, bt_up_n hx]) (fun i hi _ => by rw [e, bt_up_s, pk_un (by omega)]))
        rw [← r2 j hj] at key
        exact key
  · cases hf

def f_sight : bt_fn := fun t S => match t, S with
  | [.int i, .int v], (w, im, u, z, q) => some (.int (if bt_in i (w 12 0) ∧ bt_in v 10 then nI (w 1 i.toNatClampNeg) else -1), (if bt_in i (w 12 0) ∧ bt_in v 10 then bt_w1 w 1 i.toNatClampNeg v.toNatClampNeg else w, im, u, z, q))
  | _, _ => none

def bt_CX5_sight : bt_C := [(107, 1, 2, sX5_isStretch), (51, 0, 3, sX5_within), (158, 0, 3, sX5_exchange)]
def sX5_sight : bt_Sp := bt_spC f_sight
set_option maxRecDepth 100000 in
theorem mX5_sight : bt_MT bt_TX5_sight bt_FX5 bt_CX5_sight 1 3 sX5_sight := by
  intro as M N Rt h P hP
  obtain ⟨t, S, r, S', rfl, hI, hf, h⟩ := bt_spC_e h
  obtain ⟨w, im, u, z, q⟩ := S
  unfold f_sight at hf
  split at hf
  · next i v _ _ _ _ _ e =>
    cases e
    obtain ⟨rfl, rfl⟩ := bt_some hf
    obtain ⟨a1, a2, a3, a4, a5, a6, a7, a8, a9, a10, a11, a12⟩ := id hI
    obtain ⟨b0, b1, b2, b3, b4, b5, b6, b7, b8, b9, b10⟩ := id a2
    obtain ⟨hw, h8, h9, h10, h11, h12, h13, h14, h15, h16, h17, r1, r2, r3, r4, r5, r6, r7, r8⟩ := id a1
    obtain ⟨f1, f2, f3, f4, f5, f6, f7, f8, f9, f10, f11, f12, f13, f14, f15, f16, f17, f18⟩ := id hw
    refine bt_go0 rfl hP 40 ?_
    refine ⟨w 12 0, rfl, h8, f1, ⟨fun y => ?_, fun y => ?_⟩⟩
    · rw [bt_bi_0] at y
      rw [if_neg (fun c => y c.1), if_neg (fun c => y c.1)] at h
      exact h M N (fun _ _ => rfl) hI
    · rw [bt_bi_n0] at y
      refine ⟨fun y2 => ?_, fun y2 => ?_⟩
      · rw [bt_bi_n0, bt_in_c (k := 9) (show (9 : Int32) = nI 9 from rfl) (by omega)] at y2
        rw [if_pos ⟨y, y2⟩, if_pos ⟨y, y2⟩] at h
        obtain ⟨j, hj, rfl⟩ := bt_in_e y
        obtain ⟨a, ha, rfl⟩ := bt_in_e y2
        rw [bt_clm (by omega), bt_clm (by omega)] at h
        refine ⟨_, j, rfl, rfl, by omega, fun M' e => ?_⟩
        have key := h M' N (fun x hx => by rw [e, bt_up_n (by omega)]) (bt_cI_live hI (bt_cW_row (r := 2) a1 (show a ≤ bt_at bt_bnd 1 0 from Nat.le_of_lt_succ ha) (by omega) (fun x hx => by rw [e, bt_up_n (by omega)]) (fun i => by rw [e, bt_up_s]; rfl)) ⟨rfl, rfl⟩ (fun x hx => by rw [e, bt_up_n (by omega)]))
        rw [← r2 j hj] at key
        exact key
      · rw [bt_bi_0, bt_in_c (k := 9) (show (9 : Int32) = nI 9 from rfl) (by omega)] at y2
        rw [if_neg (fun c => y2 c.2), if_neg (fun c => y2 c.2)] at h
        exact h M N (fun _ _ => rfl) hI
  · cases hf

def bt_CX6_sight : bt_C := [(149, 1, 2, sX6_isRoad), (46, 0, 3, sX6_in), (167, 1, 4, sX6_sets)]
def sX6_sight : bt_Sp := bt_spM f_sight
set_option maxRecDepth 100000 in
theorem mX6_sight : bt_MT bt_TX6_sight bt_FX6 bt_CX6_sight 1 3 sX6_sight := by
  intro as M N Rt h P hP
  obtain ⟨t, S, r, S', rfl, hI, hf, h⟩ := bt_spM_e h
  obtain ⟨w, im, u, z, q⟩ := S
  unfold f_sight at hf
  split at hf
  · next i v _ _ _ _ _ e =>
    cases e
    obtain ⟨rfl, rfl⟩ := bt_some hf
    obtain ⟨a1, a2, a3, a4, a5, a6, a7, a8, a9, a10, a11, a12, a13, a14, a15⟩ := id hI
    obtain ⟨b0, b1, b2, b3, b4, b5, b6, b7, b8, b9, b10⟩ := id a2
    obtain ⟨hw, g1, g2, g3, g4, g5, g6, r0, r1, r2, r3, r4, r5, r6, c7, c8, c9, c10, c11⟩ := id a1
    obtain ⟨f1, f2, f3, f4, f5, f6, f7, f8, f9, f10, f11, f12, f13, f14, f15, f16, f17, f18⟩ := id hw
    simp only [Nat.zero_add] at g3 g4 g5 g6 r0 r1 r2 r3 r4 r5 r6 c7 c8 c9 c10
    refine bt_go0 rfl hP 40 ?_
    have hbad : ¬ (bt_in i (w 12 0) ∧ bt_in v 10) → Rt (some (.int (-1))) M N := fun y => by
      rw [if_neg y, if_neg y] at h
      exact h M (fun _ _ => rfl) hI
    refine ⟨w 12 0, rfl, g1, f1, ⟨fun y => ?_, fun y => ?_⟩⟩
    · rw [bt_bi_0] at y
      exact ⟨rfl, fun _ => hbad (fun c => y c.1), fun c => absurd rfl c⟩
    · rw [bt_bi_n0] at y
      refine ⟨fun y2 => ?_, fun y2 => ?_⟩
      · rw [bt_bi_0, bt_inl_c (k := 9) (show (9 : Int64) = lN 9 from rfl) (by omega)] at y2
        exact ⟨rfl, fun _ => hbad (fun c => y2 c.2), fun c => absurd rfl c⟩
      · rw [bt_bi_n0, bt_inl_c (k := 9) (show (9 : Int64) = lN 9 from rfl) (by omega)] at y2
        rw [if_pos ⟨y, y2⟩, if_pos ⟨y, y2⟩] at h
        obtain ⟨j, hj, rfl⟩ := bt_in_e y
        obtain ⟨a, ha, rfl⟩ := bt_in_e y2
        rw [bt_clm (by omega), bt_clm (by omega)] at h
        refine ⟨rfl, fun c => absurd c (by decide), fun _ => ⟨7 * j + 1, by simp only [bt_lit, pk_mul, nI_add], by omega, fun M' e => ?_⟩⟩
        have key := h M' (fun x hx => by rw [e, bt_up_n (by omega)]) (bt_mI_live hI (bt_mW_st (f := 1) a1 (by omega) (by omega) (show a ≤ bt_at bt_bnd 1 0 from Nat.le_of_lt_succ ha) (fun x hx => by rw [e, bt_up_n hx]) (fun i hi => by rw [e, bt_up_s, pk_un (by omega)]) (by rw [if_neg (by omega), e, bt_up_s, Nat.zero_add, pk_us])) ⟨rfl, rfl⟩ (fun x _ hx => by rw [e, bt_up_n hx]) (fun i hi _ => by rw [e, bt_up_s, pk_un (by omega)]))
        rw [← r1 j hj] at key
        exact key
  · cases hf

def f_odd : bt_fn := fun t S => match t, S with
  | [.int i, .int v], (w, im, u, z, q) => some (.int (if bt_in i (w 12 0) ∧ bt_in v 11 then nI (w 3 i.toNatClampNeg) else -1), (if bt_in i (w 12 0) ∧ bt_in v 11 then bt_w1 w 3 i.toNatClampNeg v.toNatClampNeg else w, im, u, z, q))
  | _, _ => none

def bt_CX5_odd : bt_C := [(107, 1, 2, sX5_isStretch), (51, 0, 3, sX5_within), (158, 0, 3, sX5_exchange)]
def sX5_odd : bt_Sp := bt_spC f_odd
set_option maxRecDepth 100000 in
theorem mX5_odd : bt_MT bt_TX5_odd bt_FX5 bt_CX5_odd 1 3 sX5_odd := by
  intro as M N Rt h P hP
  obtain ⟨t, S, r, S', rfl, hI, hf, h⟩ := bt_spC_e h
  obtain ⟨w, im, u, z, q⟩ := S
  unfold f_odd at hf
  split at hf
  · next i v _ _ _ _ _ e =>
    cases e
    obtain ⟨rfl, rfl⟩ := bt_some hf
    obtain ⟨a1, a2, a3, a4, a5, a6, a7, a8, a9, a10, a11, a12⟩ := id hI
    obtain ⟨b0, b1, b2, b3, b4, b5, b6, b7, b8, b9, b10⟩ := id a2
    obtain ⟨hw, h8, h9, h10, h11, h12, h13, h14, h15, h16, h17, r1, r2, r3, r4, r5, r6, r7, r8⟩ := id a1
    obtain ⟨f1, f2, f3, f4, f5, f6, f7, f8, f9, f10, f11, f12, f13, f14, f15, f16, f17, f18⟩ := id hw
    refine bt_go0 rfl hP 40 ?_
    refine ⟨w 12 0, rfl, h8, f1, ⟨fun y => ?_, fun y => ?_⟩⟩
    · rw [bt_bi_0] at y
      rw [if_neg (fun c => y c.1), if_neg (fun c => y c.1)] at h
      exact h M N (fun _ _ => rfl) hI
    · rw [bt_bi_n0] at y
      refine ⟨fun y2 => ?_, fun y2 => ?_⟩
      · rw [bt_bi_n0, bt_in_c (k := 10) (show (10 : Int32) = nI 10 from rfl) (by omega)] at y2
        rw [if_pos ⟨y, y2⟩, if_pos ⟨y, y2⟩] at h
        obtain ⟨j, hj, rfl⟩ := bt_in_e y
        obtain ⟨a, ha, rfl⟩ := bt_in_e y2
        rw [bt_clm (by omega), bt_clm (by omega)] at h
        refine ⟨_, j, rfl, rfl, by omega, fun M' e => ?_⟩
        have key := h M' N (fun x hx => by rw [e, bt_up_n (by omega)]) (bt_cI_live hI (bt_cW_row (r := 4) a1 (show a ≤ bt_at bt_bnd 3 0 from Nat.le_of_lt_succ ha) (by omega) (fun x hx => by rw [e, bt_up_n (by omega)]) (fun i => by rw [e, bt_up_s]; rfl)) ⟨rfl, rfl⟩ (fun x hx => by rw [e, bt_up_n (by omega)]))
        rw [← r4 j hj] at key
        exact key
      · rw [bt_bi_0, bt_in_c (k := 10) (show (10 : Int32) = nI 10 from rfl) (by omega)] at y2
        rw [if_neg (fun c => y2 c.2), if_neg (fun c => y2 c.2)] at h
        exact h M N (fun _ _ => rfl) hI
  · cases hf

def bt_CX6_odd : bt_C := [(149, 1, 2, sX6_isRoad), (46, 0, 3, sX6_in), (167, 1, 4, sX6_sets)]
def sX6_odd : bt_Sp := bt_spM f_odd
set_option maxRecDepth 100000 in
theorem mX6_odd : bt_MT bt_TX6_odd bt_FX6 bt_CX6_odd 1 3 sX6_odd := by
  intro as M N Rt h P hP
  obtain ⟨t, S, r, S', rfl, hI, hf, h⟩ := bt_spM_e h
  obtain ⟨w, im, u, z, q⟩ := S
  unfold f_odd at hf
  split at hf
  · next i v _ _ _ _ _ e =>
    cases e
    obtain ⟨rfl, rfl⟩ := bt_some hf
    obtain ⟨a1, a2, a3, a4, a5, a6, a7, a8, a9, a10, a11, a12, a13, a14, a15⟩ := id hI
    obtain ⟨b0, b1, b2, b3, b4, b5, b6, b7, b8, b9, b10⟩ := id a2
    obtain ⟨hw, g1, g2, g3, g4, g5, g6, r0, r1, r2, r3, r4, r5, r6, c7, c8, c9, c10, c11⟩ := id a1
    obtain ⟨f1, f2, f3, f4, f5, f6, f7, f8, f9, f10, f11, f12, f13, f14, f15, f16, f17, f18⟩ := id hw
    simp only [Nat.zero_add] at g3 g4 g5 g6 r0 r1 r2 r3 r4 r5 r6 c7 c8 c9 c10
    refine bt_go0 rfl hP 40 ?_
    have hbad : ¬ (bt_in i (w 12 0) ∧ bt_in v 11) → Rt (some (.int (-1))) M N := fun y => by
      rw [if_neg y, if_neg y] at h
      exact h M (fun _ _ => rfl) hI
    refine ⟨w 12 0, rfl, g1, f1, ⟨fun y => ?_, fun y => ?_⟩⟩
    · rw [bt_bi_0] at y
      exact hbad (fun c => y c.1)
    · rw [bt_bi_n0] at y
      refine ⟨fun y2 => ?_, fun y2 => ?_⟩
      · rw [bt_bi_0, bt_inl_c (k := 10) (show (10 : Int64) = lN 10 from rfl) (by omega)] at y2
        exact hbad (fun c => y2 c.2)
      · rw [bt_bi_n0, bt_inl_c (k := 10) (show (10 : Int64) = lN 10 from rfl) (by omega)] at y2
        rw [if_pos ⟨y, y2⟩, if_pos ⟨y, y2⟩] at h
        obtain ⟨j, hj, rfl⟩ := bt_in_e y
        obtain ⟨a, ha, rfl⟩ := bt_in_e y2
        rw [bt_clm (by omega), bt_clm (by omega)] at h
        refine ⟨rfl, fun c => absurd c (by decide), fun _ => ⟨7 * j + 3, by simp only [bt_lit, pk_mul, nI_add], by omega, fun M' e => ?_⟩⟩
        have key := h M' (fun x hx => by rw [e, bt_up_n (by omega)]) (bt_mI_live hI (bt_mW_st (f := 3) a1 (by omega) (by omega) (show a ≤ bt_at bt_bnd 3 0 from Nat.le_of_lt_succ ha) (fun x hx => by rw [e, bt_up_n hx]) (fun i hi => by rw [e, bt_up_s, pk_un (by omega)]) (by rw [if_pos rfl, e, bt_up_s, Nat.zero_add, pk_us])) ⟨rfl, rfl⟩ (fun x _ hx => by rw [e, bt_up_n hx]) (fun i hi _ => by rw [e, bt_up_s, pk_un (by omega)]))
        rw [← bt_m10 (nI (w 3 j)), ← r3 j hj, Int32.add_comm] at key
        exact key
  · cases hf
