/-! CALLS, BOTH SIDES: counts, reading a sheet -/
theorem bt_bcI : ∀ a, a < 2 → ∀ b, b < 2 → bt_bc (nI (a + 2 * b)) = nI (a + b) := by decide +kernel
theorem bt_pr0' : ∀ n, n < 42 → (0 ≤ nI n - 1 ↔ ¬ n = 0) := bt_pr0

def f_count : bt_fn := fun t S => match t, S with
  | [.int x], (w, im, u, z, q) => some (.int (if x = 0 then (nI (u 5)) else if x = 1 then (nI (u 3 + u 4)) else if x = 2 then (nI (u 0)) else if x = 3 then (if u 6 = 0 then -4 else nI (u 6 - 1)) else if x = 4 then (nI (bt_ct1 (w 11) (w 12 1))) else if x = 5 then (nI (bt_ml w (w 12 4) (w 12 0 - w 12 4))) else if x = 6 then (nI (bt_st w)) else -1), (w, im, u, z, q))
  | _, _ => none

def bt_CX5_count : bt_C := [(283, 0, 1, sJ6_bitCount_0f7a4), (291, 1, 1, sX4_milesLeft), (255, 1, 1, sX4_sumOfTimes)]
def sX5_count : bt_Sp := bt_spC f_count
set_option maxRecDepth 100000 in
theorem mX5_count : bt_MT bt_TX5_count bt_FX5 bt_CX5_count 1 2 sX5_count := by
  intro as M N Rt h P hP
  obtain ⟨t, S, r, S', rfl, hI, hf, h⟩ := bt_spC_e h
  obtain ⟨w, im, u, z, q⟩ := S
  unfold f_count at hf
  split at hf
  · next x _ _ _ _ _ e =>
    cases e
    obtain ⟨rfl, rfl⟩ := bt_some hf
    obtain ⟨a1, a2, a3, a4, a5, a6, a7, a8, a9, a10, a11, a12⟩ := id hI
    obtain ⟨b0, b1, b2, b3, b4, b5, b6, b7, b8, b9, b10⟩ := id a2
    obtain ⟨hw, h8, h9, h10, h11, h12, h13, h14, h15, h16, h17, r1, r2, r3, r4, r5, r6, r7, r8⟩ := id a1
    obtain ⟨f1, f2, f3, f4, f5, f6, f7, f8, f9, f10, f11, f12, f13, f14, f15, f16, f17, f18⟩ := id hw
    have key := h M N (fun _ _ => rfl) hI
    have s0 := a10 0 (by omega)
    simp only [Nat.add_zero, Nat.mul_zero] at s0
    have l1 := (b7 0 (by omega)).1
    simp only [Nat.add_zero] at l1
    refine bt_go0 rfl hP 40 ?_
    refine ⟨fun z0 => ?_, fun z0 => ⟨fun z1 => ?_, fun z1 => ⟨fun z2 => ?_, fun z2 => ⟨fun z3 => ?_, fun z3 => ⟨fun z4 => ?_, fun z4 => ⟨fun z5 => ?_, fun z5 => ⟨fun z6 => ?_, fun z6 => ?_⟩⟩⟩⟩⟩⟩⟩
    · rw [if_pos z0] at key
      rw [← a11] at key
      exact key
    · rw [if_neg z0, if_pos z1] at key
      rw [← bt_bcI (u 3) (by omega) (u 4) (by omega), ← a6] at key
      exact key
    · rw [if_neg z0, if_neg z1, if_pos z2] at key
      rw [← a3] at key
      exact key
    · rw [if_neg z0, if_neg z1, if_neg z2, if_pos z3] at key
      refine ⟨_, rfl, 0, rfl, by omega, ⟨fun y => ?_, fun y => ?_⟩⟩
      · have y2 := (bt_pr0 (u 6) (by omega)).mp (by rw [← s0.1]; exact y)
        rw [if_neg y2, ← bt_pr (by omega), ← s0.1] at key
        exact ⟨_, rfl, 0, rfl, by omega, key⟩
      · have y2 : u 6 = 0 := by
          by_cases c : u 6 = 0
          · exact c
          · exact absurd ((bt_pr0 (u 6) (by omega)).mpr c) (by rw [← s0.1]; exact y)
        rw [if_pos y2] at key
        exact key
    · rw [if_neg z0, if_neg z1, if_neg z2, if_neg z3, if_pos z4] at key
      rw [← bt_bc_mk f18 (by omega), ← h13] at key
      exact key
    · rw [if_neg z0, if_neg z1, if_neg z2, if_neg z3, if_neg z4, if_pos z5] at key
      exact ⟨w, Or.inl rfl, a1, key⟩
    · rw [if_neg z0, if_neg z1, if_neg z2, if_neg z3, if_neg z4, if_neg z5, if_pos z6] at key
      exact ⟨w, Or.inl rfl, a1, key⟩
    · rw [if_neg z0, if_neg z1, if_neg z2, if_neg z3, if_neg z4, if_neg z5, if_neg z6] at key
      exact key
  · cases hf

theorem bt_z01 {a : Nat} (h : a ≤ 1) : nI a = 0 ↔ a = 0 := by
  constructor
  · intro z
    exact (nI_eq (b := 0) (by omega) (by omega)).mp z
  · rintro rfl
    rfl

def bt_CX6_count : bt_C := [(146, 1, 2, sX6_pastOn), (181, 0, 1, sX6_bitsOf), (211, 1, 1, sX6_milesLeft), (208, 1, 2, sX6_timesOn)]
def sX6_count : bt_Sp := bt_spM f_count
set_option maxRecDepth 100000 in
theorem mX6_count : bt_MT bt_TX6_count bt_FX6 bt_CX6_count 1 2 sX6_count := by
  intro as M N Rt h P hP
  obtain ⟨t, S, r, S', rfl, hI, hf, h⟩ := bt_spM_e h
  obtain ⟨w, im, u, z, q⟩ := S
  unfold f_count at hf
  split at hf
  · next x _ _ _ _ _ e =>
    cases e
    obtain ⟨rfl, rfl⟩ := bt_some hf
    obtain ⟨a1, a2, a3, a4, a5, a6, a7, a8, a9, a10, a11, a12, a13, a14, a15⟩ := id hI
    obtain ⟨b0, b1, b2, b3, b4, b5, b6, b7, b8, b9, b10⟩ := id a2
    obtain ⟨hw, g1, g2, g3, g4, g5, g6, r0, r1, r2, r3, r4, r5, r6, c7, c8, c9, c10, c11⟩ := id a1
    obtain ⟨f1, f2, f3, f4, f5, f6, f7, f8, f9, f10, f11, f12, f13, f14, f15, f16, f17, f18⟩ := id hw
    simp only [Nat.zero_add] at g3 g4 g5 g6 r0 r1 r2 r3 r4 r5 r6 c7 c8 c9 c10
    have key := h M (fun _ _ => rfl) hI
    have s0 := a11 0 (by omega)
    simp only [Nat.add_zero, Nat.mul_zero] at s0
    have l1 := b7 0 (by omega)
    simp only [Nat.add_zero] at l1
    refine bt_go0 rfl hP 60 ?_
    refine ⟨fun z0 => ?_, fun z0 => ⟨fun z1 => ?_, fun z1 => ⟨fun z2 => ?_, fun z2 => ⟨fun z3 => ?_, fun z3 => ⟨fun z4 => ?_, fun z4 => ⟨fun z5 => ?_, fun z5 => ⟨fun z6 => ?_, fun z6 => ?_⟩⟩⟩⟩⟩⟩⟩
    · rw [if_pos z0] at key
      rw [← a12] at key
      exact key
    · rw [if_neg z0, if_pos z1] at key
      refine ⟨_, rfl, 0, rfl, by omega, ⟨fun y => ?_, fun y => ?_⟩⟩
      all_goals
        refine ⟨_, rfl, 1, rfl, by omega, ⟨fun y2 => ?_, fun y2 => ?_⟩⟩
        all_goals
          rw [a7, bt_z01 (by omega)] at y
          rw [a8, bt_z01 (by omega)] at y2
          first | rw [y] at key | rw [show u 3 = 1 by omega] at key
          first | rw [y2] at key | rw [show u 4 = 1 by omega] at key
          exact key
    · rw [if_neg z0, if_neg z1, if_pos z2] at key
      rw [← a3] at key
      exact key
    · rw [if_neg z0, if_neg z1, if_neg z2, if_pos z3] at key
      refine ⟨_, rfl, 0, rfl, by omega, ⟨fun y => ?_, fun y => ?_⟩⟩
      · have y2 : ¬ u 6 = 0 := fun c => y (by rw [s0.1, if_pos c])
        rw [if_neg y2, ← s0.2.1 y2] at key
        exact ⟨_, rfl, 0, rfl, by omega, key⟩
      · have y2 : u 6 = 0 := by
          by_cases c : u 6 = 0
          · exact c
          · rw [s0.1, if_neg c] at y
            exact absurd y (bt_l4 _ (by omega))
        rw [if_pos y2] at key
        exact key
    · rw [if_neg z0, if_neg z1, if_neg z2, if_neg z3, if_pos z4] at key
      refine ⟨0, w 12 1, w 11, rfl, rfl, by omega, g2, f2, f18, c11, ?_⟩
      rw [← bt_pc_mk f18 (by omega)] at key
      have hlt := bt_mk_lt f18 (w 12 1)
      have hle : 2 ^ w 12 1 ≤ 2 ^ 6 := Nat.pow_le_pow_right (by omega) f2
      exact ⟨_, rfl, by omega, key⟩
    · rw [if_neg z0, if_neg z1, if_neg z2, if_neg z3, if_neg z4, if_pos z5] at key
      exact ⟨w, rfl, a1, key⟩
    · rw [if_neg z0, if_neg z1, if_neg z2, if_neg z3, if_neg z4, if_neg z5, if_pos z6] at key
      exact ⟨0, w, rfl, rfl, by omega, a1, key⟩
    · rw [if_neg z0, if_neg z1, if_neg z2, if_neg z3, if_neg z4, if_neg z5, if_neg z6] at key
      exact key
  · cases hf

def bt_rd (n l : Nat) (l' fr : Int32) (qk : Nat → Int32) : Nat → Nat → bt_W → Nat × Nat × bt_W
  | 0, k, w => (0, k, w)
  | r + 1, k, w => if bt_fa n l l' (fr + nI k) = 0 then (if bt_in (qk (fr + nI k).toNatClampNeg) 10 ∧ w 12 4 < w 12 0 then bt_rd n l l' fr qk r (k + 1) (bt_dv w (qk (fr + nI k).toNatClampNeg).toNatClampNeg) else (4, k, w)) else (bt_fa n l l' (fr + nI k), k, w)
def bt_rs (u : Nat → Nat) (q : Nat → Nat → Int32) (w : bt_W) (k l fr c : Int32) : Nat × Nat × bt_W := bt_rd (u (6 + k.toNatClampNeg)) (u (10 + k.toNatClampNeg)) l fr (q k.toNatClampNeg) c.toNatClampNeg 0 w
theorem bt_fa_0 {n l : Nat} {l' i : Int32} : bt_fa n l l' i = 0 ↔ (¬ n = 0 ∧ l' = nI l ∧ bt_in i (n - 1)) := by
  unfold bt_fa
  by_cases h1 : n = 0
  · simp [h1]
  · by_cases h2 : l' = nI l
    · by_cases h3 : bt_in i (n - 1)
      · simp only [if_neg h1, if_pos h2, if_pos h3]
        exact ⟨fun _ => ⟨h1, h2, h3⟩, fun _ => trivial⟩
      · simp only [if_neg h1, if_pos h2, if_neg h3]
        exact ⟨fun c => absurd c (by decide), fun c => absurd c.2.2 h3⟩
    · simp only [if_neg h1, if_neg h2]
      exact ⟨fun c => absurd c (by decide), fun c => absurd c.2.1 h2⟩
theorem bt_fa_le {n l : Nat} {l' i : Int32} : bt_fa n l l' i ≤ 3 := by
  unfold bt_fa
  split
  · omega
  · split
    · split <;> omega
    · omega
theorem bt_fr_in {fr : Int32} {i m : Nat} (hi : i ≤ 20) (hm : m ≤ 40) : ((0 : Int64) ≤ fr.toInt64 + (nI i).toInt64 ∧ fr.toInt64 + (nI i).toInt64 ≤ (nI m - 1).toInt64) ↔ bt_in (fr + nI i) m := by
  have b1 : fr.toInt < 2 ^ 31 := Int32.toInt_lt fr
  have b2 : -2 ^ 31 ≤ fr.toInt := Int32.le_toInt fr
  have h1 : (fr.toInt64 + (nI i).toInt64).toInt = fr.toInt + i := by
    rw [Int64.toInt_add, Int32.toInt_toInt64, Int32.toInt_toInt64, nI_toInt (by omega), Int.bmod_def]
    split <;> omega
  have h2 : (fr + nI i).toInt = if fr.toInt + i < 2 ^ 31 then fr.toInt + i else fr.toInt + i - 2 ^ 32 := by
    rw [Int32.toInt_add, nI_toInt (by omega), Int.bmod_def]
    split <;> split <;> omega
  rw [Int64.le_iff_toInt_le, Int64.le_iff_toInt_le, h1, Int32.toInt_toInt64, bt_nI_sub1 (by omega)]
  unfold bt_in
  rw [h2]
  have h0 : (0 : Int64).toInt = 0 := by decide
  rw [h0]
  split <;> omega
theorem bt_cI_t {M M' : bt_M} {w : bt_W} {im : Nat → bt_W} {u : Nat → Nat} {z : Nat → Nat → Nat} {q : Nat → Nat → Int32} (h : bt_cI M (w, im, u, z, q)) {f : Nat} (hf : f ≤ 4) (h1 : ∀ x : Nat, x ≠ 0 → M' x = M x) (h0 : ∀ g, g ≠ 8 → M' 0 g = M 0 g) (h11 : M' 0 8 = nI f) : bt_cI M' (w, im, va_up u 2 f, z, q) := by
  obtain ⟨a1, a2, a3, a4, a5, a6, a7, a8, a9, a10, a11, a12⟩ := h
  obtain ⟨b0, b1, b2, b3, b4, b5, b6, b7, b8, b9, b10⟩ := a2
  refine ⟨bt_cW_kept a1 (fun x _ _ => h1 x (by omega)), ?_, ?_, ?_, ?_, ?_, ?_, ?_, ?_, ?_, ?_, ?_⟩
  · unfold bt_sW
    rw [bt_up_s, bt_un 0 (by omega), bt_un 1 (by omega), bt_un 3 (by omega), bt_un 4 (by omega), bt_un 5 (by omega)]
    exact ⟨b0, b1, b2, hf, b4, b5, b6, fun k hk => by rw [bt_un (6 + k) (by omega), bt_un (10 + k) (by omega)]; exact b7 k hk, b8, b9, b10⟩
  · rw [h1 20 (by omega), bt_un 0 (by omega)]; exact a3
  · rw [h1 1 (by omega), bt_un 0 (by omega)]; exact a4
  · rw [h1 20 (by omega), bt_un 1 (by omega)]; exact a5
  · rw [h0 7 (by omega), bt_un 3 (by omega), bt_un 4 (by omega)]; exact a6
  · rw [bt_up_s]; exact h11
  · rw [bt_un 3 (by omega)]; exact fun y => bt_cW_kept (a8 y) (fun x _ _ => h1 x (by omega))
  · rw [bt_un 4 (by omega)]; exact fun y => bt_cW_kept (a9 y) (fun x _ _ => h1 x (by omega))
  · intro k hk
    rw [h1 (41 + 2 * k) (by omega), h1 (42 + 2 * k) (by omega), bt_un (6 + k) (by omega), bt_un (10 + k) (by omega)]; exact a10 k hk
  · rw [h1 49 (by omega), bt_un 5 (by omega)]; exact a11
  · rw [h1 50 (by omega), h1 51 (by omega), bt_un 5 (by omega)]; exact a12
theorem bt_mI_t {M M' : bt_M} {w : bt_W} {im : Nat → bt_W} {u : Nat → Nat} {z : Nat → Nat → Nat} {q : Nat → Nat → Int32} (h : bt_mI M (w, im, u, z, q)) {f : Nat} (hf : f ≤ 4) (h1 : ∀ x : Nat, x ≠ 67 → M' x = M x) (h0 : ∀ g, g ≠ 26 → M' 67 g = M 67 g) (h26 : M' 67 26 = nI f) : bt_mI M' (w, im, va_up u 2 f, z, q) := by
  obtain ⟨a1, a2, a3, a4, a5, a6, a7, a8, a9, a10, a11, a12, a13, a14, a15⟩ := h
  obtain ⟨b0, b1, b2, b3, b4, b5, b6, b7, b8, b9, b10⟩ := a2
  have k12 : M' 67 1 = M 67 1 ∧ M' 67 2 = M 67 2 := ⟨h0 1 (by omega), h0 2 (by omega)⟩
  have k68 : M' 68 = M 68 := h1 68 (by omega)
  refine ⟨bt_mW_far a1 k12 k68, ?_, ?_, ?_, ?_, ?_, ?_, ?_, ?_, ?_, ?_, ?_, ?_, ?_, ?_⟩
  · unfold bt_sW
    rw [bt_up_s, bt_un 0 (by omega), bt_un 1 (by omega), bt_un 3 (by omega), bt_un 4 (by omega), bt_un 5 (by omega)]
    exact ⟨b0, b1, b2, hf, b4, b5, b6, fun k hk => by rw [bt_un (6 + k) (by omega), bt_un (10 + k) (by omega)]; exact b7 k hk, b8, b9, b10⟩
  · rw [h0 10 (by omega), bt_un 0 (by omega)]; exact a3
  · rw [h1 71 (by omega), bt_un 0 (by omega)]; exact a4
  · rw [h0 11 (by omega), bt_un 1 (by omega)]; exact a5
  · rw [bt_up_s]; exact h26
  · rw [h1 75 (by omega), bt_un 3 (by omega)]; exact a7
  · rw [h1 75 (by omega), bt_un 4 (by omega)]; exact a8
  · rw [bt_un 3 (by omega)]; exact fun y => bt_mW_far (a9 y) k12 k68
  · rw [bt_un 4 (by omega)]; exact fun y => bt_mW_far (a10 y) k12 k68
  · intro k hk
    rw [h1 76 (by omega), h1 77 (by omega), h1 78 (by omega), bt_un (6 + k) (by omega), bt_un (10 + k) (by omega)]; exact a11 k hk
  · rw [h0 21 (by omega), bt_un 5 (by omega)]; exact a12
  · rw [h1 74 (by omega), bt_un 5 (by omega)]; exact a13
  · rw [h1 72 (by omega)]; exact a14
  · rw [h1 73 (by omega)]; exact a15
