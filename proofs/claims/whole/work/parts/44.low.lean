/-! LOWEST TERMS -/
theorem bt_gcd_s (c d : Nat) : Nat.gcd d (c % d) = Nat.gcd c d := by
  rw [Nat.gcd_comm c d, Nat.gcd_rec d c, Nat.gcd_comm]
theorem bt_mod2 {c d : Nat} (h : d < c) (h0 : 0 < d) : 2 * (c % d) < c := by
  have h1 := Nat.mod_lt c h0
  have h2 := Nat.div_add_mod c d
  have h3 : 1 ≤ c / d := (Nat.one_le_div_iff h0).mpr (by omega)
  have h4 : d * 1 ≤ d * (c / d) := Nat.mul_le_mul_left d h3
  omega
def bt_lw (a b : Nat) (x : Int32) : Int64 := lN ((if x = 0 then a else b) / Nat.gcd a b)
def sX5_lowest : bt_Sp := fun as M N K => match as with
  | [.long p, .long q, .int x] => ∃ a b, p = lN a ∧ q = lN b ∧ 0 < b ∧ a < 2 ^ 62 ∧ b < 2 ^ 62 ∧ K (some (.long (bt_lw a b x))) M N
  | _ => False
set_option maxRecDepth 100000 in
theorem mX5_lowest : bt_MT bt_TX5_lowest bt_FX5 [] 3 12 sX5_lowest := by
  intro as M N Rt h P hP
  unfold sX5_lowest at h
  split at h
  · next p q x =>
    obtain ⟨a, b, rfl, rfl, hb0, ha, hb, h⟩ := h
    have hg : 0 < Nat.gcd a b := Nat.gcd_pos_of_pos_right a hb0
    have loop : ∀ v pc L st M' N', (pc = 9 ∧ st = [] ∧ M' = M ∧ N' = N ∧ ∃ c d i y z, v = 200 - i ∧ i ≤ 200 ∧ c < 2 ^ 62 ∧ d < 2 ^ 62 ∧ Nat.gcd c d = Nat.gcd a b ∧ ((i = 0 ∧ d = b) ∨ (1 ≤ i ∧ d < c ∧ c * d * 2 ^ i < 2 ^ 125)) ∧ L = [some (.long (lN a)), none, some (.long (lN b)), none, some (.int x), some (.long (lN c)), none, some (.long (lN d)), none, some (.int (nI i)), y, z]) → P pc L st M' N' := by
      refine bt_loop rfl hP 60 [9] (fun v pc L st M' N' => (pc = 9 ∧ st = [] ∧ M' = M ∧ N' = N ∧ ∃ c d i y z, v = 200 - i ∧ i ≤ 200 ∧ c < 2 ^ 62 ∧ d < 2 ^ 62 ∧ Nat.gcd c d = Nat.gcd a b ∧ ((i = 0 ∧ d = b) ∨ (1 ≤ i ∧ d < c ∧ c * d * 2 ^ i < 2 ^ 125)) ∧ L = [some (.long (lN a)), none, some (.long (lN b)), none, some (.int x), some (.long (lN c)), none, some (.long (lN d)), none, some (.int (nI i)), y, z])) ?_
      rintro v pc L st M' N' ⟨rfl, rfl, hM, hN, c, d, i, y, z, rfl, hi, hc, hd, hgcd, hcase, rfl⟩
      rw [← hM, ← hN] at h
      have l0 : (0 : Int64) = lN 0 := rfl
      have fin : c = Nat.gcd a b → (0 < lg_cmp (lN c) 0) ∧ ((¬ x = 0 → (¬ lN c = 0 ∧ Rt (some (.long (lN b / lN c))) M' N')) ∧ (x = 0 → (¬ lN c = 0 ∧ Rt (some (.long (lN a / lN c))) M' N'))) := fun e => by
        have c0 : ¬ lN c = 0 := fun z => by
          rw [l0, pk_lEQ (by omega) (by omega)] at z
          omega
        refine ⟨by rw [bt_cmp_gt, l0, pk_lLT (by omega) (by omega)]; omega, fun z => ⟨c0, ?_⟩, fun z => ⟨c0, ?_⟩⟩
        · unfold bt_lw at h
          rw [if_neg z] at h
          rw [pk_lDiv (by omega) (by omega) (by omega), e]
          exact h
        · unfold bt_lw at h
          rw [if_pos z] at h
          rw [pk_lDiv (by omega) (by omega) (by omega), e]
          exact h
      refine ⟨fun z1 => ?_, fun z1 => ?_⟩
      · rw [bt_lit, nI_leI (by omega) (by omega)] at z1
        have i200 : i = 200 := by omega
        have d0 : d = 0 := by
          rcases hcase with ⟨h0, _⟩ | ⟨_, h1, h2⟩
          · omega
          · by_cases c0 : d = 0
            · exact c0
            · have e1 : 1 ≤ c * d := Nat.mul_pos (by omega) (by omega)
              have e2 : 1 * 2 ^ i ≤ c * d * 2 ^ i := Nat.mul_le_mul_right _ e1
              rw [i200] at e2 h2
              omega
        have e : c = Nat.gcd a b := by rw [← hgcd, d0, Nat.gcd_zero_right]
        obtain ⟨g1, g2, g3⟩ := fin e
        exact ⟨fun _ => ⟨g2, g3⟩, fun z => absurd g1 z⟩
      · rw [bt_lit, nI_leI (by omega) (by omega)] at z1
        refine ⟨fun z2 => ?_, fun z2 => ?_⟩
        · rw [bt_cmp_eq, l0, pk_lEQ (by omega) (by omega)] at z2
          have e : c = Nat.gcd a b := by rw [← hgcd, z2, Nat.gcd_zero_right]
          obtain ⟨g1, g2, g3⟩ := fin e
          exact ⟨fun _ => ⟨g2, g3⟩, fun z => absurd g1 z⟩
        · rw [bt_cmp_eq, l0, pk_lEQ (by omega) (by omega)] at z2
          have hr := Nat.mod_lt c (show 0 < d by omega)
          refine ⟨fun z => z2 ((pk_lEQ (b := 0) (by omega) (by omega)).mp z), ?_⟩
          refine ⟨200 - (i + 1), by omega, rfl, rfl, hM, hN, d, c % d, i + 1, _, _, rfl, by omega, hd, by omega, by rw [bt_gcd_s]; exact hgcd, Or.inr ⟨by omega, hr, ?_⟩, by rw [pk_lRem (by omega) (by omega) (by omega), nI_1 i]⟩
          rcases hcase with ⟨h0, h1⟩ | ⟨_, h1, h2⟩
          · rw [h0, h1]
            have e1 : b * (c % b) ≤ b * b := Nat.mul_le_mul_left b (by rw [← h1]; omega)
            have e2 : b * b < 2 ^ 62 * 2 ^ 62 := Nat.mul_lt_mul_of_lt_of_le hb (by omega) (by omega)
            omega
          · have e1 := bt_mod2 h1 (show 0 < d by omega)
            have e2 : d * (c % d) * 2 ^ (i + 1) = d * (2 * (c % d)) * 2 ^ i := by
              rw [Nat.pow_succ]
              simp only [Nat.mul_assoc, Nat.mul_comm, Nat.mul_left_comm]
            have e3 : d * (2 * (c % d)) * 2 ^ i ≤ d * c * 2 ^ i := Nat.mul_le_mul_right _ (Nat.mul_le_mul_left _ (by omega))
            rw [Nat.mul_comm d c] at e3
            omega
    refine bt_go rfl hP 60 [9] P (fun _ _ _ _ _ h => h) ?_
    exact loop _ _ _ _ _ _ ⟨rfl, rfl, rfl, rfl, a, b, 0, none, none, rfl, by omega, ha, hb, rfl, Or.inl ⟨rfl, rfl⟩, rfl⟩
  · exact False.elim h
def sX6_lowest : bt_Sp := sX5_lowest
set_option maxRecDepth 100000 in
theorem mX6_lowest : bt_MT bt_TX6_lowest bt_FX6 [] 3 11 sX6_lowest := by
  intro as M N Rt h P hP
  unfold sX6_lowest sX5_lowest at h
  split at h
  · next p q x =>
    obtain ⟨a, b, rfl, rfl, hb0, ha, hb, h⟩ := h
    have hg : 0 < Nat.gcd a b := Nat.gcd_pos_of_pos_right a hb0
    have l0 : (0 : Int64) = lN 0 := rfl
    have loop : ∀ v pc L st M' N', (pc = 17 ∧ st = [] ∧ M' = M ∧ N' = N ∧ ∃ c d y z, d = v ∧ c < 2 ^ 62 ∧ d < 2 ^ 62 ∧ Nat.gcd c d = Nat.gcd a b ∧ L = [some (.long (lN a)), none, some (.long (lN b)), none, some (.int x), some (.long (lN c)), none, some (.long (lN d)), none, y, z]) → P pc L st M' N' := by
      refine bt_loop rfl hP 60 [17] (fun v pc L st M' N' => (pc = 17 ∧ st = [] ∧ M' = M ∧ N' = N ∧ ∃ c d y z, d = v ∧ c < 2 ^ 62 ∧ d < 2 ^ 62 ∧ Nat.gcd c d = Nat.gcd a b ∧ L = [some (.long (lN a)), none, some (.long (lN b)), none, some (.int x), some (.long (lN c)), none, some (.long (lN d)), none, y, z])) ?_
      rintro d0 pc L st M' N' ⟨rfl, rfl, hM, hN, c, d, y, z, hv, hc, hd, hgcd, rfl⟩
      rw [← hM, ← hN] at h
      refine ⟨fun z2 => ?_, fun z2 => ?_⟩
      · rw [bt_cmp_eq, l0, pk_lEQ (by omega) (by omega)] at z2
        have e : c = Nat.gcd a b := by rw [← hgcd, z2, Nat.gcd_zero_right]
        have c0 : ¬ lN c = 0 := fun z => by
          rw [l0, pk_lEQ (by omega) (by omega)] at z
          omega
        unfold bt_lw at h
        refine ⟨fun z => ⟨c0, ?_⟩, fun z => ⟨c0, ?_⟩⟩
        · rw [if_neg z] at h
          rw [pk_lDiv (by omega) (by omega) (by omega), e]
          exact h
        · rw [if_pos z] at h
          rw [pk_lDiv (by omega) (by omega) (by omega), e]
          exact h
      · rw [bt_cmp_eq, l0, pk_lEQ (by omega) (by omega)] at z2
        have hr := Nat.mod_lt c (show 0 < d by omega)
        refine ⟨fun z => z2 ((pk_lEQ (b := 0) (by omega) (by omega)).mp z), ?_⟩
        exact ⟨c % d, by omega, rfl, rfl, hM, hN, d, c % d, _, _, rfl, hd, by omega, by rw [bt_gcd_s]; exact hgcd, by rw [pk_lRem (by omega) (by omega) (by omega)]⟩
    refine bt_go rfl hP 60 [17] P (fun _ _ _ _ _ h => h) ?_
    refine ⟨fun _ => ?_, fun z => ?_⟩
    · exact loop _ _ _ _ _ _ ⟨rfl, rfl, rfl, rfl, a, b, none, none, rfl, ha, hb, rfl, rfl⟩
    · rw [bt_cmp_ge, l0, pk_lLE (by omega) (by omega)] at z
      omega
  · exact False.elim h
