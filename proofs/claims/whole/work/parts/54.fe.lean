/-! WHO HAD BEEN BEHIND WHOM: the class's calls -/
def bu_FF (w : bt_W) (z1 z2 : Nat → Nat) (n : Nat) : bu_F := bu_fo w z1 z2 n (List.range (2 ^ (w 12 0 - w 12 4)))
/-- the same, told by the first stretch that is left -/
def bu_sc (k : Nat) (F : bu_F) : bu_F := (F.1, F.2.1 * 2 ^ k, F.2.2.1 * 2 ^ k, F.2.2.2.1 * 2 ^ k, F.2.2.2.2)
def bu_ou (w : bt_W) (z1 z2 : Nat → Nat) (n : Nat) (F : bu_F) (s : Nat) : bu_F := bu_ad (bu_ft (bu_we w s 10) z1 z2 n) s (bt_mk (bu_we w s 11) (w 12 1)) F
def bu_fu (w : bt_W) (z1 z2 : Nat → Nat) (n : Nat) : Nat → bu_F
  | 0 => (0, 0, 2 ^ (w 12 0 - w 12 4) - 1, 0, 0)
  | s + 1 => bu_ou w z1 z2 n (bu_fu w z1 z2 n s) s
theorem bu_sc_ad (b : Bool) (s p k : Nat) (F : bu_F) : bu_sc k (bu_ad b s p F) = bu_ad b (s * 2 ^ k) p (bu_sc k F) := by
  obtain ⟨c, m, a, n, g⟩ := F
  cases b
  · rfl
  · refine Prod.ext rfl (Prod.ext ?_ (Prod.ext ?_ (Prod.ext ?_ rfl)))
    · show (if c = 0 then s else min m s) * 2 ^ k = if c = 0 then s * 2 ^ k else min (m * 2 ^ k) (s * 2 ^ k)
      by_cases hc : c = 0
      · rw [if_pos hc, if_pos hc]
      · rw [if_neg hc, if_neg hc, Nat.mul_min_mul_right]
    · show (a &&& s) * 2 ^ k = a * 2 ^ k &&& s * 2 ^ k
      rw [← Nat.shiftLeft_eq, ← Nat.shiftLeft_eq, ← Nat.shiftLeft_eq, Nat.shiftLeft_and_distrib]
    · show (n ||| s) * 2 ^ k = n * 2 ^ k ||| s * 2 ^ k
      rw [← Nat.shiftLeft_eq, ← Nat.shiftLeft_eq, ← Nat.shiftLeft_eq, Nat.shiftLeft_or_distrib]
theorem bu_fu_fo {w : bt_W} (hw : bt_wf w) (z1 z2 : Nat → Nat) (n : Nat) : ∀ s, bu_fo w z1 z2 n (List.range s) = bu_sc (w 12 4) (bu_fu w z1 z2 n s)
  | 0 => by
    have e : 2 ^ (w 12 0 - w 12 4) * 2 ^ w 12 4 = 2 ^ w 12 0 := by
      rw [← Nat.pow_add]
      congr 1
      have := hw.2.2.1
      omega
    refine Prod.ext rfl (Prod.ext ?_ (Prod.ext ?_ (Prod.ext ?_ rfl)))
    · show 0 = 0 * 2 ^ w 12 4
      rw [Nat.zero_mul]
    · show 2 ^ w 12 0 - 2 ^ w 12 4 = (2 ^ (w 12 0 - w 12 4) - 1) * 2 ^ w 12 4
      rw [Nat.sub_mul, e, Nat.one_mul]
    · show 0 = 0 * 2 ^ w 12 4
      rw [Nat.zero_mul]
  | s + 1 => by
    rw [List.range_succ, bu_fo_1, bu_fu_fo hw z1 z2 n s, bu_fu, bu_ou, bu_sc_ad]
    rfl
theorem bu_fu_b {w : bt_W} (hw : bt_wf w) (z1 z2 : Nat → Nat) (n : Nat) : ∀ s, s ≤ 2 ^ (w 12 0 - w 12 4) → (bu_fu w z1 z2 n s).1 ≤ s ∧ ((bu_fu w z1 z2 n s).1 ≠ 0 → (bu_fu w z1 z2 n s).2.1 < s) ∧ (bu_fu w z1 z2 n s).2.2.1 < 2 ^ (w 12 0 - w 12 4) ∧ (bu_fu w z1 z2 n s).2.2.2.1 < 2 ^ (w 12 0 - w 12 4) ∧ (bu_fu w z1 z2 n s).2.2.2.2 < 2 ^ w 12 1
  | 0, _ => by
    have h1 := Nat.two_pow_pos (w 12 0 - w 12 4)
    have h2 := Nat.two_pow_pos (w 12 1)
    refine ⟨Nat.le_refl _, fun z => absurd rfl z, ?_, ?_, ?_⟩
    · show 2 ^ (w 12 0 - w 12 4) - 1 < _
      omega
    · exact h1
    · exact h2
  | s + 1, hs => by
    obtain ⟨i1, i2, i3, i4, i5⟩ := bu_fu_b hw z1 z2 n s (by omega)
    have hp := bt_mk_lt (bt_wf11 (bu_we_wf hw s)) (w 12 1)
    rw [bu_fu, bu_ou]
    generalize bu_fu w z1 z2 n s = F at *
    obtain ⟨c, m, a, q, g⟩ := F
    dsimp only at i1 i2 i3 i4 i5
    generalize bu_ft (bu_we w s 10) z1 z2 n = b
    cases b
    · exact ⟨by show c ≤ s + 1; omega, fun z => by have := i2 z; show m < s + 1; omega, i3, i4, i5⟩
    · refine ⟨?_, fun _ => ?_, ?_, ?_, ?_⟩
      · show c + 1 ≤ s + 1
        omega
      · show (if c = 0 then s else min m s) < s + 1
        split <;> omega
      · show a &&& s < _
        exact Nat.lt_of_le_of_lt Nat.and_le_left i3
      · show q ||| s < _
        exact Nat.or_lt_two_pow i4 (by omega)
      · show g ||| _ < _
        exact Nat.or_lt_two_pow i5 hp
theorem bu_nots : ∀ n, n < 9 → ∀ a, a < 9 → a ≤ n → ∀ x, x < 2 ^ (n - a) → nI (2 ^ n - 2 ^ a) &&& (nI (x * 2 ^ a) ^^^ (-1)) = nI (2 ^ n - 2 ^ a - x * 2 ^ a) := by decide +kernel
def f_fits : bt_fn := fun t S => match t, S with
  | [.int x], (w, im, u, z, q) => some (.int (if bt_in x 4 then (if x = 0 then nI (bu_FF w (z 1) (z 2) (u 5)).1 else if (bu_FF w (z 1) (z 2) (u 5)).1 = 0 then -4 else if x = 1 then nI (bu_FF w (z 1) (z 2) (u 5)).2.1 else if x = 2 then nI (bu_FF w (z 1) (z 2) (u 5)).2.2.1 else nI (2 ^ w 12 0 - 2 ^ w 12 4 - (bu_FF w (z 1) (z 2) (u 5)).2.2.2.1)) else -1), (w, im, u, z, q))
  | _, _ => none
def f_could : bt_fn := fun t S => match t, S with
  | [], (w, im, u, z, q) => some (.int (nI (bu_FF w (z 1) (z 2) (u 5)).2.2.2.2), (w, im, u, z, q))
  | _, _ => none
def bt_CX5_fits : bt_C := [(51, 0, 3, sX5_within), (233, 1, 2, sX0_tryAllSets), (245, 1, 1, sX4_stretchesLeft)]
def sX5_fits : bt_Sp := bt_spC f_fits
set_option maxRecDepth 100000 in
theorem mX5_fits : bt_MT bt_TX5_fits bt_FX5 bt_CX5_fits 1 2 sX5_fits := by
  intro as M N Rt h P hP
  obtain ⟨t, S, r, S', rfl, hI, hf, h⟩ := bt_spC_e h
  obtain ⟨w, im, u, z, q⟩ := S
  unfold f_fits at hf
  split at hf
  · next x _ _ _ _ _ e =>
    cases e
    obtain ⟨rfl, rfl⟩ := bt_some hf
    obtain ⟨a1, a2, a3, a4, a5, a6, a7, a8, a9, a10, a11, a12⟩ := id hI
    obtain ⟨b0, b1, b2, b3, b4, b5, b6, b7, b8, b9, b10⟩ := id a2
    have hw := a1.1
    have f1 := hw.1
    have f3 := hw.2.2.1
    refine bt_go0 rfl hP 80 ?_
    refine ⟨fun y => ?_, fun y => ?_⟩
    · rw [bt_bi_n0, bt_in_c (k := 3) (show (3 : Int32) = nI 3 from rfl) (by omega)] at y
      rw [if_pos y] at h
      refine ⟨w, u 5, z 1, z 2, rfl, rfl, a1, a11, b6, fun j hj => ⟨(a12 j hj).1, (a12 j hj).2, (b8 j hj).1, (b8 j hj).2⟩, fun M1 s1 s2 s3 => ?_⟩
      have key := h M1 N (fun x hx => s1 x (by omega)) (bt_cI_same hI (fun x hx => s1 x (by omega)) s2)
      obtain ⟨q6, q7, q8, q9, q10⟩ := (show bu_cF M1 (bu_FF w (z 1) (z 2) (u 5)) from s3)
      have hB := bu_fu_b hw (z 1) (z 2) (u 5) _ (Nat.le_refl _)
      have h256 := bu_2p (a := w 12 0 - w 12 4) (by omega)
      have hFF : bu_FF w (z 1) (z 2) (u 5) = bu_sc (w 12 4) (bu_fu w (z 1) (z 2) (u 5) (2 ^ (w 12 0 - w 12 4))) := bu_fu_fo hw _ _ _ _
      have hc1 : (bu_FF w (z 1) (z 2) (u 5)).1 ≤ 256 := by
        rw [hFF]
        show (bu_fu w (z 1) (z 2) (u 5) (2 ^ (w 12 0 - w 12 4))).1 ≤ 256
        omega
      refine ⟨fun y2 => ⟨fun y3 => ?_, fun y3 => ?_⟩, fun y2 => ?_⟩
      · rw [q6, bt_n0 (by omega)] at y3
        rw [if_neg y2, if_neg y3] at key
        refine ⟨fun y4 => ⟨fun y5 => ?_, fun y5 => ?_⟩, fun y4 => ?_⟩
        · rw [if_neg y4, if_neg y5] at key
          refine ⟨w, Or.inl rfl, bt_cW_kept a1 (fun x _ _ => s1 x (by omega)), ?_⟩
          have e : nI (2 ^ w 12 0 - 2 ^ w 12 4) &&& (M1 49 9 ^^^ (-1)) = nI (2 ^ w 12 0 - 2 ^ w 12 4 - (bu_FF w (z 1) (z 2) (u 5)).2.2.2.1) := by
            rw [q9, hFF]
            exact bu_nots _ (by omega) _ (by omega) f3 _ hB.2.2.2.1
          rw [← e] at key
          exact key
        · rw [if_neg y4, if_pos y5] at key
          rw [← q8] at key
          exact key
        · rw [if_pos y4] at key
          rw [← q7] at key
          exact key
      · rw [q6, bt_n0 (by omega)] at y3
        rw [if_neg y2, if_pos y3] at key
        exact key
      · rw [if_pos y2] at key
        rw [← q6] at key
        exact key
    · rw [bt_bi_0, bt_in_c (k := 3) (show (3 : Int32) = nI 3 from rfl) (by omega)] at y
      rw [if_neg y] at h
      exact h M N (fun _ _ => rfl) hI
  · cases hf
def bt_CX5_could : bt_C := [(233, 1, 2, sX0_tryAllSets)]
def sX5_could : bt_Sp := bt_spC f_could
theorem mX5_could : bt_MT bt_TX5_could bt_FX5 bt_CX5_could 1 1 sX5_could := by
  intro as M N Rt h P hP
  obtain ⟨t, S, r, S', rfl, hI, hf, h⟩ := bt_spC_e h
  obtain ⟨w, im, u, z, q⟩ := S
  unfold f_could at hf
  split at hf
  · next _ _ _ _ _ e =>
    cases e
    obtain ⟨rfl, rfl⟩ := bt_some hf
    obtain ⟨a1, a2, a3, a4, a5, a6, a7, a8, a9, a10, a11, a12⟩ := id hI
    obtain ⟨b0, b1, b2, b3, b4, b5, b6, b7, b8, b9, b10⟩ := id a2
    refine bt_go0 rfl hP 80 ?_
    refine ⟨w, u 5, z 1, z 2, rfl, rfl, a1, a11, b6, fun j hj => ⟨(a12 j hj).1, (a12 j hj).2, (b8 j hj).1, (b8 j hj).2⟩, fun M1 s1 s2 s3 => ?_⟩
    have key := h M1 N (fun x hx => s1 x (by omega)) (bt_cI_same hI (fun x hx => s1 x (by omega)) s2)
    obtain ⟨q6, q7, q8, q9, q10⟩ := (show bu_cF M1 (bu_FF w (z 1) (z 2) (u 5)) from s3)
    rw [← q10] at key
    exact key
  · cases hf
