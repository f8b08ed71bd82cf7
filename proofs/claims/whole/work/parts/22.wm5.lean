/-! THE CLASS: World, the rest -/
def bt_sumk (w : bt_W) : Nat → Nat
  | 0 => 0
  | k + 1 => bt_sumk w k + w 10 k
theorem bt_sumk_le {w : bt_W} (hf : bt_wf w) : ∀ k, bt_sumk w k ≤ 648 * k
  | 0 => Nat.le_refl _
  | k + 1 => by
    have := bt_sumk_le hf k
    have := hf.2.2.2.2.2.2.2.2.2.2.2.2.2.2.2.2.1 k
    have := hf.1
    have := hf.2.2.1
    simp only [bt_sumk]
    omega
/-- the sum of all times of cars -/
def bt_st (w : bt_W) : Nat := bt_sumk w (w 12 1)
def sX4_sumOfTimes : bt_Sp := fun as M N K => match as with
  | [.ref c] => ∃ w, bt_wc c ∧ bt_cW M c w ∧ K (some (.int (nI (bt_st w)))) M N
  | _ => False
theorem mX4_sumOfTimes : bt_MT bt_TX4_sumOfTimes bt_FX4 [] 1 3 sX4_sumOfTimes := by
  intro as M N Rt h P hP
  unfold sX4_sumOfTimes at h
  split at h
  · next c0 =>
    obtain ⟨c, rfl⟩ : ∃ c' : Nat, c' = c0 := ⟨c0, rfl⟩
    obtain ⟨w, hc, hw, h⟩ := h
    obtain ⟨hf, h8, h9, h10, h11, h12, h13, h14, h15, h16, h17, r1, r2, r3, r4, r5, r6, r7, r8⟩ := id hw
    have f2 := hf.2.1
    have loop : ∀ v pc L st M' N', (pc = 4 ∧ st = [] ∧ M' = M ∧ N' = N ∧ ∃ k, k ≤ w 12 1 ∧ v = w 12 1 - k ∧ L = [some (.ref c), some (.int (nI (bt_sumk w k))), some (.int (nI k))]) → P pc L st M' N' := by
      refine bt_loop rfl hP 60 [4] (fun v pc L st M' N' => (pc = 4 ∧ st = [] ∧ M' = M ∧ N' = N ∧ ∃ k, k ≤ w 12 1 ∧ v = w 12 1 - k ∧ L = [some (.ref c), some (.int (nI (bt_sumk w k))), some (.int (nI k))])) ?_
      rintro v pc L st M' N' ⟨rfl, rfl, rfl, rfl, k, hk, rfl, rfl⟩
      rcases hc with rfl | rfl
      all_goals
        refine ⟨fun q => ?_, fun q => ?_⟩
        · rw [h12, nI_leI (by omega) (by omega)] at q
          have : k = w 12 1 := by omega
          subst this
          exact h
        · rw [h12, nI_leI (by omega) (by omega)] at q
          refine ⟨_, rfl, k, rfl, by omega, ?_⟩
          refine ⟨w 12 1 - (k + 1), by omega, rfl, rfl, rfl, rfl, k + 1, by omega, rfl, ?_⟩
          rw [r8 k (by omega), nI_add, ← nI_1 k]
          rfl
    rcases hc with rfl | rfl
    all_goals
      refine bt_go rfl hP 60 [4] P (fun _ _ _ _ _ h => h) ?_
      exact loop _ _ _ _ _ _ ⟨rfl, rfl, rfl, rfl, 0, Nat.zero_le _, rfl, rfl⟩
  · exact False.elim h
/-- all stretches that are left, by their gaps: j of them -/
def bt_dn (w : bt_W) (gf : Nat → Nat) : Nat → bt_W
  | 0 => w
  | j + 1 => bt_dv (bt_dn w gf j) (gf (w 12 4 + j))
theorem bt_dn_12 (w : bt_W) (gf : Nat → Nat) : ∀ j, (bt_dn w gf j) 12 4 = w 12 4 + j ∧ (∀ k, k ≠ 4 → k ≠ 5 → (bt_dn w gf j) 12 k = w 12 k) ∧ (∀ f, f < 10 → (bt_dn w gf j) f = w f)
  | 0 => ⟨rfl, fun _ _ _ => rfl, fun _ _ => rfl⟩
  | j + 1 => by
    obtain ⟨h1, h2, h3⟩ := bt_dn_12 w gf j
    refine ⟨?_, fun k k4 k5 => ?_, fun f hf => ?_⟩
    · simp [bt_dn, bt_dv, h1]; omega
    · simp [bt_dn, bt_dv, k4, k5, h2 k k4 k5]
    · funext k
      simp [bt_dn, bt_dv, show f ≠ 10 by omega, show f ≠ 11 by omega, show f ≠ 12 by omega, h3 f hf]
theorem bt_dn_wf {w : bt_W} (gf : Nat → Nat) (h : bt_wf w) : ∀ j, w 12 4 + j ≤ w 12 0 → bt_wf (bt_dn w gf j)
  | 0, _ => h
  | j + 1, hj => by
    have ih := bt_dn_wf gf h j (by omega)
    obtain ⟨h1, h2, h3⟩ := bt_dn_12 w gf j
    exact bt_dv_wf ih (by rw [h1, h2 0 (by omega) (by omega)]; omega)
/-- at the end, by gaps as told -/
def bt_de (w : bt_W) : bt_W := bt_dn w (w 2) (w 12 0 - w 12 4)
def bt_CX4_driveToEnd : bt_C := [(112, 1, 2, sX4_driveOne), (115, 1, 1, sX4_sumOfTimes)]
def sX4_driveToEnd : bt_Sp := fun as M N K => match as with
  | [.ref c] => ∃ w, bt_wc c ∧ bt_cW M c w ∧ ∀ M', bt_cW M' c (bt_de w) → bt_frm c M M' → K (some (.int (nI (bt_st (bt_de w))))) M' N
  | _ => False
theorem mX4_driveToEnd : bt_MT bt_TX4_driveToEnd bt_FX4 bt_CX4_driveToEnd 1 2 sX4_driveToEnd := by
  intro as M N Rt h P hP
  unfold sX4_driveToEnd at h
  split at h
  · next c0 =>
    obtain ⟨c, rfl⟩ : ∃ c' : Nat, c' = c0 := ⟨c0, rfl⟩
    obtain ⟨w, hc, hw, h⟩ := h
    have hf := hw.1
    have f1 := hf.1
    have f3 := hf.2.2.1
    have loop : ∀ v pc L st M' N', (pc = 5 ∧ st = [] ∧ N' = N ∧ ∃ j, w 12 4 + j ≤ w 12 0 ∧ v = w 12 0 - (w 12 4 + j) ∧ L = [some (.ref c), some (.int (nI (w 12 4 + j)))] ∧ bt_cW M' c (bt_dn w (w 2) j) ∧ ∀ x, x ≠ c → x ≠ c + 8 → M' x = M x) → P pc L st M' N' := by
      refine bt_loop rfl hP 60 [5] (fun v pc L st M' N' => (pc = 5 ∧ st = [] ∧ N' = N ∧ ∃ j, w 12 4 + j ≤ w 12 0 ∧ v = w 12 0 - (w 12 4 + j) ∧ L = [some (.ref c), some (.int (nI (w 12 4 + j)))] ∧ bt_cW M' c (bt_dn w (w 2) j) ∧ ∀ x, x ≠ c → x ≠ c + 8 → M' x = M x)) ?_
      rintro v pc L st M' N' ⟨rfl, rfl, rfl, j, hj, rfl, rfl, hw', hfr⟩
      obtain ⟨d1, d2, d3⟩ := bt_dn_12 w (w 2) j
      have h8 := hw'.2.1
      rw [d2 0 (by omega) (by omega)] at h8
      have hgap := hw'.2.2.2.2.2.2.2.2.2.2.2.2.2.1
      rw [d2 0 (by omega) (by omega), d3 2 (by omega)] at hgap
      have hg9 := hf.2.2.2.2.2.2.2.2.1
      rcases hc with rfl | rfl
      all_goals
        refine ⟨fun q => ?_, fun q => ?_⟩
        · rw [h8, nI_leI (by omega) (by omega)] at q
          have hj2 : j = w 12 0 - w 12 4 := by omega
          subst hj2
          exact ⟨_, by first | exact Or.inl rfl | exact Or.inr rfl, hw', h M' hw' hfr⟩
        · rw [h8, nI_leI (by omega) (by omega)] at q
          refine ⟨_, rfl, w 12 4 + j, rfl, by omega, ?_⟩
          refine ⟨_, w 2 (w 12 4 + j), by first | exact Or.inl rfl | exact Or.inr rfl, hw', ?_, hgap _ (by omega), hg9 _, ?_⟩
          · rw [d1, d2 0 (by omega) (by omega)]; omega
          · intro M2 hw2 hfr2
            refine ⟨w 12 0 - (w 12 4 + (j + 1)), by omega, rfl, rfl, rfl, j + 1, by omega, rfl, ?_, hw2, ?_⟩
            · rw [nI_1, Nat.add_assoc]
            · intro x z1 z2
              rw [hfr2 x z1 z2]
              exact hfr x z1 z2
    have h16 := hw.2.2.2.2.2.2.2.2.2.1
    rcases hc with rfl | rfl
    all_goals
      refine bt_go rfl hP 60 [5] P (fun _ _ _ _ _ h => h) ?_
      refine loop _ _ _ _ _ _ ⟨rfl, rfl, rfl, 0, by omega, rfl, ?_, hw, fun _ _ _ => rfl⟩
      rw [h16]
      rfl
  · exact False.elim h
def sX4_allHaveCome : bt_Sp := fun as M N K => match as with
  | [.ref c] => ∃ w, bt_wc c ∧ bt_cW M c w ∧ K (some (.int (if w 12 0 ≤ w 12 4 then 1 else 0))) M N
  | _ => False
theorem mX4_allHaveCome : bt_MT bt_TX4_allHaveCome bt_FX4 [] 2 1 sX4_allHaveCome := by
  intro as M N Rt h P hP
  unfold sX4_allHaveCome at h
  split at h
  · obtain ⟨w, hc, hw, h⟩ := h
    have f1 := hw.1.1
    have f3 := hw.1.2.2.1
    have h8 := hw.2.1
    have h16 := hw.2.2.2.2.2.2.2.2.2.1
    rcases hc with rfl | rfl
    all_goals
      refine bt_go0 rfl hP 60 ?_
      refine ⟨fun q => ?_, fun q => ?_⟩
      · rw [h8, h16, nI_ltI (by omega) (by omega)] at q
        rw [if_neg (by omega)] at h
        exact ⟨Or.inl rfl, h⟩
      · rw [h8, h16, nI_ltI (by omega) (by omega)] at q
        rw [if_pos (by omega)] at h
        exact ⟨Or.inr rfl, h⟩
  · exact False.elim h
theorem bt_sl0 : ∀ n, n < 9 → ∀ a, a < 9 → a ≤ n → ((1 : Int32) <<< (nI n &&& 31)) - ((1 : Int32) <<< (nI a &&& 31)) = nI (2 ^ n - 2 ^ a) := by decide +kernel
def sX4_stretchesLeft : bt_Sp := fun as M N K => match as with
  | [.ref c] => ∃ w, bt_wc c ∧ bt_cW M c w ∧ K (some (.int (nI (2 ^ (w 12 0) - 2 ^ (w 12 4))))) M N
  | _ => False
theorem mX4_stretchesLeft : bt_MT bt_TX4_stretchesLeft bt_FX4 [] 1 1 sX4_stretchesLeft := by
  intro as M N Rt h P hP
  unfold sX4_stretchesLeft at h
  split at h
  · obtain ⟨w, hc, hw, h⟩ := h
    have f1 := hw.1.1
    have f3 := hw.1.2.2.1
    have h8 := hw.2.1
    have h16 := hw.2.2.2.2.2.2.2.2.2.1
    rw [← bt_sl0 _ (by omega) _ (by omega) f3, ← h8, ← h16] at h
    rcases hc with rfl | rfl <;> exact bt_go0 rfl hP 60 h
  · exact False.elim h
/-- the miles of stretches a, a + 1 .. -/
def bt_ml (w : bt_W) (a : Nat) : Nat → Nat
  | 0 => 0
  | j + 1 => bt_ml w a j + w 0 (a + j)
def sX4_milesLeft : bt_Sp := fun as M N K => match as with
  | [.ref c] => ∃ w, bt_wc c ∧ bt_cW M c w ∧ K (some (.int (nI (bt_ml w (w 12 4) (w 12 0 - w 12 4))))) M N
  | _ => False
theorem mX4_milesLeft : bt_MT bt_TX4_milesLeft bt_FX4 [] 1 3 sX4_milesLeft := by
  intro as M N Rt h P hP
  unfold sX4_milesLeft at h
  split at h
  · next c0 =>
    obtain ⟨c, rfl⟩ : ∃ c' : Nat, c' = c0 := ⟨c0, rfl⟩
    obtain ⟨w, hc, hw, h⟩ := h
    obtain ⟨hf, h8, h9, h10, h11, h12, h13, h14, h15, h16, h17, r1, r2, r3, r4, r5, r6, r7, r8⟩ := id hw
    have f1 := hf.1
    have f3 := hf.2.2.1
    have loop : ∀ v pc L st M' N', (pc = 7 ∧ st = [] ∧ M' = M ∧ N' = N ∧ ∃ j, w 12 4 + j ≤ w 12 0 ∧ v = w 12 0 - (w 12 4 + j) ∧ L = [some (.ref c), some (.int (nI (bt_ml w (w 12 4) j))), some (.int (nI (w 12 4 + j)))]) → P pc L st M' N' := by
      refine bt_loop rfl hP 60 [7] (fun v pc L st M' N' => (pc = 7 ∧ st = [] ∧ M' = M ∧ N' = N ∧ ∃ j, w 12 4 + j ≤ w 12 0 ∧ v = w 12 0 - (w 12 4 + j) ∧ L = [some (.ref c), some (.int (nI (bt_ml w (w 12 4) j))), some (.int (nI (w 12 4 + j)))])) ?_
      rintro v pc L st M' N' ⟨rfl, rfl, rfl, rfl, j, hj, rfl, rfl⟩
      rcases hc with rfl | rfl
      all_goals
        refine ⟨fun q => ?_, fun q => ?_⟩
        · rw [h8, nI_leI (by omega) (by omega)] at q
          have hj2 : j = w 12 0 - w 12 4 := by omega
          subst hj2
          exact h
        · rw [h8, nI_leI (by omega) (by omega)] at q
          refine ⟨_, rfl, w 12 4 + j, rfl, by omega, ?_⟩
          refine ⟨w 12 0 - (w 12 4 + (j + 1)), by omega, rfl, rfl, rfl, rfl, j + 1, by omega, rfl, ?_⟩
          rw [r1 _ (by omega), nI_add, nI_1, Nat.add_assoc]
          rfl
    rcases hc with rfl | rfl
    all_goals
      refine bt_go rfl hP 60 [7] P (fun _ _ _ _ _ h => h) ?_
      refine loop _ _ _ _ _ _ ⟨rfl, rfl, rfl, rfl, 0, by omega, rfl, ?_⟩
      rw [h16]
      rfl
  · exact False.elim h
