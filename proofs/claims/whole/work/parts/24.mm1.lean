/-! THE MODEL: small methods -/
def sX6_in : bt_Sp := fun as M N K => match as with
  | [.long v, .long lo, .long hi] => K (some (.int (bt_bi (lo ≤ v ∧ v ≤ hi)))) M N
  | _ => False
theorem mX6_in : bt_MT bt_TX6_in bt_FX6 [] 2 6 sX6_in := by
  intro as M N Rt h P hP
  unfold sX6_in at h
  split at h
  · next v lo hi =>
    refine bt_go0 rfl hP 20 ?_
    refine ⟨fun h1 => ?_, fun h1 => ⟨fun h2 => ?_, fun h2 => ?_⟩⟩
    · refine ⟨Or.inl rfl, ?_⟩
      rw [bt_cmp_lt] at h1
      rw [bt_bi_f (fun q => Int64.not_le.mpr h1 q.1)] at h
      exact h
    · refine ⟨Or.inl rfl, ?_⟩
      rw [bt_cmp_gt] at h2
      rw [bt_bi_f (fun q => Int64.not_le.mpr h2 q.2)] at h
      exact h
    · refine ⟨Or.inr rfl, ?_⟩
      rw [bt_cmp_lt] at h1
      rw [bt_cmp_gt] at h2
      rw [bt_bi_t ⟨Int64.not_lt.mp h1, Int64.not_lt.mp h2⟩] at h
      exact h
  · exact False.elim h
theorem bt_l0 {x : Int32} : (0 : Int64) ≤ x.toInt64 ↔ 0 ≤ x.toInt := by
  rw [Int64.le_iff_toInt_le, Int32.toInt_toInt64, Int64.toInt_zero]
theorem bt_lk {x : Int32} {k : Nat} (h : k < 2 ^ 31) : x.toInt64 ≤ lN k ↔ x.toInt ≤ k := by
  rw [Int64.le_iff_toInt_le, Int32.toInt_toInt64, lN_toInt h]
/-- bounds told in longs -/
theorem bt_inl_last {x : Int32} {n : Nat} (h : n < 2 ^ 31) : ((0 : Int64) ≤ x.toInt64 ∧ x.toInt64 ≤ (nI n - 1).toInt64) ↔ bt_in x n := by
  rw [bt_l0, bt_l_le, Int32.le_iff_toInt_le, bt_nI_sub1 h]
  omega
theorem bt_inl_top {x : Int32} {k : Nat} (h : k < 2 ^ 31) : ((0 : Int64) ≤ x.toInt64 ∧ x.toInt64 ≤ lN k) ↔ bt_in x (k + 1) := by
  rw [bt_l0, bt_lk h]
  omega
def sX6_isPast : bt_Sp := fun as M N K => match as with
  | [.ref c, .int p, .int k] => ∃ p' k' a, c = 67 ∧ p = nI p' ∧ k = nI k' ∧ p' + 58 + 5 * k' + 4 < 540 ∧ M 68 (p' + 58 + 5 * k' + 4) = nI a ∧ a ≤ 1 ∧ K (some (.int (nI a))) M N
  | _ => False
theorem mX6_isPast : bt_MT bt_TX6_isPast bt_FX6 [] 2 3 sX6_isPast := by
  intro as M N Rt h P hP
  unfold sX6_isPast at h
  split at h
  · obtain ⟨p, k, a, rfl, rfl, rfl, hb, ha, ha1, h⟩ := h
    refine bt_go0 rfl hP 30 ?_
    refine ⟨_, rfl, p + 58 + 5 * k + 4, by simp only [bt_lit, pk_mul, nI_add], hb, ?_⟩
    refine ⟨fun q => ⟨Or.inl rfl, ?_⟩, fun q => ⟨Or.inr rfl, ?_⟩⟩
    · rw [ha, bt_n1 (by omega)] at q
      rw [show a = 0 by omega] at h
      exact h
    · rw [ha, bt_n1 (by omega)] at q
      rw [q] at h
      exact h
  · exact False.elim h
/-- the cars of a page that are past -/
def bt_pg (M : bt_M) (p m : Nat) (f : Nat → Nat) : Prop := ∀ k, k < m → M 68 (p + 58 + 5 * k + 4) = nI (f k)
theorem bt_or0 (x : Int32) : x ||| 0 = x := by simp
def bt_CX6_pastOn : bt_C := [(139, 1, 3, sX6_isPast)]
def sX6_pastOn : bt_Sp := fun as M N K => match as with
  | [.ref c, .int p] => ∃ p' m f, c = 67 ∧ p = nI p' ∧ p' ≤ 450 ∧ M 67 2 = nI m ∧ m ≤ 6 ∧ bt_b1 f ∧ bt_pg M p' m f ∧ K (some (.int (nI (bt_mk f m)))) M N
  | _ => False
theorem mX6_pastOn : bt_MT bt_TX6_pastOn bt_FX6 bt_CX6_pastOn 1 4 sX6_pastOn := by
  intro as M N Rt h P hP
  unfold sX6_pastOn at h
  split at h
  · obtain ⟨p, m, f, rfl, rfl, hp, hm, hm6, hf, hpg, h⟩ := h
    have loop : ∀ v pc L st M' N', (pc = 4 ∧ st = [] ∧ M' = M ∧ N' = N ∧ ∃ k, k ≤ m ∧ v = m - k ∧ L = [some (.ref 67), some (.int (nI p)), some (.int (nI (bt_mk f k))), some (.int (nI k))]) → P pc L st M' N' := by
      refine bt_loop rfl hP 60 [4] (fun v pc L st M' N' => (pc = 4 ∧ st = [] ∧ M' = M ∧ N' = N ∧ ∃ k, k ≤ m ∧ v = m - k ∧ L = [some (.ref 67), some (.int (nI p)), some (.int (nI (bt_mk f k))), some (.int (nI k))])) ?_
      rintro v pc L st M' N' ⟨rfl, rfl, rfl, rfl, k, hk, rfl, rfl⟩
      have g1 := hf k
      refine ⟨fun q => ?_, fun q => ?_⟩
      · rw [hm, nI_leI (by omega) (by omega)] at q
        have : k = m := by omega
        subst this
        exact h
      · rw [hm, nI_leI (by omega) (by omega)] at q
        refine ⟨p, k, f k, rfl, rfl, rfl, by omega, hpg k (by omega), g1, ?_⟩
        refine ⟨fun q2 => ?_, fun q2 => ?_⟩
        · rw [bt_n0 (by omega)] at q2
          refine ⟨m - (k + 1), by omega, rfl, rfl, rfl, rfl, k + 1, by omega, rfl, ?_⟩
          rw [bt_or0, ← nI_1]
          simp [bt_mk, q2]
        · rw [bt_n0 (by omega)] at q2
          refine ⟨m - (k + 1), by omega, rfl, rfl, rfl, rfl, k + 1, by omega, rfl, ?_⟩
          rw [bt_or1 k (by omega) _ (bt_mk_lt hf k), ← nI_1]
          simp [bt_mk, show f k = 1 by omega]
    refine bt_go rfl hP 60 [4] P (fun _ _ _ _ _ h => h) ?_
    exact loop _ _ _ _ _ _ ⟨rfl, rfl, rfl, rfl, 0, by omega, rfl, rfl⟩
  · exact False.elim h
def sX6_paceOn : bt_Sp := fun as M N K => match as with
  | [.ref c, .int p] => ∃ p' a, c = 67 ∧ p = nI p' ∧ p' ≤ 450 ∧ M 68 (p' + 56) = nI a - 5 ∧ K (some (.int (nI a))) M N
  | _ => False
theorem bt_m5 (x : Int32) : x - 5 + 5 = x := by
  rw [Int32.sub_add_cancel]
theorem bt_m10 (x : Int32) : x - 10 + 10 = x := by
  rw [Int32.sub_add_cancel]
theorem mX6_paceOn : bt_MT bt_TX6_paceOn bt_FX6 [] 1 2 sX6_paceOn := by
  intro as M N Rt h P hP
  unfold sX6_paceOn at h
  split at h
  · obtain ⟨p, a, rfl, rfl, hp, ha, h⟩ := h
    refine bt_go0 rfl hP 30 ?_
    refine ⟨_, rfl, p + 56, by simp only [bt_lit, nI_add], by omega, ?_⟩
    rw [← bt_m5 (nI a), ← ha] at h
    exact h
  · exact False.elim h
def bt_CX6_aheadOf : bt_C := [(139, 1, 3, sX6_isPast)]
def sX6_aheadOf : bt_Sp := fun as M N K => match as with
  | [.ref c, .int p, .int k] => ∃ p' k' f, c = 67 ∧ p = nI p' ∧ p' ≤ 450 ∧ k = nI k' ∧ k' < 6 ∧ bt_b1 f ∧ bt_pg M p' (k' + 1) f ∧ K (some (.int (nI (if f k' = 1 then 0 else bt_ct1 (fun j => 1 - f j) k')))) M N
  | _ => False
theorem mX6_aheadOf : bt_MT bt_TX6_aheadOf bt_FX6 bt_CX6_aheadOf 1 5 sX6_aheadOf := by
  intro as M N Rt h P hP
  unfold sX6_aheadOf at h
  split at h
  · obtain ⟨p, k, f, rfl, rfl, hp, rfl, hk, hf, hpg, h⟩ := h
    have loop : ∀ v pc L st M' N', (pc = 5 ∧ st = [] ∧ M' = M ∧ N' = N ∧ ∃ j, j ≤ k ∧ v = k - j ∧ L = [some (.ref 67), some (.int (nI p)), some (.int (nI k)), some (.int (nI (bt_ct1 (fun j => 1 - f j) j))), some (.int (nI j))]) → P pc L st M' N' := by
      refine bt_loop rfl hP 60 [5] (fun v pc L st M' N' => (pc = 5 ∧ st = [] ∧ M' = M ∧ N' = N ∧ ∃ j, j ≤ k ∧ v = k - j ∧ L = [some (.ref 67), some (.int (nI p)), some (.int (nI k)), some (.int (nI (bt_ct1 (fun j => 1 - f j) j))), some (.int (nI j))])) ?_
      rintro v pc L st M' N' ⟨rfl, rfl, rfl, rfl, j, hj, rfl, rfl⟩
      have g1 := hf j
      have g2 := hf k
      refine ⟨fun q => ?_, fun q => ?_⟩
      · rw [nI_leI (by omega) (by omega)] at q
        have : j = k := by omega
        subst this
        refine ⟨p, j, f j, rfl, rfl, rfl, by omega, hpg j (by omega), g1, ?_⟩
        refine ⟨fun q2 => ?_, fun q2 => ?_⟩
        · rw [bt_n0 (by omega)] at q2
          rw [if_neg (by omega)] at h
          exact h
        · rw [bt_n0 (by omega)] at q2
          rw [if_pos (by omega)] at h
          exact h
      · rw [nI_leI (by omega) (by omega)] at q
        refine ⟨p, j, f j, rfl, rfl, rfl, by omega, hpg j (by omega), g1, ?_⟩
        refine ⟨fun q2 => ?_, fun q2 => ?_⟩
        · rw [bt_n0 (by omega)] at q2
          refine ⟨k - (j + 1), by omega, rfl, rfl, rfl, rfl, j + 1, by omega, rfl, ?_⟩
          rw [nI_1, nI_1]
          simp [bt_ct1, q2]
        · rw [bt_n0 (by omega)] at q2
          refine ⟨k - (j + 1), by omega, rfl, rfl, rfl, rfl, j + 1, by omega, rfl, ?_⟩
          rw [nI_1]
          simp [bt_ct1, show f j = 1 by omega]
    refine bt_go rfl hP 60 [5] P (fun _ _ _ _ _ h => h) ?_
    exact loop _ _ _ _ _ _ ⟨rfl, rfl, rfl, rfl, 0, by omega, rfl, rfl⟩
  · exact False.elim h
def sX6_useOn : bt_Sp := fun as M N K => match as with
  | [.ref c, .int p, .int i, .int g] => ∃ p' i' g' a b d, c = 67 ∧ p = nI p' ∧ p' ≤ 450 ∧ i = nI i' ∧ i' < 8 ∧ g = nI g' ∧ g' ≤ 9 ∧ M 68 (p' + 7 * i' + 6) = nI a ∧ a ≤ 1 ∧ M 68 (p' + 7 * i' + 1) = nI b ∧ b ≤ 9 ∧ M 68 (p' + 7 * i' + 4) = nI d ∧ d ≤ 1 ∧ K (some (.int (nI (if a = 1 then 9 else min g' (b - d))))) M N
  | _ => False
theorem bt_sgn : ∀ b, b < 10 → ∀ d, d < 2 → (0 ≤ nI b - nI d ↔ d ≤ b) ∧ (d ≤ b → nI b - nI d = nI (b - d)) := by decide +kernel
theorem mX6_useOn : bt_MT bt_TX6_useOn bt_FX6 [] 1 6 sX6_useOn := by
  intro as M N Rt h P hP
  unfold sX6_useOn at h
  split at h
  · obtain ⟨p, i, g, a, b, d, rfl, rfl, hp, rfl, hi, rfl, hg, ha, ha1, hb, hb9, hd, hd1, h⟩ := h
    obtain ⟨s1, s2⟩ := bt_sgn b (by omega) d (by omega)
    refine bt_go0 rfl hP 60 ?_
    refine ⟨_, rfl, p + 7 * i + 6, by simp only [bt_lit, pk_mul, nI_add], by omega, ?_⟩
    refine ⟨fun q => ?_, fun q => ?_⟩
    · rw [ha, bt_n1 (by omega)] at q
      rw [if_neg q] at h
      refine ⟨_, rfl, p + 7 * i + 1, by simp only [bt_lit, pk_mul, nI_add], by omega, ?_⟩
      refine ⟨_, rfl, p + 7 * i + 4, by simp only [bt_lit, pk_mul, nI_add], by omega, ?_⟩
      refine ⟨fun q2 => ⟨fun q3 => ?_, fun q3 => ?_⟩, fun q2 => ⟨fun q3 => ?_, fun q3 => ?_⟩⟩
      · rw [hb, hd, s1] at q2
        rw [hb, hd, s2 q2, nI_leI (by omega) (by omega)] at q3
        rw [show min g (b - d) = b - d by omega, ← s2 q2, ← hb, ← hd] at h
        exact h
      · rw [hb, hd, s1] at q2
        rw [hb, hd, s2 q2, nI_leI (by omega) (by omega)] at q3
        rw [show min g (b - d) = g by omega] at h
        exact h
      · rw [hb, hd, s1] at q2
        rw [show min g (b - d) = 0 by omega] at h
        exact h
      · rw [hb, hd, s1] at q2
        rw [← nI_0, nI_leI (by omega) (by omega)] at q3
        omega
    · rw [ha, bt_n1 (by omega)] at q
      rw [if_pos q] at h
      exact h
  · exact False.elim h
def sX6_isEnough : bt_Sp := fun as M N K => match as with
  | [.ref c, .int kd, .int nd, .int f, .int u] => ∃ kd' nd' f' u', c = 67 ∧ kd = nI kd' ∧ kd' ≤ 4 ∧ nd = nI nd' ∧ nd' ≤ 9 ∧ f = nI (f' + 1) ∧ f' ≤ 6 ∧ u = nI u' ∧ u' ≤ 9 ∧ K (some (.int (if bt_psB kd' nd' u' f' 0 = true then 1 else 0))) M N
  | _ => False
theorem mX6_isEnough : bt_MT bt_TX6_isEnough bt_FX6 [] 2 5 sX6_isEnough := by
  intro as M N Rt h P hP
  unfold sX6_isEnough at h
  split at h
  · obtain ⟨kd, nd, f, u, rfl, rfl, hk, rfl, hn, rfl, hf, rfl, hu, h⟩ := h
    have hmul : nd * (f + 1) ≤ 63 := by
      calc nd * (f + 1) ≤ 9 * 7 := Nat.mul_le_mul hn (by omega)
        _ = 63 := rfl
    have no : ¬ bt_psB kd nd u f 0 = true → Rt (some (.int 0)) M N := fun q => by rw [if_neg q] at h; exact h
    have yes : bt_psB kd nd u f 0 = true → Rt (some (.int 1)) M N := fun q => by rw [if_pos q] at h; exact h
    rw [bt_psB_iff] at no yes
    unfold bt_ps at no yes
    have e2 : (nI kd = 2 ↔ kd = 2) := nI_eq (b := 2) (by omega) (by omega)
    have e4 : (nI kd = 4 ↔ kd = 4) := nI_eq (b := 4) (by omega) (by omega)
    have e0 : (nI kd = 0 ↔ kd = 0) := bt_n0 (by omega)
    have l1 : nI (f + 1) ≤ 1 ↔ f + 1 ≤ 1 := nI_leI (b := 1) (by omega) (by omega)
    have m1 : nI nd * nI (f + 1) = nI (nd * (f + 1)) := pk_mul _ _
    have m2 : nI nd * 2 = nI (nd * 2) := pk_mul nd 2
    have m3 : nI nd * 1 = nI (nd * 1) := pk_mul nd 1
    have c1 := nI_ltI (a := u) (b := nd * (f + 1)) (by omega) (by omega)
    have c2 := nI_ltI (a := u) (b := nd * 2) (by omega) (by omega)
    have c3 := nI_ltI (a := u) (b := nd * 1) (by omega) (by omega)
    refine bt_go0 rfl hP 60 ?_
    have tail : kd = 2 ∨ f = 0 → ¬ kd = 0 → (nI kd = 2 → nI u < nI nd * nI (f + 1) → Rt (some (.int 0)) M N) ∧ (nI kd = 2 → ¬ nI u < nI nd * nI (f + 1) → Rt (some (.int 1)) M N) ∧ (¬ nI kd = 2 → nI kd = 4 → nI u < nI nd * 2 → Rt (some (.int 0)) M N) ∧ (¬ nI kd = 2 → nI kd = 4 → ¬ nI u < nI nd * 2 → Rt (some (.int 1)) M N) ∧ (¬ nI kd = 2 → ¬ nI kd = 4 → nI u < nI nd * 1 → Rt (some (.int 0)) M N) ∧ (¬ nI kd = 2 → ¬ nI kd = 4 → ¬ nI u < nI nd * 1 → Rt (some (.int 1)) M N) := by
      intro z z0
      rw [m1, m2, m3, c1, c2, c3, e2, e4]
      refine ⟨fun a b => no (by omega), fun a b => yes (by omega), fun a a2 b => no (by omega), fun a a2 b => yes (by omega), fun a a2 b => no (by omega), fun a a2 b => yes (by omega)⟩
    refine ⟨fun q => ⟨Or.inl rfl, no ?_⟩, fun q => ⟨fun q2 => ?_, fun q2 => ⟨fun q3 => ?_, fun q3 => ⟨Or.inl rfl, no ?_⟩⟩⟩⟩
    · rw [e0] at q; omega
    · rw [e0] at q
      obtain ⟨t1, t2, -⟩ := tail (Or.inl (e2.mp q2)) q
      exact ⟨fun z => absurd q2 z, fun _ => ⟨fun z => ⟨Or.inl rfl, t1 q2 z⟩, fun z => ⟨Or.inr rfl, t2 q2 z⟩⟩⟩
    · rw [e0] at q
      rw [l1] at q3
      obtain ⟨-, -, t3, t4, t5, t6⟩ := tail (Or.inr (by omega)) q
      refine ⟨fun _ => ⟨fun a => ⟨fun z => ⟨Or.inl rfl, t5 q2 a z⟩, fun z => ⟨Or.inr rfl, t6 q2 a z⟩⟩, fun a => ⟨fun z => ⟨Or.inl rfl, t3 q2 a z⟩, fun z => ⟨Or.inr rfl, t4 q2 a z⟩⟩⟩, fun z => absurd z q2⟩
    · rw [e0] at q
      rw [l1] at q3
      rw [e2] at q2
      omega
  · exact False.elim h
