/-! WHAT IS DARED: the numbers -/
def bt_gs (w : bt_W) (k i : Nat) : Int := ((w 0 i * w 12 2 : Nat) : Int) - ((w 0 i * w 9 k : Nat) : Int)
def bt_sz (w : bt_W) (k : Nat) : Nat → Int
  | 0 => 0
  | j + 1 => bt_sz w k j + bt_gs w k (w 12 0 - 1 - j)
theorem bt_gs_le {w : bt_W} (h : bt_wf w) (k i : Nat) : -81 ≤ bt_gs w k i ∧ bt_gs w k i ≤ 81 := by
  obtain ⟨h1, h2, h3, h4, h5, h6, h7, h8, h9, h10, h11, h12, h13, h14, h15, h16, h17, h18⟩ := h
  have e1 : w 0 i * w 12 2 ≤ 9 * 9 := Nat.mul_le_mul (h7 i) h4
  have e2 : w 0 i * w 9 k ≤ 9 * 5 := Nat.mul_le_mul (h7 i) (h16 k)
  unfold bt_gs
  omega
theorem bt_sz_le {w : bt_W} (h : bt_wf w) (k : Nat) : ∀ j : Nat, -(81 * j : Int) ≤ bt_sz w k j ∧ bt_sz w k j ≤ 81 * j
  | 0 => by simp [bt_sz]
  | j + 1 => by
    have h1 := bt_sz_le h k j
    have h2 := bt_gs_le h k (w 12 0 - 1 - j)
    simp only [bt_sz]
    omega
theorem bt_ch_le {w : bt_W} (h : bt_wf w) (i k : Nat) : bt_ch w i k ≤ 10 := by
  obtain ⟨h1, h2, h3, h4, h5, h6, h7, h8, h9, h10, h11, h12, h13, h14, h15, h16, h17, h18⟩ := h
  unfold bt_ch
  have := h10 i
  split
  · omega
  · split <;> omega
/-- what daring in this stretch is worth, over 10^(j+1) -/
def bt_gz (t : Nat) (s : Int) (v p b : Nat) : Int := ((t : Int) * s - 10 * (v : Int)) * (p : Int) + (10 - (t : Int)) * (b : Int)
def bt_bd (w : bt_W) (k v : Nat) : Nat → Nat
  | 0 => 0
  | j + 1 => (max (bt_gz (bt_ch w (w 12 0 - 1 - j) k) (bt_sz w k (j + 1)) v (10 ^ j) (bt_bd w k v j)) (10 * (bt_bd w k v j : Int))).toNat
theorem bt_ts_le {t : Nat} {s : Int} (ht : t ≤ 10) (hs : -648 ≤ s ∧ s ≤ 648) : -6480 ≤ (t : Int) * s ∧ (t : Int) * s ≤ 6480 := by
  have e1 : (t : Int) * s ≤ (t : Int) * 648 := Int.mul_le_mul_of_nonneg_left hs.2 (by omega)
  have e2 : (t : Int) * (-648) ≤ (t : Int) * s := Int.mul_le_mul_of_nonneg_left hs.1 (by omega)
  omega
theorem bt_gz_le {t v p b : Nat} {s : Int} (ht : t ≤ 10) (hs : -648 ≤ s ∧ s ≤ 648) : bt_gz t s v p b ≤ 6480 * (p : Int) + 10 * (b : Int) := by
  have h1 := bt_ts_le ht hs
  have e1 : ((t : Int) * s - 10 * (v : Int)) * (p : Int) ≤ 6480 * (p : Int) := Int.mul_le_mul_of_nonneg_right (by omega) (by omega)
  have e2 : (10 - (t : Int)) * (b : Int) ≤ 10 * (b : Int) := Int.mul_le_mul_of_nonneg_right (by omega) (by omega)
  unfold bt_gz
  omega
theorem bt_bd_le {w : bt_W} (h : bt_wf w) (k v : Nat) : ∀ j, j ≤ 8 → bt_bd w k v j ≤ 6480 * (j * 10 ^ j)
  | 0, _ => by simp [bt_bd]
  | j + 1, hj => by
    have ih := bt_bd_le h k v j (by omega)
    have hs := bt_sz_le h k (j + 1)
    have hg := bt_gz_le (v := v) (p := 10 ^ j) (b := bt_bd w k v j) (bt_ch_le h (w 12 0 - 1 - j) k) (s := bt_sz w k (j + 1)) (by omega)
    have e : (j + 1) * 10 ^ (j + 1) = 10 * (j * 10 ^ j) + 10 * 10 ^ j := by
      rw [Nat.pow_succ, Nat.add_mul, Nat.one_mul, Nat.mul_comm (10 ^ j) 10, Nat.mul_left_comm]
    rw [e, bt_bd]
    have e3 : ((10 ^ j : Nat) : Int) = ((10 ^ j : Nat) : Int) := rfl
    generalize 10 ^ j = p at *
    generalize j * p = jp at *
    generalize bt_gz (bt_ch w (w 12 0 - 1 - j) k) (bt_sz w k (j + 1)) v p (bt_bd w k v j) = g at *
    generalize bt_bd w k v j = b at *
    omega
theorem bt_i10 : (10 : Int32).toInt = 10 := by decide
theorem bt_tx {t : Nat} {x : Int32} (ht : t ≤ 10) (hs : -648 ≤ x.toInt ∧ x.toInt ≤ 648) : (nI t * x).toInt = (t : Int) * x.toInt := by
  have h1 := bt_ts_le ht hs
  rw [Int32.toInt_mul, nI_toInt (by omega)]
  exact Int.bmod_eq_of_le (by omega) (by omega)
theorem bt_10v {v : Nat} (hv : v ≤ 99) : (10 * nI v : Int32).toInt = 10 * (v : Int) := by
  rw [Int32.toInt_mul, nI_toInt (by omega), bt_i10]
  exact Int.bmod_eq_of_le (by omega) (by omega)
theorem bt_10t {t : Nat} (ht : t ≤ 10) : (10 - nI t : Int32).toInt = 10 - (t : Int) := by
  rw [Int32.toInt_sub, nI_toInt (by omega), bt_i10]
  exact Int.bmod_eq_of_le (by omega) (by omega)
theorem bt_gz_c {t v p b : Nat} {x : Int32} (ht : t ≤ 10) (hs : -648 ≤ x.toInt ∧ x.toInt ≤ 648) (hv : v ≤ 99) (hp : p ≤ 100000000) (hb : b ≤ 5184000000000) : ((nI t * x - 10 * nI v).toInt64 * lN p + (10 - nI t).toInt64 * lN b).toInt = bt_gz t x.toInt v p b := by
  have h1 := bt_ts_le ht hs
  have a1 : (nI t * x - 10 * nI v).toInt = (t : Int) * x.toInt - 10 * (v : Int) := by
    rw [Int32.toInt_sub, bt_tx ht hs, bt_10v hv]
    exact Int.bmod_eq_of_le (by omega) (by omega)
  have e1 : ((t : Int) * x.toInt - 10 * (v : Int)) * (p : Int) ≤ 7470 * (p : Int) := Int.mul_le_mul_of_nonneg_right (by omega) (by omega)
  have e2 : (-7470) * (p : Int) ≤ ((t : Int) * x.toInt - 10 * (v : Int)) * (p : Int) := Int.mul_le_mul_of_nonneg_right (by omega) (by omega)
  have e3 : (10 - (t : Int)) * (b : Int) ≤ 10 * (b : Int) := Int.mul_le_mul_of_nonneg_right (by omega) (by omega)
  have e4 : 0 * (b : Int) ≤ (10 - (t : Int)) * (b : Int) := Int.mul_le_mul_of_nonneg_right (by omega) (by omega)
  have m1 : ((nI t * x - 10 * nI v).toInt64 * lN p).toInt = ((t : Int) * x.toInt - 10 * (v : Int)) * (p : Int) := by
    rw [Int64.toInt_mul, Int32.toInt_toInt64, a1, pk_lT (by omega)]
    exact Int.bmod_eq_of_le (by omega) (by omega)
  have m2 : ((10 - nI t).toInt64 * lN b).toInt = (10 - (t : Int)) * (b : Int) := by
    rw [Int64.toInt_mul, Int32.toInt_toInt64, bt_10t ht, pk_lT (by omega)]
    exact Int.bmod_eq_of_le (by omega) (by omega)
  rw [Int64.toInt_add, m1, m2]
  unfold bt_gz
  exact Int.bmod_eq_of_le (by omega) (by omega)
theorem bt_gz_m {t v p b : Nat} {x : Int32} (ht : t ≤ 10) (hs : -648 ≤ x.toInt ∧ x.toInt ≤ 648) (hv : v ≤ 99) (hp : p ≤ 100000000) (hb : b ≤ 5184000000000) : ((nI t * x).toInt64 * lN p + (10 - nI t).toInt64 * lN b - 10 * (nI v).toInt64 * lN p).toInt = bt_gz t x.toInt v p b := by
  have h1 := bt_ts_le ht hs
  have e1 : ((t : Int) * x.toInt) * (p : Int) ≤ 6480 * (p : Int) := Int.mul_le_mul_of_nonneg_right (by omega) (by omega)
  have e2 : (-6480) * (p : Int) ≤ ((t : Int) * x.toInt) * (p : Int) := Int.mul_le_mul_of_nonneg_right (by omega) (by omega)
  have e3 : (10 - (t : Int)) * (b : Int) ≤ 10 * (b : Int) := Int.mul_le_mul_of_nonneg_right (by omega) (by omega)
  have e4 : 0 * (b : Int) ≤ (10 - (t : Int)) * (b : Int) := Int.mul_le_mul_of_nonneg_right (by omega) (by omega)
  have e5 : (10 * (v : Int)) * (p : Int) ≤ 990 * (p : Int) := Int.mul_le_mul_of_nonneg_right (by omega) (by omega)
  have e6 : 0 * (p : Int) ≤ (10 * (v : Int)) * (p : Int) := Int.mul_le_mul_of_nonneg_right (by omega) (by omega)
  have m1 : ((nI t * x).toInt64 * lN p).toInt = ((t : Int) * x.toInt) * (p : Int) := by
    rw [Int64.toInt_mul, Int32.toInt_toInt64, bt_tx ht hs, pk_lT (by omega)]
    exact Int.bmod_eq_of_le (by omega) (by omega)
  have m2 : ((10 - nI t).toInt64 * lN b).toInt = (10 - (t : Int)) * (b : Int) := by
    rw [Int64.toInt_mul, Int32.toInt_toInt64, bt_10t ht, pk_lT (by omega)]
    exact Int.bmod_eq_of_le (by omega) (by omega)
  have m3 : (10 * (nI v).toInt64 : Int64).toInt = 10 * (v : Int) := by
    rw [Int64.toInt_mul, Int32.toInt_toInt64, nI_toInt (by omega), show (10 : Int64).toInt = 10 from by decide]
    exact Int.bmod_eq_of_le (by omega) (by omega)
  have m4 : (10 * (nI v).toInt64 * lN p).toInt = (10 * (v : Int)) * (p : Int) := by
    rw [Int64.toInt_mul, m3, pk_lT (by omega)]
    exact Int.bmod_eq_of_le (by omega) (by omega)
  have m5 : ((nI t * x).toInt64 * lN p + (10 - nI t).toInt64 * lN b).toInt = ((t : Int) * x.toInt) * (p : Int) + (10 - (t : Int)) * (b : Int) := by
    rw [Int64.toInt_add, m1, m2]
    exact Int.bmod_eq_of_le (by omega) (by omega)
  rw [Int64.toInt_sub, m5, m4]
  unfold bt_gz
  have hx : ((t : Int) * x.toInt - 10 * (v : Int)) * (p : Int) = ((t : Int) * x.toInt) * (p : Int) - (10 * (v : Int)) * (p : Int) := Int.sub_mul _ _ _
  rw [hx, show ((t : Int) * x.toInt) * (p : Int) - (10 * (v : Int)) * (p : Int) + (10 - (t : Int)) * (b : Int) = ((t : Int) * x.toInt) * (p : Int) + (10 - (t : Int)) * (b : Int) - (10 * (v : Int)) * (p : Int) by omega]
  exact Int.bmod_eq_of_le (by omega) (by omega)
