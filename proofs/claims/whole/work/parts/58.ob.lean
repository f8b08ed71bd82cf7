/-! BY ODDS: what the class sums up is the mean over all sets -/
def bu_B (w : bt_W) (j k : Nat) : Nat := bt_ct1 (fun q => q / 2 ^ k % 2 * bu_Wt w j q) 64
theorem bu_B_X {w : bt_W} (hw : bt_wf w) {j k : Nat} (hj : w 12 4 + j ≤ w 12 0) (hk : k < w 12 1) : bu_B w j k = bu_X w j (fun s => bt_dn w (bu_gf w s) j 11 k) := by
  have h1 := bu_Wt_X hw j hj (fun q => q / 2 ^ k % 2)
  unfold bu_B
  rw [bt_ct1_c (f := fun q => q / 2 ^ k % 2 * bu_Wt w j q) (g := fun q => bu_Wt w j q * (q / 2 ^ k % 2)) (fun q _ => Nat.mul_comm _ _), h1]
  exact bu_X_c (fun s _ => bu_pm_b hw hj hk)
theorem bu_B_le {w : bt_W} (hw : bt_wf w) {j k : Nat} (hj : w 12 4 + j ≤ w 12 0) (hk : k < w 12 1) : bu_B w j k ≤ 10 ^ j := by
  rw [bu_B_X hw hj hk]
  have := bu_X_le hw (j := j) (c := 1) (f := fun s => bt_dn w (bu_gf w s) j 11 k) (fun s _ => bu_b1D hw hj _ k)
  omega
theorem bu_X_not {w : bt_W} (hw : bt_wf w) {j k : Nat} (hj : w 12 4 + j ≤ w 12 0) (hk : k < w 12 1) : bu_X w j (fun s => 1 - bt_dn w (bu_gf w s) j 11 k) = 10 ^ j - bu_B w j k := by
  have h1 := bu_X_add w j (fun s => 1 - bt_dn w (bu_gf w s) j 11 k) (fun s => bt_dn w (bu_gf w s) j 11 k)
  rw [← bu_B_X hw hj hk, bu_X_c (g := fun _ => 1) (fun s _ => by
    have : bt_dn w (bu_gf w s) j 11 k ≤ 1 := bu_b1D hw hj _ k
    show 1 - bt_dn w (bu_gf w s) j 11 k + bt_dn w (bu_gf w s) j 11 k = 1
    omega), bu_X_1 hw] at h1
  omega
theorem bu_D_low {w : bt_W} {s t j : Nat} (h : ∀ p, p < j → s / 2 ^ p % 2 = t / 2 ^ p % 2) : bt_dn w (bu_gf w s) j = bt_dn w (bu_gf w t) j := bu_dn_c j (fun i hi => by rw [bu_gf_s, bu_gf_s, h i hi])
/-- the class's mean of time -/
def bu_T (w : bt_W) (k : Nat) : Nat → Nat
  | 0 => w 10 k
  | j + 1 => bu_T w k j * 10 + w 0 (w 12 4 + j) * (bu_B w (j + 1) k * w 9 k + (10 ^ (j + 1) - bu_B w (j + 1) k) * w 12 2)
theorem bu_T_X {w : bt_W} (hw : bt_wf w) {k : Nat} (hk : k < w 12 1) : ∀ j, w 12 4 + j ≤ w 12 0 → bu_T w k j = bu_X w j (fun s => bt_dn w (bu_gf w s) j 10 k)
  | 0, _ => by
    show w 10 k = 0 + w 10 k * 1
    omega
  | j + 1, hj => by
    have ih := bu_T_X hw hk j (by omega)
    have e1 : bu_X w (j + 1) (fun s => bt_dn w (bu_gf w s) (j + 1) 10 k) = bu_X w (j + 1) (fun s => bt_dn w (bu_gf w s) j 10 k + w 0 (w 12 4 + j) * (w 9 k * bt_dn w (bu_gf w s) (j + 1) 11 k + w 12 2 * (1 - bt_dn w (bu_gf w s) (j + 1) 11 k))) := by
      refine bu_X_c (fun s _ => ?_)
      have hp : bt_dn w (bu_gf w s) (j + 1) 11 k ≤ 1 := bu_b1D hw hj _ k
      rw [bu_dn10, ← bu_dn11]
      unfold bt_mn
      rcases (show bt_dn w (bu_gf w s) (j + 1) 11 k = 0 ∨ bt_dn w (bu_gf w s) (j + 1) 11 k = 1 by omega) with e | e
      · rw [e, if_neg (by omega)]
        simp
      · rw [e, if_pos rfl]
        simp
    rw [e1, bu_X_add, bu_X_mul, bu_X_add, bu_X_mul, bu_X_mul, bu_X_10 hw (fun s _ => by rw [bu_D_low (fun p hp => bu_hb hp)]), bu_X_not hw hj hk, ← bu_B_X hw hj hk, ← ih, bu_T, Nat.mul_comm (bu_T w k j), Nat.mul_comm (w 9 k), Nat.mul_comm (w 12 2)]
theorem bu_R_X {w : bt_W} (hw : bt_wf w) {j : Nat} (hj : w 12 4 + j ≤ w 12 0) : ∀ m, m ≤ w 12 1 → bt_ct1 (fun k => 10 ^ j - bu_B w j k) m = bu_X w j (fun s => bt_ct1 (fun k => 1 - bt_dn w (bu_gf w s) j 11 k) m)
  | 0, _ => by
    have := bu_X_mul w j 0 (fun _ => 1)
    simp only [Nat.zero_mul] at this
    exact this.symm
  | m + 1, hm => by
    rw [bt_ct1, bu_R_X hw hj m (by omega), ← bu_X_not hw hj (show m < w 12 1 by omega), ← bu_X_add]
    rfl
theorem bu_lw_c {c a b : Nat} (x : Int32) (hc : 0 < c) : bt_lw (c * a) (c * b) x = bt_lw a b x := by
  unfold bt_lw
  rw [Nat.gcd_mul_left]
  by_cases h : x = 0
  · rw [if_pos h, if_pos h, Nat.mul_div_mul_left _ _ hc]
  · rw [if_neg h, if_neg h, Nat.mul_div_mul_left _ _ hc]
/-- where: the last stretch in which it came is the only one -/
def bu_cj (w : bt_W) (s j k : Nat) : Nat := bt_cm w (w 12 4 + j) (bu_gf w s (w 12 4 + j)) (bt_dn w (bu_gf w s) j 11) k
theorem bu_D1 {w : bt_W} {s j k : Nat} (h : bt_dn w (bu_gf w s) j 11 k = 1) : ∀ d, bt_dn w (bu_gf w s) (j + d) 11 k = 1
  | 0 => h
  | d + 1 => by
    have ih := bu_D1 h d
    rw [← Nat.add_assoc, bu_dn11, ih, bt_cm_ps _ _ _ _ _ ih]
theorem bu_wr_fix {w : bt_W} (hw : bt_wf w) {s j k : Nat} (hk : k < w 12 1) (hj : w 12 4 + j + 1 ≤ w 12 0) (h : bu_cj w s j k = 1) : ∀ d, bu_wr w s k (j + 1 + d) = nI (w 12 4 + j)
  | 0 => by
    rw [Nat.add_zero, bu_wr, if_pos ⟨hk, h⟩]
  | d + 1 => by
    have h1 : bt_dn w (bu_gf w s) (j + 1) 11 k ≤ 1 := bu_b1D hw hj _ k
    have h2 : bt_dn w (bu_gf w s) (j + 1) 11 k = bt_dn w (bu_gf w s) j 11 k + bu_cj w s j k := bu_dn11 _ _ _ _
    have h3 := bu_D1 (show bt_dn w (bu_gf w s) (j + 1) 11 k = 1 by omega) d
    rw [← Nat.add_assoc, bu_wr, if_neg (fun c => by
      rw [bt_cm_ps _ _ _ _ _ h3] at c
      exact absurd c.2 (by omega))]
    exact bu_wr_fix hw hk hj h d
theorem bu_wr_eq {w : bt_W} {s j k : Nat} (hb : w 12 4 + j < 2 ^ 31) : ∀ m, w 12 4 + m < 2 ^ 31 → bu_wr w s k m = nI (w 12 4 + j) → bu_cj w s j k = 1
  | 0, _, h => by
    have := congrArg Int32.toInt h
    rw [bu_wr, nI_toInt hb, show (-4 : Int32).toInt = -4 from by decide] at this
    omega
  | m + 1, hm, h => by
    rw [bu_wr] at h
    by_cases c : k < w 12 1 ∧ bt_cm w (w 12 4 + m) (bu_gf w s (w 12 4 + m)) (bt_dn w (bu_gf w s) m 11) k = 1
    · rw [if_pos c, nI_eq (by omega) hb] at h
      have e : m = j := by omega
      rw [← e]
      exact c.2
    · rw [if_neg c] at h
      exact bu_wr_eq hb m (by omega) h
theorem bu_V_X {w : bt_W} (hw : bt_wf w) {j k : Nat} (hk : k < w 12 1) (hj : w 12 4 + j < w 12 0) : bu_X w (w 12 0 - w 12 4) (fun s => if bu_wr w s k (w 12 0 - w 12 4) = nI (w 12 4 + j) then 1 else 0) = 10 ^ (w 12 0 - w 12 4 - (j + 1)) * (bu_B w (j + 1) k - 10 * bu_B w j k) := by
  have f1 := hw.1
  have e1 : bu_X w (w 12 0 - w 12 4) (fun s => if bu_wr w s k (w 12 0 - w 12 4) = nI (w 12 4 + j) then 1 else 0) = bu_X w (j + 1 + (w 12 0 - w 12 4 - (j + 1))) (fun s => bu_cj w s j k) := by
    rw [show j + 1 + (w 12 0 - w 12 4 - (j + 1)) = w 12 0 - w 12 4 by omega]
    refine bu_X_c (fun s _ => ?_)
    have b1 : bu_cj w s j k ≤ 1 := bt_cm_b1 _ _ _ _ k
    by_cases c : bu_cj w s j k = 1
    · have h1 := bu_wr_fix hw (s := s) hk (by omega) c (w 12 0 - w 12 4 - (j + 1))
      rw [show j + 1 + (w 12 0 - w 12 4 - (j + 1)) = w 12 0 - w 12 4 by omega] at h1
      rw [if_pos h1, c]
    · rw [if_neg (fun h => c (bu_wr_eq (by omega) _ (by omega) h))]
      omega
  rw [e1, bu_X_low hw (fun s t h => by
    unfold bu_cj
    rw [bu_gf_s, bu_gf_s, h j (by omega), bu_D_low (fun p hp => h p (by omega))])]
  congr 1
  have e2 := bu_X_add w (j + 1) (fun s => bt_dn w (bu_gf w s) j 11 k) (fun s => bu_cj w s j k)
  rw [bu_X_c (f := fun s => bt_dn w (bu_gf w s) j 11 k + bu_cj w s j k) (g := fun s => bt_dn w (bu_gf w s) (j + 1) 11 k) (fun s _ => (bu_dn11 _ _ _ _).symm), bu_X_10 hw (f := fun s => bt_dn w (bu_gf w s) j 11 k) (fun s _ => by rw [bu_D_low (fun p hp => bu_hb hp)]), ← bu_B_X hw (by omega) hk, ← bu_B_X hw (by omega) hk] at e2
  omega
