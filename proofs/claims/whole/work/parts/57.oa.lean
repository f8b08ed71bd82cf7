/-! BY ODDS: sums, weights of sets of gaps -/
theorem bu_S_add (f g : Nat → Nat) : ∀ n, bt_ct1 (fun k => f k + g k) n = bt_ct1 f n + bt_ct1 g n
  | 0 => rfl
  | n + 1 => by
    simp only [bt_ct1, bu_S_add f g n]
    omega
theorem bu_S_mul (c : Nat) (f : Nat → Nat) : ∀ n, bt_ct1 (fun k => c * f k) n = c * bt_ct1 f n
  | 0 => rfl
  | n + 1 => by simp only [bt_ct1, bu_S_mul c f n, Nat.mul_add]
theorem bu_S_0 : ∀ n, bt_ct1 (fun _ => 0) n = 0
  | 0 => rfl
  | n + 1 => by simp only [bt_ct1, bu_S_0 n]
theorem bu_S_swap (f : Nat → Nat → Nat) (m : Nat) : ∀ n, bt_ct1 (fun a => bt_ct1 (fun b => f a b) m) n = bt_ct1 (fun b => bt_ct1 (fun a => f a b) n) m
  | 0 => (bu_S_0 m).symm
  | n + 1 => by
    simp only [bt_ct1]
    rw [bu_S_swap f m n, ← bu_S_add]
theorem bu_S_delta (a c : Nat) (ph : Nat → Nat) : ∀ n, bt_ct1 (fun q => (if a = q then c else 0) * ph q) n = if a < n then c * ph a else 0
  | 0 => by simp [bt_ct1]
  | n + 1 => by
    rw [bt_ct1, bu_S_delta a c ph n]
    by_cases h : a = n
    · rw [if_neg (by omega), if_pos h, if_pos (by omega), h]
      omega
    · rw [if_neg h]
      by_cases h2 : a < n
      · rw [if_pos h2, if_pos (by omega)]
        omega
      · rw [if_neg h2, if_neg (by omega)]
        omega
theorem bu_S_pad {f : Nat → Nat} {m : Nat} (h : ∀ k, m ≤ k → f k = 0) : ∀ d, bt_ct1 f (m + d) = bt_ct1 f m
  | 0 => rfl
  | d + 1 => by
    rw [← Nat.add_assoc, bt_ct1, bu_S_pad h d, h (m + d) (by omega)]
    rfl
theorem bu_S_split (f : Nat → Nat) (m : Nat) : ∀ n, bt_ct1 f (m + n) = bt_ct1 f m + bt_ct1 (fun k => f (m + k)) n
  | 0 => rfl
  | n + 1 => by
    rw [← Nat.add_assoc, bt_ct1, bu_S_split f m n, bt_ct1]
    omega
theorem bu_S_le {f g : Nat → Nat} : ∀ {n : Nat}, (∀ k, k < n → f k ≤ g k) → bt_ct1 f n ≤ bt_ct1 g n
  | 0, _ => Nat.le_refl _
  | n + 1, h => by
    have h1 := bu_S_le (n := n) (fun k hk => h k (by omega))
    have h2 := h n (by omega)
    simp only [bt_ct1]
    omega
def bu_wt (w : bt_W) (s : Nat) : Nat → Nat
  | 0 => 1
  | t + 1 => bu_wt w s t * (if s / 2 ^ t % 2 = 1 then w 3 (w 12 4 + t) else 10 - w 3 (w 12 4 + t))
theorem bu_wt_c {w : bt_W} {s s' : Nat} : ∀ j, (∀ t, t < j → s / 2 ^ t % 2 = s' / 2 ^ t % 2) → bu_wt w s j = bu_wt w s' j
  | 0, _ => rfl
  | j + 1, h => by rw [bu_wt, bu_wt, bu_wt_c j (fun t ht => h t (by omega)), h j (by omega)]
theorem bu_hb {s j t : Nat} (h : t < j) : (s + 2 ^ j) / 2 ^ t % 2 = s / 2 ^ t % 2 := by
  have e : 2 ^ j = (2 ^ (j - t - 1) * 2) * 2 ^ t := by
    rw [← Nat.pow_succ, ← Nat.pow_add]
    congr 1
    omega
  rw [e, Nat.add_mul_div_right _ _ (Nat.two_pow_pos t), Nat.add_mul_mod_self_right]
theorem bu_h1 {s j : Nat} (h : s < 2 ^ j) : (s + 2 ^ j) / 2 ^ j % 2 = 1 := by
  rw [Nat.add_div_right _ (Nat.two_pow_pos j), Nat.div_eq_of_lt h]
theorem bu_h0 {s j : Nat} (h : s < 2 ^ j) : s / 2 ^ j % 2 = 0 := by
  rw [Nat.div_eq_of_lt h]
/-- a mean over the sets of gaps of j stretches, times 10^j -/
def bu_X (w : bt_W) (j : Nat) (ps : Nat → Nat) : Nat := bt_ct1 (fun s => ps s * bu_wt w s j) (2 ^ j)
theorem bu_X_s (w : bt_W) (j : Nat) (ps : Nat → Nat) : bu_X w (j + 1) ps = bu_X w j (fun s => (10 - w 3 (w 12 4 + j)) * ps s + w 3 (w 12 4 + j) * ps (s + 2 ^ j)) := by
  unfold bu_X
  rw [show 2 ^ (j + 1) = 2 ^ j + 2 ^ j by rw [Nat.pow_succ]; omega, bu_S_split, ← bu_S_add]
  refine bt_ct1_c (fun s hs => ?_)
  have e1 : bu_wt w s (j + 1) = bu_wt w s j * (10 - w 3 (w 12 4 + j)) := by rw [bu_wt, bu_h0 hs, if_neg (by omega)]
  have e2 : bu_wt w (s + 2 ^ j) (j + 1) = bu_wt w s j * w 3 (w 12 4 + j) := by
    rw [bu_wt, bu_h1 hs, if_pos rfl, bu_wt_c j (fun t ht => bu_hb ht)]
  show ps s * bu_wt w s (j + 1) + ps (2 ^ j + s) * bu_wt w (2 ^ j + s) (j + 1) = _
  rw [Nat.add_comm (2 ^ j) s, e1, e2, Nat.add_mul]
  simp only [Nat.mul_comm, Nat.mul_left_comm, Nat.mul_assoc]
theorem bu_X_c {w : bt_W} {j : Nat} {f g : Nat → Nat} (h : ∀ s, s < 2 ^ j → f s = g s) : bu_X w j f = bu_X w j g := bt_ct1_c (fun s hs => by rw [h s hs])
theorem bu_X_add (w : bt_W) (j : Nat) (f g : Nat → Nat) : bu_X w j (fun s => f s + g s) = bu_X w j f + bu_X w j g := by
  unfold bu_X
  rw [← bu_S_add]
  refine bt_ct1_c (fun s _ => ?_)
  rw [Nat.add_mul]
theorem bu_X_mul (w : bt_W) (j c : Nat) (f : Nat → Nat) : bu_X w j (fun s => c * f s) = c * bu_X w j f := by
  unfold bu_X
  rw [← bu_S_mul]
  refine bt_ct1_c (fun s _ => ?_)
  rw [Nat.mul_assoc]
theorem bu_X_10 {w : bt_W} (hw : bt_wf w) {j : Nat} {f : Nat → Nat} (h : ∀ s, s < 2 ^ j → f (s + 2 ^ j) = f s) : bu_X w (j + 1) f = 10 * bu_X w j f := by
  rw [bu_X_s, ← bu_X_mul]
  refine bu_X_c (fun s hs => ?_)
  have h10 := hw.2.2.2.2.2.2.2.2.2.1 (w 12 4 + j)
  rw [h s hs, ← Nat.add_mul, show 10 - w 3 (w 12 4 + j) + w 3 (w 12 4 + j) = 10 by omega]
theorem bu_X_1 {w : bt_W} (hw : bt_wf w) : ∀ j, bu_X w j (fun _ => 1) = 10 ^ j
  | 0 => rfl
  | j + 1 => by rw [bu_X_10 hw (fun _ _ => rfl), bu_X_1 hw j, Nat.pow_succ, Nat.mul_comm]
theorem bu_X_le {w : bt_W} (hw : bt_wf w) {j c : Nat} {f : Nat → Nat} (h : ∀ s, s < 2 ^ j → f s ≤ c) : bu_X w j f ≤ c * 10 ^ j := by
  rw [← bu_X_1 hw j, ← bu_X_mul]
  refine bu_S_le (fun s hs => Nat.mul_le_mul_right _ ?_)
  have := h s hs
  show f s ≤ c * 1
  omega
theorem bu_X_low {w : bt_W} (hw : bt_wf w) {j : Nat} {f : Nat → Nat} (h : ∀ s t, (∀ p, p < j → s / 2 ^ p % 2 = t / 2 ^ p % 2) → f s = f t) : ∀ d, bu_X w (j + d) f = 10 ^ d * bu_X w j f
  | 0 => by rw [Nat.pow_zero, Nat.one_mul, Nat.add_zero]
  | d + 1 => by
    rw [← Nat.add_assoc, bu_X_10 hw (fun s _ => h _ _ (fun p hp => bu_hb (by omega))), bu_X_low hw h d, Nat.pow_succ, Nat.mul_comm (10 ^ d) 10, Nat.mul_assoc]
/-- who is past, as a mask -/
def bu_pm (w : bt_W) (j s : Nat) : Nat := bt_mk (bt_dn w (bu_gf w s) j 11) (w 12 1)
def bu_st (w : bt_W) (i g m : Nat) : Nat := bt_mk (fun k => m / 2 ^ k % 2 + bt_cm w i g (fun k => m / 2 ^ k % 2) k) (w 12 1)
theorem bu_fr_p {w : bt_W} {u n : Nat} {ps ps' : Nat → Nat} (h : ∀ k, k < n → ps k = ps' k) : ∀ k, k ≤ n → bt_fr w u ps k = bt_fr w u ps' k
  | 0, _ => rfl
  | k + 1, hk => by simp only [bt_fr, bu_fr_p h k (by omega), h k (by omega)]
theorem bu_cm_p {w : bt_W} {i g : Nat} {ps ps' : Nat → Nat} (h : ∀ k, k < w 12 1 → ps k = ps' k) (k : Nat) (hk : k < w 12 1) : bt_cm w i g ps k = bt_cm w i g ps' k := by
  unfold bt_cm bt_lbB
  rw [bu_fr_p h (k + 1) (by omega), h k hk, bt_ct1_c (f := fun k => 1 - ps k) (g := fun k => 1 - ps' k) (fun k hk => by rw [h k hk])]
theorem bu_b1D {w : bt_W} (hw : bt_wf w) {j : Nat} (hj : w 12 4 + j ≤ w 12 0) (gf : Nat → Nat) : bt_b1 (bt_dn w gf j 11) := bt_wf11 (bt_dn_wf gf hw j hj)
theorem bu_pm_b {w : bt_W} (hw : bt_wf w) {j s k : Nat} (hj : w 12 4 + j ≤ w 12 0) (hk : k < w 12 1) : bu_pm w j s / 2 ^ k % 2 = bt_dn w (bu_gf w s) j 11 k := by
  unfold bu_pm
  rw [bt_mk_bit (bu_b1D hw hj _), if_pos hk]
theorem bu_pm_s {w : bt_W} (hw : bt_wf w) {j s : Nat} (hj : w 12 4 + j ≤ w 12 0) : bu_pm w (j + 1) s = bu_st w (w 12 4 + j) (bu_gf w s (w 12 4 + j)) (bu_pm w j s) := by
  have hb := fun k (hk : k < w 12 1) => bu_pm_b hw (s := s) hj hk
  show bt_mk (bt_dn w (bu_gf w s) (j + 1) 11) (w 12 1) = bt_mk _ (w 12 1)
  refine bt_mk_c (fun k hk => ?_)
  rw [bu_dn11, hb k hk, bu_cm_p (ps := fun k => bu_pm w j s / 2 ^ k % 2) (ps' := bt_dn w (bu_gf w s) j 11) (fun k hk => hb k hk) k hk]
theorem bu_st_lt (w : bt_W) (i g m : Nat) : bu_st w i g m < 2 ^ w 12 1 := bt_mk_lt (bt_cm_le w i g _ bu_m2) _
/-- the class's weights -/
def bu_Wt (w : bt_W) : Nat → Nat → Nat
  | 0, q => if bt_mk (w 11) (w 12 1) = q then 1 else 0
  | j + 1, q => bt_ct1 (fun m => bu_Wt w j m * ((if bu_st w (w 12 4 + j) (w 2 (w 12 4 + j)) m = q then w 3 (w 12 4 + j) else 0) + (if bu_st w (w 12 4 + j) 0 m = q then 10 - w 3 (w 12 4 + j) else 0))) (2 ^ w 12 1)
theorem bu_Wt_0 {w : bt_W} (hw : bt_wf w) {q : Nat} (hq : 2 ^ w 12 1 ≤ q) : ∀ j, bu_Wt w j q = 0
  | 0 => by
    have := bt_mk_lt (bt_wf11 hw) (w 12 1)
    rw [bu_Wt, if_neg (by omega)]
  | j + 1 => by
    rw [bu_Wt]
    refine (bt_ct1_c (g := fun _ => 0) (fun m _ => ?_)).trans (bu_S_0 _)
    have h1 := bu_st_lt w (w 12 4 + j) (w 2 (w 12 4 + j)) m
    have h2 := bu_st_lt w (w 12 4 + j) 0 m
    rw [if_neg (by omega), if_neg (by omega), Nat.mul_zero]
theorem bu_64 {w : bt_W} (hw : bt_wf w) : 2 ^ w 12 1 ≤ 64 := Nat.pow_le_pow_right (n := 2) (j := 6) (by omega) hw.2.1
theorem bu_Wt_X {w : bt_W} (hw : bt_wf w) : ∀ j, w 12 4 + j ≤ w 12 0 → ∀ ph : Nat → Nat, bt_ct1 (fun q => bu_Wt w j q * ph q) 64 = bu_X w j (fun s => ph (bu_pm w j s))
  | 0, _, ph => by
    have h1 := bt_mk_lt (bt_wf11 hw) (w 12 1)
    have h2 := bu_64 hw
    have e : bt_ct1 (fun q => bu_Wt w 0 q * ph q) 64 = if bt_mk (w 11) (w 12 1) < 64 then 1 * ph (bt_mk (w 11) (w 12 1)) else 0 := bu_S_delta _ 1 ph 64
    rw [e, if_pos (by omega)]
    show 1 * ph (bt_mk (w 11) (w 12 1)) = 0 + ph (bt_mk (w 11) (w 12 1)) * 1
    omega
  | j + 1, hj, ph => by
    have h64 := bu_64 hw
    have ih := bu_Wt_X hw j (by omega) (fun m => (10 - w 3 (w 12 4 + j)) * ph (bu_st w (w 12 4 + j) 0 m) + w 3 (w 12 4 + j) * ph (bu_st w (w 12 4 + j) (w 2 (w 12 4 + j)) m))
    have e1 : bt_ct1 (fun q => bu_Wt w (j + 1) q * ph q) 64 = bt_ct1 (fun q => bt_ct1 (fun m => bu_Wt w j m * ((if bu_st w (w 12 4 + j) (w 2 (w 12 4 + j)) m = q then w 3 (w 12 4 + j) else 0) * ph q + (if bu_st w (w 12 4 + j) 0 m = q then 10 - w 3 (w 12 4 + j) else 0) * ph q)) (2 ^ w 12 1)) 64 := by
      refine bt_ct1_c (fun q _ => ?_)
      rw [bu_Wt, Nat.mul_comm, ← bu_S_mul]
      refine bt_ct1_c (fun m _ => ?_)
      rw [← Nat.add_mul, Nat.mul_comm (ph q), Nat.mul_assoc]
    rw [e1, bu_S_swap]
    have e2 : bt_ct1 (fun m => bt_ct1 (fun q => bu_Wt w j m * ((if bu_st w (w 12 4 + j) (w 2 (w 12 4 + j)) m = q then w 3 (w 12 4 + j) else 0) * ph q + (if bu_st w (w 12 4 + j) 0 m = q then 10 - w 3 (w 12 4 + j) else 0) * ph q)) 64) (2 ^ w 12 1) = bt_ct1 (fun m => bu_Wt w j m * ((10 - w 3 (w 12 4 + j)) * ph (bu_st w (w 12 4 + j) 0 m) + w 3 (w 12 4 + j) * ph (bu_st w (w 12 4 + j) (w 2 (w 12 4 + j)) m))) (2 ^ w 12 1) := by
      refine bt_ct1_c (fun m _ => ?_)
      have h1 := bu_st_lt w (w 12 4 + j) (w 2 (w 12 4 + j)) m
      have h2 := bu_st_lt w (w 12 4 + j) 0 m
      rw [bu_S_mul, bu_S_add, bu_S_delta, bu_S_delta, if_pos (by omega), if_pos (by omega), Nat.add_comm]
    have e3 := bu_S_pad (f := fun m => bu_Wt w j m * ((10 - w 3 (w 12 4 + j)) * ph (bu_st w (w 12 4 + j) 0 m) + w 3 (w 12 4 + j) * ph (bu_st w (w 12 4 + j) (w 2 (w 12 4 + j)) m))) (m := 2 ^ w 12 1) (fun m hm => by rw [bu_Wt_0 hw hm, Nat.zero_mul]) (64 - 2 ^ w 12 1)
    rw [show 2 ^ w 12 1 + (64 - 2 ^ w 12 1) = 64 by omega] at e3
    rw [e2, ← e3, ih, bu_X_s]
    refine bu_X_c (fun s hs => ?_)
    have d1 : bu_pm w (j + 1) s = bu_st w (w 12 4 + j) 0 (bu_pm w j s) := by
      rw [bu_pm_s hw (by omega), bu_gf_s, bu_h0 hs, Nat.zero_mul]
    have d2 : bu_pm w (j + 1) (s + 2 ^ j) = bu_st w (w 12 4 + j) (w 2 (w 12 4 + j)) (bu_pm w j s) := by
      have d3 : bu_pm w j (s + 2 ^ j) = bu_pm w j s := by
        unfold bu_pm
        rw [bu_dn_c (gf := bu_gf w (s + 2 ^ j)) (gf' := bu_gf w s) j (fun i hi => by rw [bu_gf_s, bu_gf_s, bu_hb hi])]
      rw [bu_pm_s hw (by omega), bu_gf_s, bu_h1 hs, Nat.one_mul, d3]
    rw [d1, d2]
