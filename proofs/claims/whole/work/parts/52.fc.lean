/-! WHO HAD BEEN BEHIND WHOM: sets of gaps, in any order -/
theorem bu_fr_c {w w' : bt_W} (h7 : w' 7 = w 7) (h8 : w' 8 = w 8) (u : Nat) (ps : Nat → Nat) : ∀ k, bt_fr w' u ps k = bt_fr w u ps k
  | 0 => rfl
  | k + 1 => by simp only [bt_fr, bu_fr_c h7 h8 u ps k, h7, h8]
theorem bu_cm_c {w w' : bt_W} (h : ∀ f, f < 10 → w' f = w f) (h12 : ∀ k, k ≠ 4 → k ≠ 5 → w' 12 k = w 12 k) (i g : Nat) (ps : Nat → Nat) (k : Nat) : bt_cm w' i g ps k = bt_cm w i g ps k := by
  unfold bt_cm bt_lbB bt_us
  rw [bu_fr_c (h 7 (by omega)) (h 8 (by omega)), h 5 (by omega), h 6 (by omega), h 1 (by omega), h 4 (by omega), h12 3 (by omega) (by omega), h12 1 (by omega) (by omega)]
theorem bu_mn_c {w w' : bt_W} (h : ∀ f, f < 10 → w' f = w f) (h12 : ∀ k, k ≠ 4 → k ≠ 5 → w' 12 k = w 12 k) (i k p : Nat) : bt_mn w' i k p = bt_mn w i k p := by
  unfold bt_mn
  rw [h 0 (by omega), h 9 (by omega), h12 2 (by omega) (by omega)]
theorem bu_dn11 (w : bt_W) (gf : Nat → Nat) (j k : Nat) : bt_dn w gf (j + 1) 11 k = bt_dn w gf j 11 k + bt_cm w (w 12 4 + j) (gf (w 12 4 + j)) (bt_dn w gf j 11) k := by
  obtain ⟨d1, d2, d3⟩ := bt_dn_12 w gf j
  rw [← bu_cm_c d3 d2, ← d1]
  simp [bt_dn, bt_dv, d1]
theorem bu_dn10 (w : bt_W) (gf : Nat → Nat) (j k : Nat) : bt_dn w gf (j + 1) 10 k = bt_dn w gf j 10 k + bt_mn w (w 12 4 + j) k (bt_dn w gf j 11 k + bt_cm w (w 12 4 + j) (gf (w 12 4 + j)) (bt_dn w gf j 11) k) := by
  obtain ⟨d1, d2, d3⟩ := bt_dn_12 w gf j
  rw [← bu_cm_c d3 d2, ← bu_mn_c d3 d2, ← d1]
  simp [bt_dn, bt_dv, d1]
theorem bu_dn_c {w : bt_W} {gf gf' : Nat → Nat} : ∀ j, (∀ i, i < j → gf (w 12 4 + i) = gf' (w 12 4 + i)) → bt_dn w gf j = bt_dn w gf' j
  | 0, _ => rfl
  | j + 1, h => by
    rw [bt_dn, bt_dn, bu_dn_c j (fun i hi => h i (by omega)), h j (by omega)]
/-- the bits of a turn, the other way round -/
def bu_rv (n t : Nat) : Nat := bt_mk (fun l => t / 2 ^ (n - 1 - l) % 2) n
theorem bu_m2 {f : Nat → Nat} : bt_b1 (fun l => f l % 2) := fun k => by
  have := Nat.mod_lt (f k) (show 0 < 2 by omega)
  show f k % 2 ≤ 1
  omega
theorem bu_rv_lt (n t : Nat) : bu_rv n t < 2 ^ n := bt_mk_lt bu_m2 n
theorem bu_rv_b {n t l : Nat} (h : l < n) : bu_rv n t / 2 ^ l % 2 = t / 2 ^ (n - 1 - l) % 2 := by
  unfold bu_rv
  rw [bt_mk_bit bu_m2, if_pos h]
theorem bu_mkb (r : Nat) : ∀ n, bt_mk (fun l => r / 2 ^ l % 2) n = r % 2 ^ n
  | 0 => by rw [bt_mk, Nat.pow_zero, Nat.mod_one]
  | n + 1 => by rw [bt_mk, bu_mkb r n, Nat.pow_succ, Nat.mod_mul, Nat.mul_comm]
theorem bu_rv_p : ∀ n, n < 9 → List.Perm ((List.range (2 ^ n)).map (bu_rv n)) (List.range (2 ^ n)) := by decide +kernel
def bu_gf (w : bt_W) (s i : Nat) : Nat := s / 2 ^ (i - w 12 4) % 2 * w 2 i
theorem bu_gf_s (w : bt_W) (s j : Nat) : bu_gf w s (w 12 4 + j) = s / 2 ^ j % 2 * w 2 (w 12 4 + j) := by
  unfold bu_gf
  rw [Nat.add_sub_cancel_left]
/-- a level holds what a set of gaps gives -/
def bu_lv (M : bt_M) (w : bt_W) (r l : Nat) : Prop := M 52 l = nI (bt_mk (bt_dn w (bu_gf w r) l 11) (w 12 1)) ∧ M 53 l = nI (bt_mk (fun j => r / 2 ^ j % 2) l * 2 ^ w 12 4) ∧ ∀ k, k < w 12 1 → M (55 + l) k = nI (bt_dn w (bu_gf w r) l 10 k)
theorem bu_lv_c {M : bt_M} {w : bt_W} {r r' l : Nat} (h : bu_lv M w r l) (hb : ∀ j, j < l → r' / 2 ^ j % 2 = r / 2 ^ j % 2) : bu_lv M w r' l := by
  have e1 : bt_dn w (bu_gf w r') l = bt_dn w (bu_gf w r) l := bu_dn_c l (fun i hi => by rw [bu_gf_s, bu_gf_s, hb i hi])
  have e2 : bt_mk (fun j => r' / 2 ^ j % 2) l = bt_mk (fun j => r / 2 ^ j % 2) l := bt_mk_c hb
  unfold bu_lv
  rw [e1, e2]
  exact h
theorem bu_lv_k {M M' : bt_M} {w : bt_W} {r l : Nat} (h : bu_lv M w r l) (h1 : M' 52 l = M 52 l ∧ M' 53 l = M 53 l) (h2 : M' (55 + l) = M (55 + l)) : bu_lv M' w r l := by
  unfold bu_lv
  rw [h1.1, h1.2, h2]
  exact h
def bu_we (w : bt_W) (s : Nat) : bt_W := bt_dn w (bu_gf w s) (w 12 0 - w 12 4)
def bu_op (w : bt_W) (z1 z2 : Nat → Nat) (n : Nat) (F : bu_F) (s : Nat) : bu_F := bu_ad (bu_ft (bu_we w s 10) z1 z2 n) (s * 2 ^ w 12 4) (bt_mk (bu_we w s 11) (w 12 1)) F
def bu_f0 (w : bt_W) : bu_F := (0, 0, 2 ^ w 12 0 - 2 ^ w 12 4, 0, 0)
def bu_fo (w : bt_W) (z1 z2 : Nat → Nat) (n : Nat) (l : List Nat) : bu_F := l.foldl (bu_op w z1 z2 n) (bu_f0 w)
theorem bu_fo_1 (w : bt_W) (z1 z2 : Nat → Nat) (n : Nat) (l : List Nat) (s : Nat) : bu_fo w z1 z2 n (l ++ [s]) = bu_op w z1 z2 n (bu_fo w z1 z2 n l) s := by
  unfold bu_fo
  rw [List.foldl_append]
  rfl
theorem bu_ad_comm (b b' : Bool) (s p s' p' : Nat) (F : bu_F) : bu_ad b s p (bu_ad b' s' p' F) = bu_ad b' s' p' (bu_ad b s p F) := by
  obtain ⟨c, m, a, n, g⟩ := F
  cases b <;> cases b' <;> simp only [bu_ad, if_true, if_false, Bool.false_eq_true]
  refine Prod.ext rfl (Prod.ext ?_ (Prod.ext ?_ (Prod.ext ?_ ?_)))
  · show (if c + 1 = 0 then s else min (if c = 0 then s' else min m s') s) = (if c + 1 = 0 then s' else min (if c = 0 then s else min m s) s')
    have c1 : ¬ c + 1 = 0 := by omega
    simp only [c1, if_false]
    by_cases hc : c = 0
    · simp only [hc, if_true]
      omega
    · simp only [hc, if_false]
      omega
  · show a &&& s' &&& s = a &&& s &&& s'
    rw [Nat.and_assoc, Nat.and_comm s' s, ← Nat.and_assoc]
  · show (n ||| s') ||| s = (n ||| s) ||| s'
    rw [Nat.or_assoc, Nat.or_comm s' s, ← Nat.or_assoc]
  · show (g ||| p') ||| p = (g ||| p) ||| p'
    rw [Nat.or_assoc, Nat.or_comm p' p, ← Nat.or_assoc]
theorem bu_fo_p {w : bt_W} {z1 z2 : Nat → Nat} {n : Nat} {l l' : List Nat} (h : List.Perm l l') : bu_fo w z1 z2 n l = bu_fo w z1 z2 n l' := by
  unfold bu_fo
  exact h.foldl_eq' (fun x _ y _ z => bu_ad_comm _ _ _ _ _ _ _) _
def bu_bm (m : Nat) (F : bu_F) : Prop := F.1 ≤ m ∧ F.2.1 < 256 ∧ F.2.2.1 < 256 ∧ F.2.2.2.1 < 256 ∧ F.2.2.2.2 < 256
theorem bu_ad_b {b : Bool} {s p m : Nat} {F : bu_F} (h : bu_bm m F) (hs : s < 256) (hp : p < 256) : bu_bm (m + 1) (bu_ad b s p F) := by
  obtain ⟨c, m', a, n, g⟩ := F
  obtain ⟨h1, h2, h3, h4, h5⟩ := h
  dsimp only at h1 h2 h3 h4 h5
  cases b
  · exact ⟨by show c ≤ m + 1; omega, h2, h3, h4, h5⟩
  · refine ⟨?_, ?_, ?_, ?_, ?_⟩
    · show c + 1 ≤ m + 1
      omega
    · show (if c = 0 then s else min m' s) < 256
      split <;> omega
    · show a &&& s < 256
      exact Nat.lt_of_le_of_lt Nat.and_le_left h3
    · show n ||| s < 256
      exact Nat.or_lt_two_pow (n := 8) h4 hs
    · show g ||| p < 256
      exact Nat.or_lt_two_pow (n := 8) h5 hp
theorem bu_2p {a : Nat} (h : a ≤ 8) : 2 ^ a ≤ 256 := Nat.pow_le_pow_right (n := 2) (by omega) h
theorem bu_s_lt {w : bt_W} (hw : bt_wf w) {s : Nat} (hs : s < 2 ^ (w 12 0 - w 12 4)) : s * 2 ^ w 12 4 < 256 := by
  have e : 2 ^ (w 12 0 - w 12 4) * 2 ^ w 12 4 = 2 ^ w 12 0 := by
    rw [← Nat.pow_add]
    congr 1
    have := hw.2.2.1
    omega
  have h1 := bu_2p hw.1
  have h2 : s * 2 ^ w 12 4 < 2 ^ (w 12 0 - w 12 4) * 2 ^ w 12 4 := Nat.mul_lt_mul_of_pos_right hs (Nat.two_pow_pos _)
  omega
theorem bu_we_wf {w : bt_W} (hw : bt_wf w) (s : Nat) : bt_wf (bu_we w s) := bt_dn_wf _ hw _ (by have := hw.2.2.1; omega)
theorem bu_we_p {w : bt_W} (hw : bt_wf w) (s : Nat) : bt_mk (bu_we w s 11) (w 12 1) < 256 := by
  have h1 := bt_mk_lt (bt_wf11 (bu_we_wf hw s)) (w 12 1)
  have h2 := bu_2p (a := w 12 1) (by have := hw.2.1; omega)
  omega
theorem bu_fo_b {w : bt_W} (hw : bt_wf w) (z1 z2 : Nat → Nat) (n : Nat) : ∀ (l : List Nat) (F : bu_F) (m : Nat), (∀ s ∈ l, s < 2 ^ (w 12 0 - w 12 4)) → bu_bm m F → bu_bm (m + l.length) (l.foldl (bu_op w z1 z2 n) F)
  | [], F, m, _, h => h
  | s :: l, F, m, hl, h => by
    have h1 : bu_bm (m + 1) (bu_op w z1 z2 n F s) := bu_ad_b h (bu_s_lt hw (hl s List.mem_cons_self)) (bu_we_p hw s)
    have h2 := bu_fo_b hw z1 z2 n l _ _ (fun s hs => hl s (List.mem_cons_of_mem _ hs)) h1
    rw [List.length_cons, show m + (l.length + 1) = m + 1 + l.length by omega]
    exact h2
theorem bu_f0_b {w : bt_W} (hw : bt_wf w) : bu_bm 0 (bu_f0 w) := by
  have h1 := bu_2p hw.1
  have h2 := Nat.two_pow_pos (w 12 4)
  refine ⟨Nat.le_refl _, ?_, ?_, ?_, ?_⟩
  · show 0 < 256
    omega
  · show 2 ^ w 12 0 - 2 ^ w 12 4 < 256
    omega
  · show 0 < 256
    omega
  · show 0 < 256
    omega
theorem bu_fo_B {w : bt_W} (hw : bt_wf w) (z1 z2 : Nat → Nat) (n : Nat) (l : List Nat) (hl : ∀ s ∈ l, s < 2 ^ (w 12 0 - w 12 4)) (h : l.length ≤ 256) : bu_bF (bu_fo w z1 z2 n l) := by
  obtain ⟨h1, h2⟩ := bu_fo_b hw z1 z2 n l _ _ hl (bu_f0_b hw)
  exact ⟨by unfold bu_fo; omega, h2⟩
