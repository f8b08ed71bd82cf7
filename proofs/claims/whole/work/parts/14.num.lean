/-! NUMBERS -/
abbrev bt_in (x : Int32) (n : Nat) : Prop := 0 ≤ x.toInt ∧ x.toInt < n
def bt_bi (p : Prop) [Decidable p] : Int32 := if p then 1 else 0
theorem bt_bi_t {p : Prop} [Decidable p] (h : p) : bt_bi p = 1 := if_pos h
theorem bt_bi_f {p : Prop} [Decidable p] (h : ¬ p) : bt_bi p = 0 := if_neg h
theorem bt_bi_0 {p : Prop} [Decidable p] : bt_bi p = 0 ↔ ¬ p := by
  by_cases h : p <;> simp [bt_bi, h]
theorem bt_bi_01 {p : Prop} [Decidable p] : bt_bi p = 0 ∨ bt_bi p = 1 := by
  by_cases h : p <;> simp [bt_bi, h]
theorem bt_bi_c {p q : Prop} [Decidable p] [Decidable q] (h : p ↔ q) : bt_bi p = bt_bi q := by
  by_cases hp : p
  · rw [bt_bi_t hp, bt_bi_t (h.mp hp)]
  · rw [bt_bi_f hp, bt_bi_f (fun q => hp (h.mpr q))]
theorem bt_lit (n : Nat) : (OfNat.ofNat n : Int32) = nI (@OfNat.ofNat Nat n (instOfNatNat n)) := rfl
theorem bt_litl (n : Nat) : (OfNat.ofNat n : Int64) = lN (@OfNat.ofNat Nat n (instOfNatNat n)) := rfl
theorem bt_in_e {x : Int32} {n : Nat} (h : bt_in x n) : ∃ j, j < n ∧ x = nI j := by
  refine ⟨x.toInt.toNat, by omega, ?_⟩
  apply Int32.toInt_inj.mp
  have : x.toInt < 2 ^ 31 := Int32.toInt_lt x
  rw [nI_toInt (by omega)]
  omega
theorem bt_in_nI {j n : Nat} (hj : j < 2 ^ 31) : bt_in (nI j) n ↔ j < n := by
  simp only [bt_in, nI_toInt hj]
  omega
theorem bt_nI_sub1 {n : Nat} (h : n < 2 ^ 31) : (nI n - 1).toInt = (n : Int) - 1 := by
  cases n with
  | zero => decide
  | succ n =>
    rw [nI_pred, nI_toInt (by omega)]
    omega
/-- a bound told by a last place -/
theorem bt_in_last {x : Int32} {n : Nat} (h : n < 2 ^ 31) : (0 ≤ x ∧ x ≤ nI n - 1) ↔ bt_in x n := by
  simp only [Int32.le_iff_toInt_le, bt_nI_sub1 h, Int32.toInt_zero]
  omega
theorem bt_in_top {x : Int32} {n : Nat} (h : n + 1 < 2 ^ 31) : (0 ≤ x ∧ x ≤ nI n) ↔ bt_in x (n + 1) := by
  simp only [Int32.le_iff_toInt_le, nI_toInt (show n < 2 ^ 31 by omega), Int32.toInt_zero]
  omega
theorem bt_l_le {x y : Int32} : x.toInt64 ≤ y.toInt64 ↔ x ≤ y := by
  rw [Int64.le_iff_toInt_le, Int32.le_iff_toInt_le, Int32.toInt_toInt64, Int32.toInt_toInt64]
theorem bt_cmp_lt {a b : Int64} : lg_cmp a b < 0 ↔ a < b := by
  unfold lg_cmp
  by_cases h1 : b < a
  · have h2 : ¬ a < b := lg_lt_not h1
    simp [h1, h2]
  · by_cases h2 : a = b
    · subst h2
      simp
    · have h3 : a < b := by
        rw [Int64.lt_iff_toInt_lt] at h1 ⊢
        have h4 : a.toInt ≠ b.toInt := fun q => h2 (Int64.toInt_inj.mp q)
        omega
      simp [h1, h2, h3]
theorem bt_cmp_gt {a b : Int64} : 0 < lg_cmp a b ↔ b < a := by
  unfold lg_cmp
  by_cases h1 : b < a
  · simp [h1]
  · by_cases h2 : a = b
    · subst h2
      simp
    · simp [h1, h2]
theorem bt_cmp_eq {a b : Int64} : lg_cmp a b = 0 ↔ a = b := by
  unfold lg_cmp
  by_cases h1 : b < a
  · have h2 : ¬ a = b := fun q => by subst q; exact lg_lt_not h1 h1
    simp [h1, h2]
  · by_cases h2 : a = b
    · subst h2
      simp
    · simp [h1, h2]
theorem bt_cmp_le {a b : Int64} : lg_cmp a b ≤ 0 ↔ a ≤ b := by
  rw [← Int32.not_lt, bt_cmp_gt, Int64.not_lt]
theorem bt_cmp_ge {a b : Int64} : 0 ≤ lg_cmp a b ↔ b ≤ a := by
  rw [← Int32.not_lt, bt_cmp_lt, Int64.not_lt]
/-! MASKS -/
def bt_mk (f : Nat → Nat) : Nat → Nat
  | 0 => 0
  | n + 1 => bt_mk f n + f n * 2 ^ n
def bt_b1 (f : Nat → Nat) : Prop := ∀ k, f k ≤ 1
theorem bt_mk_lt {f : Nat → Nat} (h : bt_b1 f) : ∀ n, bt_mk f n < 2 ^ n
  | 0 => by simp [bt_mk]
  | n + 1 => by
    have h1 := bt_mk_lt h n
    have h2 := h n
    have h3 : f n * 2 ^ n ≤ 2 ^ n := by
      calc f n * 2 ^ n ≤ 1 * 2 ^ n := Nat.mul_le_mul_right _ h2
        _ = 2 ^ n := Nat.one_mul _
    simp only [bt_mk, Nat.pow_succ]
    omega
theorem bt_mk_c {f g : Nat → Nat} : ∀ {n : Nat}, (∀ k, k < n → f k = g k) → bt_mk f n = bt_mk g n
  | 0, _ => rfl
  | n + 1, h => by
    simp only [bt_mk]
    rw [bt_mk_c (n := n) (fun k hk => h k (by omega)), h n (by omega)]
theorem bt_mk_bit {f : Nat → Nat} (h : bt_b1 f) : ∀ (n k : Nat), bt_mk f n / 2 ^ k % 2 = if k < n then f k else 0
  | 0, k => by simp [bt_mk]
  | n + 1, k => by
    have ih := bt_mk_bit h n k
    have hl := bt_mk_lt h n
    have h1 := h n
    simp only [bt_mk]
    rcases Nat.lt_trichotomy k n with hk | hk | hk
    · have e : 2 ^ n = 2 ^ k * (2 * 2 ^ (n - k - 1)) := by
        rw [← Nat.mul_assoc, ← Nat.pow_succ, ← Nat.pow_add]
        congr 1
        omega
      have e2 : f n * 2 ^ n = (f n * 2 ^ (n - k - 1) * 2) * 2 ^ k := by
        rw [e]; simp [Nat.mul_comm, Nat.mul_left_comm]
      rw [e2, Nat.add_mul_div_right _ _ (Nat.two_pow_pos k), Nat.add_mul_mod_self_right, ih, if_pos hk, if_pos (by omega)]
    · subst hk
      rw [Nat.add_mul_div_right _ _ (Nat.two_pow_pos k), Nat.div_eq_of_lt hl, if_pos (by omega)]
      omega
    · rw [if_neg (by omega)]
      have h3 : f n * 2 ^ n ≤ 2 ^ n := by
        calc f n * 2 ^ n ≤ 1 * 2 ^ n := Nat.mul_le_mul_right _ h1
          _ = 2 ^ n := Nat.one_mul _
      have h4 : 2 ^ (n + 1) ≤ 2 ^ k := Nat.pow_le_pow_right (by omega) hk
      rw [Nat.pow_succ] at h4
      rw [Nat.div_eq_of_lt (by omega)]
theorem bt_mk_tb {f : Nat → Nat} (h : bt_b1 f) (n k : Nat) : (bt_mk f n).testBit k = (decide (k < n) && decide (f k = 1)) := by
  have h1 := bt_mk_bit h n k
  have h2 := h k
  rw [Nat.testBit_eq_decide_div_mod_eq, h1]
  by_cases hk : k < n <;> simp [hk]
theorem bt_mk_or {f g e : Nat → Nat} {n : Nat} (hf : bt_b1 f) (hg : bt_b1 g) (he : bt_b1 e) (h : ∀ k, k < n → (e k = 1 ↔ f k = 1 ∨ g k = 1)) : bt_mk f n ||| bt_mk g n = bt_mk e n := by
  apply Nat.eq_of_testBit_eq
  intro k
  rw [Nat.testBit_or, bt_mk_tb hf, bt_mk_tb hg, bt_mk_tb he]
  by_cases hk : k < n
  · have := h k hk
    by_cases h1 : f k = 1 <;> by_cases h2 : g k = 1 <;> simp_all
  · simp [hk]
theorem bt_mk_and {f g e : Nat → Nat} {n : Nat} (hf : bt_b1 f) (hg : bt_b1 g) (he : bt_b1 e) (h : ∀ k, k < n → (e k = 1 ↔ f k = 1 ∧ g k = 1)) : bt_mk f n &&& bt_mk g n = bt_mk e n := by
  apply Nat.eq_of_testBit_eq
  intro k
  rw [Nat.testBit_and, bt_mk_tb hf, bt_mk_tb hg, bt_mk_tb he]
  by_cases hk : k < n
  · have := h k hk
    by_cases h1 : f k = 1 <;> by_cases h2 : g k = 1 <;> simp_all
  · simp [hk]
theorem bt_mk_1 : ∀ n, bt_mk (fun _ => 1) n = 2 ^ n - 1
  | 0 => rfl
  | n + 1 => by
    have := Nat.two_pow_pos n
    simp only [bt_mk, bt_mk_1 n, Nat.pow_succ]
    omega
theorem bt_or {a b : Nat} (ha : a < 2 ^ 31) (hb : b < 2 ^ 31) : nI a ||| nI b = nI (a ||| b) := by
  apply Int32.toBitVec_inj.mp
  apply BitVec.eq_of_toNat_eq
  have h : a ||| b < 2 ^ 32 := Nat.or_lt_two_pow (by omega) (by omega)
  rw [pk_tn h]
  show (nI a ||| nI b).toBitVec.toNat = _
  rw [Int32.toBitVec_or, BitVec.toNat_or, pk_tn (by omega), pk_tn (by omega)]
theorem bt_and {a b : Nat} (ha : a < 2 ^ 31) (hb : b < 2 ^ 31) : nI a &&& nI b = nI (a &&& b) := by
  apply Int32.toBitVec_inj.mp
  apply BitVec.eq_of_toNat_eq
  have h : a &&& b < 2 ^ 32 := Nat.lt_of_le_of_lt Nat.and_le_left (by omega)
  rw [pk_tn h]
  show (nI a &&& nI b).toBitVec.toNat = _
  rw [Int32.toBitVec_and, BitVec.toNat_and, pk_tn (by omega), pk_tn (by omega)]
theorem bt_sh31 : ∀ k, k < 32 → ((nI k &&& 31).toBitVec.smod 32).toNat = k := by decide +kernel
theorem bt_shr {a k : Nat} (ha : a < 2 ^ 31) (hk : k < 32) : nI a >>> (nI k &&& 31) = nI (a / 2 ^ k) := pk_shrN ha _ k (bt_sh31 k hk)
theorem bt_shlN {a k : Nat} (hk : k < 32) (h : a * 2 ^ k < 2 ^ 32) : nI a <<< (nI k &&& 31) = nI (a * 2 ^ k) := pk_shlN _ k (bt_sh31 k hk) h
theorem bt_and1 {a : Nat} (ha : a < 2 ^ 31) : nI a &&& 1 = nI (a % 2) := pk_andN (by omega) 1 (by decide)
theorem bt_bitN {f : Nat → Nat} (h : bt_b1 f) {n k : Nat} (hn : n < 31) (hk : k < 32) : (nI (bt_mk f n) >>> (nI k &&& 31)) &&& 1 = nI (if k < n then f k else 0) := by
  have h1 := bt_mk_lt h n
  have h2 : 2 ^ n < 2 ^ 31 := Nat.pow_lt_pow_right (by omega) hn
  have h3 : bt_mk f n / 2 ^ k ≤ bt_mk f n := Nat.div_le_self _ _
  rw [bt_shr (by omega) hk, bt_and1 (by omega), bt_mk_bit h]
/-- all but some -/
theorem bt_notN : ∀ n, n < 9 → ∀ a, a < 2 ^ n → nI (2 ^ n - 1) &&& (nI a ^^^ (-1)) = nI (2 ^ n - 1 - a) := by decide +kernel
theorem bt_mk_not {f : Nat → Nat} (h : bt_b1 f) : ∀ n, 2 ^ n - 1 - bt_mk f n = bt_mk (fun k => 1 - f k) n
  | 0 => rfl
  | n + 1 => by
    have h1 := bt_mk_lt h n
    have ih := bt_mk_not h n
    have h2 := h n
    have h3 := Nat.two_pow_pos n
    simp only [bt_mk, Nat.pow_succ]
    rw [← ih]
    rcases (show f n = 0 ∨ f n = 1 by omega) with e | e <;> rw [e] <;> omega
theorem bt_b1_not {f : Nat → Nat} : bt_b1 (fun k => 1 - f k) := fun k => Nat.sub_le _ _
/-- how many -/
def bt_ct1 (f : Nat → Nat) : Nat → Nat
  | 0 => 0
  | n + 1 => bt_ct1 f n + f n
theorem bt_ct1_c {f g : Nat → Nat} : ∀ {n : Nat}, (∀ k, k < n → f k = g k) → bt_ct1 f n = bt_ct1 g n
  | 0, _ => rfl
  | n + 1, h => by
    simp only [bt_ct1]
    rw [bt_ct1_c (n := n) (fun k hk => h k (by omega)), h n (by omega)]
theorem bt_ct1_le {f : Nat → Nat} (h : bt_b1 f) : ∀ n, bt_ct1 f n ≤ n
  | 0 => Nat.le_refl _
  | n + 1 => by
    have := bt_ct1_le h n
    have := h n
    simp only [bt_ct1]
    omega
