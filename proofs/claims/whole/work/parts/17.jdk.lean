/-! THE JDK'S SMALL METHODS -/
def bt_ur (x s : Int32) : Int32 := (x.toUInt32 >>> (s.toUInt32 &&& Int32.toUInt32 31)).toInt32
def bt_bc1 (x : Int32) : Int32 := x - (bt_ur x 1 &&& 1431655765)
def bt_bc2 (x : Int32) : Int32 := (x &&& 858993459) + (bt_ur x 2 &&& 858993459)
def bt_bc3 (x : Int32) : Int32 := (x + bt_ur x 4) &&& 252645135
def bt_bc4 (x : Int32) : Int32 := x + bt_ur x 8
def bt_bc5 (x : Int32) : Int32 := (x + bt_ur x 16) &&& 63
def bt_bc (x : Int32) : Int32 := bt_bc5 (bt_bc4 (bt_bc3 (bt_bc2 (bt_bc1 x))))
def sJ6_bitCount_0f7a4 : bt_Sp := fun as M N K => match as with
  | [.int x] => K (some (.int (bt_bc x))) M N
  | _ => False
theorem mJ6_bitCount_0f7a4 : bt_MT bt_TJ6_bitCount_0f7a4 [] [] 1 1 sJ6_bitCount_0f7a4 := by
  intro as M N Rt h P hP
  unfold sJ6_bitCount_0f7a4 at h
  split at h
  · exact bt_go0 rfl hP 60 h
  · exact False.elim h
def bt_pc (a : Nat) : Nat := bt_ct1 (fun k => a / 2 ^ k % 2) 8
theorem bt_bc_ok : ∀ a, a < 256 → bt_bc (nI a) = nI (bt_pc a) := by decide +kernel
theorem bt_ct1_pad {f g : Nat → Nat} {n : Nat} (h : ∀ k, k < n → g k = f k) : ∀ d, (∀ k, n ≤ k → g k = 0) → bt_ct1 g (n + d) = bt_ct1 f n
  | 0, _ => bt_ct1_c h
  | d + 1, h0 => by
    rw [← Nat.add_assoc]
    simp only [bt_ct1]
    rw [bt_ct1_pad h d h0, h0 (n + d) (by omega)]
    omega
theorem bt_pc_mk {f : Nat → Nat} (h : bt_b1 f) {n : Nat} (hn : n ≤ 8) : bt_pc (bt_mk f n) = bt_ct1 f n := by
  unfold bt_pc
  have := bt_ct1_pad (f := f) (g := fun k => bt_mk f n / 2 ^ k % 2) (n := n) (fun k hk => by simp only [bt_mk_bit h, if_pos hk]) (8 - n) (fun k hk => by simp only [bt_mk_bit h]; rw [if_neg (by omega)])
  rw [show n + (8 - n) = 8 by omega] at this
  exact this
theorem bt_bc_mk {f : Nat → Nat} (h : bt_b1 f) {n : Nat} (hn : n ≤ 8) : bt_bc (nI (bt_mk f n)) = nI (bt_ct1 f n) := by
  have h1 := bt_mk_lt h n
  have h2 : 2 ^ n ≤ 2 ^ 8 := Nat.pow_le_pow_right (by omega) hn
  rw [bt_bc_ok _ (by omega), bt_pc_mk h hn]
def sJ9_max_7cf53 : bt_Sp := fun as M N K => match as with
  | [.int a, .int b] => K (some (.int (if a < b then b else a))) M N
  | _ => False
theorem mJ9_max_7cf53 : bt_MT bt_TJ9_max_7cf53 [] [] 1 2 sJ9_max_7cf53 := by
  intro as M N Rt h P hP
  unfold sJ9_max_7cf53 at h
  split at h
  · refine bt_go0 rfl hP 20 ?_
    refine ⟨fun h1 => ?_, fun h1 => ?_⟩
    · rw [if_pos h1] at h; exact h
    · rw [if_neg h1] at h; exact h
  · exact False.elim h
def sJ9_min_7cf53 : bt_Sp := fun as M N K => match as with
  | [.int a, .int b] => K (some (.int (if b < a then b else a))) M N
  | _ => False
theorem mJ9_min_7cf53 : bt_MT bt_TJ9_min_7cf53 [] [] 1 2 sJ9_min_7cf53 := by
  intro as M N Rt h P hP
  unfold sJ9_min_7cf53 at h
  split at h
  · refine bt_go0 rfl hP 20 ?_
    refine ⟨fun h1 => ?_, fun h1 => ?_⟩
    · rw [if_pos h1] at h; exact h
    · rw [if_neg h1] at h; exact h
  · exact False.elim h
def sJ9_max_f86c9 : bt_Sp := fun as M N K => match as with
  | [.long a, .long b] => K (some (.long (if a < b then b else a))) M N
  | _ => False
theorem mJ9_max_f86c9 : bt_MT bt_TJ9_max_f86c9 [] [] 3 4 sJ9_max_f86c9 := by
  intro as M N Rt h P hP
  unfold sJ9_max_f86c9 at h
  split at h
  · refine bt_go0 rfl hP 20 ?_
    refine ⟨fun h1 => ?_, fun h1 => ?_⟩
    · rw [if_pos (bt_cmp_lt.mp h1)] at h; exact h
    · rw [if_neg (fun q => h1 (bt_cmp_lt.mpr q))] at h; exact h
  · exact False.elim h
