/-! THE CLASS: World, copies -/
def bt_tf (d s : Nat) : Prop := (d = 79 ∧ s = 2) ∨ (d = 2 ∧ s = 79) ∨ (d = 22 ∧ s = 2) ∨ (d = 31 ∧ s = 2) ∨ (d = 2 ∧ s = 22) ∨ (d = 2 ∧ s = 31) ∨ (d = 2 ∧ s = 11)
theorem bt_cW_copy {M M' : bt_M} {d s : Nat} {w : bt_W} (hw : bt_cW M s w) (h1 : ∀ f, 8 ≤ f → f ≤ 17 → M' d f = M s f) (h2 : ∀ r, 1 ≤ r → r ≤ 4 → ∀ j, j < 8 → M' (d + r) j = M (s + r) j) (h3 : ∀ r, 5 ≤ r → r ≤ 8 → ∀ j, j < 6 → M' (d + r) j = M (s + r) j) : bt_cW M' d w := by
  obtain ⟨hf, g8, g9, g10, g11, g12, g13, g14, g15, g16, g17, r1, r2, r3, r4, r5, r6, r7, r8⟩ := id hw
  have f1 := hf.1
  have f2 := hf.2.1
  refine ⟨hf, ?_, ?_, ?_, ?_, ?_, ?_, ?_, ?_, ?_, ?_, ?_, ?_, ?_, ?_, ?_, ?_, ?_, ?_⟩
  · rw [h1 8 (by omega) (by omega)]; exact g8
  · rw [h1 9 (by omega) (by omega)]; exact g9
  · rw [h1 10 (by omega) (by omega)]; exact g10
  · rw [h1 11 (by omega) (by omega)]; exact g11
  · rw [h1 12 (by omega) (by omega)]; exact g12
  · rw [h1 13 (by omega) (by omega)]; exact g13
  · rw [h1 14 (by omega) (by omega)]; exact g14
  · rw [h1 15 (by omega) (by omega)]; exact g15
  · rw [h1 16 (by omega) (by omega)]; exact g16
  · rw [h1 17 (by omega) (by omega)]; exact g17
  · intro i hi; rw [h2 1 (by omega) (by omega) i (by omega)]; exact r1 i hi
  · intro i hi; rw [h2 2 (by omega) (by omega) i (by omega)]; exact r2 i hi
  · intro i hi; rw [h2 3 (by omega) (by omega) i (by omega)]; exact r3 i hi
  · intro i hi; rw [h2 4 (by omega) (by omega) i (by omega)]; exact r4 i hi
  · intro i hi; rw [h3 5 (by omega) (by omega) i (by omega)]; exact r5 i hi
  · intro i hi; rw [h3 6 (by omega) (by omega) i (by omega)]; exact r6 i hi
  · intro i hi; rw [h3 7 (by omega) (by omega) i (by omega)]; exact r7 i hi
  · intro i hi; rw [h3 8 (by omega) (by omega) i (by omega)]; exact r8 i hi
abbrev bt_out (d : Nat) (M M' : bt_M) : Prop := ∀ x : Nat, (x < d ∨ d + 8 < x) → M' x = M x
def bt_CX4_takeFrom : bt_C := [(67, 0, 5, sArrcopyI)]
def sX4_takeFrom : bt_Sp := fun as M N K => match as with
  | [.ref d, .ref s] => ∃ w, bt_tf d s ∧ bt_cW M s w ∧ ∀ M', bt_cW M' d w → bt_out d M M' → K none M' N
  | _ => False
theorem bt_cpy0 {α : Type} {f g : Nat → α} {n j : Nat} (h : j < n) : va_cpy f g 0 0 n j = f j := by
  rw [pk_cpy_in (Nat.zero_le _) (by omega)]
  simp
set_option maxHeartbeats 4000000 in
set_option maxRecDepth 100000 in
theorem mX4_takeFrom : bt_MT bt_TX4_takeFrom bt_FX4 bt_CX4_takeFrom 0 2 sX4_takeFrom := by
  intro as M N Rt h P hP
  unfold sX4_takeFrom at h
  split at h
  · next d0 s0 =>
    obtain ⟨d, rfl⟩ : ∃ c' : Nat, c' = d0 := ⟨d0, rfl⟩
    obtain ⟨s, rfl⟩ : ∃ c' : Nat, c' = s0 := ⟨s0, rfl⟩
    obtain ⟨w, hc, hw, h⟩ := h
    rcases hc with ⟨rfl, rfl⟩ | ⟨rfl, rfl⟩ | ⟨rfl, rfl⟩ | ⟨rfl, rfl⟩ | ⟨rfl, rfl⟩ | ⟨rfl, rfl⟩ | ⟨rfl, rfl⟩
    all_goals
      refine bt_go0 rfl hP 120 ?_
      intro M1 e1 M2 e2 M3 e3 M4 e4 M5 e5 M6 e6 M7 e7 M8 e8 M9 e9 M10 e10
      refine ⟨_, _, 8, rfl, rfl, rfl, rfl, rfl, by omega, by omega, fun N1 d1 => ?_⟩
      refine ⟨_, _, 8, rfl, rfl, rfl, rfl, rfl, by omega, by omega, fun N2 d2 => ?_⟩
      refine ⟨_, _, 8, rfl, rfl, rfl, rfl, rfl, by omega, by omega, fun N3 d3 => ?_⟩
      refine ⟨_, _, 8, rfl, rfl, rfl, rfl, rfl, by omega, by omega, fun N4 d4 => ?_⟩
      refine ⟨_, _, 6, rfl, rfl, rfl, rfl, rfl, by omega, by omega, fun N5 d5 => ?_⟩
      refine ⟨_, _, 6, rfl, rfl, rfl, rfl, rfl, by omega, by omega, fun N6 d6 => ?_⟩
      refine ⟨_, _, 6, rfl, rfl, rfl, rfl, rfl, by omega, by omega, fun N7 d7 => ?_⟩
      refine ⟨_, _, 6, rfl, rfl, rfl, rfl, rfl, by omega, by omega, fun N8 d8 => ?_⟩
      have hM : ∀ x, x ≠ _ → M10 x = M x := fun x z => by
        rw [e10, bt_up_n z, e9, bt_up_n z, e8, bt_up_n z, e7, bt_up_n z, e6, bt_up_n z, e5, bt_up_n z, e4, bt_up_n z, e3, bt_up_n z, e2, bt_up_n z, e1, bt_up_n z]
      refine h _ (bt_cW_copy hw ?_ ?_ ?_) ?_
      · intro f z1 z2
        rw [d8, bt_up_n (by omega), d7, bt_up_n (by omega), d6, bt_up_n (by omega), d5, bt_up_n (by omega), d4, bt_up_n (by omega), d3, bt_up_n (by omega), d2, bt_up_n (by omega), d1, bt_up_n (by omega)]
        rcases (show f = 8 ∨ f = 9 ∨ f = 10 ∨ f = 11 ∨ f = 12 ∨ f = 13 ∨ f = 14 ∨ f = 15 ∨ f = 16 ∨ f = 17 by omega) with rfl | rfl | rfl | rfl | rfl | rfl | rfl | rfl | rfl | rfl <;> simp [e1, e2, e3, e4, e5, e6, e7, e8, e9, e10, va_up, upd]
      · intro r z1 z2 j z3
        rcases (show r = 1 ∨ r = 2 ∨ r = 3 ∨ r = 4 by omega) with rfl | rfl | rfl | rfl
        · rw [d8, bt_up_n (by omega), d7, bt_up_n (by omega), d6, bt_up_n (by omega), d5, bt_up_n (by omega), d4, bt_up_n (by omega), d3, bt_up_n (by omega), d2, bt_up_n (by omega), d1, bt_up_s, bt_cpy0 z3, hM _ (by omega)]
        · rw [d8, bt_up_n (by omega), d7, bt_up_n (by omega), d6, bt_up_n (by omega), d5, bt_up_n (by omega), d4, bt_up_n (by omega), d3, bt_up_n (by omega), d2, bt_up_s, bt_cpy0 z3, d1, bt_up_n (by omega), hM _ (by omega)]
        · rw [d8, bt_up_n (by omega), d7, bt_up_n (by omega), d6, bt_up_n (by omega), d5, bt_up_n (by omega), d4, bt_up_n (by omega), d3, bt_up_s, bt_cpy0 z3, d2, bt_up_n (by omega), d1, bt_up_n (by omega), hM _ (by omega)]
        · rw [d8, bt_up_n (by omega), d7, bt_up_n (by omega), d6, bt_up_n (by omega), d5, bt_up_n (by omega), d4, bt_up_s, bt_cpy0 z3, d3, bt_up_n (by omega), d2, bt_up_n (by omega), d1, bt_up_n (by omega), hM _ (by omega)]
      · intro r z1 z2 j z3
        rcases (show r = 5 ∨ r = 6 ∨ r = 7 ∨ r = 8 by omega) with rfl | rfl | rfl | rfl
        · rw [d8, bt_up_n (by omega), d7, bt_up_n (by omega), d6, bt_up_n (by omega), d5, bt_up_s, bt_cpy0 z3, d4, bt_up_n (by omega), d3, bt_up_n (by omega), d2, bt_up_n (by omega), d1, bt_up_n (by omega), hM _ (by omega)]
        · rw [d8, bt_up_n (by omega), d7, bt_up_n (by omega), d6, bt_up_s, bt_cpy0 z3, d5, bt_up_n (by omega), d4, bt_up_n (by omega), d3, bt_up_n (by omega), d2, bt_up_n (by omega), d1, bt_up_n (by omega), hM _ (by omega)]
        · rw [d8, bt_up_n (by omega), d7, bt_up_s, bt_cpy0 z3, d6, bt_up_n (by omega), d5, bt_up_n (by omega), d4, bt_up_n (by omega), d3, bt_up_n (by omega), d2, bt_up_n (by omega), d1, bt_up_n (by omega), hM _ (by omega)]
        · rw [d8, bt_up_s, bt_cpy0 z3, d7, bt_up_n (by omega), d6, bt_up_n (by omega), d5, bt_up_n (by omega), d4, bt_up_n (by omega), d3, bt_up_n (by omega), d2, bt_up_n (by omega), d1, bt_up_n (by omega), hM _ (by omega)]
      · intro x z
        rw [d8, bt_up_n (by omega), d7, bt_up_n (by omega), d6, bt_up_n (by omega), d5, bt_up_n (by omega), d4, bt_up_n (by omega), d3, bt_up_n (by omega), d2, bt_up_n (by omega), d1, bt_up_n (by omega), hM _ (by omega)]
  · exact False.elim h
/-- the first one behind; how many cars there are: none -/
def bt_fbr (w : bt_W) : Nat → Nat → Nat
  | 0, j => j
  | n + 1, j => if w 11 j = 1 then bt_fbr w n (j + 1) else j
def bt_fb (w : bt_W) : Nat := bt_fbr w (w 12 1) 0
theorem bt_fbr_le (w : bt_W) : ∀ n j, bt_fbr w n j ≤ j + n
  | 0, j => by simp [bt_fbr]
  | n + 1, j => by
    have := bt_fbr_le w n (j + 1)
    simp only [bt_fbr]
    split <;> omega
def bt_CX4_firstBehind : bt_C := [(77, 0, 2, sX5_bit)]
def sX4_firstBehind : bt_Sp := fun as M N K => match as with
  | [.ref c] => ∃ w, bt_wc c ∧ bt_cW M c w ∧ K (some (.int (if bt_fb w < w 12 1 then nI (bt_fb w) else -1))) M N
  | _ => False
theorem mX4_firstBehind : bt_MT bt_TX4_firstBehind bt_FX4 bt_CX4_firstBehind 1 2 sX4_firstBehind := by
  intro as M N Rt h P hP
  unfold sX4_firstBehind at h
  split at h
  · next c0 =>
    obtain ⟨c, rfl⟩ : ∃ c' : Nat, c' = c0 := ⟨c0, rfl⟩
    obtain ⟨w, hc, hw, h⟩ := h
    obtain ⟨hf, h8, h9, h10, h11, h12, h13, h14, h15, h16, h17, r1, r2, r3, r4, r5, r6, r7, r8⟩ := id hw
    have f2 := hf.2.1
    have f18 := hf.2.2.2.2.2.2.2.2.2.2.2.2.2.2.2.2.2
    have loop : ∀ v pc L st M' N', (pc = 2 ∧ st = [] ∧ M' = M ∧ N' = N ∧ ∃ k, k ≤ w 12 1 ∧ v = w 12 1 - k ∧ bt_fb w = bt_fbr w (w 12 1 - k) k ∧ L = [some (.ref c), some (.int (nI k))]) → P pc L st M' N' := by
      refine bt_loop rfl hP 60 [2] (fun v pc L st M' N' => (pc = 2 ∧ st = [] ∧ M' = M ∧ N' = N ∧ ∃ k, k ≤ w 12 1 ∧ v = w 12 1 - k ∧ bt_fb w = bt_fbr w (w 12 1 - k) k ∧ L = [some (.ref c), some (.int (nI k))])) ?_
      rintro v pc L st M' N' ⟨rfl, rfl, rfl, rfl, k, hk, rfl, hfb, rfl⟩
      have g1 := f18 k
      rcases hc with rfl | rfl
      all_goals
        refine ⟨fun q => ?_, fun q => ?_⟩
        · rw [h12, nI_leI (by omega) (by omega)] at q
          have hk2 : k = w 12 1 := by omega
          rw [hk2, Nat.sub_self] at hfb
          rw [if_neg (by rw [hfb]; exact Nat.lt_irrefl _)] at h
          exact h
        · rw [h12, nI_leI (by omega) (by omega)] at q
          obtain ⟨n, hn⟩ : ∃ n, w 12 1 - k = n + 1 := ⟨w 12 1 - k - 1, by omega⟩
          rw [hn] at hfb
          refine ⟨fun q2 => ?_, fun q2 => ?_⟩
          · rw [h13, bt_bitN f18 (by omega) (by omega), if_pos (by omega), bt_n0 (by omega)] at q2
            rw [bt_fbr, if_pos (by omega)] at hfb
            refine ⟨w 12 1 - (k + 1), by omega, rfl, rfl, rfl, rfl, k + 1, by omega, rfl, ?_, by rw [← nI_1]⟩
            rw [hfb]
            congr 1
            omega
          · rw [h13, bt_bitN f18 (by omega) (by omega), if_pos (by omega), bt_n0 (by omega)] at q2
            rw [bt_fbr, if_neg (by omega)] at hfb
            rw [hfb, if_pos (by omega)] at h
            exact h
    rcases hc with rfl | rfl
    all_goals
      refine bt_go rfl hP 60 [2] P (fun _ _ _ _ _ h => h) ?_
      exact loop _ _ _ _ _ _ ⟨rfl, rfl, rfl, rfl, 0, by omega, rfl, rfl, rfl⟩
  · exact False.elim h
theorem bt_mk_mod {f : Nat → Nat} (h : bt_b1 f) {k : Nat} : ∀ d, bt_mk f (k + d) % 2 ^ k = bt_mk f k
  | 0 => Nat.mod_eq_of_lt (bt_mk_lt h k)
  | d + 1 => by
    rw [← Nat.add_assoc]
    simp only [bt_mk]
    rw [Nat.pow_add, ← Nat.mul_assoc, Nat.mul_comm (f (k + d)) (2 ^ k), Nat.mul_assoc, Nat.add_mul_mod_self_left, bt_mk_mod h d]
theorem bt_low : ∀ k, k < 9 → (((1 : Int32) <<< (nI k &&& 31)) - 1).toBitVec.toNat = 2 ^ k - 1 := by decide +kernel
def bt_CX4_behindAheadOf : bt_C := [(77, 0, 2, sX5_bit), (81, 1, 2, sX4_behind), (85, 0, 1, sJ6_bitCount_0f7a4)]
def sX4_behindAheadOf : bt_Sp := fun as M N K => match as with
  | [.ref c, .int k] => ∃ w k', bt_wc c ∧ bt_cW M c w ∧ k = nI k' ∧ k' < w 12 1 ∧ K (some (.int (nI (if w 11 k' = 1 then 0 else bt_ct1 (fun j => 1 - w 11 j) k')))) M N
  | _ => False
theorem mX4_behindAheadOf : bt_MT bt_TX4_behindAheadOf bt_FX4 bt_CX4_behindAheadOf 1 2 sX4_behindAheadOf := by
  intro as M N Rt h P hP
  unfold sX4_behindAheadOf at h
  split at h
  · obtain ⟨w, k, hc, hw, rfl, hk, h⟩ := h
    obtain ⟨hf, h8, h9, h10, h11, h12, h13, h14, h15, h16, h17, r1, r2, r3, r4, r5, r6, r7, r8⟩ := id hw
    have f2 := hf.2.1
    have f18 := hf.2.2.2.2.2.2.2.2.2.2.2.2.2.2.2.2.2
    have g1 := f18 k
    have hlt := bt_mk_lt f18 (w 12 1)
    have e1 : nI (bt_mk (w 11) (w 12 1)) >>> (nI k &&& 31) &&& 1 = nI (w 11 k) := by
      rw [bt_bitN f18 (by omega) (by omega), if_pos (by omega)]
    have n1 := bt_n1 (a := w 11 k) (by omega)
    have e2 : nI (2 ^ (w 12 1) - 1 - bt_mk (w 11) (w 12 1)) &&& (((1 : Int32) <<< (nI k &&& 31)) - 1) = nI (bt_mk (fun j => 1 - w 11 j) k) := by
      have h2 : 2 ^ (w 12 1) ≤ 2 ^ 6 := Nat.pow_le_pow_right (by omega) f2
      rw [pk_andN (by omega) k (bt_low k (by omega)), bt_mk_not f18, show w 12 1 = k + (w 12 1 - k) by omega, bt_mk_mod bt_b1_not]
    rcases hc with rfl | rfl
    all_goals
      refine bt_go0 rfl hP 60 ?_
      refine ⟨fun q => ?_, fun q => ?_⟩
      · rw [h13, e1, n1] at q
        rw [if_neg q] at h
        refine ⟨w 12 1, bt_mk (w 11) (w 12 1), by first | exact Or.inl rfl | exact Or.inr rfl, h12, f2, h13, hlt, ?_⟩
        rw [← bt_bc_mk bt_b1_not (by omega), ← e2] at h
        exact h
      · rw [h13, e1, n1] at q
        rw [if_pos q] at h
        exact h
  · exact False.elim h
/-- an empty world -/
def bt_w0c (M M' : bt_M) (c : Nat) : Prop := (∀ f, 8 ≤ f → f ≤ 17 → f ≠ 14 → M' c f = 0) ∧ M' c 14 = 5 ∧ (∀ i, i < 8 → M' (c + 4) i = 10) ∧ (∀ k, k < 6 → M' (c + 8) k = 0) ∧ ∀ x, x ≠ c → x ≠ c + 4 → x ≠ c + 8 → M' x = M x
def sX4_clear : bt_Sp := fun as M N K => match as with
  | [.ref c] => c = 11 ∧ ∀ M', bt_w0c M M' 11 → K none M' N
  | _ => False
set_option maxRecDepth 100000 in
theorem mX4_clear : bt_MT bt_TX4_clear bt_FX4 [] 0 2 sX4_clear := by
  intro as M N Rt h P hP
  unfold sX4_clear at h
  split at h
  · obtain ⟨rfl, h⟩ := h
    have loop2 : ∀ v pc L st M' N', (pc = 74 ∧ st = [] ∧ N' = N ∧ ∃ k, k ≤ 6 ∧ v = 6 - k ∧ L = [some (.ref 11), some (.int (nI k))] ∧ (∀ f, 8 ≤ f → f ≤ 17 → f ≠ 14 → M' 11 f = 0) ∧ M' 11 14 = 5 ∧ (∀ i, i < 8 → M' 15 i = 10) ∧ (∀ j, j < k → M' 19 j = 0) ∧ ∀ x, x ≠ 11 → x ≠ 15 → x ≠ 19 → M' x = M x) → P pc L st M' N' := by
      refine bt_loop rfl hP 60 [74] (fun v pc L st M' N' => (pc = 74 ∧ st = [] ∧ N' = N ∧ ∃ k, k ≤ 6 ∧ v = 6 - k ∧ L = [some (.ref 11), some (.int (nI k))] ∧ (∀ f, 8 ≤ f → f ≤ 17 → f ≠ 14 → M' 11 f = 0) ∧ M' 11 14 = 5 ∧ (∀ i, i < 8 → M' 15 i = 10) ∧ (∀ j, j < k → M' 19 j = 0) ∧ ∀ x, x ≠ 11 → x ≠ 15 → x ≠ 19 → M' x = M x)) ?_
      rintro v pc L st M' N' ⟨rfl, rfl, rfl, k, hk, rfl, rfl, q1, q2, q3, q4, q5⟩
      refine ⟨fun q => ?_, fun q => ?_⟩
      · rw [bt_lit, nI_leI (by omega) (by omega)] at q
        exact h M' ⟨q1, q2, q3, fun j hj => q4 j (by omega), q5⟩
      · rw [bt_lit, nI_leI (by omega) (by omega)] at q
        refine ⟨_, rfl, k, rfl, by omega, ?_⟩
        rintro _ rfl
        refine ⟨6 - (k + 1), by omega, rfl, rfl, rfl, k + 1, by omega, rfl, by rw [← nI_1], ?_, ?_, ?_, ?_, ?_⟩
        · intro f; rw [bt_up_n (by omega)]; exact q1 f
        · rw [bt_up_n (by omega)]; exact q2
        · rw [bt_up_n (by omega)]; exact q3
        · intro j hj
          rw [bt_up_s]
          by_cases hjk : j = k
          · rw [hjk, pk_us]
          · rw [pk_un hjk]; exact q4 j (by omega)
        · intro x z1 z2 z3
          rw [bt_up_n z3]; exact q5 x z1 z2 z3
    have loop1 : ∀ v pc L st M' N', (pc = 52 ∧ st = [] ∧ N' = N ∧ ∃ k, k ≤ 8 ∧ v = 8 - k ∧ L = [some (.ref 11), some (.int (nI k))] ∧ (∀ f, 8 ≤ f → f ≤ 17 → f ≠ 14 → M' 11 f = 0) ∧ M' 11 14 = 5 ∧ (∀ i, i < k → M' 15 i = 10) ∧ ∀ x, x ≠ 11 → x ≠ 15 → M' x = M x) → P pc L st M' N' := by
      refine bt_loopP rfl hP 60 [52, 74] (fun v pc L st M' N' => (pc = 52 ∧ st = [] ∧ N' = N ∧ ∃ k, k ≤ 8 ∧ v = 8 - k ∧ L = [some (.ref 11), some (.int (nI k))] ∧ (∀ f, 8 ≤ f → f ≤ 17 → f ≠ 14 → M' 11 f = 0) ∧ M' 11 14 = 5 ∧ (∀ i, i < k → M' 15 i = 10) ∧ ∀ x, x ≠ 11 → x ≠ 15 → M' x = M x)) ?_
      rintro v pc L st M' N' ⟨rfl, rfl, rfl, k, hk, rfl, rfl, q1, q2, q3, q5⟩
      refine ⟨fun q => ?_, fun q => ?_⟩
      · rw [bt_lit, nI_leI (by omega) (by omega)] at q
        refine Or.inr (loop2 _ _ _ _ _ _ ⟨rfl, rfl, rfl, 0, by omega, rfl, rfl, q1, q2, fun j hj => q3 j (by omega), fun j hj => by omega, fun x z1 z2 z3 => q5 x z1 z2⟩)
      · rw [bt_lit, nI_leI (by omega) (by omega)] at q
        refine ⟨_, rfl, k, rfl, by omega, ?_⟩
        rintro _ rfl
        refine Or.inl ⟨8 - (k + 1), by omega, rfl, rfl, rfl, k + 1, by omega, rfl, by rw [← nI_1], ?_, ?_, ?_, ?_⟩
        · intro f; rw [bt_up_n (by omega)]; exact q1 f
        · rw [bt_up_n (by omega)]; exact q2
        · intro j hj
          rw [bt_up_s]
          by_cases hjk : j = k
          · rw [hjk, pk_us]
          · rw [pk_un hjk]; exact q3 j (by omega)
        · intro x z1 z2
          rw [bt_up_n z2]; exact q5 x z1 z2
    refine bt_go rfl hP 60 [52] P (fun _ _ _ _ _ h => h) ?_
    intro M1 e1 M2 e2 M3 e3 M4 e4 M5 e5 M6 e6 M7 e7 M8 e8 M9 e9 M10 e10
    refine loop1 _ _ _ _ _ _ ⟨rfl, rfl, rfl, 0, by omega, rfl, rfl, ?_, ?_, ?_, ?_⟩
    · intro f z1 z2 z3
      rcases (show f = 8 ∨ f = 9 ∨ f = 10 ∨ f = 11 ∨ f = 12 ∨ f = 13 ∨ f = 15 ∨ f = 16 ∨ f = 17 by omega) with rfl | rfl | rfl | rfl | rfl | rfl | rfl | rfl | rfl <;> simp [e1, e2, e3, e4, e5, e6, e7, e8, e9, e10, va_up, upd]
    · simp [e7, e8, e9, e10, va_up, upd]
    · intro i hi; omega
    · intro x z1 z2
      rw [e10, bt_up_n z1, e9, bt_up_n z1, e8, bt_up_n z1, e7, bt_up_n z1, e6, bt_up_n z1, e5, bt_up_n z1, e4, bt_up_n z1, e3, bt_up_n z1, e2, bt_up_n z1, e1, bt_up_n z1]
  · exact False.elim h
