/-! WHAT IS DARED: both sides -/
theorem bu_sv {x : Int32} {s : Int} {a d b : Nat} (hx : x.toInt = s) (hs : -567 ≤ s ∧ s ≤ 567) (ha : a ≤ 9) (hd : d ≤ 9) (hb : b ≤ 5) : (x + nI a * (nI d - nI b)).toInt = s + (((a * d : Nat) : Int) - ((a * b : Nat) : Int)) := by
  have e1 : (nI d - nI b).toInt = (d : Int) - (b : Int) := by
    rw [Int32.toInt_sub, nI_toInt (by omega), nI_toInt (by omega)]
    exact Int.bmod_eq_of_le (by omega) (by omega)
  have b1 : a * d ≤ 9 * 9 := Nat.mul_le_mul ha hd
  have b2 : a * b ≤ 9 * 5 := Nat.mul_le_mul ha hb
  have e2 : (nI a * (nI d - nI b)).toInt = ((a * d : Nat) : Int) - ((a * b : Nat) : Int) := by
    rw [Int32.toInt_mul, nI_toInt (by omega), e1, Int.mul_sub, ← Int.natCast_mul, ← Int.natCast_mul]
    exact Int.bmod_eq_of_le (by omega) (by omega)
  rw [Int32.toInt_add, hx, e2]
  exact Int.bmod_eq_of_le (by omega) (by omega)
theorem bt_p10 : ∀ j, j < 9 → j * 10 ^ j ≤ 800000000 ∧ 10 ^ j ≤ 100000000 ∧ 0 < 10 ^ j := by decide +kernel
theorem bt_bd_n {w : bt_W} (h : bt_wf w) (k v : Nat) {j : Nat} (hj : j ≤ 8) : bt_bd w k v j ≤ 5184000000000 := by
  have h1 := bt_bd_le h k v j hj
  have h2 := (bt_p10 j (by omega)).1
  omega
def bt_wh (w : bt_W) (k v : Nat) : Nat → Int32
  | 0 => -4
  | j + 1 => if 10 * (bt_bd w k v j : Int) < bt_gz (bt_ch w (w 12 0 - 1 - j) k) (bt_sz w k (j + 1)) v (10 ^ j) (bt_bd w k v j) then nI (w 12 0 - 1 - j) else bt_wh w k v j
theorem bt_bd_step {w : bt_W} (hw : bt_wf w) {k v j : Nat} {g : Int64} (hj : j < 8) (hg : g.toInt = bt_gz (bt_ch w (w 12 0 - 1 - j) k) (bt_sz w k (j + 1)) v (10 ^ j) (bt_bd w k v j)) :
    (lN (10 * bt_bd w k v j) < g ↔ 10 * (bt_bd w k v j : Int) < bt_gz (bt_ch w (w 12 0 - 1 - j) k) (bt_sz w k (j + 1)) v (10 ^ j) (bt_bd w k v j)) ∧ (if g < lN (10 * bt_bd w k v j) then lN (10 * bt_bd w k v j) else g) = lN (bt_bd w k v (j + 1)) ∧ (lN (10 * bt_bd w k v j) < g → g = lN (bt_bd w k v (j + 1))) ∧ (¬ lN (10 * bt_bd w k v j) < g → lN (10 * bt_bd w k v j) = lN (bt_bd w k v (j + 1))) := by
  have hb := bt_bd_n hw k v (j := j) (by omega)
  have hp := (bt_p10 j (by omega)).2.1
  have hs := bt_sz_le hw k (j + 1)
  have hG := bt_gz_le (v := v) (p := 10 ^ j) (b := bt_bd w k v j) (bt_ch_le hw (w 12 0 - 1 - j) k) (s := bt_sz w k (j + 1)) (by omega)
  rw [bt_bd]
  generalize bt_gz (bt_ch w (w 12 0 - 1 - j) k) (bt_sz w k (j + 1)) v (10 ^ j) (bt_bd w k v j) = G at *
  generalize bt_bd w k v j = b at *
  generalize 10 ^ j = p at *
  have lt : lN (10 * b) < g ↔ 10 * (b : Int) < G := by
    rw [Int64.lt_iff_toInt_lt, pk_lT (by omega), hg]
    omega
  have gl : g < lN (10 * b) ↔ G < 10 * (b : Int) := by
    rw [Int64.lt_iff_toInt_lt, pk_lT (by omega), hg]
    omega
  have c3 : lN (10 * b) < g → g = lN (max G (10 * (b : Int))).toNat := fun c => by
    rw [lt] at c
    apply Int64.toInt_inj.mp
    rw [hg, pk_lT (by omega)]
    omega
  have c4 : ¬ lN (10 * b) < g → lN (10 * b) = lN (max G (10 * (b : Int))).toNat := fun c => by
    rw [lt] at c
    rw [show (max G (10 * (b : Int))).toNat = 10 * b by omega]
  refine ⟨lt, ?_, c3, c4⟩
  by_cases c : lN (10 * b) < g
  · rw [if_neg (fun z => by rw [gl] at z; rw [lt] at c; omega)]
    exact c3 c
  · by_cases d : g < lN (10 * b)
    · rw [if_pos d]
      exact c4 c
    · rw [if_neg d, ← c4 c]
      apply Int64.toInt_inj.mp
      rw [lt] at c
      rw [gl] at d
      rw [hg, pk_lT (by omega)]
      omega
theorem bt_m1 (x : Int32) : x + (-1) = x - 1 := (Int32.sub_eq_add_neg x 1).symm
theorem bt_dlt {i : Int32} {n j a : Nat} (hi : i = nI (n - j) - 1) (hn : n ≤ 8) (ha : a ≤ 8) : i < nI a ↔ n - j ≤ a := by
  rw [Int32.lt_iff_toInt_lt, hi, bt_nI_sub1 (by omega), nI_toInt (by omega)]
  omega
def bt_CX1_bestDaring : bt_C := [(87, 0, 3, sX1_tenthsToPass), (91, 0, 2, sJ9_max_f86c9)]
def sX1_bestDaring : bt_Sp := fun as M N K => match as with
  | [.ref c, .ref d, .int k, .int v] => ∃ w k' v', c = 64 ∧ d = 2 ∧ bt_cW M 2 w ∧ k = nI k' ∧ k' < w 12 1 ∧ v = nI v' ∧ v' ≤ 99 ∧ ∀ M' N', (∀ x : Nat, x ≠ 64 → M' x = M x) → M' 64 3 = bt_wh w k' v' (w 12 0 - w 12 4) → N' 64 2 = lN (10 ^ (w 12 0 - w 12 4)) → K (some (.long (lN (bt_bd w k' v' (w 12 0 - w 12 4))))) M' N'
  | _ => False
set_option maxRecDepth 100000 in
theorem mX1_bestDaring : bt_MT bt_TX1_bestDaring bt_FX1 bt_CX1_bestDaring 3 13 sX1_bestDaring := by
  intro as M N Rt h P hP
  unfold sX1_bestDaring at h
  split at h
  · obtain ⟨w, k, v, rfl, rfl, a1, rfl, hk, rfl, hv, h⟩ := h
    obtain ⟨hw, h8, h9, h10, h11, h12, h13, h14, h15, h16, h17, r1, r2, r3, r4, r5, r6, r7, r8⟩ := id a1
    obtain ⟨f1, f2, f3, f4, f5, f6, f7, f8, f9, f10, f11, f12, f13, f14, f15, f16, f17, f18⟩ := id hw
    have loop : ∀ u pc L st M' N', (pc = 25 ∧ st = [] ∧ ∃ (j : Nat) (x i : Int32) (y8 y9 y10 y11 y12 : Option Value), j ≤ w 12 0 - w 12 4 ∧ u = w 12 0 - w 12 4 - j ∧ i = nI (w 12 0 - j) - 1 ∧ x.toInt = bt_sz w k j ∧ L = [some (.ref 64), some (.ref 2), some (.int (nI k)), some (.int (nI v)), some (.long (lN (bt_bd w k v j))), none, some (.int x), some (.int i), y8, y9, y10, y11, y12] ∧ (∀ c : Nat, c ≠ 64 → M' c = M c) ∧ M' 64 3 = bt_wh w k v j ∧ N' 64 2 = lN (10 ^ j)) → P pc L st M' N' := by
      refine bt_loop rfl hP 100 [25] (fun u pc L st M' N' => (pc = 25 ∧ st = [] ∧ ∃ (j : Nat) (x i : Int32) (y8 y9 y10 y11 y12 : Option Value), j ≤ w 12 0 - w 12 4 ∧ u = w 12 0 - w 12 4 - j ∧ i = nI (w 12 0 - j) - 1 ∧ x.toInt = bt_sz w k j ∧ L = [some (.ref 64), some (.ref 2), some (.int (nI k)), some (.int (nI v)), some (.long (lN (bt_bd w k v j))), none, some (.int x), some (.int i), y8, y9, y10, y11, y12] ∧ (∀ c : Nat, c ≠ 64 → M' c = M c) ∧ M' 64 3 = bt_wh w k v j ∧ N' 64 2 = lN (10 ^ j))) ?_
      rintro u pc L st M' N' ⟨rfl, rfl, j, x, i, y8, y9, y10, y11, y12, hj, rfl, hi, hx, rfl, t1, t2, t3⟩
      have e16 : M' 2 16 = nI (w 12 4) := by rw [t1 2 (by omega)]; exact h16
      have e14 : M' 2 14 = nI (w 12 2) := by rw [t1 2 (by omega)]; exact h14
      have hc : bt_cW M' 2 w := bt_cW_kept a1 (fun x _ _ => t1 x (by omega))
      refine ⟨fun z1 => ?_, fun z1 => ?_⟩
      · rw [e16, bt_dlt hi f1 (by omega)] at z1
        have e : j = w 12 0 - w 12 4 := by omega
        rw [e] at t2 t3 ⊢
        exact h M' N' t1 t2 t3
      · rw [e16, bt_dlt hi f1 (by omega)] at z1
        obtain ⟨i', hi'⟩ : ∃ i', w 12 0 - j = i' + 1 := ⟨w 12 0 - j - 1, by omega⟩
        have ei : i = nI i' := by rw [hi, hi', nI_pred]
        have ej : w 12 0 - 1 - j = i' := by omega
        have m1 : M' 3 i' = nI (w 0 i') := by rw [t1 3 (by omega)]; exact r1 i' (by omega)
        have m7 : M' 9 k = nI (w 9 k) := by rw [t1 9 (by omega)]; exact r7 k hk
        have sz := bt_sz_le hw k j
        have sz1 := bt_sz_le hw k (j + 1)
        have hX : (x + M' 3 i' * (M' 2 14 - M' 9 k)).toInt = bt_sz w k (j + 1) := by
          rw [m1, e14, m7, bu_sv hx (by omega) (f7 i') f4 (f16 k), bt_sz, ej]
          rfl
        have hb := bt_bd_n hw k v (j := j) (by omega)
        have hp := (bt_p10 j (by omega)).2.1
        have hgo := bt_gz_c (t := bt_ch w i' k) (v := v) (p := 10 ^ j) (b := bt_bd w k v j) (bt_ch_le hw i' k) (by rw [hX]; omega) hv hp hb
        rw [hX, ← ej, ← t3] at hgo
        rw [ej] at hgo
        have hwait : (10 : Int64) * lN (bt_bd w k v j) = lN (10 * bt_bd w k v j) := lN_mul 10 _
        have hgo2 := hgo
        rw [← ej] at hgo2
        obtain ⟨s1, s2, s3, s4⟩ := bt_bd_step hw (k := k) (v := v) (j := j) (by omega) hgo2
        rw [← hwait] at s1 s2 s3 s4
        refine ⟨_, rfl, i', ei, by omega, ?_⟩
        refine ⟨_, rfl, k, rfl, by omega, ?_⟩
        refine ⟨w, i', k, rfl, hc, ei, by omega, rfl, hk, ?_⟩
        intro N1 hN1
        have n1 : N1 64 2 = lN (10 ^ (j + 1)) := by
          rw [hN1, bt_up_s, pk_uLs, t3, show (10 : Int64) = lN 10 from rfl, lN_mul, Nat.pow_succ]
        have ii : i + (-1) = nI (w 12 0 - (j + 1)) - 1 := by
          rw [bt_m1, ei, show w 12 0 - (j + 1) = i' by omega]
        rw [ej] at s1 s2 s3 s4
        refine ⟨fun z2 => ?_, fun z2 => ?_⟩
        · rw [bt_cmp_le, ← Int64.not_lt, s1] at z2
          refine ⟨w 12 0 - w 12 4 - (j + 1), by omega, rfl, rfl, j + 1, _, _, _, _, _, _, _, by omega, rfl, ii, hX, by rw [s2], t1, ?_, n1⟩
          rw [bt_wh, ej, if_neg z2]
          exact t2
        · rw [bt_cmp_le, ← Int64.not_lt, s1] at z2
          intro M1 hM1
          refine ⟨w 12 0 - w 12 4 - (j + 1), by omega, rfl, rfl, j + 1, _, _, _, _, _, _, _, by omega, rfl, ii, hX, by rw [s2], ?_, ?_, n1⟩
          · intro c hc
            rw [hM1, bt_up_n hc]
            exact t1 c hc
          · rw [bt_wh, ej, if_pos (Classical.not_not.mp z2), hM1, bt_up_s, pk_us]
            exact ei
    refine bt_go rfl hP 60 [25] P (fun _ _ _ _ _ h => h) ?_
    intro N1 hN1 M1 hM1
    refine loop _ _ _ _ _ _ ⟨rfl, rfl, 0, 0, _, none, none, none, none, none, by omega, rfl, ?_, rfl, rfl, ?_, ?_, ?_⟩
    · rw [hM1, bt_up_n (by omega), h8]
      rfl
    · intro c hc
      rw [hM1, bt_up_n hc]
    · rw [hM1, bt_up_s, pk_us]
      rfl
    · rw [hN1, bt_up_s, pk_uLs]
      rfl
  · exact False.elim h
def f_dare : bt_fn := fun t S => match t, S with
  | [.int v, .int x], (w, im, u, z, q) => some (.long (if bt_in v 100 ∧ bt_in x 3 then (if bt_fb w < w 12 1 then (if x = 2 then (bt_wh w (bt_fb w) v.toNatClampNeg (w 12 0 - w 12 4)).toInt64 else bt_lw (bt_bd w (bt_fb w) v.toNatClampNeg (w 12 0 - w 12 4)) (10 ^ (w 12 0 - w 12 4)) x) else -2) else -1), (w, im, u, z, q))
  | _, _ => none
