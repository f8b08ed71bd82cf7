/-! CALLS, BOTH SIDES: sheets -/

theorem bt_sx8 (v : Int32) : (v <<< ((24 : Int32) &&& 31)) >>> ((24 : Int32) &&& 31) = v.toInt8.toInt32 := by
  apply Int32.toBitVec_inj.mp
  rw [Int32.toBitVec_shiftRight, Int32.toBitVec_shiftLeft, show ((24 : Int32) &&& 31).toBitVec.smod 32 = 24#32 from by decide]
  show _ = (v.toBitVec.signExtend 8).signExtend 32
  generalize v.toBitVec = x
  ext i hi
  rw [BitVec.sshiftRight_eq', BitVec.getElem_sshiftRight, BitVec.getElem_signExtend]
  simp only [BitVec.shiftLeft_eq', BitVec.msb_eq_getLsbD_last, BitVec.getLsbD_shiftLeft, BitVec.getElem_signExtend, BitVec.getLsbD_signExtend, BitVec.getElem_shiftLeft]
  by_cases h : i < 8
  · simp [h]
    rw [dif_pos (by omega), dif_pos (by omega), decide_eq_false (by omega)]
    simp
  · simp [h]; omega
theorem bt_sx16 (v : Int32) : (v <<< ((16 : Int32) &&& 31)) >>> ((16 : Int32) &&& 31) = v.toInt16.toInt32 := by
  apply Int32.toBitVec_inj.mp
  rw [Int32.toBitVec_shiftRight, Int32.toBitVec_shiftLeft, show ((16 : Int32) &&& 31).toBitVec.smod 32 = 16#32 from by decide]
  show _ = (v.toBitVec.signExtend 16).signExtend 32
  generalize v.toBitVec = x
  ext i hi
  rw [BitVec.sshiftRight_eq', BitVec.getElem_sshiftRight, BitVec.getElem_signExtend]
  simp only [BitVec.shiftLeft_eq', BitVec.msb_eq_getLsbD_last, BitVec.getLsbD_shiftLeft, BitVec.getElem_signExtend, BitVec.getLsbD_signExtend, BitVec.getElem_shiftLeft]
  by_cases h : i < 16
  · simp [h]
    rw [dif_pos (by omega), dif_pos (by omega), decide_eq_false (by omega)]
    simp
  · simp [h]; omega

theorem bt_rf40 : ∀ j, j < 4 → bt_rf 40 j = 41 + 2 * j := by decide
def bt_fa (n l : Nat) (l' i : Int32) : Nat := if n = 0 then 1 else if l' = nI l then (if bt_in i (n - 1) then 0 else 2) else 3
def bt_cv (l : Nat) (v : Int32) : Int32 := if l = 0 then v.toInt8.toInt32 else if l = 1 then v.toInt16.toInt32 else v
theorem bt_sW_sh {w : bt_W} {im : Nat → bt_W} {u u' : Nat → Nat} {z : Nat → Nat → Nat} (h : bt_sW w im u z) {k : Nat} (hu : ∀ i, i ≠ 6 + k → i ≠ 10 + k → u' i = u i) (h6 : u' (6 + k) ≤ 41) (h10 : u' (10 + k) ≤ 2) (hk : k < 4) : bt_sW w im u' z := by
  obtain ⟨b0, b1, b2, b3, b4, b5, b6, b7, b8, b9, b10⟩ := h
  unfold bt_sW
  rw [hu 0 (by omega) (by omega), hu 1 (by omega) (by omega), hu 2 (by omega) (by omega), hu 3 (by omega) (by omega), hu 4 (by omega) (by omega), hu 5 (by omega) (by omega)]
  refine ⟨b0, b1, b2, b3, b4, b5, b6, fun k' hk' => ?_, b8, b9, b10⟩
  by_cases e : k' = k
  · subst e; exact ⟨h6, h10⟩
  · rw [hu (6 + k') (by omega) (by omega), hu (10 + k') (by omega) (by omega)]; exact b7 k' hk'
theorem bt_cI_sh {M M' : bt_M} {w : bt_W} {im : Nat → bt_W} {u u' : Nat → Nat} {z : Nat → Nat → Nat} {q q' : Nat → Nat → Int32} (h : bt_cI M (w, im, u, z, q)) {k : Nat} (hk : k < 4) (hu : ∀ i, i ≠ 6 + k → i ≠ 10 + k → u' i = u i) (h6 : u' (6 + k) ≤ 41) (h10 : u' (10 + k) ≤ 2) (hq : ∀ i, i ≠ k → q' i = q i) (h1 : ∀ x : Nat, x ≠ 41 + 2 * k → x ≠ 42 + 2 * k → M' x = M x) (h2 : M' (41 + 2 * k) 2 = nI (u' (6 + k)) - 1) (h3 : M' (41 + 2 * k) 1 = nI (u' (10 + k))) (h4 : ∀ j, j < 40 → M' (42 + 2 * k) j = q' k j) : bt_cI M' (w, im, u', z, q') := by
  obtain ⟨a1, a2, a3, a4, a5, a6, a7, a8, a9, a10, a11, a12⟩ := h
  refine ⟨bt_cW_kept a1 (fun x _ _ => h1 x (by omega) (by omega)), bt_sW_sh a2 hu h6 h10 hk, ?_, ?_, ?_, ?_, ?_, ?_, ?_, ?_, ?_, ?_⟩
  · rw [h1 20 (by omega) (by omega), hu 0 (by omega) (by omega)]; exact a3
  · rw [h1 1 (by omega) (by omega), hu 0 (by omega) (by omega)]; exact a4
  · rw [h1 20 (by omega) (by omega), hu 1 (by omega) (by omega)]; exact a5
  · rw [h1 0 (by omega) (by omega), hu 3 (by omega) (by omega), hu 4 (by omega) (by omega)]; exact a6
  · rw [h1 0 (by omega) (by omega), hu 2 (by omega) (by omega)]; exact a7
  · rw [hu 3 (by omega) (by omega)]; exact fun y => bt_cW_kept (a8 y) (fun x _ _ => h1 x (by omega) (by omega))
  · rw [hu 4 (by omega) (by omega)]; exact fun y => bt_cW_kept (a9 y) (fun x _ _ => h1 x (by omega) (by omega))
  · intro k' hk'
    by_cases e : k' = k
    · subst e; exact ⟨h2, h3, h4⟩
    · rw [h1 (41 + 2 * k') (by omega) (by omega), h1 (42 + 2 * k') (by omega) (by omega), hu (6 + k') (by omega) (by omega), hu (10 + k') (by omega) (by omega), hq k' e]; exact a10 k' hk'
  · rw [h1 49 (by omega) (by omega), hu 5 (by omega) (by omega)]; exact a11
  · rw [h1 50 (by omega) (by omega), h1 51 (by omega) (by omega), hu 5 (by omega) (by omega)]; exact a12
theorem bt_mI_sh {M M' : bt_M} {w : bt_W} {im : Nat → bt_W} {u u' : Nat → Nat} {z : Nat → Nat → Nat} {q q' : Nat → Nat → Int32} (h : bt_mI M (w, im, u, z, q)) {k : Nat} (hk : k < 4) (hu : ∀ i, i ≠ 6 + k → i ≠ 10 + k → u' i = u i) (h6 : u' (6 + k) ≤ 41) (h10 : u' (10 + k) ≤ 2) (hq : ∀ i, i ≠ k → q' i = q i) (h1 : ∀ x : Nat, 67 ≤ x → x < 76 → M' x = M x) (h76 : ∀ i, i ≠ k → M' 76 i = M 76 i) (h77 : ∀ i, i ≠ k → M' 77 i = M 77 i) (h78 : ∀ j, (j < 40 * k ∨ 40 * k + 40 ≤ j) → M' 78 j = M 78 j) (h2 : M' 76 k = (if u' (6 + k) = 0 then -4 else nI (u' (10 + k)))) (h3 : u' (6 + k) ≠ 0 → M' 77 k = nI (u' (6 + k) - 1)) (h4 : ∀ j, j < 40 → M' 78 (40 * k + j) = q' k j) : bt_mI M' (w, im, u', z, q') := by
  obtain ⟨a1, a2, a3, a4, a5, a6, a7, a8, a9, a10, a11, a12, a13, a14, a15⟩ := h
  have k12 : M' 67 1 = M 67 1 ∧ M' 67 2 = M 67 2 := by rw [h1 67 (by omega) (by omega)]; exact ⟨rfl, rfl⟩
  have k68 : M' 68 = M 68 := h1 68 (by omega) (by omega)
  refine ⟨bt_mW_far a1 k12 k68, bt_sW_sh a2 hu h6 h10 hk, ?_, ?_, ?_, ?_, ?_, ?_, ?_, ?_, ?_, ?_, ?_, ?_, ?_⟩
  · rw [h1 67 (by omega) (by omega), hu 0 (by omega) (by omega)]; exact a3
  · rw [h1 71 (by omega) (by omega), hu 0 (by omega) (by omega)]; exact a4
  · rw [h1 67 (by omega) (by omega), hu 1 (by omega) (by omega)]; exact a5
  · rw [h1 67 (by omega) (by omega), hu 2 (by omega) (by omega)]; exact a6
  · rw [h1 75 (by omega) (by omega), hu 3 (by omega) (by omega)]; exact a7
  · rw [h1 75 (by omega) (by omega), hu 4 (by omega) (by omega)]; exact a8
  · rw [hu 3 (by omega) (by omega)]; exact fun y => bt_mW_far (a9 y) k12 k68
  · rw [hu 4 (by omega) (by omega)]; exact fun y => bt_mW_far (a10 y) k12 k68
  · intro k' hk'
    by_cases e : k' = k
    · subst e; exact ⟨h2, h3, h4⟩
    · rw [h76 k' e, h77 k' e, hu (6 + k') (by omega) (by omega), hu (10 + k') (by omega) (by omega), hq k' e]
      refine ⟨(a11 k' hk').1, (a11 k' hk').2.1, fun j hj => ?_⟩
      rw [h78 _ (by omega)]; exact (a11 k' hk').2.2 j hj
  · rw [h1 67 (by omega) (by omega), hu 5 (by omega) (by omega)]; exact a12
  · rw [h1 74 (by omega) (by omega), hu 5 (by omega) (by omega)]; exact a13
  · rw [h1 72 (by omega) (by omega)]; exact a14
  · rw [h1 73 (by omega) (by omega)]; exact a15
def sX2_begin : bt_Sp := fun as M N K => match as with
  | [.ref c, .int l, .int n] => ∃ k : Nat, k < 4 ∧ c = (41 + 2 * k : Nat) ∧ ∀ M', (∀ x : Nat, x ≠ 41 + 2 * k → x ≠ 42 + 2 * k → M' x = M x) → M' (41 + 2 * k) 1 = l → M' (41 + 2 * k) 2 = n → (∀ j, j < 40 → M' (42 + 2 * k) j = 0) → K none M' N
  | _ => False
set_option maxRecDepth 100000 in
theorem mX2_begin : bt_MT bt_TX2_begin bt_FX2 [] 0 4 sX2_begin := by
  intro as M N Rt h P hP
  unfold sX2_begin at h
  split at h
  · next c0 l n =>
    obtain ⟨k, hk, hc0, h⟩ := h
    obtain ⟨c, rfl⟩ : ∃ c : Nat, c = c0 := ⟨c0, rfl⟩
    have hc : c = 41 + 2 * k := hc0
    have e1 : 42 + 2 * k = c + 1 := by omega
    rw [e1] at h
    rw [← hc] at h
    have hcc : c = 41 ∨ c = 43 ∨ c = 45 ∨ c = 47 := by omega
    clear hc hc0 e1 hk
    have loop : ∀ v pc L st M' N', (pc = 12 ∧ st = [] ∧ N' = N ∧ ∃ k, k ≤ 40 ∧ v = 40 - k ∧ L = [some (.ref c), some (.int l), some (.int n), some (.int (nI k))] ∧ (∀ x : Nat, x ≠ c → x ≠ c + 1 → M' x = M x) ∧ M' c 1 = l ∧ M' c 2 = n ∧ ∀ j : Nat, j < k → M' (c + 1) j = 0) → P pc L st M' N' := by
      refine bt_loop rfl hP 60 [12] (fun v pc L st M' N' => (pc = 12 ∧ st = [] ∧ N' = N ∧ ∃ k, k ≤ 40 ∧ v = 40 - k ∧ L = [some (.ref c), some (.int l), some (.int n), some (.int (nI k))] ∧ (∀ x : Nat, x ≠ c → x ≠ c + 1 → M' x = M x) ∧ M' c 1 = l ∧ M' c 2 = n ∧ ∀ j : Nat, j < k → M' (c + 1) j = 0)) ?_
      rintro v pc L st M' N' ⟨rfl, rfl, rfl, k, hk, rfl, rfl, q1, q2, q3, q4⟩
      rcases hcc with rfl | rfl | rfl | rfl
      all_goals
        refine ⟨fun z => ?_, fun z => ?_⟩
        · rw [bt_lit, nI_leI (by omega) (by omega)] at z
          exact h M' q1 q2 q3 (fun j hj => q4 j (by omega))
        · rw [bt_lit, nI_leI (by omega) (by omega)] at z
          refine ⟨_, rfl, k, rfl, by omega, ?_⟩
          rintro _ rfl
          refine ⟨40 - (k + 1), by omega, rfl, rfl, rfl, k + 1, by omega, rfl, by rw [← nI_1], fun x z1 z2 => ?_, ?_, ?_, fun j hj => ?_⟩
          · rw [bt_up_n (by omega)]; exact q1 x z1 z2
          · rw [bt_up_n (by omega)]; exact q2
          · rw [bt_up_n (by omega)]; exact q3
          · rw [bt_up_s]
            by_cases hjk : j = k
            · rw [hjk, pk_us]
            · rw [pk_un (by omega)]; exact q4 j (by omega)
    refine bt_go rfl hP 60 [12] P (fun _ _ _ _ _ h => h) ?_
    rcases hcc with rfl | rfl | rfl | rfl
    all_goals
      intro M1 e1 M2 e2
      refine loop _ _ _ _ _ _ ⟨rfl, rfl, rfl, 0, by omega, rfl, rfl, fun x z1 z2 => ?_, ?_, ?_, fun j hj => by omega⟩
      · rw [e2, bt_up_n z1, e1, bt_up_n z1]
      · rw [e2, bt_up_s, pk_un (by omega), e1, bt_up_s, pk_us]
      · rw [e2, bt_up_s, pk_us]
  · exact False.elim h
def bt_CX2_faultAt : bt_C := [(22, 0, 3, sX5_within)]
def sX2_faultAt : bt_Sp := fun as M N K => match as with
  | [.ref c, .int l, .int i] => ∃ (k n l' : Nat), k < 4 ∧ c = (41 + 2 * k : Nat) ∧ n ≤ 41 ∧ M (41 + 2 * k) 2 = nI n - 1 ∧ M (41 + 2 * k) 1 = nI l' ∧ K (some (.int (nI (bt_fa n l' l i)))) M N
  | _ => False
theorem bt_pr {n : Nat} (h : 1 ≤ n) : nI n - 1 = nI (n - 1) := by
  obtain ⟨m, rfl⟩ : ∃ m, n = m + 1 := ⟨n - 1, by omega⟩
  rw [nI_pred]; rfl
theorem bt_pr0 : ∀ n, n < 42 → (0 ≤ nI n - 1 ↔ ¬ n = 0) := by decide +kernel
set_option maxRecDepth 100000 in
theorem mX2_faultAt : bt_MT bt_TX2_faultAt bt_FX2 bt_CX2_faultAt 1 3 sX2_faultAt := by
  intro as M N Rt h P hP
  unfold sX2_faultAt at h
  split at h
  · next c0 l i =>
    obtain ⟨k, n, l', hk, hc0, hn, h2, h1, h⟩ := h
    obtain ⟨c, rfl⟩ : ∃ c : Nat, c = c0 := ⟨c0, rfl⟩
    have hc : c = 41 + 2 * k := hc0
    rw [← hc] at h1 h2
    have hcc : c = 41 ∨ c = 43 ∨ c = 45 ∨ c = 47 := by omega
    clear hc hc0 hk
    unfold bt_fa at h
    refine bt_go0 rfl hP 60 ?_
    rcases hcc with rfl | rfl | rfl | rfl
    all_goals
      refine ⟨fun y => ?_, fun y => ?_⟩
      · rw [h2, bt_pr0 n (by omega)] at y
        rw [if_neg y] at h
        refine ⟨fun y2 => ?_, fun y2 => ?_⟩
        · rw [h1] at y2
          rw [if_pos y2] at h
          refine ⟨fun y3 => ?_, fun y3 => ?_⟩
          · rw [bt_bi_0, h2, bt_pr (by omega), bt_in_last (by omega)] at y3
            rw [if_neg y3] at h
            exact h
          · rw [bt_bi_n0, h2, bt_pr (by omega), bt_in_last (by omega)] at y3
            rw [if_pos y3] at h
            exact h
        · rw [h1] at y2
          rw [if_neg y2] at h
          exact h
      · rw [h2, bt_pr0 n (by omega)] at y
        rw [if_pos (by omega)] at h
        exact h
  · exact False.elim h
def sX2_put : bt_Sp := fun as M N K => match as with
  | [.ref c, .int i, .int v] => ∃ (k i' l : Nat), k < 4 ∧ c = (41 + 2 * k : Nat) ∧ i = nI i' ∧ i' < 40 ∧ M (41 + 2 * k) 1 = nI l ∧ l ≤ 2 ∧ ∀ M', M' = va_up M (42 + 2 * k) (upd (M (42 + 2 * k)) i' (bt_cv l v)) → K none M' N
  | _ => False
theorem bt_l012 : ∀ l, l < 3 → (nI l = 0 ↔ l = 0) ∧ (nI l = 1 ↔ l = 1) := by decide +kernel
set_option maxRecDepth 100000 in
theorem mX2_put : bt_MT bt_TX2_put bt_FX2 [] 0 3 sX2_put := by
  intro as M N Rt h P hP
  unfold sX2_put at h
  split at h
  · next c0 i v =>
    obtain ⟨k, i', l, hk, hc0, rfl, hi, h1, hl, h⟩ := h
    obtain ⟨c, rfl⟩ : ∃ c : Nat, c = c0 := ⟨c0, rfl⟩
    have hc : c = 41 + 2 * k := hc0
    have e1 : 42 + 2 * k = c + 1 := by omega
    rw [e1] at h
    rw [← hc] at h1
    have hcc : c = 41 ∨ c = 43 ∨ c = 45 ∨ c = 47 := by omega
    clear hc hc0 hk e1
    have hl2 := bt_l012 l (by omega)
    unfold bt_cv at h
    refine bt_go0 rfl hP 60 ?_
    rcases hcc with rfl | rfl | rfl | rfl
    all_goals
      refine ⟨fun y => ?_, fun y => ?_⟩
      · rw [h1, hl2.1] at y
        rw [if_neg y] at h
        refine ⟨fun y2 => ?_, fun y2 => ?_⟩
        · rw [h1, hl2.2] at y2
          rw [if_neg y2] at h
          exact ⟨_, rfl, i', rfl, hi, fun M' e => h M' e⟩
        · rw [h1, hl2.2] at y2
          rw [if_pos y2] at h
          exact ⟨_, rfl, i', rfl, hi, fun M' e => h M' e⟩
      · rw [h1, hl2.1] at y
        rw [if_pos y] at h
        exact ⟨_, rfl, i', rfl, hi, fun M' e => h M' e⟩
  · exact False.elim h

def f_sheet : bt_fn := fun t S => match t, S with
  | [.int k, .int l, .int n], (w, im, u, z, q) => some (.int (if (bt_in k 4 ∧ bt_in l 3 ∧ n ≤ 40) then (if (0 : Int32) ≤ n then 1 else -14) else -1), (w, im, if ((bt_in k 4 ∧ bt_in l 3 ∧ n ≤ 40) ∧ (0 : Int32) ≤ n) then va_up (va_up u (6 + k.toNatClampNeg) (n.toNatClampNeg + 1)) (10 + k.toNatClampNeg) l.toNatClampNeg else u, z, if ((bt_in k 4 ∧ bt_in l 3 ∧ n ≤ 40) ∧ (0 : Int32) ≤ n) then va_up q k.toNatClampNeg (fun _ => 0) else q))
  | _, _ => none

def bt_CX5_sheet : bt_C := [(258, 0, 1, sX5_isSheet), (261, 0, 1, sX5_isLane), (264, 1, 3, sX2_begin)]
def sX5_sheet : bt_Sp := bt_spC f_sheet
set_option maxRecDepth 100000 in
theorem mX5_sheet : bt_MT bt_TX5_sheet bt_FX5 bt_CX5_sheet 1 4 sX5_sheet := by
  intro as M N Rt h P hP
  obtain ⟨t, S, r, S', rfl, hI, hf, h⟩ := bt_spC_e h
  obtain ⟨w, im, u, z, q⟩ := S
  unfold f_sheet at hf
  split at hf
  · next k l n _ _ _ _ _ e =>
    cases e
    obtain ⟨rfl, rfl⟩ := bt_some hf
    obtain ⟨a1, a2, a3, a4, a5, a6, a7, a8, a9, a10, a11, a12⟩ := id hI
    obtain ⟨b0, b1, b2, b3, b4, b5, b6, b7, b8, b9, b10⟩ := id a2
    obtain ⟨hw, h8, h9, h10, h11, h12, h13, h14, h15, h16, h17, r1, r2, r3, r4, r5, r6, r7, r8⟩ := id a1
    obtain ⟨f1, f2, f3, f4, f5, f6, f7, f8, f9, f10, f11, f12, f13, f14, f15, f16, f17, f18⟩ := id hw
    have hbad : ¬ (bt_in k 4 ∧ bt_in l 3 ∧ n ≤ 40) → Rt (some (.int (-1))) M N := fun y => by
      have nok : ¬ ((bt_in k 4 ∧ bt_in l 3 ∧ n ≤ 40) ∧ (0 : Int32) ≤ n) := fun c => y c.1
      rw [if_neg y, if_neg nok, if_neg nok] at h
      exact h M N (fun _ _ => rfl) hI
    have hbad2 : (bt_in k 4 ∧ bt_in l 3 ∧ n ≤ 40) → ¬ (0 : Int32) ≤ n → Rt (some (.int (-14))) M N := fun y y2 => by
      have nok : ¬ ((bt_in k 4 ∧ bt_in l 3 ∧ n ≤ 40) ∧ (0 : Int32) ≤ n) := fun c => y2 c.2
      rw [if_pos y, if_neg y2, if_neg nok, if_neg nok] at h
      exact h M N (fun _ _ => rfl) hI
    refine bt_go0 rfl hP 60 ?_
    refine ⟨fun y => hbad (fun c => (bt_bi_0.mp y) c.1), fun y => ⟨fun y2 => hbad (fun c => (bt_bi_0.mp y2) c.2.1), fun y2 => ⟨fun y3 => ?_, fun y3 => hbad (fun c => y3 c.2.2)⟩⟩⟩
    have ok : (bt_in k 4 ∧ bt_in l 3 ∧ n ≤ 40) := ⟨bt_bi_n0.mp y, bt_bi_n0.mp y2, y3⟩
    refine ⟨fun y4 => ?_, fun y4 => hbad2 ok y4⟩
    · have ok2 : ((bt_in k 4 ∧ bt_in l 3 ∧ n ≤ 40) ∧ (0 : Int32) ≤ n) := ⟨ok, y4⟩
      rw [if_pos ok, if_pos y4, if_pos ok2, if_pos ok2] at h
      obtain ⟨k, hk, rfl⟩ := bt_in_e ok.1
      obtain ⟨l, hl, rfl⟩ := bt_in_e ok.2.1
      obtain ⟨n, hn, rfl⟩ := bt_in_e (n := 41) ((bt_in_c (k := 40) rfl (by omega)).mp ⟨y4, y3⟩)
      rw [bt_clm (by omega), bt_clm (by omega), bt_clm (by omega)] at h
      have hu6 : va_up (va_up u (6 + k) (n + 1)) (10 + k) l (6 + k) = n + 1 := by rw [bt_up_n (by omega), bt_up_s]
      have hu10 : va_up (va_up u (6 + k) (n + 1)) (10 + k) l (10 + k) = l := by rw [bt_up_s]
      have hun : ∀ i, i ≠ 6 + k → i ≠ 10 + k → va_up (va_up u (6 + k) (n + 1)) (10 + k) l i = u i := fun i i1 i2 => by rw [bt_up_n i2, bt_up_n i1]
      refine ⟨_, rfl, k, rfl, hk, ?_⟩
      refine ⟨k, hk, bt_rf40 k hk, fun M' e1 e2 e3 e4 => ?_⟩
      exact h M' N (fun x hx => e1 x (by omega) (by omega)) (bt_cI_sh (k := k) hI hk hun (by rw [hu6]; omega) (by rw [hu10]; omega) (fun i hi => bt_up_n hi) e1 (by rw [hu6, nI_pred]; exact e3) (by rw [hu10]; exact e2) (fun j hj => by rw [bt_up_s]; exact e4 j hj))
  · cases hf

def bt_CX6_sheet : bt_C := [(46, 0, 3, sX6_in)]
def sX6_sheet : bt_Sp := bt_spM f_sheet
set_option maxRecDepth 100000 in
theorem mX6_sheet : bt_MT bt_TX6_sheet bt_FX6 bt_CX6_sheet 1 5 sX6_sheet := by
  intro as M N Rt h P hP
  obtain ⟨t, S, r, S', rfl, hI, hf, h⟩ := bt_spM_e h
  obtain ⟨w, im, u, z, q⟩ := S
  unfold f_sheet at hf
  split at hf
  · next k l n _ _ _ _ _ e =>
    cases e
    obtain ⟨rfl, rfl⟩ := bt_some hf
    obtain ⟨a1, a2, a3, a4, a5, a6, a7, a8, a9, a10, a11, a12, a13, a14, a15⟩ := id hI
    obtain ⟨b0, b1, b2, b3, b4, b5, b6, b7, b8, b9, b10⟩ := id a2
    obtain ⟨hw, g1, g2, g3, g4, g5, g6, r0, r1, r2, r3, r4, r5, r6, c7, c8, c9, c10, c11⟩ := id a1
    obtain ⟨f1, f2, f3, f4, f5, f6, f7, f8, f9, f10, f11, f12, f13, f14, f15, f16, f17, f18⟩ := id hw
    simp only [Nat.zero_add] at g3 g4 g5 g6 r0 r1 r2 r3 r4 r5 r6 c7 c8 c9 c10
    have hbad : ¬ (bt_in k 4 ∧ bt_in l 3 ∧ n ≤ 40) → Rt (some (.int (-1))) M N := fun y => by
      have nok : ¬ ((bt_in k 4 ∧ bt_in l 3 ∧ n ≤ 40) ∧ (0 : Int32) ≤ n) := fun c => y c.1
      rw [if_neg y, if_neg nok, if_neg nok] at h
      exact h M (fun _ _ => rfl) hI
    have hbad2 : (bt_in k 4 ∧ bt_in l 3 ∧ n ≤ 40) → ¬ (0 : Int32) ≤ n → Rt (some (.int (-14))) M N := fun y y2 => by
      have nok : ¬ ((bt_in k 4 ∧ bt_in l 3 ∧ n ≤ 40) ∧ (0 : Int32) ≤ n) := fun c => y2 c.2
      rw [if_pos y, if_neg y2, if_neg nok, if_neg nok] at h
      exact h M (fun _ _ => rfl) hI
    refine bt_go rfl hP 60 [56] P (fun _ _ _ _ _ h => h) ?_
    refine ⟨fun y => ?_, fun y => ⟨fun y2 => ?_, fun y2 => ⟨fun y3 => ?_, fun y3 => hbad (fun c => y3 c.2.2)⟩⟩⟩
    · rw [bt_bi_0, bt_inl_c (k := 3) (show (3 : Int64) = lN 3 from rfl) (by omega)] at y
      exact hbad (fun c => y c.1)
    · rw [bt_bi_0, bt_inl_c (k := 2) (show (2 : Int64) = lN 2 from rfl) (by omega)] at y2
      exact hbad (fun c => y2 c.2.1)
    rw [bt_bi_n0, bt_inl_c (k := 3) (show (3 : Int64) = lN 3 from rfl) (by omega)] at y
    rw [bt_bi_n0, bt_inl_c (k := 2) (show (2 : Int64) = lN 2 from rfl) (by omega)] at y2
    have ok : (bt_in k 4 ∧ bt_in l 3 ∧ n ≤ 40) := ⟨y, y2, y3⟩
    refine ⟨fun y4 => ?_, fun y4 => hbad2 ok y4⟩
    · have ok2 : ((bt_in k 4 ∧ bt_in l 3 ∧ n ≤ 40) ∧ (0 : Int32) ≤ n) := ⟨ok, y4⟩
      rw [if_pos ok, if_pos y4, if_pos ok2, if_pos ok2] at h
      obtain ⟨k, hk, rfl⟩ := bt_in_e ok.1
      obtain ⟨l, hl, rfl⟩ := bt_in_e ok.2.1
      obtain ⟨n, hn, rfl⟩ := bt_in_e (n := 41) ((bt_in_c (k := 40) rfl (by omega)).mp ⟨y4, y3⟩)
      rw [bt_clm (by omega), bt_clm (by omega), bt_clm (by omega)] at h
      have hu6 : va_up (va_up u (6 + k) (n + 1)) (10 + k) l (6 + k) = n + 1 := by rw [bt_up_n (by omega), bt_up_s]
      have hu10 : va_up (va_up u (6 + k) (n + 1)) (10 + k) l (10 + k) = l := by rw [bt_up_s]
      have hun : ∀ i, i ≠ 6 + k → i ≠ 10 + k → va_up (va_up u (6 + k) (n + 1)) (10 + k) l i = u i := fun i i1 i2 => by rw [bt_up_n i2, bt_up_n i1]
      refine ⟨_, rfl, k, rfl, hk, fun M1 e1 => ?_⟩
      refine ⟨_, rfl, k, rfl, hk, fun M2 e2 => ?_⟩
      have q76 : M2 76 = upd (M 76) k (nI l) := by rw [e2, bt_up_n (by omega), e1, bt_up_s]
      have q77 : M2 77 = upd (M 77) k (nI n) := by rw [e2, bt_up_s, e1, bt_up_n (by omega)]
      have qx : ∀ x : Nat, x ≠ 76 → x ≠ 77 → M2 x = M x := fun x x1 x2 => by rw [e2, bt_up_n x2, e1, bt_up_n x1]
      have loop : ∀ v pc L st M' N', (pc = 56 ∧ st = [] ∧ N' = N ∧ ∃ i, i ≤ 40 ∧ v = 40 - i ∧ L = [some (.ref 67), some (.int (nI k)), some (.int (nI l)), some (.int (nI n)), some (.int (nI i))] ∧ (∀ x : Nat, x ≠ 78 → M' x = M2 x) ∧ (∀ j : Nat, j < i → M' 78 (40 * k + j) = 0) ∧ ∀ j, (j < 40 * k ∨ 40 * k + 40 ≤ j) → M' 78 j = M2 78 j) → P pc L st M' N' := by
        refine bt_loop rfl hP 60 [56] (fun v pc L st M' N' => (pc = 56 ∧ st = [] ∧ N' = N ∧ ∃ i, i ≤ 40 ∧ v = 40 - i ∧ L = [some (.ref 67), some (.int (nI k)), some (.int (nI l)), some (.int (nI n)), some (.int (nI i))] ∧ (∀ x : Nat, x ≠ 78 → M' x = M2 x) ∧ (∀ j : Nat, j < i → M' 78 (40 * k + j) = 0) ∧ ∀ j, (j < 40 * k ∨ 40 * k + 40 ≤ j) → M' 78 j = M2 78 j)) ?_
        rintro v pc L st M' N' ⟨rfl, rfl, rfl, i, hi, rfl, rfl, p1, p2, p3⟩
        refine ⟨fun z => ?_, fun z => ?_⟩
        · rw [bt_lit, nI_leI (by omega) (by omega)] at z
          refine h M' (fun x hx => by rw [p1 x (by omega), qx x (by omega) (by omega)]) (bt_mI_sh (k := k) hI hk hun (by rw [hu6]; omega) (by rw [hu10]; omega) (fun i hi => bt_up_n hi) (fun x x1 x2 => by rw [p1 x (by omega), qx x (by omega) (by omega)]) (fun i hi => by rw [p1 76 (by omega), q76, pk_un hi]) (fun i hi => by rw [p1 77 (by omega), q77, pk_un hi]) (fun j hj => by rw [p3 j hj, qx 78 (by omega) (by omega)]) ?_ (fun _ => ?_) (fun j hj => by rw [bt_up_s]; exact p2 j (by omega)))
          · rw [hu6, hu10, if_neg (by omega), p1 76 (by omega), q76, pk_us]
          · rw [hu6, p1 77 (by omega), q77, pk_us]; rfl
        · rw [bt_lit, nI_leI (by omega) (by omega)] at z
          refine ⟨_, rfl, 40 * k + i, by simp only [bt_lit, pk_mul, nI_add], by omega, ?_⟩
          rintro _ rfl
          refine ⟨40 - (i + 1), by omega, rfl, rfl, rfl, i + 1, by omega, rfl, by rw [← nI_1], fun x z1 => ?_, fun j hj => ?_, fun j hj => ?_⟩
          · rw [bt_up_n z1]; exact p1 x z1
          · rw [bt_up_s]
            by_cases hji : j = i
            · rw [hji, pk_us]
            · rw [pk_un (by omega)]; exact p2 j (by omega)
          · rw [bt_up_s, pk_un (by omega)]; exact p3 j hj
      exact loop _ _ _ _ _ _ ⟨rfl, rfl, rfl, 0, by omega, rfl, rfl, fun _ _ => rfl, fun j hj => by omega, fun _ _ => rfl⟩
  · cases hf
