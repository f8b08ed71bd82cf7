/-! CALLS, BOTH SIDES: the tape, what is changed, arrivals -/
theorem bt_by : ∀ a, a < 128 → (nI a).toInt8.toInt32 = nI a := by decide +kernel
abbrev bt_nd (x : Int32) : Prop := 1 ≤ x.toInt ∧ x.toInt ≤ 9
theorem bt_nd_c {x : Int32} : ((1 : Int32) ≤ x ∧ x ≤ 9) ↔ bt_nd x := by
  rw [Int32.le_iff_toInt_le, Int32.le_iff_toInt_le]
  exact Iff.rfl
theorem bt_nd_l {x : Int32} : ((1 : Int64) ≤ x.toInt64 ∧ x.toInt64 ≤ 9) ↔ bt_nd x := by
  rw [Int64.le_iff_toInt_le, Int64.le_iff_toInt_le, Int32.toInt_toInt64]
  exact Iff.rfl
theorem bt_nd_e {x : Int32} (h : bt_nd x) : ∃ j, j ≤ 9 ∧ x = nI j := by
  obtain ⟨j, h1, h2⟩ := bt_in_e (n := 10) (x := x) ⟨by omega, by omega⟩
  exact ⟨j, by omega, h2⟩
/-- numbers and rows change, the worlds stay -/
theorem bt_cI_uz {M M' : bt_M} {w : bt_W} {im : Nat → bt_W} {u u' : Nat → Nat} {z z' : Nat → Nat → Nat} {q : Nat → Nat → Int32} (h : bt_cI M (w, im, u, z, q)) (hs : bt_sW w im u' z') (hu : u' 1 = u 1 ∧ u' 3 = u 3 ∧ u' 4 = u 4 ∧ u' 2 = u 2 ∧ ∀ k, k < 4 → u' (6 + k) = u (6 + k) ∧ u' (10 + k) = u (10 + k)) (h1 : ∀ x : Nat, (x = 0 ∨ (2 ≤ x ∧ x ≤ 10) ∨ (21 ≤ x ∧ x ≤ 48)) → M' x = M x) (h0 : ∀ f, f ≠ 2 → M' 20 f = M 20 f) (h8 : M' 20 2 = nI (u' 0)) (ht : ∀ j, j < u' 0 → M' 1 j = nI (z' 0 j)) (h5 : M' 49 5 = nI (u' 5)) (hn : ∀ n, n < u' 5 → M' 50 n = nI (z' 1 n) ∧ M' 51 n = nI (z' 2 n)) : bt_cI M' (w, im, u', z', q) := by
  obtain ⟨a1, a2, a3, a4, a5, a6, a7, a8, a9, a10, a11, a12⟩ := h
  obtain ⟨u1, u3, u4, u2, u6⟩ := hu
  refine ⟨bt_cW_kept a1 (fun x _ _ => h1 x (by omega)), hs, h8, ht, ?_, ?_, ?_, ?_, ?_, ?_, h5, hn⟩
  · rw [h0 3 (by omega), u1]; exact a5
  · rw [h1 0 (by omega), u3, u4]; exact a6
  · rw [h1 0 (by omega), u2]; exact a7
  · rw [u3]; exact fun y => bt_cW_kept (a8 y) (fun x _ _ => h1 x (by omega))
  · rw [u4]; exact fun y => bt_cW_kept (a9 y) (fun x _ _ => h1 x (by omega))
  · intro k hk
    rw [h1 (41 + 2 * k) (by omega), h1 (42 + 2 * k) (by omega), (u6 k hk).1, (u6 k hk).2]; exact a10 k hk
theorem bt_mW_far {M M' : bt_M} {p : Nat} {w : bt_W} (hw : bt_mW M p w) (h1 : M' 67 1 = M 67 1 ∧ M' 67 2 = M 67 2) (h2 : M' 68 = M 68) : bt_mW M' p w := by
  obtain ⟨hf, g1, g2, rest⟩ := hw
  unfold bt_mW bt_pg
  rw [h1.1, h1.2, h2]
  exact ⟨hf, g1, g2, rest⟩
theorem bt_mI_uz {M M' : bt_M} {w : bt_W} {im : Nat → bt_W} {u u' : Nat → Nat} {z z' : Nat → Nat → Nat} {q : Nat → Nat → Int32} (h : bt_mI M (w, im, u, z, q)) (hs : bt_sW w im u' z') (hu : u' 1 = u 1 ∧ u' 3 = u 3 ∧ u' 4 = u 4 ∧ u' 2 = u 2 ∧ ∀ k, k < 4 → u' (6 + k) = u (6 + k) ∧ u' (10 + k) = u (10 + k)) (h1 : ∀ x : Nat, 68 ≤ x → x ≠ 71 → x ≠ 74 → M' x = M x) (h0 : ∀ f, f ≠ 10 → f ≠ 21 → M' 67 f = M 67 f) (h8 : M' 67 10 = nI (u' 0)) (ht : ∀ j, j < u' 0 → M' 71 j = nI (z' 0 j)) (h5 : M' 67 21 = nI (u' 5)) (hn : ∀ n, n < u' 5 → M' 74 (2 * n) = nI (z' 1 n) ∧ M' 74 (2 * n + 1) = nI (z' 2 n)) : bt_mI M' (w, im, u', z', q) := by
  obtain ⟨a1, a2, a3, a4, a5, a6, a7, a8, a9, a10, a11, a12, a13, a14, a15⟩ := h
  obtain ⟨u1, u3, u4, u2, u6⟩ := hu
  have k12 : M' 67 1 = M 67 1 ∧ M' 67 2 = M 67 2 := ⟨h0 1 (by omega) (by omega), h0 2 (by omega) (by omega)⟩
  have k68 : M' 68 = M 68 := h1 68 (by omega) (by omega) (by omega)
  refine ⟨bt_mW_far a1 k12 k68, hs, h8, ht, ?_, ?_, ?_, ?_, ?_, ?_, ?_, h5, hn, ?_, ?_⟩
  · rw [h0 11 (by omega) (by omega), u1]; exact a5
  · rw [h0 26 (by omega) (by omega), u2]; exact a6
  · rw [h1 75 (by omega) (by omega) (by omega), u3]; exact a7
  · rw [h1 75 (by omega) (by omega) (by omega), u4]; exact a8
  · rw [u3]; exact fun y => bt_mW_far (a9 y) k12 k68
  · rw [u4]; exact fun y => bt_mW_far (a10 y) k12 k68
  · intro k hk
    rw [h1 76 (by omega) (by omega) (by omega), h1 77 (by omega) (by omega) (by omega), h1 78 (by omega) (by omega) (by omega), (u6 k hk).1, (u6 k hk).2]; exact a11 k hk
  · rw [h1 72 (by omega) (by omega) (by omega)]; exact a14
  · rw [h1 73 (by omega) (by omega) (by omega)]; exact a15
theorem bt_un {u : Nat → Nat} {i v : Nat} : ∀ k, k ≠ i → va_up u i v k = u k := fun k h => bt_up_n h

def f_polite : bt_fn := fun t S => match t, S with
  | [.int v], (w, im, u, z, q) => some (.int (if bt_in v 7 then nI (w 12 3) else -1), (if bt_in v 7 then bt_w1 w 12 3 v.toNatClampNeg else w, im, u, z, q))
  | _, _ => none

def bt_CX5_polite : bt_C := [(51, 0, 3, sX5_within)]
def sX5_polite : bt_Sp := bt_spC f_polite
set_option maxRecDepth 100000 in
theorem mX5_polite : bt_MT bt_TX5_polite bt_FX5 bt_CX5_polite 1 3 sX5_polite := by
  intro as M N Rt h P hP
  obtain ⟨t, S, r, S', rfl, hI, hf, h⟩ := bt_spC_e h
  obtain ⟨w, im, u, z, q⟩ := S
  unfold f_polite at hf
  split at hf
  · next v _ _ _ _ _ e =>
    cases e
    obtain ⟨rfl, rfl⟩ := bt_some hf
    obtain ⟨a1, a2, a3, a4, a5, a6, a7, a8, a9, a10, a11, a12⟩ := id hI
    obtain ⟨b0, b1, b2, b3, b4, b5, b6, b7, b8, b9, b10⟩ := id a2
    obtain ⟨hw, h8, h9, h10, h11, h12, h13, h14, h15, h16, h17, r1, r2, r3, r4, r5, r6, r7, r8⟩ := id a1
    obtain ⟨f1, f2, f3, f4, f5, f6, f7, f8, f9, f10, f11, f12, f13, f14, f15, f16, f17, f18⟩ := id hw
    refine bt_go0 rfl hP 40 ?_
    refine ⟨fun y => ?_, fun y => ?_⟩
    · rw [bt_bi_n0, bt_in_c (k := 6) (show (6 : Int32) = nI 6 from rfl) (by omega)] at y
      rw [if_pos y, if_pos y] at h
      obtain ⟨j, hj, rfl⟩ := bt_in_e y
      rw [bt_clm (by omega)] at h
      intro M' e
      have key := h M' N (fun x hx => by rw [e, bt_up_n (by omega)]) (bt_cI_live hI (bt_cW_le a1 (Nat.le_of_lt_succ hj) (fun x hx => by rw [e, bt_up_n hx]) (fun i hi => by rw [e, bt_up_s, pk_un hi]) (by rw [e, bt_up_s, pk_us])) ⟨rfl, rfl⟩ (fun x hx => by rw [e, bt_up_n (by omega)]))
      rw [← h15] at key
      exact key
    · rw [bt_bi_0, bt_in_c (k := 6) (show (6 : Int32) = nI 6 from rfl) (by omega)] at y
      rw [if_neg y, if_neg y] at h
      exact h M N (fun _ _ => rfl) hI
  · cases hf

def bt_CX6_polite : bt_C := [(46, 0, 3, sX6_in), (167, 1, 4, sX6_sets)]
def sX6_polite : bt_Sp := bt_spM f_polite
set_option maxRecDepth 100000 in
theorem mX6_polite : bt_MT bt_TX6_polite bt_FX6 bt_CX6_polite 1 2 sX6_polite := by
  intro as M N Rt h P hP
  obtain ⟨t, S, r, S', rfl, hI, hf, h⟩ := bt_spM_e h
  obtain ⟨w, im, u, z, q⟩ := S
  unfold f_polite at hf
  split at hf
  · next v _ _ _ _ _ e =>
    cases e
    obtain ⟨rfl, rfl⟩ := bt_some hf
    obtain ⟨a1, a2, a3, a4, a5, a6, a7, a8, a9, a10, a11, a12, a13, a14, a15⟩ := id hI
    obtain ⟨b0, b1, b2, b3, b4, b5, b6, b7, b8, b9, b10⟩ := id a2
    obtain ⟨hw, g1, g2, g3, g4, g5, g6, r0, r1, r2, r3, r4, r5, r6, c7, c8, c9, c10, c11⟩ := id a1
    obtain ⟨f1, f2, f3, f4, f5, f6, f7, f8, f9, f10, f11, f12, f13, f14, f15, f16, f17, f18⟩ := id hw
    simp only [Nat.zero_add] at g3 g4 g5 g6 r0 r1 r2 r3 r4 r5 r6 c7 c8 c9 c10
    refine bt_go0 rfl hP 40 ?_
    refine ⟨rfl, fun y => ?_, fun y => ?_⟩
    · rw [bt_bi_0, bt_inl_c (k := 6) (show (6 : Int64) = lN 6 from rfl) (by omega)] at y
      rw [if_neg y, if_neg y] at h
      exact h M (fun _ _ => rfl) hI
    · rw [bt_bi_n0, bt_inl_c (k := 6) (show (6 : Int64) = lN 6 from rfl) (by omega)] at y
      rw [if_pos y, if_pos y] at h
      obtain ⟨j, hj, rfl⟩ := bt_in_e y
      rw [bt_clm (by omega)] at h
      refine ⟨57, rfl, by omega, fun M' e => ?_⟩
      have key := h M' (fun x hx => by rw [e, bt_up_n (by omega)]) (bt_mI_live hI (bt_mW_le a1 (Nat.le_of_lt_succ hj) (fun x hx => by rw [e, bt_up_n hx]) (fun i hi => by rw [e, bt_up_s, pk_un (by omega)]) (by rw [e, bt_up_s, Nat.zero_add, pk_us])) ⟨rfl, rfl⟩ (fun x _ hx => by rw [e, bt_up_n hx]) (fun i hi _ => by rw [e, bt_up_s, pk_un (by omega)]))
      rw [← g4] at key
      exact key
  · cases hf

def f_build : bt_fn := fun t S => match t, S with
  | [.int i, .int x, .int b], (w, im, u, z, q) => some (.int (if bt_in i (w 12 0) then (if x = 0 then nI (w 5 i.toNatClampNeg) else if x = 1 then nI (w 6 i.toNatClampNeg) else if x = 2 then nI (w 4 i.toNatClampNeg) else -1) else -1), (if bt_in i (w 12 0) then (if x = 0 then bt_w1 w 5 i.toNatClampNeg (if b = 0 then 0 else 1) else if x = 1 then bt_w1 w 6 i.toNatClampNeg (if b = 0 then 0 else 1) else if x = 2 then bt_w1 w 4 i.toNatClampNeg (if b = 0 then 0 else 1) else w) else w, im, u, z, q))
  | _, _ => none

def bt_CX5_build : bt_C := [(107, 1, 2, sX5_isStretch), (126, 0, 2, sX5_bit), (162, 0, 3, sX5_withBit)]
def sX5_build : bt_Sp := bt_spC f_build
set_option maxRecDepth 100000 in
theorem mX5_build : bt_MT bt_TX5_build bt_FX5 bt_CX5_build 1 5 sX5_build := by
  intro as M N Rt h P hP
  obtain ⟨t, S, r, S', rfl, hI, hf, h⟩ := bt_spC_e h
  obtain ⟨w, im, u, z, q⟩ := S
  unfold f_build at hf
  split at hf
  · next i x b _ _ _ _ _ e =>
    cases e
    obtain ⟨rfl, rfl⟩ := bt_some hf
    obtain ⟨a1, a2, a3, a4, a5, a6, a7, a8, a9, a10, a11, a12⟩ := id hI
    obtain ⟨b0, b1, b2, b3, b4, b5, b6, b7, b8, b9, b10⟩ := id a2
    obtain ⟨hw, h8, h9, h10, h11, h12, h13, h14, h15, h16, h17, r1, r2, r3, r4, r5, r6, r7, r8⟩ := id a1
    obtain ⟨f1, f2, f3, f4, f5, f6, f7, f8, f9, f10, f11, f12, f13, f14, f15, f16, f17, f18⟩ := id hw
    refine bt_go0 rfl hP 60 ?_
    have hv : (if b = 0 then 0 else 1) ≤ 1 := by split <;> omega
    refine ⟨w 12 0, rfl, h8, f1, ⟨fun y => ?_, fun y => ?_⟩⟩
    · rw [bt_bi_n0] at y
      rw [if_pos y, if_pos y] at h
      obtain ⟨j, hj, rfl⟩ := bt_in_e y
      rw [bt_clm (by omega)] at h
      refine ⟨fun z0 => ?_, fun z0 => ⟨fun z1 => ?_, fun z1 => ⟨fun z2 => ?_, fun z2 => ?_⟩⟩⟩
      · rw [if_pos z0, if_pos z0] at h
        intro M' e
        have eb := bt_bitN f12 (n := w 12 0) (k := j) (by omega) (by omega)
        rw [if_pos hj, ← h10] at eb
        have key := h M' N (fun x hx => by rw [e, bt_up_n (by omega)]) (bt_cI_live hI (bt_cW_mask (s := 10) a1 hv (by omega) (fun x hx => by rw [e, bt_up_n hx]) (fun i hi => by rw [e, bt_up_s, pk_un hi]) (by rw [e, bt_up_s, pk_us, h10]; exact bt_setb f12 f1 hj b)) ⟨rfl, rfl⟩ (fun x hx => by rw [e, bt_up_n (by omega)]))
        rw [← eb] at key
        exact key
      · rw [if_neg z0, if_pos z1, if_neg z0, if_pos z1] at h
        intro M' e
        have eb := bt_bitN f13 (n := w 12 0) (k := j) (by omega) (by omega)
        rw [if_pos hj, ← h11] at eb
        have key := h M' N (fun x hx => by rw [e, bt_up_n (by omega)]) (bt_cI_live hI (bt_cW_mask (s := 11) a1 hv (by omega) (fun x hx => by rw [e, bt_up_n hx]) (fun i hi => by rw [e, bt_up_s, pk_un hi]) (by rw [e, bt_up_s, pk_us, h11]; exact bt_setb f13 f1 hj b)) ⟨rfl, rfl⟩ (fun x hx => by rw [e, bt_up_n (by omega)]))
        rw [← eb] at key
        exact key
      · rw [if_neg z0, if_neg z1, if_pos z2, if_neg z0, if_neg z1, if_pos z2] at h
        intro M' e
        have eb := bt_bitN f11 (n := w 12 0) (k := j) (by omega) (by omega)
        rw [if_pos hj, ← h9] at eb
        have key := h M' N (fun x hx => by rw [e, bt_up_n (by omega)]) (bt_cI_live hI (bt_cW_mask (s := 9) a1 hv (by omega) (fun x hx => by rw [e, bt_up_n hx]) (fun i hi => by rw [e, bt_up_s, pk_un hi]) (by rw [e, bt_up_s, pk_us, h9]; exact bt_setb f11 f1 hj b)) ⟨rfl, rfl⟩ (fun x hx => by rw [e, bt_up_n (by omega)]))
        rw [← eb] at key
        exact key
      · rw [if_neg z0, if_neg z1, if_neg z2, if_neg z0, if_neg z1, if_neg z2] at h
        exact h M N (fun _ _ => rfl) hI
    · rw [bt_bi_0] at y
      rw [if_neg y, if_neg y] at h
      exact h M N (fun _ _ => rfl) hI
  · cases hf

def bt_CX6_build : bt_C := [(149, 1, 2, sX6_isRoad), (46, 0, 3, sX6_in), (167, 1, 4, sX6_sets)]
def sX6_build : bt_Sp := bt_spM f_build
set_option maxRecDepth 100000 in
theorem mX6_build : bt_MT bt_TX6_build bt_FX6 bt_CX6_build 1 5 sX6_build := by
  intro as M N Rt h P hP
  obtain ⟨t, S, r, S', rfl, hI, hf, h⟩ := bt_spM_e h
  obtain ⟨w, im, u, z, q⟩ := S
  unfold f_build at hf
  split at hf
  · next i x b _ _ _ _ _ e =>
    cases e
    obtain ⟨rfl, rfl⟩ := bt_some hf
    obtain ⟨a1, a2, a3, a4, a5, a6, a7, a8, a9, a10, a11, a12, a13, a14, a15⟩ := id hI
    obtain ⟨b0, b1, b2, b3, b4, b5, b6, b7, b8, b9, b10⟩ := id a2
    obtain ⟨hw, g1, g2, g3, g4, g5, g6, r0, r1, r2, r3, r4, r5, r6, c7, c8, c9, c10, c11⟩ := id a1
    obtain ⟨f1, f2, f3, f4, f5, f6, f7, f8, f9, f10, f11, f12, f13, f14, f15, f16, f17, f18⟩ := id hw
    simp only [Nat.zero_add] at g3 g4 g5 g6 r0 r1 r2 r3 r4 r5 r6 c7 c8 c9 c10
    have hbad : ¬ bt_in i (w 12 0) ∨ ¬ bt_in x 3 → Rt (some (.int (-1))) M N := by
      rintro (y | y)
      · rw [if_neg y, if_neg y] at h
        exact h M (fun _ _ => rfl) hI
      · have hx : ∀ a : Nat, a < 3 → ¬ x = nI a := fun a ha e => y (by rw [e, bt_in_nI (by omega)]; exact ha)
        rw [if_neg (show ¬ x = 0 from hx 0 (by omega)), if_neg (show ¬ x = 1 from hx 1 (by omega)), if_neg (show ¬ x = 2 from hx 2 (by omega)), if_neg (show ¬ x = 0 from hx 0 (by omega)), if_neg (show ¬ x = 1 from hx 1 (by omega)), if_neg (show ¬ x = 2 from hx 2 (by omega))] at h
        rw [ite_self, ite_self] at h
        exact h M (fun _ _ => rfl) hI
    have hgood : ∀ j f at_ v, i = nI j → j < w 12 0 → (f = 4 ∨ f = 5 ∨ f = 6) → v = (if b = 0 then 0 else 1) → ((x = 0 ∧ f = 5) ∨ (x = 1 ∧ f = 6) ∨ (x = 2 ∧ f = 4)) → at_ = nI f → ∃ j', 7 * i + at_ = nI j' ∧ j' < 540 ∧ ∀ M', M' = va_up M 68 (upd (M 68) j' (nI v)) → Rt (some (.int (M 68 j'))) M' N := by
      rintro j f at_ v rfl hj hf6 hv hx rfl
      refine ⟨7 * j + f, by simp only [bt_lit, pk_mul, nI_add], by omega, fun M' e => ?_⟩
      have hv1 : v ≤ 1 := by rw [hv]; split <;> omega
      have hbd : v ≤ bt_at bt_bnd f 0 := by rcases hf6 with rfl | rfl | rfl <;> exact hv1
      have hin : bt_in (nI j) (w 12 0) := (bt_in_nI (by omega)).mpr hj
      rw [if_pos hin, if_pos hin, bt_clm (by omega), ← hv] at h
      have hmI := bt_mI_live (M' := M') (w' := bt_w1 w f j v) hI (bt_mW_st a1 (by omega) (by omega) hbd (fun x hx => by rw [e, bt_up_n hx]) (fun i hi => by rw [e, bt_up_s, pk_un (by omega)]) (by rw [if_neg (by omega), e, bt_up_s, Nat.zero_add, pk_us])) ⟨by rw [bt_w1_n (by omega)], by rw [bt_w1_n (by omega)]⟩ (fun x _ hx => by rw [e, bt_up_n hx]) (fun i hi _ => by rw [e, bt_up_s, pk_un (by omega)])
      have hmf : bt_mfx M M' := fun x hx => by rw [e, bt_up_n (by omega)]
      have n01 : ¬ (1 : Int32) = 0 := by decide
      have n02 : ¬ (2 : Int32) = 0 := by decide
      have n12 : ¬ (2 : Int32) = 1 := by decide
      rcases hx with ⟨rfl, rfl⟩ | ⟨rfl, rfl⟩ | ⟨rfl, rfl⟩
      · rw [if_pos rfl, if_pos rfl] at h
        have key := h M' hmf hmI
        rw [← r5 j hj] at key
        exact key
      · rw [if_neg n01, if_pos rfl, if_neg n01, if_pos rfl] at h
        have key := h M' hmf hmI
        rw [← r6 j hj] at key
        exact key
      · rw [if_neg n02, if_neg n12, if_pos rfl, if_neg n02, if_neg n12, if_pos rfl] at h
        have key := h M' hmf hmI
        rw [← r4 j hj] at key
        exact key
    have fin : ∀ at_ f, ((x = 0 ∧ f = 5) ∨ (x = 1 ∧ f = 6) ∨ (¬ x = 0 ∧ ¬ x = 1 ∧ f = 4)) → at_ = nI f → P 19 [some (.ref 67), some (.int i), some (.int x), some (.int b), none] [.int at_] M N := by
      intro at_ f hx hat
      refine bt_go0 rfl hP 60 ?_
      refine ⟨w 12 0, rfl, g1, f1, ⟨fun y => ?_, fun y => ⟨fun y2 => ?_, fun y2 => ?_⟩⟩⟩
      · rw [bt_bi_0] at y
        exact ⟨fun _ => ⟨rfl, fun _ => hbad (Or.inl y), fun c => absurd rfl c⟩, fun _ => ⟨rfl, fun _ => hbad (Or.inl y), fun c => absurd rfl c⟩⟩
      · rw [bt_bi_0, bt_inl_c (k := 2) (show (2 : Int64) = lN 2 from rfl) (by omega)] at y2
        exact ⟨fun _ => ⟨rfl, fun _ => hbad (Or.inr y2), fun c => absurd rfl c⟩, fun _ => ⟨rfl, fun _ => hbad (Or.inr y2), fun c => absurd rfl c⟩⟩
      · rw [bt_bi_n0] at y
        rw [bt_bi_n0, bt_inl_c (k := 2) (show (2 : Int64) = lN 2 from rfl) (by omega)] at y2
        obtain ⟨j, hj, ej⟩ := bt_in_e y
        have hx2 : (x = 0 ∧ f = 5) ∨ (x = 1 ∧ f = 6) ∨ (x = 2 ∧ f = 4) := by
          rcases hx with c | c | ⟨c1, c2, c3⟩
          · exact Or.inl c
          · exact Or.inr (Or.inl c)
          · obtain ⟨a, ha, rfl⟩ := bt_in_e y2
            rcases (show a = 0 ∨ a = 1 ∨ a = 2 by omega) with rfl | rfl | rfl
            · exact absurd rfl c1
            · exact absurd rfl c2
            · exact Or.inr (Or.inr ⟨rfl, c3⟩)
        refine ⟨fun c => ⟨rfl, fun c2 => absurd c2 (by decide), fun _ => hgood j f at_ 0 ej hj (by omega) (by rw [if_pos c]) hx2 hat⟩, fun c => ⟨rfl, fun c2 => absurd c2 (by decide), fun _ => hgood j f at_ 1 ej hj (by omega) (by rw [if_neg c]) hx2 hat⟩⟩
    refine bt_go rfl hP 60 [19] P (fun _ _ _ _ _ h => h) ?_
    refine ⟨fun c => ⟨fun c2 => fin _ 4 (Or.inr (Or.inr ⟨c, c2, rfl⟩)) rfl, fun c2 => fin _ 6 (Or.inr (Or.inl ⟨c2, rfl⟩)) rfl⟩, fun c => fin _ 5 (Or.inl ⟨c, rfl⟩) rfl⟩
  · cases hf

def f_teach : bt_fn := fun t S => match t, S with
  | [.int k, .int kd, .int nd], (w, im, u, z, q) => some (.int (if (bt_in k (w 12 1) ∧ bt_in kd 5 ∧ bt_nd nd) then nI (w 7 k.toNatClampNeg) else -1), (if (bt_in k (w 12 1) ∧ bt_in kd 5 ∧ bt_nd nd) then bt_w1 (bt_w1 w 8 k.toNatClampNeg nd.toNatClampNeg) 7 k.toNatClampNeg kd.toNatClampNeg else w, im, u, z, q))
  | _, _ => none

def bt_CX5_teach : bt_C := [(136, 1, 2, sX5_isCar), (51, 0, 3, sX5_within), (158, 0, 3, sX5_exchange)]
def sX5_teach : bt_Sp := bt_spC f_teach
set_option maxRecDepth 100000 in
theorem mX5_teach : bt_MT bt_TX5_teach bt_FX5 bt_CX5_teach 1 4 sX5_teach := by
  intro as M N Rt h P hP
  obtain ⟨t, S, r, S', rfl, hI, hf, h⟩ := bt_spC_e h
  obtain ⟨w, im, u, z, q⟩ := S
  unfold f_teach at hf
  split at hf
  · next k kd nd _ _ _ _ _ e =>
    cases e
    obtain ⟨rfl, rfl⟩ := bt_some hf
    obtain ⟨a1, a2, a3, a4, a5, a6, a7, a8, a9, a10, a11, a12⟩ := id hI
    obtain ⟨b0, b1, b2, b3, b4, b5, b6, b7, b8, b9, b10⟩ := id a2
    obtain ⟨hw, h8, h9, h10, h11, h12, h13, h14, h15, h16, h17, r1, r2, r3, r4, r5, r6, r7, r8⟩ := id a1
    obtain ⟨f1, f2, f3, f4, f5, f6, f7, f8, f9, f10, f11, f12, f13, f14, f15, f16, f17, f18⟩ := id hw
    have hbad : ¬ (bt_in k (w 12 1) ∧ bt_in kd 5 ∧ bt_nd nd) → Rt (some (.int (-1))) M N := fun y => by
      rw [if_neg y, if_neg y] at h
      exact h M N (fun _ _ => rfl) hI
    refine bt_go0 rfl hP 60 ?_
    refine ⟨w 12 1, rfl, h12, f2, ⟨fun y => ?_, fun y => ⟨fun y2 => ?_, fun y2 => ⟨fun y3 => ?_, fun y3 => ?_⟩⟩⟩⟩
    · rw [bt_bi_0] at y
      exact hbad (fun c => y c.1)
    · rw [bt_bi_0, bt_in_c (k := 4) (show (4 : Int32) = nI 4 from rfl) (by omega)] at y2
      exact hbad (fun c => y2 c.2.1)
    · rw [bt_bi_n0] at y
      rw [bt_bi_n0, bt_in_c (k := 4) (show (4 : Int32) = nI 4 from rfl) (by omega)] at y2
      rw [bt_bi_n0, bt_nd_c] at y3
      rw [if_pos ⟨y, y2, y3⟩, if_pos ⟨y, y2, y3⟩] at h
      obtain ⟨j, hj, rfl⟩ := bt_in_e y
      obtain ⟨a, ha, rfl⟩ := bt_in_e y2
      obtain ⟨d, hd, rfl⟩ := bt_nd_e y3
      rw [bt_clm (by omega), bt_clm (by omega), bt_clm (by omega)] at h
      refine ⟨_, rfl, j, rfl, by omega, fun M1 e1 => ?_⟩
      refine ⟨_, j, rfl, rfl, by omega, fun M' e => ?_⟩
      have w1 := bt_cW_row (f := 8) (r := 6) (k := j) (v := d) (M' := M1) a1 hd (by omega) (fun x hx => by rw [e1, bt_up_n (by omega)]) (fun i => by rw [e1, bt_up_s]; rfl)
      have w2 := bt_cW_row (f := 7) (r := 5) (k := j) (v := a) (M' := M') w1 (show a ≤ 4 by omega) (by omega) (fun x hx => by rw [e, bt_up_n (by omega)]) (fun i => by rw [e, bt_up_s]; rfl)
      have key := h M' N (fun x hx => by rw [e, bt_up_n (by omega), e1, bt_up_n (by omega)]) (bt_cI_live hI w2 ⟨rfl, rfl⟩ (fun x hx => by rw [e, bt_up_n (by omega), e1, bt_up_n (by omega)]))
      have e5 := r5 j hj
      rw [← e5] at key
      rw [e1, bt_up_n (by omega)]
      exact key
    · rw [bt_bi_0, bt_nd_c] at y3
      exact hbad (fun c => y3 c.2.2)
  · cases hf

def bt_CX6_teach : bt_C := [(153, 1, 2, sX6_isCar), (46, 0, 3, sX6_in), (167, 1, 4, sX6_sets)]
def sX6_teach : bt_Sp := bt_spM f_teach
set_option maxRecDepth 100000 in
theorem mX6_teach : bt_MT bt_TX6_teach bt_FX6 bt_CX6_teach 1 4 sX6_teach := by
  intro as M N Rt h P hP
  obtain ⟨t, S, r, S', rfl, hI, hf, h⟩ := bt_spM_e h
  obtain ⟨w, im, u, z, q⟩ := S
  unfold f_teach at hf
  split at hf
  · next k kd nd _ _ _ _ _ e =>
    cases e
    obtain ⟨rfl, rfl⟩ := bt_some hf
    obtain ⟨a1, a2, a3, a4, a5, a6, a7, a8, a9, a10, a11, a12, a13, a14, a15⟩ := id hI
    obtain ⟨b0, b1, b2, b3, b4, b5, b6, b7, b8, b9, b10⟩ := id a2
    obtain ⟨hw, g1, g2, g3, g4, g5, g6, r0, r1, r2, r3, r4, r5, r6, c7, c8, c9, c10, c11⟩ := id a1
    obtain ⟨f1, f2, f3, f4, f5, f6, f7, f8, f9, f10, f11, f12, f13, f14, f15, f16, f17, f18⟩ := id hw
    simp only [Nat.zero_add] at g3 g4 g5 g6 r0 r1 r2 r3 r4 r5 r6 c7 c8 c9 c10
    have hbad : ¬ (bt_in k (w 12 1) ∧ bt_in kd 5 ∧ bt_nd nd) → Rt (some (.int (-1))) M N := fun y => by
      rw [if_neg y, if_neg y] at h
      exact h M (fun _ _ => rfl) hI
    refine bt_go0 rfl hP 60 ?_
    refine ⟨w 12 1, rfl, g2, f2, ⟨fun y => ?_, fun y => ⟨fun y2 => ?_, fun y2 => ⟨fun y3 => ?_, fun y3 => ?_⟩⟩⟩⟩
    · rw [bt_bi_0] at y
      exact hbad (fun c => y c.1)
    · rw [bt_bi_0, bt_inl_c (k := 4) (show (4 : Int64) = lN 4 from rfl) (by omega)] at y2
      exact hbad (fun c => y2 c.2.1)
    · rw [bt_bi_n0] at y
      rw [bt_bi_n0, bt_inl_c (k := 4) (show (4 : Int64) = lN 4 from rfl) (by omega)] at y2
      rw [bt_bi_n0, bt_nd_l] at y3
      rw [if_pos ⟨y, y2, y3⟩, if_pos ⟨y, y2, y3⟩] at h
      obtain ⟨j, hj, rfl⟩ := bt_in_e y
      obtain ⟨a, ha, rfl⟩ := bt_in_e y2
      obtain ⟨d, hd, rfl⟩ := bt_nd_e y3
      rw [bt_clm (by omega), bt_clm (by omega), bt_clm (by omega)] at h
      refine ⟨_, rfl, 58 + 5 * j + 1, by simp only [bt_lit, pk_mul, nI_add], by omega, fun M1 e1 => ?_⟩
      refine ⟨rfl, fun c => absurd c (by decide), fun _ => ⟨58 + 5 * j, by simp only [bt_lit, pk_mul, nI_add], by omega, fun M' e => ?_⟩⟩
      have w1 := bt_mW_car (f := 8) (k := j) (v := d) (M' := M1) a1 (by omega) (by omega) (by omega) hd (fun x hx => by rw [e1, bt_up_n hx]) (fun i hi => by rw [e1, bt_up_s, pk_un (by omega)]) (by rw [e1, bt_up_s, Nat.zero_add, pk_us])
      have w2 := bt_mW_car (f := 7) (k := j) (v := a) (M' := M') w1 (by omega) (by omega) (by omega) (show a ≤ 4 by omega) (fun x hx => by rw [e, bt_up_n hx]) (fun i hi => by rw [e, bt_up_s, pk_un (by omega)]) (by rw [e, bt_up_s, Nat.zero_add]; exact pk_us)
      have key := h M' (fun x hx => by rw [e, bt_up_n (by omega), e1, bt_up_n (by omega)]) (bt_mI_live hI w2 ⟨rfl, rfl⟩ (fun x _ hx => by rw [e, bt_up_n hx, e1, bt_up_n hx]) (fun i hi _ => by rw [e, bt_up_s, pk_un (by omega), e1, bt_up_s, pk_un (by omega)]))
      rw [← c7 j hj] at key
      rw [e1, bt_up_s, pk_un (by omega)]
      rw [e1] at e
      exact key
    · rw [bt_bi_0, bt_nd_l] at y3
      exact hbad (fun c => y3 c.2.2)
  · cases hf
