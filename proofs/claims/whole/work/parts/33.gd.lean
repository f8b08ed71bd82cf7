/-! CALLS, BOTH SIDES: images, sheets -/

theorem bt_sW_im {w : bt_W} {im : Nat → bt_W} {u : Nat → Nat} {z : Nat → Nat → Nat} (h : bt_sW w im u z) {j : Nat} (hj : j < 2) : bt_sW w (va_up im j w) (va_up u (3 + j) 1) z := by
  obtain ⟨b0, b1, b2, b3, b4, b5, b6, b7, b8, b9, b10⟩ := h
  refine ⟨by rw [bt_un 0 (by omega)]; exact b0, b1, by rw [bt_un 1 (by omega)]; exact b2, by rw [bt_un 2 (by omega)]; exact b3, ?_, ?_, by rw [bt_un 5 (by omega)]; exact b6, fun k hk => by rw [bt_un (6 + k) (by omega), bt_un (10 + k) (by omega)]; exact b7 k hk, by rw [bt_un 5 (by omega)]; exact b8, ?_, ?_⟩
  all_goals obtain rfl | rfl : j = 0 ∨ j = 1 := by omega
  · rw [bt_up_s]; omega
  · rw [bt_un 3 (by omega)]; exact b4
  · rw [bt_un 4 (by omega)]; exact b5
  · rw [bt_up_s]; omega
  · rw [bt_up_s]; exact fun _ => ⟨rfl, rfl⟩
  · rw [bt_un 3 (by omega), bt_up_n (by omega)]; exact b9
  · rw [bt_un 4 (by omega), bt_up_n (by omega)]; exact b10
  · rw [bt_up_s, bt_up_s]; exact fun _ => ⟨rfl, rfl⟩
theorem bt_cI_im {M M' : bt_M} {w : bt_W} {im : Nat → bt_W} {u : Nat → Nat} {z : Nat → Nat → Nat} {q : Nat → Nat → Int32} (h : bt_cI M (w, im, u, z, q)) {j : Nat} (hj : j < 2) (h1 : ∀ x : Nat, x ≠ 0 → (x < 22 + 9 * j ∨ 22 + 9 * j + 8 < x) → M' x = M x) (h0 : ∀ f, f ≠ 7 → M' 0 f = M 0 f) (h10 : M' 0 7 = nI (va_up u (3 + j) 1 3 + 2 * va_up u (3 + j) 1 4)) (hw : bt_cW M' (22 + 9 * j) w) : bt_cI M' (w, va_up im j w, va_up u (3 + j) 1, z, q) := by
  obtain ⟨a1, a2, a3, a4, a5, a6, a7, a8, a9, a10, a11, a12⟩ := h
  refine ⟨bt_cW_kept a1 (fun x _ _ => h1 x (by omega) (by omega)), bt_sW_im a2 hj, ?_, ?_, ?_, h10, ?_, ?_, ?_, ?_, ?_, ?_⟩
  · rw [h1 20 (by omega) (by omega), bt_un 0 (by omega)]; exact a3
  · rw [h1 1 (by omega) (by omega), bt_un 0 (by omega)]; exact a4
  · rw [h1 20 (by omega) (by omega), bt_un 1 (by omega)]; exact a5
  · rw [h0 8 (by omega), bt_un 2 (by omega)]; exact a7
  · obtain rfl | rfl : j = 0 ∨ j = 1 := by omega
    · rw [bt_up_s]; exact fun _ => hw
    · rw [bt_un 3 (by omega), bt_up_n (by omega)]; exact fun y => bt_cW_kept (a8 y) (fun x _ _ => h1 x (by omega) (by omega))
  · obtain rfl | rfl : j = 0 ∨ j = 1 := by omega
    · rw [bt_un 4 (by omega), bt_up_n (by omega)]; exact fun y => bt_cW_kept (a9 y) (fun x _ _ => h1 x (by omega) (by omega))
    · rw [bt_up_s, bt_up_s]; exact fun _ => hw
  · intro k hk
    rw [h1 (41 + 2 * k) (by omega) (by omega), h1 (42 + 2 * k) (by omega) (by omega), bt_un (6 + k) (by omega), bt_un (10 + k) (by omega)]; exact a10 k hk
  · rw [h1 49 (by omega) (by omega), bt_un 5 (by omega)]; exact a11
  · rw [h1 50 (by omega) (by omega), h1 51 (by omega) (by omega), bt_un 5 (by omega)]; exact a12
theorem bt_mI_im {M M' : bt_M} {w : bt_W} {im : Nat → bt_W} {u : Nat → Nat} {z : Nat → Nat → Nat} {q : Nat → Nat → Int32} (h : bt_mI M (w, im, u, z, q)) {j : Nat} (hj : j < 2) (h1 : ∀ x : Nat, 67 ≤ x → x ≠ 68 → x ≠ 75 → M' x = M x) (h75 : M' 75 = upd (M 75) j 1) (h68 : ∀ i : Nat, (i < 90 * (j + 1) ∨ 90 * (j + 1) + 90 ≤ i) → M' 68 i = M 68 i) (hw : bt_mW M' (90 * (j + 1)) w) : bt_mI M' (w, va_up im j w, va_up u (3 + j) 1, z, q) := by
  obtain ⟨a1, a2, a3, a4, a5, a6, a7, a8, a9, a10, a11, a12, a13, a14, a15⟩ := h
  have kp : ∀ {p : Nat} {w : bt_W}, bt_mW M p w → (p + 90 ≤ 90 * (j + 1) ∨ 90 * (j + 1) + 90 ≤ p) → bt_mW M' p w := by
    intro p w hw hp
    obtain ⟨hf, g1, g2, g3, g4, g5, g6, r0, r1, r2, r3, r4, r5, r6, c7, c8, c9, c10, c11⟩ := hw
    have hn := hf.1
    have hm := hf.2.1
    refine ⟨hf, ?_, ?_, ?_, ?_, ?_, ?_, ?_, ?_, ?_, ?_, ?_, ?_, ?_, ?_, ?_, ?_, ?_, ?_⟩
    · rw [h1 67 (by omega) (by omega) (by omega)]; exact g1
    · rw [h1 67 (by omega) (by omega) (by omega)]; exact g2
    · rw [h68 _ (by omega)]; exact g3
    · rw [h68 _ (by omega)]; exact g4
    · rw [h68 _ (by omega)]; exact g5
    · rw [h68 _ (by omega)]; exact g6
    · intro i hi; rw [h68 _ (by omega)]; exact r0 i hi
    · intro i hi; rw [h68 _ (by omega)]; exact r1 i hi
    · intro i hi; rw [h68 _ (by omega)]; exact r2 i hi
    · intro i hi; rw [h68 _ (by omega)]; exact r3 i hi
    · intro i hi; rw [h68 _ (by omega)]; exact r4 i hi
    · intro i hi; rw [h68 _ (by omega)]; exact r5 i hi
    · intro i hi; rw [h68 _ (by omega)]; exact r6 i hi
    · intro i hi; rw [h68 _ (by omega)]; exact c7 i hi
    · intro i hi; rw [h68 _ (by omega)]; exact c8 i hi
    · intro i hi; rw [h68 _ (by omega)]; exact c9 i hi
    · intro i hi; rw [h68 _ (by omega)]; exact c10 i hi
    · intro i hi; rw [h68 _ (by omega)]; exact c11 i hi
  have hx := fun x (y1 : 67 ≤ x) (y2 : x ≠ 68) (y3 : x ≠ 75) => h1 x y1 y2 y3
  refine ⟨kp a1 (by omega), bt_sW_im a2 hj, ?_, ?_, ?_, ?_, ?_, ?_, ?_, ?_, ?_, ?_, ?_, ?_, ?_⟩
  · rw [h1 67 (by omega) (by omega) (by omega), bt_un 0 (by omega)]; exact a3
  · rw [h1 71 (by omega) (by omega) (by omega), bt_un 0 (by omega)]; exact a4
  · rw [h1 67 (by omega) (by omega) (by omega), bt_un 1 (by omega)]; exact a5
  · rw [h1 67 (by omega) (by omega) (by omega), bt_un 2 (by omega)]; exact a6
  · obtain rfl | rfl : j = 0 ∨ j = 1 := by omega
    · rw [bt_up_s, h75, pk_us]; rfl
    · rw [bt_un 3 (by omega), h75, pk_un (by omega)]; exact a7
  · obtain rfl | rfl : j = 0 ∨ j = 1 := by omega
    · rw [bt_un 4 (by omega), h75, pk_un (by omega)]; exact a8
    · rw [bt_up_s, h75, pk_us]; rfl
  · obtain rfl | rfl : j = 0 ∨ j = 1 := by omega
    · rw [bt_up_s]; exact fun _ => hw
    · rw [bt_un 3 (by omega), bt_up_n (by omega)]; exact fun y => kp (a9 y) (by omega)
  · obtain rfl | rfl : j = 0 ∨ j = 1 := by omega
    · rw [bt_un 4 (by omega), bt_up_n (by omega)]; exact fun y => kp (a10 y) (by omega)
    · rw [bt_up_s, bt_up_s]; exact fun _ => hw
  · intro k hk
    rw [h1 76 (by omega) (by omega) (by omega), h1 77 (by omega) (by omega) (by omega), h1 78 (by omega) (by omega) (by omega), bt_un (6 + k) (by omega), bt_un (10 + k) (by omega)]; exact a11 k hk
  · rw [h1 67 (by omega) (by omega) (by omega), bt_un 5 (by omega)]; exact a12
  · rw [h1 74 (by omega) (by omega) (by omega), bt_un 5 (by omega)]; exact a13
  · rw [h1 72 (by omega) (by omega) (by omega)]; exact a14
  · rw [h1 73 (by omega) (by omega) (by omega)]; exact a15
theorem bt_im_b0 : ∀ a, a < 2 → ∀ b, b < 2 → (nI (a + 2 * b) >>> (nI 0 &&& 31)) &&& 1 = nI a ∧ (nI (a + 2 * b) >>> (nI 1 &&& 31)) &&& 1 = nI b ∧ nI (a + 2 * b) ||| (1 <<< (nI 0 &&& 31)) = nI (1 + 2 * b) ∧ nI (a + 2 * b) ||| (1 <<< (nI 1 &&& 31)) = nI (a + 2 * 1) := by decide +kernel

def f_keep : bt_fn := fun t S => match t, S with
  | [.int n], (w, im, u, z, q) => some (.int (if bt_in n 2 then nI (u (3 + n.toNatClampNeg)) else -1), (w, if bt_in n 2 then va_up im n.toNatClampNeg w else im, if bt_in n 2 then va_up u (3 + n.toNatClampNeg) 1 else u, z, q))
  | _, _ => none

def bt_CX5_keep : bt_C := [(51, 0, 3, sX5_within), (126, 0, 2, sX5_bit), (76, 1, 2, sX4_takeFrom), (162, 0, 3, sX5_withBit)]
def sX5_keep : bt_Sp := bt_spC f_keep
set_option maxRecDepth 100000 in
theorem mX5_keep : bt_MT bt_TX5_keep bt_FX5 bt_CX5_keep 1 3 sX5_keep := by
  intro as M N Rt h P hP
  obtain ⟨t, S, r, S', rfl, hI, hf, h⟩ := bt_spC_e h
  obtain ⟨w, im, u, z, q⟩ := S
  unfold f_keep at hf
  split at hf
  · next n _ _ _ _ _ e =>
    cases e
    obtain ⟨rfl, rfl⟩ := bt_some hf
    obtain ⟨a1, a2, a3, a4, a5, a6, a7, a8, a9, a10, a11, a12⟩ := id hI
    obtain ⟨b0, b1, b2, b3, b4, b5, b6, b7, b8, b9, b10⟩ := id a2
    obtain ⟨hw, h8, h9, h10, h11, h12, h13, h14, h15, h16, h17, r1, r2, r3, r4, r5, r6, r7, r8⟩ := id a1
    obtain ⟨f1, f2, f3, f4, f5, f6, f7, f8, f9, f10, f11, f12, f13, f14, f15, f16, f17, f18⟩ := id hw
    have bb := bt_im_b0 (u 3) (by omega) (u 4) (by omega)
    refine bt_go0 rfl hP 60 ?_
    refine ⟨fun y => ?_, fun y => ?_⟩
    · rw [bt_bi_n0, bt_in_c (k := 1) (show (1 : Int32) = nI 1 from rfl) (by omega)] at y
      rw [if_pos y, if_pos y, if_pos y] at h
      obtain ⟨j, hj, rfl⟩ := bt_in_e y
      rw [bt_clm (by omega)] at h
      obtain rfl | rfl : j = 0 ∨ j = 1 := by omega
      · refine ⟨_, rfl, 0, rfl, by omega, ?_⟩
        refine ⟨w, by unfold bt_tf; decide, a1, fun M1 c1' c2' => ?_⟩
        have c1 : bt_cW M1 22 w := c1'
        have c2 : bt_out 22 M M1 := c2'
        intro M2 e2
        rw [if_neg (show ¬ (1 : Int32) = 0 by decide), c2 0 (by omega), a6, bb.2.2.1] at e2
        have key := h M2 N (fun x hx => by rw [e2, bt_up_n (by omega), c2 x (by omega)]) (bt_cI_im (j := 0) hI (by omega) (fun x x1 x2 => by rw [e2, bt_up_n x1, c2 x (by omega)]) (fun f hf => by rw [e2, bt_up_s, pk_un hf]) (by rw [e2, bt_up_s, pk_us]; rfl) (bt_cW_kept c1 (fun x _ _ => by rw [e2, bt_up_n (by omega)])))
        rw [show nI (u (3 + 0)) = M 0 7 >>> (nI 0 &&& 31) &&& 1 from by rw [a6, bb.1]] at key
        exact key
      · refine ⟨_, rfl, 1, rfl, by omega, ?_⟩
        refine ⟨w, by unfold bt_tf; decide, a1, fun M1 c1' c2' => ?_⟩
        have c1 : bt_cW M1 31 w := c1'
        have c2 : bt_out 31 M M1 := c2'
        intro M2 e2
        rw [if_neg (show ¬ (1 : Int32) = 0 by decide), c2 0 (by omega), a6, bb.2.2.2] at e2
        have key := h M2 N (fun x hx => by rw [e2, bt_up_n (by omega), c2 x (by omega)]) (bt_cI_im (j := 1) hI (by omega) (fun x x1 x2 => by rw [e2, bt_up_n x1, c2 x (by omega)]) (fun f hf => by rw [e2, bt_up_s, pk_un hf]) (by rw [e2, bt_up_s, pk_us]; rfl) (bt_cW_kept c1 (fun x _ _ => by rw [e2, bt_up_n (by omega)])))
        rw [show nI (u (3 + 1)) = M 0 7 >>> (nI 1 &&& 31) &&& 1 from by rw [a6, bb.2.1]] at key
        exact key
    · rw [bt_bi_0, bt_in_c (k := 1) (show (1 : Int32) = nI 1 from rfl) (by omega)] at y
      rw [if_neg y, if_neg y, if_neg y] at h
      exact h M N (fun _ _ => rfl) hI
  · cases hf

def bt_CX6_keep : bt_C := [(46, 0, 3, sX6_in), (199, 1, 3, sX6_copies)]
def sX6_keep : bt_Sp := bt_spM f_keep
set_option maxRecDepth 100000 in
theorem mX6_keep : bt_MT bt_TX6_keep bt_FX6 bt_CX6_keep 1 3 sX6_keep := by
  intro as M N Rt h P hP
  obtain ⟨t, S, r, S', rfl, hI, hf, h⟩ := bt_spM_e h
  obtain ⟨w, im, u, z, q⟩ := S
  unfold f_keep at hf
  split at hf
  · next n _ _ _ _ _ e =>
    cases e
    obtain ⟨rfl, rfl⟩ := bt_some hf
    obtain ⟨a1, a2, a3, a4, a5, a6, a7, a8, a9, a10, a11, a12, a13, a14, a15⟩ := id hI
    obtain ⟨b0, b1, b2, b3, b4, b5, b6, b7, b8, b9, b10⟩ := id a2
    obtain ⟨hw, g1, g2, g3, g4, g5, g6, r0, r1, r2, r3, r4, r5, r6, c7, c8, c9, c10, c11⟩ := id a1
    obtain ⟨f1, f2, f3, f4, f5, f6, f7, f8, f9, f10, f11, f12, f13, f14, f15, f16, f17, f18⟩ := id hw
    simp only [Nat.zero_add] at g3 g4 g5 g6 r0 r1 r2 r3 r4 r5 r6 c7 c8 c9 c10
    refine bt_go0 rfl hP 60 ?_
    refine ⟨fun y => ?_, fun y => ?_⟩
    · rw [bt_bi_n0, bt_inl_c (k := 1) (show (1 : Int64) = lN 1 from rfl) (by omega)] at y
      rw [if_pos y, if_pos y, if_pos y] at h
      obtain ⟨j, hj, rfl⟩ := bt_in_e y
      rw [bt_clm (by omega)] at h
      obtain rfl | rfl : j = 0 ∨ j = 1 := by omega
      · refine ⟨0, 90, rfl, rfl, by omega, by decide, by omega, Or.inl (by omega), fun M1 c1 c2 => ?_⟩
        have hk : ∀ M2, M2 = va_up M1 75 (upd (M1 75) 0 (1 &&& 1)) → Rt (some (.int (nI (u (3 + 0))))) M2 N := fun M2 e2 => by
          refine h M2 (fun x hx => by rw [e2, bt_up_n (by omega), c1.1 x (by omega)]) (bt_mI_im (j := 0) hI (by omega) (fun x x1 x2 x3 => by rw [e2, bt_up_n x3, c1.1 x x2]) (by rw [e2, bt_up_s, c1.1 75 (by omega)]; rfl) (fun i hi => by rw [e2, bt_up_n (by omega), c1.2 i (by omega)]) (bt_mW_far (bt_mW_copy a1 c1.1 c2) ⟨by rw [e2, bt_up_n (by omega)], by rw [e2, bt_up_n (by omega)]⟩ (by rw [e2, bt_up_n (by omega)])))
        refine ⟨_, rfl, 0, rfl, by omega, ⟨fun y2 => ?_, fun y2 => ?_⟩⟩
        · refine ⟨_, rfl, 0, rfl, by omega, fun M2 e2 => ?_⟩
          have key := hk M2 e2
          rw [show nI (u (3 + 0)) = 0 from by rw [← y2, c1.1 75 (by omega)]; exact a7.symm] at key
          exact key
        · refine ⟨_, rfl, 0, rfl, by omega, fun M2 e2 => ?_⟩
          have key := hk M2 e2
          have y3 : u (3 + 0) = 1 := by
            have : ¬ u (3 + 0) = 0 := fun c => y2 (by rw [c1.1 75 (by omega), a7]; exact congrArg nI c)
            have b45 : u (3 + 0) ≤ 1 := b4
            omega
          rw [y3] at key
          exact key
      · refine ⟨0, 180, rfl, rfl, by omega, by decide, by omega, Or.inl (by omega), fun M1 c1 c2 => ?_⟩
        have hk : ∀ M2, M2 = va_up M1 75 (upd (M1 75) 1 (1 &&& 1)) → Rt (some (.int (nI (u (3 + 1))))) M2 N := fun M2 e2 => by
          refine h M2 (fun x hx => by rw [e2, bt_up_n (by omega), c1.1 x (by omega)]) (bt_mI_im (j := 1) hI (by omega) (fun x x1 x2 x3 => by rw [e2, bt_up_n x3, c1.1 x x2]) (by rw [e2, bt_up_s, c1.1 75 (by omega)]; rfl) (fun i hi => by rw [e2, bt_up_n (by omega), c1.2 i (by omega)]) (bt_mW_far (bt_mW_copy a1 c1.1 c2) ⟨by rw [e2, bt_up_n (by omega)], by rw [e2, bt_up_n (by omega)]⟩ (by rw [e2, bt_up_n (by omega)])))
        refine ⟨_, rfl, 1, rfl, by omega, ⟨fun y2 => ?_, fun y2 => ?_⟩⟩
        · refine ⟨_, rfl, 1, rfl, by omega, fun M2 e2 => ?_⟩
          have key := hk M2 e2
          rw [show nI (u (3 + 1)) = 0 from by rw [← y2, c1.1 75 (by omega)]; exact a8.symm] at key
          exact key
        · refine ⟨_, rfl, 1, rfl, by omega, fun M2 e2 => ?_⟩
          have key := hk M2 e2
          have y3 : u (3 + 1) = 1 := by
            have : ¬ u (3 + 1) = 0 := fun c => y2 (by rw [c1.1 75 (by omega), a8]; exact congrArg nI c)
            have b45 : u (3 + 1) ≤ 1 := b5
            omega
          rw [y3] at key
          exact key
    · rw [bt_bi_0, bt_inl_c (k := 1) (show (1 : Int64) = lN 1 from rfl) (by omega)] at y
      rw [if_neg y, if_neg y, if_neg y] at h
      exact h M (fun _ _ => rfl) hI
  · cases hf

def f_back : bt_fn := fun t S => match t, S with
  | [.int n], (w, im, u, z, q) => some (.int (if bt_in n 2 then (if u (3 + n.toNatClampNeg) = 0 then -2 else nI (im n.toNatClampNeg 12 4)) else -1), (if bt_in n 2 ∧ ¬ u (3 + n.toNatClampNeg) = 0 then im n.toNatClampNeg else w, im, u, z, q))
  | _, _ => none

def bt_CX5_back : bt_C := [(51, 0, 3, sX5_within), (126, 0, 2, sX5_bit), (76, 1, 2, sX4_takeFrom)]
def sX5_back : bt_Sp := bt_spC f_back
set_option maxRecDepth 100000 in
theorem mX5_back : bt_MT bt_TX5_back bt_FX5 bt_CX5_back 1 2 sX5_back := by
  intro as M N Rt h P hP
  obtain ⟨t, S, r, S', rfl, hI, hf, h⟩ := bt_spC_e h
  obtain ⟨w, im, u, z, q⟩ := S
  unfold f_back at hf
  split at hf
  · next n _ _ _ _ _ e =>
    cases e
    obtain ⟨rfl, rfl⟩ := bt_some hf
    obtain ⟨a1, a2, a3, a4, a5, a6, a7, a8, a9, a10, a11, a12⟩ := id hI
    obtain ⟨b0, b1, b2, b3, b4, b5, b6, b7, b8, b9, b10⟩ := id a2
    obtain ⟨hw, h8, h9, h10, h11, h12, h13, h14, h15, h16, h17, r1, r2, r3, r4, r5, r6, r7, r8⟩ := id a1
    obtain ⟨f1, f2, f3, f4, f5, f6, f7, f8, f9, f10, f11, f12, f13, f14, f15, f16, f17, f18⟩ := id hw
    have bb := bt_im_b0 (u 3) (by omega) (u 4) (by omega)
    refine bt_go0 rfl hP 60 ?_
    refine ⟨fun y => ?_, fun y => ?_⟩
    · rw [bt_bi_n0, bt_in_c (k := 1) (show (1 : Int32) = nI 1 from rfl) (by omega)] at y
      rw [if_pos y] at h
      obtain ⟨j, hj, rfl⟩ := bt_in_e y
      rw [bt_clm (by omega)] at h
      obtain rfl | rfl : j = 0 ∨ j = 1 := by omega
      · have hb : M 0 7 >>> (nI 0 &&& 31) &&& 1 = nI (u (3 + 0)) := by rw [a6, bb.1]
        have hu1 : u (3 + 0) ≤ 1 := b4
        refine ⟨fun y2 => ?_, fun y2 => ?_⟩
        · have y3 : ¬ u (3 + 0) = 0 := fun c => y2 (by rw [hb, c]; rfl)
          have y4 : u (3 + 0) = 1 := by omega
          rw [if_neg y3, if_pos ⟨y, y3⟩] at h
          refine ⟨_, rfl, 0, rfl, by omega, ?_⟩
          refine ⟨im 0, by unfold bt_tf; decide, a8 y4, fun M1 c1 c2 => ?_⟩
          have hn := b9 y4
          have key := h M1 N (fun x hx => c2 x (by omega)) (bt_cI_live hI c1 hn (fun x hx => c2 x (by omega)))
          rw [← c1.2.2.2.2.2.2.2.2.2.1] at key
          exact key
        · have y3 : u (3 + 0) = 0 := by
            rw [hb] at y2
            exact (nI_eq (b := 0) (by omega) (by omega)).mp y2
          rw [if_pos y3, if_neg (fun c => c.2 y3)] at h
          exact h M N (fun _ _ => rfl) hI
      · have hb : M 0 7 >>> (nI 1 &&& 31) &&& 1 = nI (u (3 + 1)) := by rw [a6, bb.2.1]
        have hu1 : u (3 + 1) ≤ 1 := b5
        refine ⟨fun y2 => ?_, fun y2 => ?_⟩
        · have y3 : ¬ u (3 + 1) = 0 := fun c => y2 (by rw [hb, c]; rfl)
          have y4 : u (3 + 1) = 1 := by omega
          rw [if_neg y3, if_pos ⟨y, y3⟩] at h
          refine ⟨_, rfl, 1, rfl, by omega, ?_⟩
          refine ⟨im 1, by unfold bt_tf; decide, a9 y4, fun M1 c1 c2 => ?_⟩
          have hn := b10 y4
          have key := h M1 N (fun x hx => c2 x (by omega)) (bt_cI_live hI c1 hn (fun x hx => c2 x (by omega)))
          rw [← c1.2.2.2.2.2.2.2.2.2.1] at key
          exact key
        · have y3 : u (3 + 1) = 0 := by
            rw [hb] at y2
            exact (nI_eq (b := 0) (by omega) (by omega)).mp y2
          rw [if_pos y3, if_neg (fun c => c.2 y3)] at h
          exact h M N (fun _ _ => rfl) hI
    · rw [bt_bi_0, bt_in_c (k := 1) (show (1 : Int32) = nI 1 from rfl) (by omega)] at y
      rw [if_neg y, if_neg (fun c => y c.1)] at h
      exact h M N (fun _ _ => rfl) hI
  · cases hf

def bt_CX6_back : bt_C := [(46, 0, 3, sX6_in), (199, 1, 3, sX6_copies)]
def sX6_back : bt_Sp := bt_spM f_back
set_option maxRecDepth 100000 in
theorem mX6_back : bt_MT bt_TX6_back bt_FX6 bt_CX6_back 1 2 sX6_back := by
  intro as M N Rt h P hP
  obtain ⟨t, S, r, S', rfl, hI, hf, h⟩ := bt_spM_e h
  obtain ⟨w, im, u, z, q⟩ := S
  unfold f_back at hf
  split at hf
  · next n _ _ _ _ _ e =>
    cases e
    obtain ⟨rfl, rfl⟩ := bt_some hf
    obtain ⟨a1, a2, a3, a4, a5, a6, a7, a8, a9, a10, a11, a12, a13, a14, a15⟩ := id hI
    obtain ⟨b0, b1, b2, b3, b4, b5, b6, b7, b8, b9, b10⟩ := id a2
    obtain ⟨hw, g1, g2, g3, g4, g5, g6, r0, r1, r2, r3, r4, r5, r6, c7, c8, c9, c10, c11⟩ := id a1
    obtain ⟨f1, f2, f3, f4, f5, f6, f7, f8, f9, f10, f11, f12, f13, f14, f15, f16, f17, f18⟩ := id hw
    simp only [Nat.zero_add] at g3 g4 g5 g6 r0 r1 r2 r3 r4 r5 r6 c7 c8 c9 c10
    refine bt_go0 rfl hP 60 ?_
    refine ⟨fun y => ?_, fun y => ?_⟩
    · rw [bt_bi_n0, bt_inl_c (k := 1) (show (1 : Int64) = lN 1 from rfl) (by omega)] at y
      rw [if_pos y] at h
      obtain ⟨j, hj, rfl⟩ := bt_in_e y
      rw [bt_clm (by omega)] at h
      obtain rfl | rfl : j = 0 ∨ j = 1 := by omega
      · have hu1 : u (3 + 0) ≤ 1 := b4
        have hb : M 75 0 = nI (u (3 + 0)) := a7
        refine ⟨_, rfl, 0, rfl, by omega, ⟨fun y2 => ?_, fun y2 => ?_⟩⟩
        · have y3 : ¬ u (3 + 0) = 0 := fun c => y2 (by rw [hb, c]; rfl)
          have y4 : u (3 + 0) = 1 := by omega
          rw [if_neg y3, if_pos ⟨y, y3⟩] at h
          have hw1 := a9 y4
          refine ⟨90, 0, rfl, by decide, by omega, rfl, by omega, Or.inr (by omega), fun M1 c1 c2 => ?_⟩
          have hw2 : bt_mW M1 0 (im 0) := bt_mW_copy hw1 c1.1 c2
          refine ⟨_, rfl, 88, rfl, by omega, ?_⟩
          have key := h M1 (fun x hx => c1.1 x (by omega)) (bt_mI_live hI hw2 (b9 y4) (fun x _ hx => c1.1 x hx) (fun i hi _ => c1.2 i (by omega)))
          rw [← hw2.2.2.2.2.2.1] at key
          exact key
        · have y3 : u (3 + 0) = 0 := by
            rw [hb] at y2
            exact (nI_eq (b := 0) (by omega) (by omega)).mp y2
          rw [if_pos y3, if_neg (fun c => c.2 y3)] at h
          exact h M (fun _ _ => rfl) hI
      · have hu1 : u (3 + 1) ≤ 1 := b5
        have hb : M 75 1 = nI (u (3 + 1)) := a8
        refine ⟨_, rfl, 1, rfl, by omega, ⟨fun y2 => ?_, fun y2 => ?_⟩⟩
        · have y3 : ¬ u (3 + 1) = 0 := fun c => y2 (by rw [hb, c]; rfl)
          have y4 : u (3 + 1) = 1 := by omega
          rw [if_neg y3, if_pos ⟨y, y3⟩] at h
          have hw1 := a10 y4
          refine ⟨180, 0, rfl, by decide, by omega, rfl, by omega, Or.inr (by omega), fun M1 c1 c2 => ?_⟩
          have hw2 : bt_mW M1 0 (im 1) := bt_mW_copy hw1 c1.1 c2
          refine ⟨_, rfl, 88, rfl, by omega, ?_⟩
          have key := h M1 (fun x hx => c1.1 x (by omega)) (bt_mI_live hI hw2 (b10 y4) (fun x _ hx => c1.1 x hx) (fun i hi _ => c1.2 i (by omega)))
          rw [← hw2.2.2.2.2.2.1] at key
          exact key
        · have y3 : u (3 + 1) = 0 := by
            rw [hb] at y2
            exact (nI_eq (b := 0) (by omega) (by omega)).mp y2
          rw [if_pos y3, if_neg (fun c => c.2 y3)] at h
          exact h M (fun _ _ => rfl) hI
    · rw [bt_bi_0, bt_inl_c (k := 1) (show (1 : Int64) = lN 1 from rfl) (by omega)] at y
      rw [if_neg y, if_neg (fun c => y c.1)] at h
      exact h M (fun _ _ => rfl) hI
  · cases hf
