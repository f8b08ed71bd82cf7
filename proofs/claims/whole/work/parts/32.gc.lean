/-! CALLS, BOTH SIDES: the tape, arrivals, stretches, counts -/

def f_feed : bt_fn := fun t S => match t, S with
  | [.int c], (w, im, u, z, q) => some (.int (if bt_in c 128 then (if u 0 = 160 then -3 else nI (u 0 + 1)) else -1), (w, im, if (bt_in c 128 ∧ ¬ u 0 = 160) then va_up u 0 (u 0 + 1) else u, if (bt_in c 128 ∧ ¬ u 0 = 160) then va_up z 0 (va_up (z 0) (u 0) c.toNatClampNeg) else z, q))
  | _, _ => none

def sX3_add : bt_Sp := fun as M N K => match as with
  | [.ref c, .int x] => ∃ n, c = 20 ∧ M 20 2 = nI n ∧ n ≤ 160 ∧ (n = 160 → K (some (.int 0)) M N) ∧ (¬ n = 160 → ∀ M1 M2, M1 = va_up M 1 (upd (M 1) n x.toInt8.toInt32.toInt8.toInt32) → M2 = va_up M1 20 (upd (M1 20) 2 (M1 20 2 + 1)) → K (some (.int 1)) M2 N)
  | _ => False
theorem mX3_add : bt_MT bt_TX3_add bt_FX3 [] 2 2 sX3_add := by
  intro as M N Rt h P hP
  unfold sX3_add at h
  split at h
  · obtain ⟨n, rfl, hn, hn6, h6, h⟩ := h
    refine bt_go0 rfl hP 40 ⟨fun y => ?_, fun y => ?_⟩
    · rw [hn, bt_lit, nI_ltI (by omega) (by omega)] at y
      refine ⟨_, rfl, n, hn, by omega, fun M1 e1 => ?_⟩
      intro M2 e2
      exact ⟨Or.inr rfl, h (by omega) M1 M2 e1 e2⟩
    · rw [hn, bt_lit, nI_ltI (by omega) (by omega)] at y
      exact ⟨Or.inl rfl, h6 (by omega)⟩
  · exact False.elim h

def bt_CX5_feed : bt_C := [(51, 0, 3, sX5_within), (55, 1, 2, sX3_add)]
def sX5_feed : bt_Sp := bt_spC f_feed
set_option maxRecDepth 100000 in
theorem mX5_feed : bt_MT bt_TX5_feed bt_FX5 bt_CX5_feed 1 2 sX5_feed := by
  intro as M N Rt h P hP
  obtain ⟨t, S, r, S', rfl, hI, hf, h⟩ := bt_spC_e h
  obtain ⟨w, im, u, z, q⟩ := S
  unfold f_feed at hf
  split at hf
  · next c _ _ _ _ _ e =>
    cases e
    obtain ⟨rfl, rfl⟩ := bt_some hf
    obtain ⟨a1, a2, a3, a4, a5, a6, a7, a8, a9, a10, a11, a12⟩ := id hI
    obtain ⟨b0, b1, b2, b3, b4, b5, b6, b7, b8, b9, b10⟩ := id a2
    refine bt_go0 rfl hP 60 ?_
    refine ⟨fun y => ?_, fun y => ?_⟩
    · rw [bt_bi_n0, bt_in_c (k := 127) (show (127 : Int32) = nI 127 from rfl) (by omega)] at y
      rw [if_pos y] at h
      refine ⟨u 0, rfl, a3, b0, fun y3 => ?_, fun y3 M1 M2 e1 e2 => ?_⟩
      · rw [if_pos y3, if_neg (fun c => c.2 y3), if_neg (fun c => c.2 y3)] at h
        exact ⟨fun _ => h M N (fun _ _ => rfl) hI, fun c => absurd rfl c⟩
      · rw [if_neg y3, if_pos ⟨y, y3⟩, if_pos ⟨y, y3⟩] at h
        obtain ⟨j, hj, rfl⟩ := bt_in_e y
        rw [bt_clm (by omega)] at h
        rw [bt_by j hj, bt_by j hj] at e1
        have q8 : M2 20 2 = nI (u 0 + 1) := by rw [e2, bt_up_s, pk_us, e1, bt_up_n (by omega), a3, nI_1]
        have hs : bt_sW w im (va_up u 0 (u 0 + 1)) (va_up z 0 (va_up (z 0) (u 0) j)) := by
          refine ⟨by rw [bt_up_s]; omega, ?_, by rw [bt_un 1 (by omega)]; exact b2, by rw [bt_un 2 (by omega)]; exact b3, by rw [bt_un 3 (by omega)]; exact b4, by rw [bt_un 4 (by omega)]; exact b5, by rw [bt_un 5 (by omega)]; exact b6, ?_, ?_, by rw [bt_un 3 (by omega)]; exact b9, by rw [bt_un 4 (by omega)]; exact b10⟩
          · intro k
            rw [bt_up_s]
            by_cases hk : k = u 0
            · rw [hk, bt_up_s]; exact hj
            · rw [bt_up_n hk]; exact b1 k
          · intro k hk
            rw [bt_un (6 + k) (by omega), bt_un (10 + k) (by omega)]; exact b7 k hk
          · rw [bt_un 5 (by omega), bt_up_n (by omega), bt_up_n (by omega)]; exact b8

        have hI2 : bt_cI M2 (w, im, va_up u 0 (u 0 + 1), va_up z 0 (va_up (z 0) (u 0) j), q) := by
          refine bt_cI_uz hI hs ⟨bt_un 1 (by omega), bt_un 3 (by omega), bt_un 4 (by omega), bt_un 2 (by omega), fun k hk => ⟨bt_un _ (by omega), bt_un _ (by omega)⟩⟩ (fun x hx => by rw [e2, bt_up_n (by omega), e1, bt_up_n (by omega)]) (fun f hf => by rw [e2, bt_up_s, pk_un hf, e1, bt_up_n (by omega)]) (by rw [bt_up_s]; exact q8) ?_ ?_ ?_
          · intro k hk
            rw [bt_up_s] at hk
            rw [e2, bt_up_n (by omega), e1, bt_up_s, bt_up_s]
            by_cases hk2 : k = u 0
            · rw [hk2, pk_us, bt_up_s]
            · rw [pk_un hk2, bt_up_n hk2]; exact a4 k (by omega)
          · rw [e2, bt_up_n (by omega), e1, bt_up_n (by omega), bt_un 5 (by omega)]; exact a11
          · rw [bt_un 5 (by omega), bt_up_n (by omega), bt_up_n (by omega), e2, bt_up_n (by omega), bt_up_n (by omega), e1, bt_up_n (by omega), bt_up_n (by omega)]; exact a12
        have key := h M2 N (fun x hx => by rw [e2, bt_up_n (by omega), e1, bt_up_n (by omega)]) hI2
        rw [← q8] at key
        exact ⟨fun c => absurd c (by decide), fun _ => key⟩
    · rw [bt_bi_0, bt_in_c (k := 127) (show (127 : Int32) = nI 127 from rfl) (by omega)] at y
      rw [if_neg y, if_neg (fun c => y c.1), if_neg (fun c => y c.1)] at h
      exact h M N (fun _ _ => rfl) hI
  · cases hf

def bt_CX6_feed : bt_C := [(46, 0, 3, sX6_in)]
def sX6_feed : bt_Sp := bt_spM f_feed
set_option maxRecDepth 100000 in
theorem mX6_feed : bt_MT bt_TX6_feed bt_FX6 bt_CX6_feed 1 2 sX6_feed := by
  intro as M N Rt h P hP
  obtain ⟨t, S, r, S', rfl, hI, hf, h⟩ := bt_spM_e h
  obtain ⟨w, im, u, z, q⟩ := S
  unfold f_feed at hf
  split at hf
  · next c _ _ _ _ _ e =>
    cases e
    obtain ⟨rfl, rfl⟩ := bt_some hf
    obtain ⟨a1, a2, a3, a4, a5, a6, a7, a8, a9, a10, a11, a12, a13, a14, a15⟩ := id hI
    obtain ⟨b0, b1, b2, b3, b4, b5, b6, b7, b8, b9, b10⟩ := id a2
    obtain ⟨hw, g1, g2, g3, g4, g5, g6, r0, r1, r2, r3, r4, r5, r6, c7, c8, c9, c10, c11⟩ := id a1
    obtain ⟨f1, f2, f3, f4, f5, f6, f7, f8, f9, f10, f11, f12, f13, f14, f15, f16, f17, f18⟩ := id hw
    simp only [Nat.zero_add] at g3 g4 g5 g6 r0 r1 r2 r3 r4 r5 r6 c7 c8 c9 c10
    refine bt_go0 rfl hP 60 ?_
    refine ⟨fun y => ?_, fun y => ?_⟩
    · rw [bt_bi_n0, bt_inl_c (k := 127) (show (127 : Int64) = lN 127 from rfl) (by omega)] at y
      rw [if_pos y] at h
      refine ⟨fun y2 => ?_, fun y2 => ?_⟩
      · have y3 : ¬ u 0 = 160 := fun c => y2 (by rw [a3, c]; rfl)
        rw [if_neg y3, if_pos ⟨y, y3⟩, if_pos ⟨y, y3⟩] at h
        obtain ⟨j, hj, rfl⟩ := bt_in_e y
        rw [bt_clm (by omega)] at h
        refine ⟨_, rfl, u 0, a3, by omega, fun M1 e1 => ?_⟩
        intro M2 e2
        have q8 : M2 67 10 = nI (u 0 + 1) := by rw [e2, bt_up_s, pk_us, e1, bt_up_n (by omega), a3, nI_1]
        have hs : bt_sW w im (va_up u 0 (u 0 + 1)) (va_up z 0 (va_up (z 0) (u 0) j)) := by
          refine ⟨by rw [bt_up_s]; omega, ?_, by rw [bt_un 1 (by omega)]; exact b2, by rw [bt_un 2 (by omega)]; exact b3, by rw [bt_un 3 (by omega)]; exact b4, by rw [bt_un 4 (by omega)]; exact b5, by rw [bt_un 5 (by omega)]; exact b6, ?_, ?_, by rw [bt_un 3 (by omega)]; exact b9, by rw [bt_un 4 (by omega)]; exact b10⟩
          · intro k
            rw [bt_up_s]
            by_cases hk : k = u 0
            · rw [hk, bt_up_s]; exact hj
            · rw [bt_up_n hk]; exact b1 k
          · intro k hk
            rw [bt_un (6 + k) (by omega), bt_un (10 + k) (by omega)]; exact b7 k hk
          · rw [bt_un 5 (by omega), bt_up_n (by omega), bt_up_n (by omega)]; exact b8

        have hI2 : bt_mI M2 (w, im, va_up u 0 (u 0 + 1), va_up z 0 (va_up (z 0) (u 0) j), q) := by
          refine bt_mI_uz hI hs ⟨bt_un 1 (by omega), bt_un 3 (by omega), bt_un 4 (by omega), bt_un 2 (by omega), fun k hk => ⟨bt_un _ (by omega), bt_un _ (by omega)⟩⟩ (fun x hx _ _ => by rw [e2, bt_up_n (by omega), e1, bt_up_n (by omega)]) (fun f hf _ => by rw [e2, bt_up_s, pk_un hf, e1, bt_up_n (by omega)]) (by rw [bt_up_s]; exact q8) ?_ ?_ ?_
          · intro k hk
            rw [bt_up_s] at hk
            rw [e2, bt_up_n (by omega), e1, bt_up_s, bt_up_s]
            by_cases hk2 : k = u 0
            · rw [hk2, pk_us, bt_up_s]
            · rw [pk_un hk2, bt_up_n hk2]; exact a4 k (by omega)
          · rw [e2, bt_up_s, pk_un (by omega), e1, bt_up_n (by omega), bt_un 5 (by omega)]; exact a12
          · rw [bt_un 5 (by omega), bt_up_n (by omega), bt_up_n (by omega), e2, bt_up_n (by omega), e1, bt_up_n (by omega)]; exact a13
        have key := h M2 (fun x hx => by rw [e2, bt_up_n (by omega), e1, bt_up_n (by omega)]) hI2
        rw [← q8] at key
        exact key
      · have y3 : u 0 = 160 := by
          rw [a3] at y2
          exact (nI_eq (b := 160) (by omega) (by omega)).mp y2
        rw [if_pos y3, if_neg (fun c => c.2 y3), if_neg (fun c => c.2 y3)] at h
        exact h M (fun _ _ => rfl) hI
    · rw [bt_bi_0, bt_inl_c (k := 127) (show (127 : Int64) = lN 127 from rfl) (by omega)] at y
      rw [if_neg y, if_neg (fun c => y c.1), if_neg (fun c => y c.1)] at h
      exact h M (fun _ _ => rfl) hI
  · cases hf

def f_end : bt_fn := fun t S => match t, S with
  | [.int n], (w, im, u, z, q) => some (.int (if bt_in n (u 0 + 1) then nI (u 0) else -1), (w, im, if bt_in n (u 0 + 1) then va_up u 0 n.toNatClampNeg else u, z, q))
  | _, _ => none

def bt_CX5_end : bt_C := [(51, 0, 3, sX5_within)]
def sX5_end : bt_Sp := bt_spC f_end
set_option maxRecDepth 100000 in
theorem mX5_end : bt_MT bt_TX5_end bt_FX5 bt_CX5_end 1 3 sX5_end := by
  intro as M N Rt h P hP
  obtain ⟨t, S, r, S', rfl, hI, hf, h⟩ := bt_spC_e h
  obtain ⟨w, im, u, z, q⟩ := S
  unfold f_end at hf
  split at hf
  · next n _ _ _ _ _ e =>
    cases e
    obtain ⟨rfl, rfl⟩ := bt_some hf
    obtain ⟨a1, a2, a3, a4, a5, a6, a7, a8, a9, a10, a11, a12⟩ := id hI
    obtain ⟨b0, b1, b2, b3, b4, b5, b6, b7, b8, b9, b10⟩ := id a2
    obtain ⟨hw, h8, h9, h10, h11, h12, h13, h14, h15, h16, h17, r1, r2, r3, r4, r5, r6, r7, r8⟩ := id a1
    obtain ⟨f1, f2, f3, f4, f5, f6, f7, f8, f9, f10, f11, f12, f13, f14, f15, f16, f17, f18⟩ := id hw
    refine bt_go0 rfl hP 60 ?_
    refine ⟨fun y => ?_, fun y => ?_⟩
    · rw [bt_bi_n0, bt_in_c a3 (by omega)] at y
      rw [if_pos y, if_pos y] at h
      obtain ⟨j, hj, rfl⟩ := bt_in_e y
      rw [bt_clm (by omega)] at h
      intro M' e
      have hs : bt_sW w im (va_up u 0 j) z := by
        refine ⟨by rw [bt_up_s]; omega, b1, by rw [bt_un 1 (by omega)]; exact b2, by rw [bt_un 2 (by omega)]; exact b3, by rw [bt_un 3 (by omega)]; exact b4, by rw [bt_un 4 (by omega)]; exact b5, by rw [bt_un 5 (by omega)]; exact b6, fun k hk => by rw [bt_un (6 + k) (by omega), bt_un (10 + k) (by omega)]; exact b7 k hk, by rw [bt_un 5 (by omega)]; exact b8, by rw [bt_un 3 (by omega)]; exact b9, by rw [bt_un 4 (by omega)]; exact b10⟩

      have hI2 : bt_cI M' (w, im, va_up u 0 j, z, q) := bt_cI_uz hI hs ⟨bt_un 1 (by omega), bt_un 3 (by omega), bt_un 4 (by omega), bt_un 2 (by omega), fun k hk => ⟨bt_un _ (by omega), bt_un _ (by omega)⟩⟩ (fun x hx => by rw [e, bt_up_n (by omega)]) (fun f hf => by rw [e, bt_up_s, pk_un hf]) (by rw [bt_up_s, e, bt_up_s, pk_us]) (fun k hk => by rw [bt_up_s] at hk; rw [e, bt_up_n (by omega)]; exact a4 k (by omega)) (by rw [e, bt_up_n (by omega), bt_un 5 (by omega)]; exact a11) (by rw [bt_un 5 (by omega), e, bt_up_n (by omega), bt_up_n (by omega)]; exact a12)
      have key := h M' N (fun x hx => by rw [e, bt_up_n (by omega)]) hI2
      rw [← a3] at key
      exact key
    · rw [bt_bi_0, bt_in_c a3 (by omega)] at y
      rw [if_neg y, if_neg y] at h
      exact h M N (fun _ _ => rfl) hI
  · cases hf

theorem bt_inl_n {x : Int32} {n : Nat} (h : n < 2 ^ 31) : ((0 : Int64) ≤ x.toInt64 ∧ x.toInt64 ≤ (nI n).toInt64) ↔ bt_in x (n + 1) := by
  rw [bt_l0, bt_l_le, Int32.le_iff_toInt_le, nI_toInt h]
  omega

def bt_CX6_end : bt_C := [(46, 0, 3, sX6_in)]
def sX6_end : bt_Sp := bt_spM f_end
set_option maxRecDepth 100000 in
theorem mX6_end : bt_MT bt_TX6_end bt_FX6 bt_CX6_end 1 3 sX6_end := by
  intro as M N Rt h P hP
  obtain ⟨t, S, r, S', rfl, hI, hf, h⟩ := bt_spM_e h
  obtain ⟨w, im, u, z, q⟩ := S
  unfold f_end at hf
  split at hf
  · next n _ _ _ _ _ e =>
    cases e
    obtain ⟨rfl, rfl⟩ := bt_some hf
    obtain ⟨a1, a2, a3, a4, a5, a6, a7, a8, a9, a10, a11, a12, a13, a14, a15⟩ := id hI
    obtain ⟨b0, b1, b2, b3, b4, b5, b6, b7, b8, b9, b10⟩ := id a2
    obtain ⟨hw, g1, g2, g3, g4, g5, g6, r0, r1, r2, r3, r4, r5, r6, c7, c8, c9, c10, c11⟩ := id a1
    obtain ⟨f1, f2, f3, f4, f5, f6, f7, f8, f9, f10, f11, f12, f13, f14, f15, f16, f17, f18⟩ := id hw
    simp only [Nat.zero_add] at g3 g4 g5 g6 r0 r1 r2 r3 r4 r5 r6 c7 c8 c9 c10
    refine bt_go0 rfl hP 60 ?_
    refine ⟨fun y => ?_, fun y => ?_⟩
    · rw [bt_bi_n0, a3, bt_inl_n (by omega)] at y
      rw [if_pos y, if_pos y] at h
      obtain ⟨j, hj, rfl⟩ := bt_in_e y
      rw [bt_clm (by omega)] at h
      intro M' e
      have hs : bt_sW w im (va_up u 0 j) z := by
        refine ⟨by rw [bt_up_s]; omega, b1, by rw [bt_un 1 (by omega)]; exact b2, by rw [bt_un 2 (by omega)]; exact b3, by rw [bt_un 3 (by omega)]; exact b4, by rw [bt_un 4 (by omega)]; exact b5, by rw [bt_un 5 (by omega)]; exact b6, fun k hk => by rw [bt_un (6 + k) (by omega), bt_un (10 + k) (by omega)]; exact b7 k hk, by rw [bt_un 5 (by omega)]; exact b8, by rw [bt_un 3 (by omega)]; exact b9, by rw [bt_un 4 (by omega)]; exact b10⟩

      have hI2 : bt_mI M' (w, im, va_up u 0 j, z, q) := bt_mI_uz hI hs ⟨bt_un 1 (by omega), bt_un 3 (by omega), bt_un 4 (by omega), bt_un 2 (by omega), fun k hk => ⟨bt_un _ (by omega), bt_un _ (by omega)⟩⟩ (fun x hx _ _ => by rw [e, bt_up_n (by omega)]) (fun f hf1 hf2 => by rw [e, bt_up_s, pk_un (by omega)]) (by rw [bt_up_s, e, bt_up_s, pk_us]) (fun k hk => by rw [bt_up_s] at hk; rw [e, bt_up_n (by omega)]; exact a4 k (by omega)) (by rw [e, bt_up_s, pk_un (by omega), bt_un 5 (by omega)]; exact a12) (by rw [bt_un 5 (by omega), e, bt_up_n (by omega)]; exact a13)
      have key := h M' (fun x hx => by rw [e, bt_up_n (by omega)]) hI2
      rw [← a3] at key
      exact key
    · rw [bt_bi_0, a3, bt_inl_n (by omega)] at y
      rw [if_neg y, if_neg y] at h
      exact h M (fun _ _ => rfl) hI
  · cases hf

def f_forget : bt_fn := fun t S => match t, S with
  | [.int n], (w, im, u, z, q) => some (.int (if bt_in n (u 5 + 1) then nI (u 5) else -1), (w, im, if bt_in n (u 5 + 1) then va_up u 5 n.toNatClampNeg else u, z, q))
  | _, _ => none

def bt_CX5_forget : bt_C := [(51, 0, 3, sX5_within)]
def sX5_forget : bt_Sp := bt_spC f_forget
set_option maxRecDepth 100000 in
theorem mX5_forget : bt_MT bt_TX5_forget bt_FX5 bt_CX5_forget 1 3 sX5_forget := by
  intro as M N Rt h P hP
  obtain ⟨t, S, r, S', rfl, hI, hf, h⟩ := bt_spC_e h
  obtain ⟨w, im, u, z, q⟩ := S
  unfold f_forget at hf
  split at hf
  · next n _ _ _ _ _ e =>
    cases e
    obtain ⟨rfl, rfl⟩ := bt_some hf
    obtain ⟨a1, a2, a3, a4, a5, a6, a7, a8, a9, a10, a11, a12⟩ := id hI
    obtain ⟨b0, b1, b2, b3, b4, b5, b6, b7, b8, b9, b10⟩ := id a2
    obtain ⟨hw, h8, h9, h10, h11, h12, h13, h14, h15, h16, h17, r1, r2, r3, r4, r5, r6, r7, r8⟩ := id a1
    obtain ⟨f1, f2, f3, f4, f5, f6, f7, f8, f9, f10, f11, f12, f13, f14, f15, f16, f17, f18⟩ := id hw
    refine bt_go0 rfl hP 60 ?_
    refine ⟨fun y => ?_, fun y => ?_⟩
    · rw [bt_bi_n0, bt_in_c a11 (by omega)] at y
      rw [if_pos y, if_pos y] at h
      obtain ⟨j, hj, rfl⟩ := bt_in_e y
      rw [bt_clm (by omega)] at h
      intro M' e
      have hs : bt_sW w im (va_up u 5 j) z := by
        refine ⟨by rw [bt_un 0 (by omega)]; exact b0, b1, by rw [bt_un 1 (by omega)]; exact b2, by rw [bt_un 2 (by omega)]; exact b3, by rw [bt_un 3 (by omega)]; exact b4, by rw [bt_un 4 (by omega)]; exact b5, by rw [bt_up_s]; omega, fun k hk => by rw [bt_un (6 + k) (by omega), bt_un (10 + k) (by omega)]; exact b7 k hk, fun n hn => b8 n (by rw [bt_up_s] at hn; omega), by rw [bt_un 3 (by omega)]; exact b9, by rw [bt_un 4 (by omega)]; exact b10⟩

      have hI2 : bt_cI M' (w, im, va_up u 5 j, z, q) := bt_cI_uz hI hs ⟨bt_un 1 (by omega), bt_un 3 (by omega), bt_un 4 (by omega), bt_un 2 (by omega), fun k hk => ⟨bt_un _ (by omega), bt_un _ (by omega)⟩⟩ (fun x hx => by rw [e, bt_up_n (by omega)]) (fun f hf => by rw [e, bt_up_n (by omega)]) (by rw [bt_un 0 (by omega), e, bt_up_n (by omega)]; exact a3) (fun k hk => by rw [bt_un 0 (by omega)] at hk; rw [e, bt_up_n (by omega)]; exact a4 k hk) (by rw [bt_up_s, e, bt_up_s, pk_us]) (fun n hn => by rw [bt_up_s] at hn; rw [e, bt_up_n (by omega), bt_up_n (by omega)]; exact a12 n (by omega))
      have key := h M' N (fun x hx => by rw [e, bt_up_n (by omega)]) hI2
      rw [← a11] at key
      exact key
    · rw [bt_bi_0, bt_in_c a11 (by omega)] at y
      rw [if_neg y, if_neg y] at h
      exact h M N (fun _ _ => rfl) hI
  · cases hf

def bt_CX6_forget : bt_C := [(46, 0, 3, sX6_in)]
def sX6_forget : bt_Sp := bt_spM f_forget
set_option maxRecDepth 100000 in
theorem mX6_forget : bt_MT bt_TX6_forget bt_FX6 bt_CX6_forget 1 3 sX6_forget := by
  intro as M N Rt h P hP
  obtain ⟨t, S, r, S', rfl, hI, hf, h⟩ := bt_spM_e h
  obtain ⟨w, im, u, z, q⟩ := S
  unfold f_forget at hf
  split at hf
  · next n _ _ _ _ _ e =>
    cases e
    obtain ⟨rfl, rfl⟩ := bt_some hf
    obtain ⟨a1, a2, a3, a4, a5, a6, a7, a8, a9, a10, a11, a12, a13, a14, a15⟩ := id hI
    obtain ⟨b0, b1, b2, b3, b4, b5, b6, b7, b8, b9, b10⟩ := id a2
    obtain ⟨hw, g1, g2, g3, g4, g5, g6, r0, r1, r2, r3, r4, r5, r6, c7, c8, c9, c10, c11⟩ := id a1
    obtain ⟨f1, f2, f3, f4, f5, f6, f7, f8, f9, f10, f11, f12, f13, f14, f15, f16, f17, f18⟩ := id hw
    simp only [Nat.zero_add] at g3 g4 g5 g6 r0 r1 r2 r3 r4 r5 r6 c7 c8 c9 c10
    refine bt_go0 rfl hP 60 ?_
    refine ⟨fun y => ?_, fun y => ?_⟩
    · rw [bt_bi_n0, a12, bt_inl_n (by omega)] at y
      rw [if_pos y, if_pos y] at h
      obtain ⟨j, hj, rfl⟩ := bt_in_e y
      rw [bt_clm (by omega)] at h
      intro M' e
      have hs : bt_sW w im (va_up u 5 j) z := by
        refine ⟨by rw [bt_un 0 (by omega)]; exact b0, b1, by rw [bt_un 1 (by omega)]; exact b2, by rw [bt_un 2 (by omega)]; exact b3, by rw [bt_un 3 (by omega)]; exact b4, by rw [bt_un 4 (by omega)]; exact b5, by rw [bt_up_s]; omega, fun k hk => by rw [bt_un (6 + k) (by omega), bt_un (10 + k) (by omega)]; exact b7 k hk, fun n hn => b8 n (by rw [bt_up_s] at hn; omega), by rw [bt_un 3 (by omega)]; exact b9, by rw [bt_un 4 (by omega)]; exact b10⟩

      have hI2 : bt_mI M' (w, im, va_up u 5 j, z, q) := bt_mI_uz hI hs ⟨bt_un 1 (by omega), bt_un 3 (by omega), bt_un 4 (by omega), bt_un 2 (by omega), fun k hk => ⟨bt_un _ (by omega), bt_un _ (by omega)⟩⟩ (fun x hx _ _ => by rw [e, bt_up_n (by omega)]) (fun f hf1 hf2 => by rw [e, bt_up_s, pk_un (by omega)]) (by rw [bt_un 0 (by omega), e, bt_up_s, pk_un (by omega)]; exact a3) (fun k hk => by rw [bt_un 0 (by omega)] at hk; rw [e, bt_up_n (by omega)]; exact a4 k hk) (by rw [bt_up_s, e, bt_up_s, pk_us]) (fun n hn => by rw [bt_up_s] at hn; rw [e, bt_up_n (by omega)]; exact a13 n (by omega))
      have key := h M' (fun x hx => by rw [e, bt_up_n (by omega)]) hI2
      rw [← a12] at key
      exact key
    · rw [bt_bi_0, a12, bt_inl_n (by omega)] at y
      rw [if_neg y, if_neg y] at h
      exact h M (fun _ _ => rfl) hI
  · cases hf

def f_see : bt_fn := fun t S => match t, S with
  | [.int k, .int t], (w, im, u, z, q) => some (.int (if (bt_in k (w 12 1) ∧ bt_in t 1000) then (if u 5 = 6 then -3 else nI (u 5 + 1)) else -1), (w, im, if ((bt_in k (w 12 1) ∧ bt_in t 1000) ∧ ¬ u 5 = 6) then va_up u 5 (u 5 + 1) else u, if ((bt_in k (w 12 1) ∧ bt_in t 1000) ∧ ¬ u 5 = 6) then va_up (va_up z 1 (va_up (z 1) (u 5) k.toNatClampNeg)) 2 (va_up (z 2) (u 5) t.toNatClampNeg) else z, q))
  | _, _ => none

def sX0_add : bt_Sp := fun as M N K => match as with
  | [.ref c, .int k, .int t] => ∃ n, c = 49 ∧ M 49 5 = nI n ∧ n ≤ 6 ∧ (n = 6 → K (some (.int 0)) M N) ∧ (n < 6 → ∀ M', (∀ x : Nat, x ≠ 49 → x ≠ 50 → x ≠ 51 → M' x = M x) → M' 49 5 = nI (n + 1) → M' 50 = upd (M 50) n k → M' 51 = upd (M 51) n t → K (some (.int 1)) M' N)
  | _ => False
theorem mX0_add : bt_MT bt_TX0_add bt_FX0 [] 2 3 sX0_add := by
  intro as M N Rt h P hP
  unfold sX0_add at h
  split at h
  · obtain ⟨n, rfl, hn, hn6, h6, h⟩ := h
    refine bt_go0 rfl hP 40 ⟨fun y => ?_, fun y => ?_⟩
    · rw [hn, bt_lit, nI_ltI (by omega) (by omega)] at y
      refine ⟨_, rfl, n, hn, by omega, fun M1 e1 => ?_⟩
      have q1 : M1 49 5 = nI n := by rw [e1, bt_up_n (by omega)]; exact hn
      refine ⟨_, rfl, n, q1, by omega, fun M2 e2 => ?_⟩
      have q2 : M2 49 5 = nI n := by rw [e2, bt_up_n (by omega)]; exact q1
      intro M3 e3
      refine ⟨Or.inr rfl, h (by omega) M3 (fun x x1 x2 x3 => by rw [e3, bt_up_n x1, e2, bt_up_n x3, e1, bt_up_n x2]) ?_ ?_ ?_⟩
      · rw [e3, bt_up_s, pk_us, q2, nI_1]
      · rw [e3, bt_up_n (by omega), e2, bt_up_n (by omega), e1, bt_up_s]
      · rw [e3, bt_up_n (by omega), e2, bt_up_s, e1, bt_up_n (by omega)]
    · rw [hn, bt_lit, nI_ltI (by omega) (by omega)] at y
      exact ⟨Or.inl rfl, h6 (by omega)⟩
  · exact False.elim h

def bt_CX5_see : bt_C := [(136, 1, 2, sX5_isCar), (51, 0, 3, sX5_within), (230, 1, 3, sX0_add)]
def sX5_see : bt_Sp := bt_spC f_see
set_option maxRecDepth 100000 in
theorem mX5_see : bt_MT bt_TX5_see bt_FX5 bt_CX5_see 1 3 sX5_see := by
  intro as M N Rt h P hP
  obtain ⟨t, S, r, S', rfl, hI, hf, h⟩ := bt_spC_e h
  obtain ⟨w, im, u, z, q⟩ := S
  unfold f_see at hf
  split at hf
  · next k t _ _ _ _ _ e =>
    cases e
    obtain ⟨rfl, rfl⟩ := bt_some hf
    obtain ⟨a1, a2, a3, a4, a5, a6, a7, a8, a9, a10, a11, a12⟩ := id hI
    obtain ⟨b0, b1, b2, b3, b4, b5, b6, b7, b8, b9, b10⟩ := id a2
    obtain ⟨hw, h8, h9, h10, h11, h12, h13, h14, h15, h16, h17, r1, r2, r3, r4, r5, r6, r7, r8⟩ := id a1
    obtain ⟨f1, f2, f3, f4, f5, f6, f7, f8, f9, f10, f11, f12, f13, f14, f15, f16, f17, f18⟩ := id hw
    have hbad : ¬ (bt_in k (w 12 1) ∧ bt_in t 1000) → Rt (some (.int (-1))) M N := fun y => by
      have nok : ¬ ((bt_in k (w 12 1) ∧ bt_in t 1000) ∧ ¬ u 5 = 6) := fun c => y c.1
      rw [if_neg y, if_neg nok, if_neg nok] at h
      exact h M N (fun _ _ => rfl) hI
    refine bt_go0 rfl hP 60 ?_
    refine ⟨w 12 1, rfl, h12, f2, ⟨fun y => ?_, fun y => ⟨fun y2 => ?_, fun y2 => ?_⟩⟩⟩
    · rw [bt_bi_0] at y
      exact hbad (fun c => y c.1)
    · rw [bt_bi_n0] at y
      rw [bt_bi_n0, bt_in_c (k := 999) (show (999 : Int32) = nI 999 from rfl) (by omega)] at y2
      have ok : (bt_in k (w 12 1) ∧ bt_in t 1000) := ⟨y, y2⟩
      rw [if_pos ok] at h
      refine ⟨u 5, rfl, a11, b6, fun y3 => ?_, fun y3 M' e1 e2 e3 e4 => ?_⟩
      · have nok : ¬ ((bt_in k (w 12 1) ∧ bt_in t 1000) ∧ ¬ u 5 = 6) := fun c => c.2 y3
        rw [if_pos y3, if_neg nok, if_neg nok] at h
        exact ⟨fun _ => h M N (fun _ _ => rfl) hI, fun c => absurd rfl c⟩
      · have y4 : ¬ u 5 = 6 := by omega
        have ok2 : (bt_in k (w 12 1) ∧ bt_in t 1000) ∧ ¬ u 5 = 6 := ⟨ok, y4⟩
        rw [if_neg y4, if_pos ok2, if_pos ok2] at h
        obtain ⟨j, hj, rfl⟩ := bt_in_e y
        obtain ⟨a, ha, rfl⟩ := bt_in_e y2
        rw [bt_clm (by omega), bt_clm (by omega)] at h
        have hs : bt_sW w im (va_up u 5 (u 5 + 1)) (va_up (va_up z 1 (va_up (z 1) (u 5) j)) 2 (va_up (z 2) (u 5) a)) := by
          refine ⟨by rw [bt_un 0 (by omega)]; exact b0, by rw [bt_up_n (by omega), bt_up_n (by omega)]; exact b1, by rw [bt_un 1 (by omega)]; exact b2, by rw [bt_un 2 (by omega)]; exact b3, by rw [bt_un 3 (by omega)]; exact b4, by rw [bt_un 4 (by omega)]; exact b5, by rw [bt_up_s]; omega, fun k hk => by rw [bt_un (6 + k) (by omega), bt_un (10 + k) (by omega)]; exact b7 k hk, ?_, by rw [bt_un 3 (by omega)]; exact b9, by rw [bt_un 4 (by omega)]; exact b10⟩
          intro n hn
          rw [bt_up_s] at hn
          rw [bt_up_n (by omega), bt_up_s, bt_up_s]
          by_cases hn2 : n = u 5
          · rw [hn2, bt_up_s, bt_up_s]; exact ⟨hj, by omega⟩
          · rw [bt_up_n hn2, bt_up_n hn2]; exact b8 n (by omega)

        have hI2 : bt_cI M' (w, im, va_up u 5 (u 5 + 1), va_up (va_up z 1 (va_up (z 1) (u 5) j)) 2 (va_up (z 2) (u 5) a), q) := by
          refine bt_cI_uz hI hs ⟨bt_un 1 (by omega), bt_un 3 (by omega), bt_un 4 (by omega), bt_un 2 (by omega), fun k hk => ⟨bt_un _ (by omega), bt_un _ (by omega)⟩⟩ (fun x hx => e1 x (by omega) (by omega) (by omega)) (fun f hf => by rw [e1 20 (by omega) (by omega) (by omega)]) (by rw [bt_un 0 (by omega), e1 20 (by omega) (by omega) (by omega)]; exact a3) (by rw [bt_un 0 (by omega), bt_up_n (by omega), bt_up_n (by omega), e1 1 (by omega) (by omega) (by omega)]; exact a4) (by rw [bt_up_s]; exact e2) ?_
          intro n hn
          rw [bt_up_s] at hn
          rw [e3, e4, bt_up_n (by omega), bt_up_s, bt_up_s]
          by_cases hn2 : n = u 5
          · rw [hn2, pk_us, pk_us, bt_up_s, bt_up_s]; exact ⟨rfl, rfl⟩
          · rw [pk_un hn2, pk_un hn2, bt_up_n hn2, bt_up_n hn2]; exact a12 n (by omega)
        have key := h M' N (fun x hx => e1 x (by omega) (by omega) (by omega)) hI2
        rw [← e2] at key
        exact ⟨fun c => absurd c (by decide), fun _ => key⟩
    · rw [bt_bi_0, bt_in_c (k := 999) (show (999 : Int32) = nI 999 from rfl) (by omega)] at y2
      exact hbad (fun c => y2 c.2)
  · cases hf

def bt_CX6_see : bt_C := [(153, 1, 2, sX6_isCar), (46, 0, 3, sX6_in)]
def sX6_see : bt_Sp := bt_spM f_see
set_option maxRecDepth 100000 in
theorem mX6_see : bt_MT bt_TX6_see bt_FX6 bt_CX6_see 1 3 sX6_see := by
  intro as M N Rt h P hP
  obtain ⟨t, S, r, S', rfl, hI, hf, h⟩ := bt_spM_e h
  obtain ⟨w, im, u, z, q⟩ := S
  unfold f_see at hf
  split at hf
  · next k t _ _ _ _ _ e =>
    cases e
    obtain ⟨rfl, rfl⟩ := bt_some hf
    obtain ⟨a1, a2, a3, a4, a5, a6, a7, a8, a9, a10, a11, a12, a13, a14, a15⟩ := id hI
    obtain ⟨b0, b1, b2, b3, b4, b5, b6, b7, b8, b9, b10⟩ := id a2
    obtain ⟨hw, g1, g2, g3, g4, g5, g6, r0, r1, r2, r3, r4, r5, r6, c7, c8, c9, c10, c11⟩ := id a1
    obtain ⟨f1, f2, f3, f4, f5, f6, f7, f8, f9, f10, f11, f12, f13, f14, f15, f16, f17, f18⟩ := id hw
    simp only [Nat.zero_add] at g3 g4 g5 g6 r0 r1 r2 r3 r4 r5 r6 c7 c8 c9 c10
    have hbad : ¬ (bt_in k (w 12 1) ∧ bt_in t 1000) → Rt (some (.int (-1))) M N := fun y => by
      have nok : ¬ ((bt_in k (w 12 1) ∧ bt_in t 1000) ∧ ¬ u 5 = 6) := fun c => y c.1
      rw [if_neg y, if_neg nok, if_neg nok] at h
      exact h M (fun _ _ => rfl) hI
    refine bt_go0 rfl hP 60 ?_
    refine ⟨w 12 1, rfl, g2, f2, ⟨fun y => ?_, fun y => ⟨fun y2 => ?_, fun y2 => ?_⟩⟩⟩
    · rw [bt_bi_0] at y
      exact hbad (fun c => y c.1)
    · rw [bt_bi_n0] at y
      rw [bt_bi_n0, bt_inl_c (k := 999) (show (999 : Int64) = lN 999 from rfl) (by omega)] at y2
      have ok : (bt_in k (w 12 1) ∧ bt_in t 1000) := ⟨y, y2⟩
      rw [if_pos ok] at h
      refine ⟨fun y3 => ?_, fun y3 => ?_⟩
      · have y4 : ¬ u 5 = 6 := fun c => y3 (by rw [a12, c]; rfl)
        have ok2 : (bt_in k (w 12 1) ∧ bt_in t 1000) ∧ ¬ u 5 = 6 := ⟨ok, y4⟩
        rw [if_neg y4, if_pos ok2, if_pos ok2] at h
        obtain ⟨j, hj, rfl⟩ := bt_in_e y
        obtain ⟨a, ha, rfl⟩ := bt_in_e y2
        rw [bt_clm (by omega), bt_clm (by omega)] at h
        have hs : bt_sW w im (va_up u 5 (u 5 + 1)) (va_up (va_up z 1 (va_up (z 1) (u 5) j)) 2 (va_up (z 2) (u 5) a)) := by
          refine ⟨by rw [bt_un 0 (by omega)]; exact b0, by rw [bt_up_n (by omega), bt_up_n (by omega)]; exact b1, by rw [bt_un 1 (by omega)]; exact b2, by rw [bt_un 2 (by omega)]; exact b3, by rw [bt_un 3 (by omega)]; exact b4, by rw [bt_un 4 (by omega)]; exact b5, by rw [bt_up_s]; omega, fun k hk => by rw [bt_un (6 + k) (by omega), bt_un (10 + k) (by omega)]; exact b7 k hk, ?_, by rw [bt_un 3 (by omega)]; exact b9, by rw [bt_un 4 (by omega)]; exact b10⟩
          intro n hn
          rw [bt_up_s] at hn
          rw [bt_up_n (by omega), bt_up_s, bt_up_s]
          by_cases hn2 : n = u 5
          · rw [hn2, bt_up_s, bt_up_s]; exact ⟨hj, by omega⟩
          · rw [bt_up_n hn2, bt_up_n hn2]; exact b8 n (by omega)

        refine ⟨_, rfl, 2 * u 5, by rw [a12]; simp only [bt_lit, pk_mul], by omega, fun M1 e1 => ?_⟩
        have q1 : M1 67 21 = nI (u 5) := by rw [e1, bt_up_n (by omega)]; exact a12
        refine ⟨_, rfl, 2 * u 5 + 1, by rw [q1]; simp only [bt_lit, pk_mul, nI_add], by omega, fun M2 e2 => ?_⟩
        have q2 : M2 67 21 = nI (u 5) := by rw [e2, bt_up_n (by omega)]; exact q1
        intro M3 e3
        have q3 : M3 67 21 = nI (u 5 + 1) := by rw [e3, bt_up_s, pk_us, q2, nI_1]
        have hx3 : ∀ x : Nat, x ≠ 67 → x ≠ 74 → M3 x = M x := fun x x1 x2 => by rw [e3, bt_up_n x1, e2, bt_up_n x2, e1, bt_up_n x2]
        have hf3 : ∀ f, f ≠ 21 → M3 67 f = M 67 f := fun f hf => by rw [e3, bt_up_s, pk_un hf, e2, bt_up_n (by omega), e1, bt_up_n (by omega)]
        have hI2 : bt_mI M3 (w, im, va_up u 5 (u 5 + 1), va_up (va_up z 1 (va_up (z 1) (u 5) j)) 2 (va_up (z 2) (u 5) a), q) := by
          refine bt_mI_uz hI hs ⟨bt_un 1 (by omega), bt_un 3 (by omega), bt_un 4 (by omega), bt_un 2 (by omega), fun k hk => ⟨bt_un _ (by omega), bt_un _ (by omega)⟩⟩ (fun x x1 x2 x3 => hx3 x (by omega) x3) (fun f _ hf => hf3 f hf) (by rw [bt_un 0 (by omega), hf3 10 (by omega)]; exact a3) (by rw [bt_un 0 (by omega), bt_up_n (by omega), bt_up_n (by omega), hx3 71 (by omega) (by omega)]; exact a4) (by rw [bt_up_s]; exact q3) ?_
          intro n hn
          rw [bt_up_s] at hn
          rw [e3, bt_up_n (by omega), e2, bt_up_s, e1, bt_up_s, bt_up_n (by omega), bt_up_s, bt_up_s]
          by_cases hn2 : n = u 5
          · rw [hn2, pk_un (by omega), pk_us, pk_us, bt_up_s, bt_up_s]; exact ⟨rfl, rfl⟩
          · rw [pk_un (by omega), pk_un (by omega), pk_un (by omega), pk_un (by omega), bt_up_n hn2, bt_up_n hn2]; exact a13 n (by omega)
        have key := h M3 (fun x hx => hx3 x (by omega) (by omega)) hI2
        rw [← q3] at key
        exact key
      · have y4 : u 5 = 6 := by
          rw [a12] at y3
          exact (nI_eq (b := 6) (by omega) (by omega)).mp y3
        have nok : ¬ ((bt_in k (w 12 1) ∧ bt_in t 1000) ∧ ¬ u 5 = 6) := fun c => c.2 y4
        rw [if_pos y4, if_neg nok, if_neg nok] at h
        exact h M (fun _ _ => rfl) hI
    · rw [bt_bi_0, bt_inl_c (k := 999) (show (999 : Int64) = lN 999 from rfl) (by omega)] at y2
      exact hbad (fun c => y2 c.2)
  · cases hf

def f_drive : bt_fn := fun t S => match t, S with
  | [.int g], (w, im, u, z, q) => some (.int (if bt_in g 10 then (if w 12 0 ≤ w 12 4 then -2 else nI (bt_mk (bt_cm w (w 12 4) g.toNatClampNeg (w 11)) (w 12 1))) else -1), (if bt_in g 10 ∧ ¬ w 12 0 ≤ w 12 4 then bt_dv w g.toNatClampNeg else w, im, u, z, q))
  | _, _ => none

def bt_CX5_drive : bt_C := [(51, 0, 3, sX5_within), (166, 1, 1, sX4_allHaveCome), (170, 1, 2, sX4_driveOne)]
def sX5_drive : bt_Sp := bt_spC f_drive
set_option maxRecDepth 100000 in
theorem mX5_drive : bt_MT bt_TX5_drive bt_FX5 bt_CX5_drive 1 2 sX5_drive := by
  intro as M N Rt h P hP
  obtain ⟨t, S, r, S', rfl, hI, hf, h⟩ := bt_spC_e h
  obtain ⟨w, im, u, z, q⟩ := S
  unfold f_drive at hf
  split at hf
  · next g _ _ _ _ _ e =>
    cases e
    obtain ⟨rfl, rfl⟩ := bt_some hf
    obtain ⟨a1, a2, a3, a4, a5, a6, a7, a8, a9, a10, a11, a12⟩ := id hI
    obtain ⟨b0, b1, b2, b3, b4, b5, b6, b7, b8, b9, b10⟩ := id a2
    obtain ⟨hw, h8, h9, h10, h11, h12, h13, h14, h15, h16, h17, r1, r2, r3, r4, r5, r6, r7, r8⟩ := id a1
    obtain ⟨f1, f2, f3, f4, f5, f6, f7, f8, f9, f10, f11, f12, f13, f14, f15, f16, f17, f18⟩ := id hw
    refine bt_go0 rfl hP 60 ?_
    refine ⟨fun y => ?_, fun y => ?_⟩
    · rw [bt_bi_n0, bt_in_c (k := 9) (show (9 : Int32) = nI 9 from rfl) (by omega)] at y
      rw [if_pos y] at h
      refine ⟨w, Or.inl rfl, a1, ?_⟩
      by_cases y2 : w 12 0 ≤ w 12 4
      · rw [if_pos y2]
        rw [if_pos y2, if_neg (fun c => c.2 y2)] at h
        exact ⟨fun c => absurd c (by decide), fun _ => h M N (fun _ _ => rfl) hI⟩
      · rw [if_neg y2]
        rw [if_neg y2, if_pos ⟨y, y2⟩] at h
        obtain ⟨j, hj, rfl⟩ := bt_in_e y
        rw [bt_clm (by omega)] at h
        refine ⟨fun _ => ?_, fun c => absurd rfl c⟩
        refine ⟨w, j, Or.inl rfl, a1, by omega, rfl, by omega, fun M' c1 c2 => ?_⟩
        exact h M' N (fun x hx => c2 x (by omega) (by omega)) (bt_cI_live hI c1 ⟨rfl, rfl⟩ (fun x hx => c2 x (by omega) (by omega)))
    · rw [bt_bi_0, bt_in_c (k := 9) (show (9 : Int32) = nI 9 from rfl) (by omega)] at y
      rw [if_neg y, if_neg (fun c => y c.1)] at h
      exact h M N (fun _ _ => rfl) hI
  · cases hf

def bt_CX6_drives : bt_C := [(46, 0, 3, sX6_in), (187, 1, 2, sX6_areLeft), (190, 1, 3, sX6_driveOn)]
def sX6_drives : bt_Sp := fun as M N K => match as with
  | [.ref c, .int g] => ∃ w, c = 67 ∧ bt_mW M 0 w ∧ (¬ bt_in g 10 → K (some (.int (-1))) M N) ∧ (bt_in g 10 → w 12 0 ≤ w 12 4 → K (some (.int (-2))) M N) ∧ (∀ j, g = nI j → j < 10 → w 12 4 < w 12 0 → ∀ M', bt_mW M' 0 (bt_dv w j) → bt_mfr 0 M M' → K (some (.int (nI (bt_mk (bt_cm w (w 12 4) j (w 11)) (w 12 1))))) M' N)
  | _ => False
theorem mX6_drives : bt_MT bt_TX6_drives bt_FX6 bt_CX6_drives 1 2 sX6_drives := by
  intro as M N Rt h P hP
  unfold sX6_drives at h
  split at h
  · obtain ⟨w, rfl, hw, h1, h2, h3⟩ := h
    have f1 := hw.1.1
    have f3 := hw.1.2.2.1
    have g5 := hw.2.2.2.2.2.1
    refine bt_go0 rfl hP 60 ⟨fun y => ?_, fun y => ?_⟩
    · rw [bt_bi_n0, bt_inl_c (k := 9) (show (9 : Int64) = lN 9 from rfl) (by omega)] at y
      refine ⟨0, w 12 4, w 12 0, rfl, rfl, by omega, g5, by omega, hw.2.1, f1, ?_⟩
      by_cases y2 : w 12 4 < w 12 0
      · rw [if_pos y2]
        obtain ⟨j, hj, rfl⟩ := bt_in_e y
        exact ⟨fun c => absurd c (by decide), fun _ => ⟨0, j, w, rfl, rfl, by omega, rfl, by omega, hw, y2, fun M' c1 c2 => h3 j rfl hj y2 M' c1 c2⟩⟩
      · rw [if_neg y2]
        exact ⟨fun _ => h2 y (by omega), fun c => absurd rfl c⟩
    · rw [bt_bi_0, bt_inl_c (k := 9) (show (9 : Int64) = lN 9 from rfl) (by omega)] at y
      exact h1 y
  · exact False.elim h

def bt_CX6_drive : bt_C := [(193, 1, 2, sX6_drives)]
def sX6_drive : bt_Sp := bt_spM f_drive
set_option maxRecDepth 100000 in
theorem mX6_drive : bt_MT bt_TX6_drive bt_FX6 bt_CX6_drive 1 2 sX6_drive := by
  intro as M N Rt h P hP
  obtain ⟨t, S, r, S', rfl, hI, hf, h⟩ := bt_spM_e h
  obtain ⟨w, im, u, z, q⟩ := S
  unfold f_drive at hf
  split at hf
  · next g _ _ _ _ _ e =>
    cases e
    obtain ⟨rfl, rfl⟩ := bt_some hf
    obtain ⟨a1, a2, a3, a4, a5, a6, a7, a8, a9, a10, a11, a12, a13, a14, a15⟩ := id hI
    obtain ⟨b0, b1, b2, b3, b4, b5, b6, b7, b8, b9, b10⟩ := id a2
    obtain ⟨hw, g1, g2, g3, g4, g5, g6, r0, r1, r2, r3, r4, r5, r6, c7, c8, c9, c10, c11⟩ := id a1
    obtain ⟨f1, f2, f3, f4, f5, f6, f7, f8, f9, f10, f11, f12, f13, f14, f15, f16, f17, f18⟩ := id hw
    simp only [Nat.zero_add] at g3 g4 g5 g6 r0 r1 r2 r3 r4 r5 r6 c7 c8 c9 c10
    refine bt_go0 rfl hP 60 ?_
    refine ⟨w, rfl, a1, fun y => ?_, fun y y2 => ?_, fun j hj1 hj y2 M' c1 c2 => ?_⟩
    · rw [if_neg y, if_neg (fun c => y c.1)] at h
      exact h M (fun _ _ => rfl) hI
    · rw [if_pos y, if_pos y2, if_neg (fun c => c.2 y2)] at h
      exact h M (fun _ _ => rfl) hI
    · subst hj1
      have y : bt_in (nI j) 10 := (bt_in_nI (by omega)).mpr hj
      have y3 : ¬ w 12 0 ≤ w 12 4 := by omega
      rw [if_pos y, if_neg y3, if_pos ⟨y, y3⟩, bt_clm (by omega)] at h
      exact h M' (fun x hx => c2.1 x (by omega)) (bt_mI_live hI c1 ⟨rfl, rfl⟩ (fun x _ hx => c2.1 x hx) (fun i hi _ => c2.2 i (by omega)))
  · cases hf

def f_on : bt_fn := fun t S => match t, S with
  | [], (w, im, u, z, q) => some (.int (if w 12 0 ≤ w 12 4 then -2 else nI (bt_mk (bt_cm w (w 12 4) (w 2 (w 12 4)) (w 11)) (w 12 1))), (if w 12 0 ≤ w 12 4 then w else bt_dv w (w 2 (w 12 4)), im, u, z, q))
  | _, _ => none

def bt_CX5_on : bt_C := [(166, 1, 1, sX4_allHaveCome), (170, 1, 2, sX4_driveOne)]
def sX5_on : bt_Sp := bt_spC f_on
set_option maxRecDepth 100000 in
theorem mX5_on : bt_MT bt_TX5_on bt_FX5 bt_CX5_on 1 1 sX5_on := by
  intro as M N Rt h P hP
  obtain ⟨t, S, r, S', rfl, hI, hf, h⟩ := bt_spC_e h
  obtain ⟨w, im, u, z, q⟩ := S
  unfold f_on at hf
  split at hf
  · next _ _ _ _ _ e =>
    cases e
    obtain ⟨rfl, rfl⟩ := bt_some hf
    obtain ⟨a1, a2, a3, a4, a5, a6, a7, a8, a9, a10, a11, a12⟩ := id hI
    obtain ⟨b0, b1, b2, b3, b4, b5, b6, b7, b8, b9, b10⟩ := id a2
    obtain ⟨hw, h8, h9, h10, h11, h12, h13, h14, h15, h16, h17, r1, r2, r3, r4, r5, r6, r7, r8⟩ := id a1
    obtain ⟨f1, f2, f3, f4, f5, f6, f7, f8, f9, f10, f11, f12, f13, f14, f15, f16, f17, f18⟩ := id hw
    refine bt_go0 rfl hP 60 ?_
    refine ⟨w, Or.inl rfl, a1, ?_⟩
    by_cases y2 : w 12 0 ≤ w 12 4
    · rw [if_pos y2]
      rw [if_pos y2, if_pos y2] at h
      exact ⟨fun c => absurd c (by decide), fun _ => h M N (fun _ _ => rfl) hI⟩
    · rw [if_neg y2]
      rw [if_neg y2, if_neg y2] at h
      refine ⟨fun _ => ?_, fun c => absurd rfl c⟩
      refine ⟨_, rfl, w 12 4, h16, by omega, ?_⟩
      refine ⟨w, w 2 (w 12 4), Or.inl rfl, a1, by omega, r3 _ (by omega), f9 _, fun M' c1 c2 => ?_⟩
      exact h M' N (fun x hx => c2 x (by omega) (by omega)) (bt_cI_live hI c1 ⟨rfl, rfl⟩ (fun x hx => c2 x (by omega) (by omega)))
  · cases hf

def bt_CX6_on : bt_C := [(187, 1, 2, sX6_areLeft), (196, 1, 2, sX6_ownGap), (190, 1, 3, sX6_driveOn)]
def sX6_on : bt_Sp := bt_spM f_on
set_option maxRecDepth 100000 in
theorem mX6_on : bt_MT bt_TX6_on bt_FX6 bt_CX6_on 1 1 sX6_on := by
  intro as M N Rt h P hP
  obtain ⟨t, S, r, S', rfl, hI, hf, h⟩ := bt_spM_e h
  obtain ⟨w, im, u, z, q⟩ := S
  unfold f_on at hf
  split at hf
  · next _ _ _ _ _ e =>
    cases e
    obtain ⟨rfl, rfl⟩ := bt_some hf
    obtain ⟨a1, a2, a3, a4, a5, a6, a7, a8, a9, a10, a11, a12, a13, a14, a15⟩ := id hI
    obtain ⟨b0, b1, b2, b3, b4, b5, b6, b7, b8, b9, b10⟩ := id a2
    obtain ⟨hw, g1, g2, g3, g4, g5, g6, r0, r1, r2, r3, r4, r5, r6, c7, c8, c9, c10, c11⟩ := id a1
    obtain ⟨f1, f2, f3, f4, f5, f6, f7, f8, f9, f10, f11, f12, f13, f14, f15, f16, f17, f18⟩ := id hw
    simp only [Nat.zero_add] at g3 g4 g5 g6 r0 r1 r2 r3 r4 r5 r6 c7 c8 c9 c10
    refine bt_go0 rfl hP 60 ?_
    refine ⟨0, w 12 4, w 12 0, rfl, rfl, by omega, by simpa using g5, by omega, g1, f1, ?_⟩
    by_cases y2 : w 12 0 ≤ w 12 4
    · rw [if_neg (by omega)]
      rw [if_pos y2, if_pos y2] at h
      exact ⟨fun _ => h M (fun _ _ => rfl) hI, fun c => absurd rfl c⟩
    · rw [if_pos (by omega)]
      rw [if_neg y2, if_neg y2] at h
      refine ⟨fun c => absurd c (by decide), fun _ => ?_⟩
      refine ⟨0, w 12 4, w 2 (w 12 4), rfl, rfl, by omega, by simpa using g5, by omega, by simpa using r2 _ (by omega), ?_⟩
      refine ⟨0, w 2 (w 12 4), w, rfl, rfl, by omega, rfl, f9 _, a1, by omega, fun M' c1 c2 => ?_⟩
      exact h M' (fun x hx => c2.1 x (by omega)) (bt_mI_live hI c1 ⟨rfl, rfl⟩ (fun x _ hx => c2.1 x hx) (fun i hi _ => c2.2 i (by omega)))
  · cases hf
