/-! CALLS, BOTH SIDES: cells of sheets, reading -/

theorem bt_l4 : ∀ l, l < 3 → ¬ nI l = -4 := by decide +kernel

def f_lay : bt_fn := fun t S => match t, S with
  | [.int k, .int i, .int v], (w, im, u, z, q) => some (.int (if bt_in k 4 then (if u (6 + k.toNatClampNeg) = 0 then -11 else if bt_in i (u (6 + k.toNatClampNeg) - 1) then 1 else -12) else -1), (w, im, u, z, if (bt_in k 4 ∧ bt_in i (u (6 + k.toNatClampNeg) - 1)) then va_up q k.toNatClampNeg (upd (q k.toNatClampNeg) i.toNatClampNeg (bt_cv (u (10 + k.toNatClampNeg)) v)) else q))
  | _, _ => none

def bt_CX5_lay : bt_C := [(258, 0, 1, sX5_isSheet), (271, 1, 3, sX2_faultAt), (274, 1, 3, sX2_put)]
def sX5_lay : bt_Sp := bt_spC f_lay
set_option maxRecDepth 100000 in
theorem mX5_lay : bt_MT bt_TX5_lay bt_FX5 bt_CX5_lay 1 6 sX5_lay := by
  intro as M N Rt h P hP
  obtain ⟨t, S, r, S', rfl, hI, hf, h⟩ := bt_spC_e h
  obtain ⟨w, im, u, z, q⟩ := S
  unfold f_lay at hf
  split at hf
  · next k i v _ _ _ _ _ e =>
    cases e
    obtain ⟨rfl, rfl⟩ := bt_some hf
    obtain ⟨a1, a2, a3, a4, a5, a6, a7, a8, a9, a10, a11, a12⟩ := id hI
    obtain ⟨b0, b1, b2, b3, b4, b5, b6, b7, b8, b9, b10⟩ := id a2
    obtain ⟨hw, h8, h9, h10, h11, h12, h13, h14, h15, h16, h17, r1, r2, r3, r4, r5, r6, r7, r8⟩ := id a1
    obtain ⟨f1, f2, f3, f4, f5, f6, f7, f8, f9, f10, f11, f12, f13, f14, f15, f16, f17, f18⟩ := id hw
    refine bt_go0 rfl hP 60 ?_
    refine ⟨fun y => ?_, fun y => ?_⟩
    · rw [bt_bi_n0] at y
      obtain ⟨k, hk, rfl⟩ := bt_in_e y
      rw [if_pos y, bt_clm (by omega)] at h
      obtain ⟨s2, s1, s4⟩ := a10 k hk
      obtain ⟨l1, l2⟩ := b7 k hk
      have s1' : M (bt_rf 40 k) 1 = nI (u (10 + k)) := by rw [bt_rf40 k hk]; exact s1
      have hfa : bt_fa (u (6 + k)) (u (10 + k)) (M (bt_rf 40 k) 1) i = if u (6 + k) = 0 then 1 else if bt_in i (u (6 + k) - 1) then 0 else 2 := by
        unfold bt_fa
        rw [if_pos s1']
      have hput : ∀ i', i = nI i' → i' < u (6 + k) - 1 → ∀ M', M' = va_up M (42 + 2 * k) (upd (M (42 + 2 * k)) i' (bt_cv (u (10 + k)) v)) → Rt (some (.int 1)) M' N := by
        rintro i' rfl hi M' e
        have z2 : bt_in (nI i') (u (6 + k) - 1) := (bt_in_nI (by omega)).mpr hi
        rw [if_neg (show ¬ u (6 + k) = 0 by omega), if_pos z2, if_pos ⟨y, z2⟩, bt_clm (by omega)] at h
        refine h M' N (fun x hx => by rw [e, bt_up_n (by omega)]) (bt_cI_sh (k := k) hI hk (fun _ _ _ => rfl) l1 l2 (fun i hi => bt_up_n hi) (fun x x1 x2 => by rw [e, bt_up_n x2]) (by rw [e, bt_up_n (by omega)]; exact s2) (by rw [e, bt_up_n (by omega)]; exact s1) (fun j hj => ?_))
        rw [e, bt_up_s, bt_up_s]
        by_cases hj2 : j = i'
        · rw [hj2, pk_us, pk_us]
        · rw [pk_un hj2, pk_un hj2]; exact s4 j hj
      have hbad1 : u (6 + k) = 0 → Rt (some (.int (-11))) M N := fun z1 => by
        have nz : ¬ (bt_in (nI k) 4 ∧ bt_in i (u (6 + k) - 1)) := fun c => by
          obtain ⟨d1, d2⟩ := c.2
          rw [z1] at d2
          omega
        rw [if_pos z1, if_neg nz] at h
        exact h M N (fun _ _ => rfl) hI
      have hbad2 : ¬ u (6 + k) = 0 → ¬ bt_in i (u (6 + k) - 1) → Rt (some (.int (-12))) M N := fun z1 z2 => by
        rw [if_neg z1, if_neg z2, if_neg (fun c => z2 c.2)] at h
        exact h M N (fun _ _ => rfl) hI
      clear h
      refine ⟨_, rfl, k, rfl, hk, ?_⟩
      obtain rfl | rfl | rfl | rfl : k = 0 ∨ k = 1 ∨ k = 2 ∨ k = 3 := by omega
      · refine ⟨_, _, _, hk, rfl, l1, s2, s1, ?_⟩
        by_cases z1 : u (6 + 0) = 0
        · rw [if_pos z1] at hfa
          refine ⟨fun y2 => ?_, fun _ => ?_⟩
          · rw [hfa] at y2
            exact absurd y2 (by decide)
          · rw [hfa]
            exact hbad1 z1
        · rw [if_neg z1] at hfa
          by_cases z2 : bt_in i (u (6 + 0) - 1)
          · rw [if_pos z2] at hfa
            refine ⟨fun _ => ?_, fun y2 => ?_⟩
            · obtain ⟨i', hi, rfl⟩ := bt_in_e z2
              exact ⟨_, i', _, hk, rfl, rfl, by omega, s1, l2, fun M' e => hput i' rfl hi M' e⟩
            · rw [hfa] at y2
              exact absurd rfl y2
          · rw [if_neg z2] at hfa
            refine ⟨fun y2 => ?_, fun _ => ?_⟩
            · rw [hfa] at y2
              exact absurd y2 (by decide)
            · rw [hfa]
              exact hbad2 z1 z2
      · refine ⟨_, _, _, hk, rfl, l1, s2, s1, ?_⟩
        by_cases z1 : u (6 + 1) = 0
        · rw [if_pos z1] at hfa
          refine ⟨fun y2 => ?_, fun _ => ?_⟩
          · rw [hfa] at y2
            exact absurd y2 (by decide)
          · rw [hfa]
            exact hbad1 z1
        · rw [if_neg z1] at hfa
          by_cases z2 : bt_in i (u (6 + 1) - 1)
          · rw [if_pos z2] at hfa
            refine ⟨fun _ => ?_, fun y2 => ?_⟩
            · obtain ⟨i', hi, rfl⟩ := bt_in_e z2
              exact ⟨_, i', _, hk, rfl, rfl, by omega, s1, l2, fun M' e => hput i' rfl hi M' e⟩
            · rw [hfa] at y2
              exact absurd rfl y2
          · rw [if_neg z2] at hfa
            refine ⟨fun y2 => ?_, fun _ => ?_⟩
            · rw [hfa] at y2
              exact absurd y2 (by decide)
            · rw [hfa]
              exact hbad2 z1 z2
      · refine ⟨_, _, _, hk, rfl, l1, s2, s1, ?_⟩
        by_cases z1 : u (6 + 2) = 0
        · rw [if_pos z1] at hfa
          refine ⟨fun y2 => ?_, fun _ => ?_⟩
          · rw [hfa] at y2
            exact absurd y2 (by decide)
          · rw [hfa]
            exact hbad1 z1
        · rw [if_neg z1] at hfa
          by_cases z2 : bt_in i (u (6 + 2) - 1)
          · rw [if_pos z2] at hfa
            refine ⟨fun _ => ?_, fun y2 => ?_⟩
            · obtain ⟨i', hi, rfl⟩ := bt_in_e z2
              exact ⟨_, i', _, hk, rfl, rfl, by omega, s1, l2, fun M' e => hput i' rfl hi M' e⟩
            · rw [hfa] at y2
              exact absurd rfl y2
          · rw [if_neg z2] at hfa
            refine ⟨fun y2 => ?_, fun _ => ?_⟩
            · rw [hfa] at y2
              exact absurd y2 (by decide)
            · rw [hfa]
              exact hbad2 z1 z2
      · refine ⟨_, _, _, hk, rfl, l1, s2, s1, ?_⟩
        by_cases z1 : u (6 + 3) = 0
        · rw [if_pos z1] at hfa
          refine ⟨fun y2 => ?_, fun _ => ?_⟩
          · rw [hfa] at y2
            exact absurd y2 (by decide)
          · rw [hfa]
            exact hbad1 z1
        · rw [if_neg z1] at hfa
          by_cases z2 : bt_in i (u (6 + 3) - 1)
          · rw [if_pos z2] at hfa
            refine ⟨fun _ => ?_, fun y2 => ?_⟩
            · obtain ⟨i', hi, rfl⟩ := bt_in_e z2
              exact ⟨_, i', _, hk, rfl, rfl, by omega, s1, l2, fun M' e => hput i' rfl hi M' e⟩
            · rw [hfa] at y2
              exact absurd rfl y2
          · rw [if_neg z2] at hfa
            refine ⟨fun y2 => ?_, fun _ => ?_⟩
            · rw [hfa] at y2
              exact absurd y2 (by decide)
            · rw [hfa]
              exact hbad2 z1 z2
    · rw [bt_bi_0] at y
      rw [if_neg y, if_neg (fun c => y c.1)] at h
      exact h M N (fun _ _ => rfl) hI
  · cases hf

def bt_CX6_lay : bt_C := [(46, 0, 3, sX6_in)]
def sX6_lay : bt_Sp := bt_spM f_lay
set_option maxRecDepth 100000 in
theorem mX6_lay : bt_MT bt_TX6_lay bt_FX6 bt_CX6_lay 1 4 sX6_lay := by
  intro as M N Rt h P hP
  obtain ⟨t, S, r, S', rfl, hI, hf, h⟩ := bt_spM_e h
  obtain ⟨w, im, u, z, q⟩ := S
  unfold f_lay at hf
  split at hf
  · next k i v _ _ _ _ _ e =>
    cases e
    obtain ⟨rfl, rfl⟩ := bt_some hf
    obtain ⟨a1, a2, a3, a4, a5, a6, a7, a8, a9, a10, a11, a12, a13, a14, a15⟩ := id hI
    obtain ⟨b0, b1, b2, b3, b4, b5, b6, b7, b8, b9, b10⟩ := id a2
    obtain ⟨hw, g1, g2, g3, g4, g5, g6, r0, r1, r2, r3, r4, r5, r6, c7, c8, c9, c10, c11⟩ := id a1
    obtain ⟨f1, f2, f3, f4, f5, f6, f7, f8, f9, f10, f11, f12, f13, f14, f15, f16, f17, f18⟩ := id hw
    simp only [Nat.zero_add] at g3 g4 g5 g6 r0 r1 r2 r3 r4 r5 r6 c7 c8 c9 c10
    refine bt_go0 rfl hP 60 ?_
    refine ⟨fun y => ?_, fun y => ?_⟩
    · rw [bt_bi_n0, bt_inl_c (k := 3) (show (3 : Int64) = lN 3 from rfl) (by omega)] at y
      obtain ⟨k, hk, rfl⟩ := bt_in_e y
      rw [if_pos y, bt_clm (by omega)] at h
      obtain ⟨s2, s1, s4⟩ := a11 k hk
      obtain ⟨l1, l2⟩ := b7 k hk
      refine ⟨_, rfl, k, rfl, hk, ⟨fun y2 => ?_, fun y2 => ?_⟩⟩
      · have z1 : ¬ u (6 + k) = 0 := fun c => y2 (by rw [s2, if_pos c])
        rw [if_neg z1] at s2 h
        have s1 := s1 z1
        refine ⟨_, rfl, k, rfl, hk, ⟨fun y3 => ?_, fun y3 => ?_⟩⟩
        · rw [bt_bi_n0, s1, bt_inl_last (by omega)] at y3
          rw [if_pos y3, if_pos ⟨y, y3⟩] at h
          obtain ⟨i, hi, rfl⟩ := bt_in_e y3
          rw [bt_clm (by omega)] at h
          have hput : ∀ M', M' = va_up M 78 (upd (M 78) (40 * k + i) (bt_cv (u (10 + k)) v)) → Rt (some (.int 1)) M' N := fun M' e => by
            refine h M' (fun x hx => by rw [e, bt_up_n (by omega)]) (bt_mI_sh (k := k) hI hk (fun _ _ _ => rfl) l1 l2 (fun i hi => bt_up_n hi) (fun x x1 x2 => by rw [e, bt_up_n (by omega)]) (fun j hj => by rw [e, bt_up_n (by omega)]) (fun j hj => by rw [e, bt_up_n (by omega)]) (fun j hj => by rw [e, bt_up_s, pk_un (by omega)]) (by rw [if_neg z1, e, bt_up_n (by omega)]; exact s2) (fun _ => by rw [e, bt_up_n (by omega)]; exact s1) (fun j hj => ?_))
            rw [e, bt_up_s, bt_up_s]
            by_cases hj2 : j = i
            · rw [hj2, pk_us, pk_us]
            · rw [pk_un (by omega), pk_un hj2]; exact s4 j hj
          have hl2 := bt_l012 (u (10 + k)) (by omega)
          unfold bt_cv at hput
          refine ⟨_, rfl, k, rfl, hk, ⟨fun y4 => ?_, fun y4 => ?_⟩⟩
          · rw [s2, hl2.1] at y4
            rw [if_neg y4] at hput
            refine ⟨_, rfl, k, rfl, hk, ⟨fun y5 => ?_, fun y5 => ?_⟩⟩
            · rw [s2, hl2.2] at y5
              rw [if_neg y5] at hput
              exact ⟨_, rfl, 40 * k + i, by simp only [bt_lit, pk_mul, nI_add], by omega, fun M' e => hput M' e⟩
            · rw [s2, hl2.2] at y5
              rw [if_pos y5, ← bt_sx16] at hput
              exact ⟨_, rfl, 40 * k + i, by simp only [bt_lit, pk_mul, nI_add], by omega, fun M' e => hput M' e⟩
          · rw [s2, hl2.1] at y4
            rw [if_pos y4, ← bt_sx8] at hput
            exact ⟨_, rfl, 40 * k + i, by simp only [bt_lit, pk_mul, nI_add], by omega, fun M' e => hput M' e⟩
        · rw [bt_bi_0, s1, bt_inl_last (by omega)] at y3
          rw [if_neg y3, if_neg (fun c => y3 c.2)] at h
          exact h M (fun _ _ => rfl) hI
      · have z1 : u (6 + k) = 0 := by
          by_cases z1 : u (6 + k) = 0
          · exact z1
          · rw [s2, if_neg z1] at y2
            exact absurd y2 (bt_l4 _ (by omega))
        have nz : ¬ (bt_in (nI k) 4 ∧ bt_in i (u (6 + k) - 1)) := fun c => by
          obtain ⟨d1, d2⟩ := c.2
          rw [z1] at d2
          omega
        rw [if_pos z1, if_neg nz] at h
        exact h M (fun _ _ => rfl) hI
    · rw [bt_bi_0, bt_inl_c (k := 3) (show (3 : Int64) = lN 3 from rfl) (by omega)] at y
      rw [if_neg y, if_neg (fun c => y c.1)] at h
      exact h M (fun _ _ => rfl) hI
  · cases hf
