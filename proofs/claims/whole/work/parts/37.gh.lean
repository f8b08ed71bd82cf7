/-! CALLS, BOTH SIDES: reading a sheet -/
theorem bt_rd_end {n l : Nat} {l' fr : Int32} {qk : Nat → Int32} {k : Nat} {w : bt_W} : bt_rd n l l' fr qk 0 k w = (0, k, w) := rfl
theorem bt_rd_f {n l : Nat} {l' fr : Int32} {qk : Nat → Int32} {r k : Nat} {w : bt_W} (h : ¬ bt_fa n l l' (fr + nI k) = 0) : bt_rd n l l' fr qk (r + 1) k w = (bt_fa n l l' (fr + nI k), k, w) := by
  rw [bt_rd, if_neg h]
theorem bt_rd_4 {n l : Nat} {l' fr : Int32} {qk : Nat → Int32} {r k a : Nat} {w : bt_W} (h : bt_fa n l l' (fr + nI k) = 0) (ha : fr + nI k = nI a) (ha2 : a < 2 ^ 31) (h2 : ¬ (bt_in (qk a) 10 ∧ w 12 4 < w 12 0)) : bt_rd n l l' fr qk (r + 1) k w = (4, k, w) := by
  rw [bt_rd, if_pos h, ha, bt_clm ha2, if_neg h2]
theorem bt_rd_s {n l : Nat} {l' fr : Int32} {qk : Nat → Int32} {r k a g : Nat} {w : bt_W} (h : bt_fa n l l' (fr + nI k) = 0) (ha : fr + nI k = nI a) (ha2 : a < 2 ^ 31) (hg : qk a = nI g) (hg2 : g < 10) (h2 : w 12 4 < w 12 0) : bt_rd n l l' fr qk (r + 1) k w = bt_rd n l l' fr qk r (k + 1) (bt_dv w g) := by
  have ok : bt_in (qk a) 10 ∧ w 12 4 < w 12 0 := ⟨by rw [hg]; exact (bt_in_nI (by omega)).mpr hg2, h2⟩
  rw [bt_rd, if_pos h, ha, bt_clm ha2, if_pos ok, hg, bt_clm (by omega)]

def f_read : bt_fn := fun t S => match t, S with
  | [.int k, .int l, .int fr, .int c], (w, im, u, z, q) => some (.int (if (bt_in k 4 ∧ bt_in l 3 ∧ bt_in c 21) then (if (bt_rs u q w k l fr c).1 = 4 then -20 - nI (bt_rs u q w k l fr c).2.1 else nI (bt_rs u q w k l fr c).2.1) else -1), (if ((bt_in k 4 ∧ bt_in l 3 ∧ bt_in c 21) ∧ ¬ (bt_rs u q w k l fr c).1 = 4) then (bt_rs u q w k l fr c).2.2 else w, im, if ((bt_in k 4 ∧ bt_in l 3 ∧ bt_in c 21) ∧ ¬ (bt_rs u q w k l fr c).1 = 4) then va_up u 2 (bt_rs u q w k l fr c).1 else u, z, q))
  | _, _ => none

set_option maxHeartbeats 1000000 in
def bt_CX5_read : bt_C := [(258, 0, 1, sX5_isSheet), (261, 0, 1, sX5_isLane), (51, 0, 3, sX5_within), (76, 1, 2, sX4_takeFrom), (271, 1, 3, sX2_faultAt), (166, 1, 1, sX4_allHaveCome), (170, 1, 2, sX4_driveOne)]
def sX5_read : bt_Sp := bt_spC f_read
set_option maxRecDepth 100000 in
theorem mX5_read : bt_MT bt_TX5_read bt_FX5 bt_CX5_read 1 9 sX5_read := by
  intro as M N Rt h P hP
  obtain ⟨t, S, r, S', rfl, hI, hf, h⟩ := bt_spC_e h
  obtain ⟨w, im, u, z, q⟩ := S
  unfold f_read at hf
  split at hf
  · next k l fr c _ _ _ _ _ e =>
    cases e
    obtain ⟨rfl, rfl⟩ := bt_some hf
    obtain ⟨a1, a2, a3, a4, a5, a6, a7, a8, a9, a10, a11, a12⟩ := id hI
    obtain ⟨b0, b1, b2, b3, b4, b5, b6, b7, b8, b9, b10⟩ := id a2
    obtain ⟨hw, h8, h9, h10, h11, h12, h13, h14, h15, h16, h17, r1, r2, r3, r4, r5, r6, r7, r8⟩ := id a1
    obtain ⟨f1, f2, f3, f4, f5, f6, f7, f8, f9, f10, f11, f12, f13, f14, f15, f16, f17, f18⟩ := id hw
    have hbad : ¬ (bt_in k 4 ∧ bt_in l 3 ∧ bt_in c 21) → Rt (some (.int (-1))) M N := fun y => by
      have nok : ¬ ((bt_in k 4 ∧ bt_in l 3 ∧ bt_in c 21) ∧ ¬ (bt_rs u q w k l fr c).1 = 4) := fun c => y c.1
      rw [if_neg y, if_neg nok, if_neg nok] at h
      exact h M N (fun _ _ => rfl) hI
    refine bt_go rfl hP 60 [52] P (fun _ _ _ _ _ h => h) ?_
    refine ⟨fun y => hbad (fun c => (bt_bi_0.mp y) c.1), fun y => ⟨fun y2 => hbad (fun c => (bt_bi_0.mp y2) c.2.1), fun y2 => ⟨fun y3 => ?_, fun y3 => ?_⟩⟩⟩
    rotate_left
    · rw [bt_bi_0, bt_in_c (k := 20) (show (20 : Int32) = nI 20 from rfl) (by omega)] at y3
      exact hbad (fun c => y3 c.2.2)
    rw [bt_bi_n0, bt_in_c (k := 20) (show (20 : Int32) = nI 20 from rfl) (by omega)] at y3
    have ok : (bt_in k 4 ∧ bt_in l 3 ∧ bt_in c 21) := ⟨bt_bi_n0.mp y, bt_bi_n0.mp y2, y3⟩
    rw [if_pos ok] at h
    obtain ⟨k, hk, rfl⟩ := bt_in_e ok.1
    obtain ⟨l, hl, rfl⟩ := bt_in_e ok.2.1
    obtain ⟨c, hc, rfl⟩ := bt_in_e ok.2.2
    obtain ⟨R, hR⟩ : ∃ R, bt_rs u q w (nI k) (nI l) fr (nI c) = R := ⟨_, rfl⟩
    rw [hR] at h
    unfold bt_rs at hR
    rw [bt_clm (by omega), bt_clm (by omega)] at hR

    obtain ⟨l1, l2⟩ := b7 k hk
    obtain ⟨s2, s1, s4⟩ := a10 k hk
    have fin : ∀ (M' : bt_M) (f i : Nat) (w' : bt_W), bt_out 79 M M' → bt_cW M' 79 w' → w' 12 0 = w 12 0 → w' 12 1 = w 12 1 → R = (f, i, w') → f ≤ 3 → ∀ M1, bt_cW M1 2 w' → bt_out 2 M' M1 → ∀ M2, M2 = va_up M1 0 (upd (M1 0) 8 (nI f)) → Rt (some (.int (nI i))) M2 N := by
      intro M' f i w' p1 p2 p3 p4 p5 p6 M1 p7 p8 M2 e2
      have hf4 : ¬ R.1 = 4 := by rw [p5]; omega
      rw [if_neg hf4, if_pos ⟨ok, hf4⟩, if_pos ⟨ok, hf4⟩, p5] at h
      refine h M2 N (fun x hx => by rw [e2, bt_up_n (by omega), p8 x (by omega), p1 x (by omega)]) ?_
      have hI1 : bt_cI M1 (w', im, u, z, q) := bt_cI_live hI p7 ⟨p3, p4⟩ (fun x hx => by rw [p8 x (by omega), p1 x (by omega)])
      exact bt_cI_t hI1 (by omega) (fun x hx => by rw [e2, bt_up_n hx]) (fun g hg => by rw [e2, bt_up_s, pk_un hg]) (by rw [e2, bt_up_s, pk_us])
    have odd : ∀ (M' : bt_M) (i : Nat) (w' : bt_W), bt_out 79 M M' → R = (4, i, w') → Rt (some (.int (-20 - nI i))) M' N := by
      intro M' i w' p1 p5
      have hf4 : R.1 = 4 := by rw [p5]
      rw [if_pos hf4, if_neg (fun c => c.2 hf4), if_neg (fun c => c.2 hf4), p5] at h
      exact h M' N (fun x hx => p1 x (by omega)) (bt_cI_same hI (fun x hx => p1 x (by omega)) (by rw [p1 49 (by omega)]))
    clear h
    have loop : ∀ v pc L st M' N', (pc = 52 ∧ st = [] ∧ N' = N ∧ ∃ i w' y, i ≤ c ∧ v = c - i ∧ L = [some (.ref 0), some (.int (nI k)), some (.int (nI l)), some (.int fr), some (.int (nI c)), some (.ref (bt_rf 40 k)), some (.int 0), some (.int (nI i)), y] ∧ bt_out 79 M M' ∧ bt_cW M' 79 w' ∧ w' 12 0 = w 12 0 ∧ w' 12 1 = w 12 1 ∧ bt_rd (u (6 + k)) (u (10 + k)) (nI l) fr (q k) (c - i) i w' = R) → P pc L st M' N' := by
      refine bt_loop rfl hP 60 [52] (fun v pc L st M' N' => (pc = 52 ∧ st = [] ∧ N' = N ∧ ∃ i w' y, i ≤ c ∧ v = c - i ∧ L = [some (.ref 0), some (.int (nI k)), some (.int (nI l)), some (.int fr), some (.int (nI c)), some (.ref (bt_rf 40 k)), some (.int 0), some (.int (nI i)), y] ∧ bt_out 79 M M' ∧ bt_cW M' 79 w' ∧ w' 12 0 = w 12 0 ∧ w' 12 1 = w 12 1 ∧ bt_rd (u (6 + k)) (u (10 + k)) (nI l) fr (q k) (c - i) i w' = R)) ?_
      rintro v pc L st M' N' ⟨rfl, rfl, rfl, i, w', y, hi, rfl, rfl, p1, p2, p3, p4, p5⟩
      have s2' : M' (41 + 2 * k) 2 = nI (u (6 + k)) - 1 := by rw [p1 _ (by omega)]; exact s2
      have s1' : M' (41 + 2 * k) 1 = nI (u (10 + k)) := by rw [p1 _ (by omega)]; exact s1
      have s4' : ∀ j, j < 40 → M' (42 + 2 * k) j = q k j := by rw [p1 _ (by omega)]; exact s4
      refine ⟨fun z1 => ?_, fun z1 => ?_⟩
      · rw [nI_leI (by omega) (by omega)] at z1
        have e0 : c - i = 0 := by omega
        rw [e0] at p5
        exact ⟨w', by unfold bt_tf; decide, p2, fun M1 c1 c2 M2 e2 => fin M' 0 i w' p1 p2 p3 p4 p5.symm (by omega) M1 c1 c2 M2 e2⟩
      · rw [nI_leI (by omega) (by omega)] at z1
        obtain ⟨r, hr⟩ : ∃ r, c - i = r + 1 := ⟨c - i - 1, by omega⟩
        rw [hr] at p5
        refine ⟨k, u (6 + k), u (10 + k), hk, bt_rf40 k hk, l1, s2', s1', ?_⟩
        refine ⟨fun z2 => ?_, fun z2 => ?_⟩
        · have z3 : bt_fa (u (6 + k)) (u (10 + k)) (nI l) (fr + nI i) = 0 := (nI_eq (b := 0) (by have := bt_fa_le (n := u (6 + k)) (l := u (10 + k)) (l' := nI l) (i := fr + nI i); omega) (by omega)).mp z2
          obtain ⟨d1, d2, d3⟩ := bt_fa_0.mp z3
          obtain ⟨a, ha, ea⟩ := bt_in_e d3
          have s5 := s4' a (by omega)
          have hod : ¬ (bt_in (q k a) 10 ∧ w' 12 4 < w' 12 0) → Rt (some (.int (-20 - nI i))) M' N' := fun n => odd M' i w' p1 (by rw [← p5]; exact bt_rd_4 z3 ea (by omega) n)
          have hgo : ∀ g, q k a = nI g → g < 10 → w' 12 4 < w' 12 0 → bt_rd (u (6 + k)) (u (10 + k)) (nI l) fr (q k) (c - (i + 1)) (i + 1) (bt_dv w' g) = R := fun g e1 e2 e3 => by rw [← p5, bt_rd_s z3 ea (by omega) e1 e2 e3, show c - (i + 1) = r by omega]
          have zz : nI (bt_fa (u (6 + k)) (u (10 + k)) (nI l) (fr + nI i)) = 0 := z2
          have n1 : nI i + 1 = nI (i + 1) := nI_1 i
          clear p5 odd fin z2 s4' s1' s2' d3 z3 ok hR s1 s2 s4
          obtain rfl | rfl | rfl | rfl : k = 0 ∨ k = 1 ∨ k = 2 ∨ k = 3 := by omega
          all_goals
            refine ⟨_, rfl, a, ea, by omega, ?_⟩
            refine ⟨fun y3 => ?_, fun y3 => ?_⟩
            · rw [bt_bi_0] at y3
              exact hod (fun c => y3 ((bt_in_c (k := 9) (show (9 : Int32) = nI 9 from rfl) (by omega)).mpr (by rw [← s5] at c; exact c.1)))
            · rw [bt_bi_n0, bt_in_c (k := 9) (show (9 : Int32) = nI 9 from rfl) (by omega)] at y3
              have y3' := y3
              obtain ⟨g, hg, eg⟩ := bt_in_e y3
              refine ⟨w', Or.inr rfl, p2, ?_⟩
              by_cases y4 : w' 12 0 ≤ w' 12 4
              · rw [if_pos y4]
                exact ⟨fun c => absurd c (by decide), fun _ => hod (fun c => by omega)⟩
              · rw [if_neg y4]
                refine ⟨fun _ => ?_, fun c => absurd rfl c⟩
                refine ⟨w', g, Or.inr rfl, p2, by omega, eg, by omega, fun M1 c1 c2 => ?_⟩
                exact ⟨c - (i + 1), by omega, rfl, rfl, rfl, i + 1, bt_dv w' g, _, by omega, rfl, by rw [zz, n1], fun x hx => by rw [c2 x (by omega) (by omega), p1 x hx], c1, p3, p4, hgo g (by rw [← s5]; exact eg) (by omega) (by omega)⟩
        · have z3 : ¬ bt_fa (u (6 + k)) (u (10 + k)) (nI l) (fr + nI i) = 0 := fun c => z2 (by rw [c]; rfl)
          rw [bt_rd_f z3] at p5
          exact ⟨w', by unfold bt_tf; decide, p2, fun M1 c1 c2 M2 e2 => fin M' _ i w' p1 p2 p3 p4 p5.symm bt_fa_le M1 c1 c2 M2 e2⟩
    refine ⟨_, rfl, k, rfl, hk, ?_⟩
    refine ⟨w, by unfold bt_tf; decide, a1, fun M1 c1 c2 => ?_⟩
    exact loop _ _ _ _ _ _ ⟨rfl, rfl, rfl, 0, w, none, by omega, rfl, rfl, c2, c1, rfl, rfl, hR⟩
  · cases hf

theorem bt_ge0 {a : Nat} (h : a < 2 ^ 31) : (0 : Int32) ≤ nI a := by
  rw [show (0 : Int32) = nI 0 from rfl, nI_leI (by omega) h]
  omega
theorem bt_mk6 {f : Nat → Nat} (h : bt_b1 f) {m : Nat} (hm : m ≤ 6) : bt_mk f m < 2 ^ 31 := by
  have h1 := bt_mk_lt h m
  have h2 : 2 ^ m ≤ 2 ^ 6 := Nat.pow_le_pow_right (by omega) hm
  omega

def bt_CX6_read : bt_C := [(46, 0, 3, sX6_in), (199, 1, 3, sX6_copies), (193, 1, 2, sX6_drives)]
def sX6_read : bt_Sp := bt_spM f_read
set_option maxRecDepth 100000 in
theorem mX6_read : bt_MT bt_TX6_read bt_FX6 bt_CX6_read 1 7 sX6_read := by
  intro as M N Rt h P hP
  obtain ⟨t, S, r, S', rfl, hI, hf, h⟩ := bt_spM_e h
  obtain ⟨w, im, u, z, q⟩ := S
  unfold f_read at hf
  split at hf
  · next k l fr c _ _ _ _ _ e =>
    cases e
    obtain ⟨rfl, rfl⟩ := bt_some hf
    obtain ⟨a1, a2, a3, a4, a5, a6, a7, a8, a9, a10, a11, a12, a13, a14, a15⟩ := id hI
    obtain ⟨b0, b1, b2, b3, b4, b5, b6, b7, b8, b9, b10⟩ := id a2
    obtain ⟨hw, g1, g2, g3, g4, g5, g6, r0, r1, r2, r3, r4, r5, r6, c7, c8, c9, c10, c11⟩ := id a1
    obtain ⟨f1, f2, f3, f4, f5, f6, f7, f8, f9, f10, f11, f12, f13, f14, f15, f16, f17, f18⟩ := id hw
    simp only [Nat.zero_add] at g3 g4 g5 g6 r0 r1 r2 r3 r4 r5 r6 c7 c8 c9 c10
    have hbad : ¬ (bt_in k 4 ∧ bt_in l 3 ∧ bt_in c 21) → Rt (some (.int (-1))) M N := fun y => by
      have nok : ¬ ((bt_in k 4 ∧ bt_in l 3 ∧ bt_in c 21) ∧ ¬ (bt_rs u q w k l fr c).1 = 4) := fun c => y c.1
      rw [if_neg y, if_neg nok, if_neg nok] at h
      exact h M (fun _ _ => rfl) hI
    refine bt_go rfl hP 60 [53] P (fun _ _ _ _ _ h => h) ?_
    refine ⟨fun y => ?_, fun y => ⟨fun y2 => ?_, fun y2 => ⟨fun y3 => ?_, fun y3 => ?_⟩⟩⟩
    · rw [bt_bi_0, bt_inl_c (k := 3) (show (3 : Int64) = lN 3 from rfl) (by omega)] at y
      exact hbad (fun c => y c.1)
    · rw [bt_bi_0, bt_inl_c (k := 2) (show (2 : Int64) = lN 2 from rfl) (by omega)] at y2
      exact hbad (fun c => y2 c.2.1)
    rotate_left
    · rw [bt_bi_0, bt_inl_c (k := 20) (show (20 : Int64) = lN 20 from rfl) (by omega)] at y3
      exact hbad (fun c => y3 c.2.2)
    rw [bt_bi_n0, bt_inl_c (k := 3) (show (3 : Int64) = lN 3 from rfl) (by omega)] at y
    rw [bt_bi_n0, bt_inl_c (k := 2) (show (2 : Int64) = lN 2 from rfl) (by omega)] at y2
    rw [bt_bi_n0, bt_inl_c (k := 20) (show (20 : Int64) = lN 20 from rfl) (by omega)] at y3
    have ok : (bt_in k 4 ∧ bt_in l 3 ∧ bt_in c 21) := ⟨y, y2, y3⟩
    rw [if_pos ok] at h
    obtain ⟨k, hk, rfl⟩ := bt_in_e ok.1
    obtain ⟨l, hl, rfl⟩ := bt_in_e ok.2.1
    obtain ⟨c, hc, rfl⟩ := bt_in_e ok.2.2
    obtain ⟨R, hR⟩ : ∃ R, bt_rs u q w (nI k) (nI l) fr (nI c) = R := ⟨_, rfl⟩
    rw [hR] at h
    unfold bt_rs at hR
    rw [bt_clm (by omega), bt_clm (by omega)] at hR

    obtain ⟨l1, l2⟩ := b7 k hk
    obtain ⟨s2, s1, s4⟩ := a11 k hk
    have fin : ∀ (M' : bt_M) (f i : Nat) (w' : bt_W), (∀ x : Nat, x ≠ 68 → M' x = M x) → (∀ j, 90 ≤ j → (j < 270 ∨ 360 ≤ j) → M' 68 j = M 68 j) → bt_mW M' 0 w' → w' 12 0 = w 12 0 → w' 12 1 = w 12 1 → R = (f, i, w') → f ≤ 3 → ∀ M2, M2 = va_up M' 67 (upd (M' 67) 26 (nI f)) → Rt (some (.int (nI i))) M2 N := by
      intro M' f i w' p1 p1b p2 p3 p4 p5 p6 M2 e2
      have hf4 : ¬ R.1 = 4 := by rw [p5]; omega
      rw [if_neg hf4, if_pos ⟨ok, hf4⟩, if_pos ⟨ok, hf4⟩, p5] at h
      refine h M2 (fun x hx => by rw [e2, bt_up_n (by omega), p1 x (by omega)]) ?_
      have hI1 : bt_mI M' (w', im, u, z, q) := bt_mI_live hI p2 ⟨p3, p4⟩ (fun x _ hx => p1 x hx) (fun j j1 j2 => p1b j j1 (by omega))
      exact bt_mI_t hI1 (by omega) (fun x hx => by rw [e2, bt_up_n hx]) (fun g hg => by rw [e2, bt_up_s, pk_un hg]) (by rw [e2, bt_up_s, pk_us])
    have odd : ∀ (M' : bt_M) (i : Nat) (w' : bt_W), (∀ x : Nat, x ≠ 68 → M' x = M x) → (∀ j, 90 ≤ j → (j < 270 ∨ 360 ≤ j) → M' 68 j = M 68 j) → (∀ j, j < 90 → M' 68 (270 + j) = M 68 j) → R = (4, i, w') → ∀ M1, bt_mfr 0 M' M1 → (∀ j : Nat, j < 90 → M1 68 (0 + j) = M' 68 (270 + j)) → Rt (some (.int (-20 - nI i))) M1 N := by
      intro M' i w' p1 p1b p1c p5 M1 c1 c2
      have hf4 : R.1 = 4 := by rw [p5]
      rw [if_pos hf4, if_neg (fun c => c.2 hf4), if_neg (fun c => c.2 hf4), p5] at h
      refine h M1 (fun x hx => by rw [c1.1 x (by omega), p1 x (by omega)]) (bt_mI_same hI (fun x _ x1 _ _ => by rw [c1.1 x x1, p1 x x1]) (fun j hj => ?_))
      by_cases hj2 : j < 90
      · have := c2 j hj2
        rw [Nat.zero_add] at this
        rw [this, p1c j hj2]
      · rw [c1.2 j (by omega), p1b j (by omega) (by omega)]
    clear h
    have loop : ∀ v pc L st M' N', (pc = 53 ∧ st = [] ∧ N' = N ∧ ∃ i w' f, i ≤ c ∧ f ≤ 3 ∧ v = 2 * (c - i) + (if f = 0 then 1 else 0) ∧ L = [some (.ref 67), some (.int (nI k)), some (.int (nI l)), some (.int fr), some (.int (nI c)), some (.int (nI f)), some (.int (nI i))] ∧ (∀ x : Nat, x ≠ 68 → M' x = M x) ∧ (∀ j, 90 ≤ j → (j < 270 ∨ 360 ≤ j) → M' 68 j = M 68 j) ∧ (∀ j, j < 90 → M' 68 (270 + j) = M 68 j) ∧ bt_mW M' 0 w' ∧ w' 12 0 = w 12 0 ∧ w' 12 1 = w 12 1 ∧ (if f = 0 then bt_rd (u (6 + k)) (u (10 + k)) (nI l) fr (q k) (c - i) i w' = R else (f, i, w') = R)) → P pc L st M' N' := by
      refine bt_loop rfl hP 80 [53] (fun v pc L st M' N' => (pc = 53 ∧ st = [] ∧ N' = N ∧ ∃ i w' f, i ≤ c ∧ f ≤ 3 ∧ v = 2 * (c - i) + (if f = 0 then 1 else 0) ∧ L = [some (.ref 67), some (.int (nI k)), some (.int (nI l)), some (.int fr), some (.int (nI c)), some (.int (nI f)), some (.int (nI i))] ∧ (∀ x : Nat, x ≠ 68 → M' x = M x) ∧ (∀ j, 90 ≤ j → (j < 270 ∨ 360 ≤ j) → M' 68 j = M 68 j) ∧ (∀ j, j < 90 → M' 68 (270 + j) = M 68 j) ∧ bt_mW M' 0 w' ∧ w' 12 0 = w 12 0 ∧ w' 12 1 = w 12 1 ∧ (if f = 0 then bt_rd (u (6 + k)) (u (10 + k)) (nI l) fr (q k) (c - i) i w' = R else (f, i, w') = R))) ?_
      rintro v pc L st M' N' ⟨rfl, rfl, rfl, i, w', f, hi, hf, rfl, rfl, p1, p1b, p1c, p2, p3, p4, p5⟩
      have s76 : M' 76 k = if u (6 + k) = 0 then -4 else nI (u (10 + k)) := by rw [p1 _ (by omega)]; exact s2
      have s77 : u (6 + k) ≠ 0 → M' 77 k = nI (u (6 + k) - 1) := by rw [p1 _ (by omega)]; exact s1
      have s78 : ∀ j, j < 40 → M' 78 (40 * k + j) = q k j := by rw [p1 _ (by omega)]; exact s4
      refine ⟨fun z1 => ?_, fun z1 => ?_⟩
      · rw [nI_leI (by omega) (by omega)] at z1
        have e0 : c - i = 0 := by omega
        intro M2 e2
        by_cases hf0 : f = 0
        · rw [if_pos hf0, e0, bt_rd_end] at p5
          exact fin M' f i w' p1 p1b p2 p3 p4 (by rw [← p5, hf0]) hf M2 e2
        · rw [if_neg hf0] at p5
          exact fin M' f i w' p1 p1b p2 p3 p4 p5.symm hf M2 e2
      · rw [nI_leI (by omega) (by omega)] at z1
        refine ⟨fun z2 => ?_, fun z2 => ?_⟩
        · have hf0 : ¬ f = 0 := fun c => z2 (by rw [c]; rfl)
          intro M2 e2
          rw [if_neg hf0] at p5
          exact fin M' f i w' p1 p1b p2 p3 p4 p5.symm hf M2 e2
        · have hf0 : f = 0 := (nI_eq (b := 0) (by omega) (by omega)).mp z2
          subst hf0
          obtain ⟨r, hr⟩ : ∃ r, c - i = r + 1 := ⟨c - i - 1, by omega⟩
          rw [if_pos rfl, hr] at p5
          have again : ∀ F : Nat, F = bt_fa (u (6 + k)) (u (10 + k)) (nI l) (fr + nI i) → ¬ F = 0 → F ≤ 3 → (if F = 0 then bt_rd (u (6 + k)) (u (10 + k)) (nI l) fr (q k) (c - i) i w' = R else (F, i, w') = R) := fun F e1 e2 e3 => by
            rw [if_neg e2, ← p5, e1]
            exact (bt_rd_f (by rw [← e1]; exact e2)).symm
          refine ⟨_, rfl, k, rfl, hk, ⟨fun z3 => ?_, fun z3 => ?_⟩⟩
          · have u6 : ¬ u (6 + k) = 0 := fun c => z3 (by rw [s76, if_pos c])
            rw [if_neg u6] at s76
            have s77 := s77 u6
            refine ⟨_, rfl, k, rfl, hk, ⟨fun z4 => ?_, fun z4 => ?_⟩⟩
            · have z4' : nI l = nI (u (10 + k)) := by rw [← s76]; exact z4.symm
              refine ⟨_, rfl, k, rfl, hk, ⟨fun z5 => ?_, fun z5 => ?_⟩⟩
              · rw [bt_bi_n0, s77, bt_fr_in (by omega) (by omega)] at z5
                have z6 : bt_fa (u (6 + k)) (u (10 + k)) (nI l) (fr + nI i) = 0 := bt_fa_0.mpr ⟨u6, z4', z5⟩
                obtain ⟨a, ha, ea⟩ := bt_in_e z5
                have s5 := s78 a (by omega)
                refine ⟨fun c => absurd rfl c, fun _ => ?_⟩
                refine ⟨_, rfl, 40 * k + a, by rw [Int32.add_assoc, ea]; simp only [bt_lit, pk_mul, nI_add], by omega, ?_⟩
                refine ⟨w', rfl, p2, fun y6 => ?_, fun y6 y7 => ?_, fun g y6 y7 y8 M1 c1 c2 => ?_⟩
                · refine ⟨fun c => absurd c (by decide), fun _ => ⟨270, 0, rfl, rfl, by omega, rfl, by omega, Or.inr (by omega), fun M1 c1 c2 => ?_⟩⟩
                  exact odd M' i w' p1 p1b p1c (by rw [← p5]; exact bt_rd_4 z6 ea (by omega) (fun c => y6 (by rw [s5]; exact c.1))) M1 c1 c2
                · refine ⟨fun c => absurd c (by decide), fun _ => ⟨270, 0, rfl, rfl, by omega, rfl, by omega, Or.inr (by omega), fun M1 c1 c2 => ?_⟩⟩
                  exact odd M' i w' p1 p1b p1c (by rw [← p5]; exact bt_rd_4 z6 ea (by omega) (fun c => by omega)) M1 c1 c2
                · refine ⟨fun _ => ?_, fun c => absurd (bt_ge0 (bt_mk6 (bt_cm_b1 w' _ _ _) p2.1.2.1)) c⟩
                  exact ⟨2 * (c - (i + 1)) + 1, by rw [if_pos rfl]; omega, rfl, rfl, rfl, i + 1, bt_dv w' g, 0, by omega, by omega, by rw [if_pos rfl], by rw [nI_1 i]; rfl, fun x hx => by rw [c2.1 x hx, p1 x hx], fun j j1 j2 => by rw [c2.2 j (by omega), p1b j j1 j2], fun j hj => by rw [c2.2 _ (by omega), p1c j hj], c1, p3, p4, by rw [if_pos rfl, ← p5, bt_rd_s z6 ea (by omega) (by rw [← s5]; exact y6) (by omega) y8, show c - (i + 1) = r by omega]⟩
              · rw [bt_bi_0, s77, bt_fr_in (by omega) (by omega)] at z5
                have z6 : bt_fa (u (6 + k)) (u (10 + k)) (nI l) (fr + nI i) = 2 := by unfold bt_fa; rw [if_neg u6, if_pos z4', if_neg z5]
                exact ⟨fun _ => ⟨2 * (c - i), by rw [if_pos rfl]; omega, rfl, rfl, rfl, i, w', 2, hi, by omega, by rw [if_neg (by omega), Nat.add_zero], rfl, p1, p1b, p1c, p2, p3, p4, again 2 z6.symm (by omega) (by omega)⟩, fun c => absurd c (by decide)⟩
            · have z4' : ¬ nI l = nI (u (10 + k)) := fun c => z4 (by rw [s76]; exact c.symm)
              have z6 : bt_fa (u (6 + k)) (u (10 + k)) (nI l) (fr + nI i) = 3 := by unfold bt_fa; rw [if_neg u6, if_neg z4']
              exact ⟨fun _ => ⟨2 * (c - i), by rw [if_pos rfl]; omega, rfl, rfl, rfl, i, w', 3, hi, by omega, by rw [if_neg (by omega), Nat.add_zero], rfl, p1, p1b, p1c, p2, p3, p4, again 3 z6.symm (by omega) (by omega)⟩, fun c => absurd c (by decide)⟩
          · have u6 : u (6 + k) = 0 := by
              by_cases c : u (6 + k) = 0
              · exact c
              · rw [s76, if_neg c] at z3
                exact absurd z3 (bt_l4 _ (by omega))
            have z6 : bt_fa (u (6 + k)) (u (10 + k)) (nI l) (fr + nI i) = 1 := by unfold bt_fa; rw [if_pos u6]
            exact ⟨fun _ => ⟨2 * (c - i), by rw [if_pos rfl]; omega, rfl, rfl, rfl, i, w', 1, hi, by omega, by rw [if_neg (by omega), Nat.add_zero], rfl, p1, p1b, p1c, p2, p3, p4, again 1 z6.symm (by omega) (by omega)⟩, fun c => absurd c (by decide)⟩
    refine ⟨0, 270, rfl, rfl, by omega, rfl, by omega, Or.inl (by omega), fun M1 c1 c2 => ?_⟩
    exact loop _ _ _ _ _ _ ⟨rfl, rfl, rfl, 0, w, 0, by omega, by omega, rfl, rfl, c1.1, fun j j1 j2 => c1.2 j (by omega), fun j hj => by rw [c2 j hj, Nat.zero_add], bt_mW_fr a1 c1 (by omega), rfl, rfl, by rw [if_pos rfl]; exact hR⟩
  · cases hf
