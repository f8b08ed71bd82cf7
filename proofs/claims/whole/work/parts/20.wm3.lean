/-! THE CLASS: World, who comes past in a stretch -/
theorem bt_or1 : ∀ k, k < 8 → ∀ a, a < 2 ^ k → nI a ||| ((1 : Int32) <<< (nI k &&& 31)) = nI (a + 2 ^ k) := by decide +kernel
theorem bt_us_le {w : bt_W} (hf : bt_wf w) {i g : Nat} : bt_us w i g ≤ 9 := by
  have := hf.2.2.2.2.2.2.2.1 i
  unfold bt_us
  split
  · omega
  · omega
theorem bt_n0 {a : Nat} (h : a < 2 ^ 31) : nI a = 0 ↔ a = 0 := by
  rw [← nI_0]
  exact nI_eq h (by omega)
theorem bt_n1 {a : Nat} (h : a < 2 ^ 31) : nI a = 1 ↔ a = 1 := nI_eq (b := 1) h (by omega)
theorem bt_le0 {a : Nat} (h : a < 2 ^ 31) : nI a ≤ 0 ↔ a = 0 := by
  rw [← nI_0, nI_leI h (by omega)]
  omega
def bt_CX4_comers : bt_C := [(81, 1, 2, sX4_behind), (77, 0, 2, sX5_bit), (85, 0, 1, sJ6_bitCount_0f7a4), (98, 1, 3, sX4_ofUse), (101, 1, 5, sX4_passes)]
def sX4_comers : bt_Sp := fun as M N K => match as with
  | [.ref c, .int i, .int g, .int p] => ∃ w i' g' ps, bt_wc c ∧ bt_cW M c w ∧ i = nI i' ∧ i' < w 12 0 ∧ g = nI g' ∧ g' ≤ 9 ∧ bt_b1 ps ∧ p = nI (bt_mk ps (w 12 1)) ∧ K (some (.int (nI (bt_mk (bt_cm w i' g' ps) (w 12 1))))) M N
  | _ => False
theorem bt_lbB_iff (w : bt_W) (i : Nat) (ps : Nat → Nat) : bt_lbB w i ps = true ↔ bt_lb w i ps := by
  unfold bt_lbB bt_lb
  simp only [Bool.and_eq_true, beq_iff_eq, Nat.ble_eq, Bool.not_eq_true', beq_eq_false_iff_ne, ne_eq]
  grind
set_option maxHeartbeats 2000000 in
theorem mX4_comers : bt_MT bt_TX4_comers bt_FX4 bt_CX4_comers 1 10 sX4_comers := by
  intro as M N Rt h P hP
  unfold sX4_comers at h
  split at h
  · obtain ⟨w, i, g, ps, hc, hw, rfl, hi, rfl, hg, hb, rfl, h⟩ := h
    obtain ⟨hf, h8, h9, h10, h11, h12, h13, h14, h15, h16, h17, r1, r2, r3, r4, r5, r6, r7, r8⟩ := id hw
    obtain ⟨f1, f2, f3, f4, f5, f6, f7, f8, f9, f10, f11, f12, f13, f14, f15, f16, f17, f18⟩ := id hf
    have hus := bt_us_le hf (i := i) (g := g)
    generalize hu : bt_us w i g = u at hus
    have hlt := bt_mk_lt hb (w 12 1)
    have hnb : bt_b1 (fun k => 1 - ps k) := bt_b1_not
    have ebit : nI (bt_mk (w 5) (w 12 0)) >>> (nI i &&& 31) &&& 1 = nI (w 5 i) := by
      rw [bt_bitN f12 (by omega) (by omega), if_pos hi]
    have hbc := bt_bc_mk hnb (n := w 12 1) (by omega)
    have hct := bt_ct1_le hnb (w 12 1)
    have ebk : ∀ k, k < w 12 1 → nI (bt_mk (fun k => 1 - ps k) (w 12 1)) >>> (nI k &&& 31) &&& 1 = nI (1 - ps k) := by
      intro k hk
      rw [bt_bitN hnb (by omega) (by omega), if_pos hk]
    have hcf : bt_b1 (fun j => (bt_fr w u ps (j + 1)).2) := fun j => (bt_fr_01 w u ps (j + 1)).1
    have body : ∀ c, bt_wc c → M c 12 = nI (w 12 1) → M c 10 = nI (bt_mk (w 5) (w 12 0)) → M c 15 = nI (w 12 3) → bt_cW M c w → (¬ bt_lb w i ps → Rt (some (.int (nI (bt_mk (fun j => (bt_fr w u ps (j + 1)).2) (w 12 1))))) M N) → (bt_lb w i ps → Rt (some (.int (nI (bt_mk (fun k => 1 - ps k) (w 12 1))))) M N) → P 0 (bt_en 10 [.ref c, .int (nI i), .int (nI g), .int (nI (bt_mk ps (w 12 1)))]) [] M N := by
      intro c hc h12 h10 h15 hw hno hyes
      have loop : ¬ bt_lb w i ps → ∀ v pc L st M' N', (M' = M ∧ N' = N ∧ ∃ k x9, k ≤ w 12 1 ∧ L = [some (.ref c), some (.int (nI i)), some (.int (nI g)), some (.int (nI (bt_mk ps (w 12 1)))), some (.int (nI (bt_mk (fun k => 1 - ps k) (w 12 1)))), some (.int (nI u)), some (.int (nI (bt_mk (fun j => (bt_fr w u ps (j + 1)).2) k))), some (.int (nI (bt_fr w u ps k).1)), some (.int (nI k)), x9] ∧ ((pc = 58 ∧ st = [] ∧ v = 2 * (w 12 1 - k) + 1) ∨ (pc = 103 ∧ k < w 12 1 ∧ ps k = 0 ∧ st = [.int (nI (bt_fr w u ps k).2)] ∧ v = 2 * (w 12 1 - k)))) → P pc L st M' N' := by
        intro hlb
        refine bt_loop rfl hP 60 [58, 103] (fun v pc L st M' N' => (M' = M ∧ N' = N ∧ ∃ k x9, k ≤ w 12 1 ∧ L = [some (.ref c), some (.int (nI i)), some (.int (nI g)), some (.int (nI (bt_mk ps (w 12 1)))), some (.int (nI (bt_mk (fun k => 1 - ps k) (w 12 1)))), some (.int (nI u)), some (.int (nI (bt_mk (fun j => (bt_fr w u ps (j + 1)).2) k))), some (.int (nI (bt_fr w u ps k).1)), some (.int (nI k)), x9] ∧ ((pc = 58 ∧ st = [] ∧ v = 2 * (w 12 1 - k) + 1) ∨ (pc = 103 ∧ k < w 12 1 ∧ ps k = 0 ∧ st = [.int (nI (bt_fr w u ps k).2)] ∧ v = 2 * (w 12 1 - k))))) ?_
        rintro v pc L st M' N' ⟨rfl, rfl, k, x9, hk, rfl, ⟨rfl, rfl, rfl⟩ | ⟨rfl, hkm, hps, rfl, rfl⟩⟩
        · -- the head
          have hfr := bt_fr_01 w u ps k
          have hpk := hb k
          have nk := bt_n0 (a := 1 - ps k) (by omega)
          rcases hc with rfl | rfl
          all_goals
            refine ⟨fun q => ?_, fun q => ?_⟩
            · rw [h12, nI_leI (by omega) (by omega)] at q
              have : k = w 12 1 := by omega
              subst this
              exact hno hlb
            · rw [h12, nI_leI (by omega) (by omega)] at q
              have hkm : k < w 12 1 := by omega
              refine ⟨fun q2 => ?_, fun q2 => ?_⟩
              · -- it is behind yet
                rw [ebk k hkm, nk] at q2
                refine ⟨fun q3 => ?_, fun q3 => ?_⟩
                · rw [bt_le0 (by omega)] at q3
                  subst q3
                  exact ⟨2 * (w 12 1 - 0), by omega, rfl, rfl, 0, x9, hk, rfl, Or.inr ⟨rfl, hkm, by omega, rfl, rfl⟩⟩
                · rw [bt_le0 (by omega)] at q3
                  obtain ⟨j, rfl⟩ : ∃ j, k = j + 1 := ⟨k - 1, by omega⟩
                  have ej : nI (bt_mk (fun j => (bt_fr w u ps (j + 1)).2) (j + 1)) >>> ((nI (j + 1) - 1) &&& 31) &&& 1 = nI (bt_fr w u ps (j + 1)).2 := by
                    rw [nI_pred, bt_bitN hcf (by omega) (by omega), if_pos (by omega)]
                  have n1 := bt_n1 (a := (bt_fr w u ps (j + 1)).2) (by omega)
                  refine ⟨fun q4 => ?_, fun q4 => ?_⟩
                  · rw [ej, n1] at q4
                    refine ⟨2 * (w 12 1 - (j + 1)), by omega, rfl, rfl, j + 1, x9, hk, rfl, Or.inr ⟨rfl, hkm, by omega, ?_, rfl⟩⟩
                    rw [show (bt_fr w u ps (j + 1)).2 = 0 by omega]
                    rfl
                  · rw [ej, n1] at q4
                    refine ⟨2 * (w 12 1 - (j + 1)), by omega, rfl, rfl, j + 1, x9, hk, rfl, Or.inr ⟨rfl, hkm, by omega, ?_, rfl⟩⟩
                    rw [q4]
                    rfl
              · -- it is past
                rw [ebk k hkm, nk] at q2
                have hp1 : ps k = 1 := by omega
                have hfs : bt_fr w u ps (k + 1) = ((bt_fr w u ps k).1, 0) := by simp [bt_fr, hp1]
                refine ⟨2 * (w 12 1 - (k + 1)) + 1, by omega, rfl, rfl, k + 1, x9, by omega, ?_, Or.inl ⟨rfl, rfl, rfl⟩⟩
                simp only [bt_mk, hfs, Nat.zero_mul, Nat.add_zero, ← nI_1]
        · -- whether it passes
          have hfr := bt_fr_01 w u ps k
          have hml := bt_mk_lt hcf k
          have hmp : ¬ ps k = 1 := by omega
          rcases hc with rfl | rfl
          all_goals
            refine ⟨w, k, u, (bt_fr w u ps k).1, (bt_fr w u ps k).2, by first | exact Or.inl rfl | exact Or.inr rfl, hw, rfl, hkm, rfl, hus, rfl, by omega, rfl, by omega, ?_⟩
            by_cases hpass : bt_psB (w 7 k) (w 8 k) u (bt_fr w u ps k).1 (bt_fr w u ps k).2 = true
            · have hfs : bt_fr w u ps (k + 1) = ((bt_fr w u ps k).1, 1) := by simp [bt_fr, hmp, hpass]
              rw [if_pos hpass]
              refine ⟨fun q => absurd q (by decide), fun _ => ?_⟩
              refine ⟨2 * (w 12 1 - (k + 1)) + 1, by omega, rfl, rfl, k + 1, some (.int (nI (bt_fr w u ps k).2)), by omega, ?_, Or.inl ⟨rfl, rfl, rfl⟩⟩
              rw [bt_or1 k (by omega) _ hml]
              simp only [bt_mk, hfs, Nat.one_mul, ← nI_1]
            · have hfs : bt_fr w u ps (k + 1) = ((bt_fr w u ps k).1 + 1, 0) := by simp [bt_fr, hmp, hpass]
              rw [if_neg hpass]
              refine ⟨fun _ => ?_, fun q => absurd rfl q⟩
              refine ⟨2 * (w 12 1 - (k + 1)) + 1, by omega, rfl, rfl, k + 1, some (.int (nI (bt_fr w u ps k).2)), by omega, ?_, Or.inl ⟨rfl, rfl, rfl⟩⟩
              simp only [bt_mk, hfs, Nat.zero_mul, Nat.add_zero, ← nI_1]
      have rest : ¬ bt_lb w i ps → ∀ x5 x6 x7 x8 x9, P 41 [some (.ref c), some (.int (nI i)), some (.int (nI g)), some (.int (nI (bt_mk ps (w 12 1)))), some (.int (nI (bt_mk (fun k => 1 - ps k) (w 12 1)))), x5, x6, x7, x8, x9] [] M N := by
        intro hlb x5 x6 x7 x8 x9
        refine bt_go rfl hP 60 [58] P (fun _ _ _ _ _ h => h) ?_
        rcases hc with rfl | rfl
        all_goals
          refine ⟨w, i, g, by first | exact Or.inl rfl | exact Or.inr rfl, hw, rfl, hi, rfl, hg, ?_⟩
          rw [hu]
          exact loop hlb _ _ _ _ _ _ ⟨rfl, rfl, 0, x9, Nat.zero_le _, rfl, Or.inl ⟨rfl, rfl, rfl⟩⟩
      refine bt_go rfl hP 60 [41] P (fun _ _ _ _ _ h => h) ?_
      have n5 := bt_n1 (a := w 5 i) (by have := f12 i; omega)
      have n3 := bt_n0 (a := w 12 3) (by omega)
      rcases hc with rfl | rfl
      all_goals
        refine ⟨w 12 1, bt_mk ps (w 12 1), by first | exact Or.inl rfl | exact Or.inr rfl, h12, f2, rfl, hlt, ?_⟩
        rw [bt_mk_not hb]
        refine ⟨fun q => ?_, fun q => ?_⟩
        · rw [h10, ebit, n5] at q
          exact rest (fun z => q z.1) _ _ _ _ _
        · rw [h10, ebit, n5] at q
          refine ⟨fun q2 => ?_, fun q2 => ?_⟩
          · rw [h15, n3] at q2
            exact rest (fun z => z.2.1 q2) _ _ _ _ _
          · rw [h15, n3] at q2
            refine ⟨fun q3 => ?_, fun q3 => ?_⟩
            · rw [h15, hbc, nI_ltI (by omega) (by omega)] at q3
              exact rest (fun z => by have := z.2.2; omega) _ _ _ _ _
            · rw [h15, hbc, nI_ltI (by omega) (by omega)] at q3
              exact hyes ⟨q, q2, by omega⟩
    have hno : ¬ bt_lb w i ps → Rt (some (.int (nI (bt_mk (fun j => (bt_fr w u ps (j + 1)).2) (w 12 1))))) M N := by
      intro z
      rw [← bt_lbB_iff] at z
      rw [bt_mk_c (f := bt_cm w i g ps) (g := fun j => (bt_fr w u ps (j + 1)).2) (fun k _ => by unfold bt_cm; rw [if_neg z, hu])] at h
      exact h
    have hyes : bt_lb w i ps → Rt (some (.int (nI (bt_mk (fun k => 1 - ps k) (w 12 1))))) M N := by
      intro z
      rw [← bt_lbB_iff] at z
      rw [bt_mk_c (f := bt_cm w i g ps) (g := fun k => 1 - ps k) (fun k _ => by unfold bt_cm; rw [if_pos z])] at h
      exact h
    exact body _ hc h12 h10 h15 hw hno hyes
  · exact False.elim h
