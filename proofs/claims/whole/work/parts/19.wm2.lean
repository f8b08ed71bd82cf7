/-! THE CLASS: World, who passes -/
theorem bt_psB_iff (kd nd u f led : Nat) : bt_psB kd nd u f led = true ↔ bt_ps kd nd u f led := by
  unfold bt_psB bt_ps
  simp only [Bool.or_eq_true, Bool.and_eq_true, beq_iff_eq, Nat.ble_eq]
  grind
def sX4_passes : bt_Sp := fun as M N K => match as with
  | [.ref c, .int k, .int u, .int f, .int led] => ∃ w k' u' f' l', bt_wc c ∧ bt_cW M c w ∧ k = nI k' ∧ k' < w 12 1 ∧ u = nI u' ∧ u' ≤ 9 ∧ f = nI f' ∧ f' ≤ 6 ∧ led = nI l' ∧ l' ≤ 1 ∧ K (some (.int (if bt_psB (w 7 k') (w 8 k') u' f' l' = true then 1 else 0))) M N
  | _ => False
theorem bt_nlt {a b : Nat} (ha : a < 2 ^ 31) (hb : b < 2 ^ 31) : nI a < nI b ↔ a < b := nI_ltI ha hb
set_option maxHeartbeats 1000000 in
theorem mX4_passes : bt_MT bt_TX4_passes bt_FX4 [] 2 6 sX4_passes := by
  intro as M N Rt h P hP
  unfold sX4_passes at h
  split at h
  · obtain ⟨w, k, u, f, l, hc, hw, rfl, hk, rfl, hu, rfl, hf6, rfl, hl1, h⟩ := h
    obtain ⟨hf, h8, h9, h10, h11, h12, h13, h14, h15, h16, h17, r1, r2, r3, r4, r5, r6, r7, r8⟩ := hw
    obtain ⟨f1, f2, f3, f4, f5, f6, f7, f8, f9, f10, f11, f12, f13, f14, f15, f16, f17, f18⟩ := hf
    have e1 := r5 k hk
    have e2 := r6 k hk
    have g1 := f14 k
    have g2 := f15 k
    generalize hkd : w 7 k = kd at e1 g1 h
    generalize hnd : w 8 k = nd at e2 g2 h
    have hmul : nd * (f + 1) ≤ 63 := by
      calc nd * (f + 1) ≤ 9 * 7 := Nat.mul_le_mul g2 (by omega)
        _ = 63 := rfl
    have n0 : ∀ a : Nat, a < 2 ^ 31 → (nI a = 0 ↔ a = 0) := fun a ha => by rw [← nI_0]; exact nI_eq ha (by omega)
    have hnf := n0 f (by omega)
    have hnl := n0 l (by omega)
    have hlt := bt_nlt (a := u) (b := nd) (by omega) (by omega)
    have hlt2 := bt_nlt (a := u) (b := nd * (f + 1)) (by omega) (by omega)
    have hlt3 := bt_nlt (a := u) (b := 2 * nd) (by omega) (by omega)
    have em1 : nI nd * (nI f + 1) = nI (nd * (f + 1)) := by rw [nI_1, pk_mul]
    have em2 : (2 : Int32) * nI nd = nI (2 * nd) := pk_mul 2 nd
    have ek : ∀ a : Nat, a < 9 → (nI kd = nI a ↔ kd = a) := fun a ha => nI_eq (by omega) (by omega)
    have no : ¬ bt_psB kd nd u f l = true → Rt (some (.int 0)) M N := fun q => by rw [if_neg q] at h; exact h
    have yes : bt_psB kd nd u f l = true → Rt (some (.int 1)) M N := fun q => by rw [if_pos q] at h; exact h
    rw [bt_psB_iff] at no yes
    unfold bt_ps at no yes
    rcases hc with rfl | rfl
    all_goals
      refine bt_go0 rfl hP 40 ?_
      refine ⟨_, rfl, k, rfl, by omega, ?_⟩
      refine ⟨_, rfl, k, rfl, by omega, ?_⟩
      refine ⟨fun q => ?_, fun q => ⟨fun q2 => ?_, fun q2 => ⟨fun q3 => ?_, fun q3 => ⟨fun q4 => ?_, fun q4 => ?_⟩⟩⟩⟩
      · have q := (ek 1 (by omega)).mp (e1.symm.trans q)
        refine ⟨fun a => ⟨Or.inl rfl, no ?_⟩, fun a => ⟨fun b => ⟨Or.inl rfl, no ?_⟩, fun b => ⟨Or.inr rfl, yes ?_⟩⟩⟩
        · rw [hnf] at a; omega
        · rw [e2, hlt] at b; omega
        · rw [hnf] at a; rw [e2, hlt] at b; omega
      · have q := (ek 2 (by omega)).mp (e1.symm.trans q2)
        refine ⟨fun b => ⟨Or.inl rfl, no ?_⟩, fun b => ⟨Or.inr rfl, yes ?_⟩⟩
        · rw [e2, em1, hlt2] at b; omega
        · rw [e2, em1, hlt2] at b; omega
      · have q := (ek 3 (by omega)).mp (e1.symm.trans q3)
        refine ⟨fun a => ⟨Or.inl rfl, no ?_⟩, fun a => ⟨fun d => ⟨Or.inr rfl, yes ?_⟩, fun d => ⟨fun b => ⟨Or.inl rfl, no ?_⟩, fun b => ⟨Or.inr rfl, yes ?_⟩⟩⟩⟩
        · rw [hnf] at a; omega
        · rw [hnf] at a; rw [hnl] at d; omega
        · rw [hnf] at a; rw [hnl] at d; rw [e2, hlt] at b; omega
        · rw [hnf] at a; rw [hnl] at d; rw [e2, hlt] at b; omega
      · have q := (ek 4 (by omega)).mp (e1.symm.trans q4)
        refine ⟨fun a => ⟨Or.inl rfl, no ?_⟩, fun a => ⟨fun b => ⟨Or.inl rfl, no ?_⟩, fun b => ⟨Or.inr rfl, yes ?_⟩⟩⟩
        · rw [hnf] at a; omega
        · rw [e2, em2, hlt3] at b; omega
        · rw [hnf] at a; rw [e2, em2, hlt3] at b; omega
      · refine ⟨Or.inl rfl, no ?_⟩
        have a1 : ¬ kd = 1 := fun z => q (e1.trans ((ek 1 (by omega)).mpr z))
        have a2 : ¬ kd = 2 := fun z => q2 (e1.trans ((ek 2 (by omega)).mpr z))
        have a3 : ¬ kd = 3 := fun z => q3 (e1.trans ((ek 3 (by omega)).mpr z))
        have a4 : ¬ kd = 4 := fun z => q4 (e1.trans ((ek 4 (by omega)).mpr z))
        omega
  · exact False.elim h
def bt_CX4_minutes : bt_C := [(77, 0, 2, sX5_bit)]
def sX4_minutes : bt_Sp := fun as M N K => match as with
  | [.ref c, .int i, .int k, .int p] => ∃ i' k' m ps a b d, bt_wc c ∧ i = nI i' ∧ i' < 8 ∧ k = nI k' ∧ k' < m ∧ m ≤ 6 ∧ bt_b1 ps ∧ p = nI (bt_mk ps m) ∧ M (c + 1) i' = nI a ∧ M (c + 7) k' = nI b ∧ M c 14 = nI d ∧ K (some (.int (nI (a * (if ps k' = 1 then b else d))))) M N
  | _ => False
theorem mX4_minutes : bt_MT bt_TX4_minutes bt_FX4 bt_CX4_minutes 1 4 sX4_minutes := by
  intro as M N Rt h P hP
  unfold sX4_minutes at h
  split at h
  · obtain ⟨i, k, m, ps, a, b, d, hc, rfl, hi, rfl, hk, hm, hb, rfl, e1, e2, h14, h⟩ := h
    have e3 : (nI (bt_mk ps m) >>> (nI k &&& 31)) &&& 1 = nI (ps k) := by
      rw [bt_bitN hb (by omega) (by omega), if_pos hk]
    have g1 := hb k
    have n1 : nI (ps k) = 1 ↔ ps k = 1 := nI_eq (b := 1) (by omega) (by omega)
    rcases hc with rfl | rfl
    all_goals
      refine bt_go0 rfl hP 40 ?_
      refine ⟨_, rfl, i, rfl, by omega, ?_⟩
      refine ⟨fun q => ?_, fun q => ?_⟩
      · rw [e3, n1] at q
        rw [if_neg q, ← pk_mul, ← e1, ← h14] at h
        exact h
      · rw [e3, n1] at q
        refine ⟨_, rfl, k, rfl, by omega, ?_⟩
        rw [if_pos q, ← pk_mul, ← e1, ← e2] at h
        exact h
  · exact False.elim h
