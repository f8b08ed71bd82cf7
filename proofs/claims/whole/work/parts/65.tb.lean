/-! THE TEXT: what a line keeps -/
theorem bv_bn_r {A B : Type} {x : (Nat × Nat) ⊕ A} {f : A → (Nat × Nat) ⊕ B} {b : B} (h : bv_bn x f = .inr b) : ∃ a, x = .inr a ∧ f a = .inr b := by
  cases x with
  | inl e => cases h
  | inr a => exact ⟨a, rfl, h⟩
theorem bv_num_r {z : Nat → Nat} {n lo hi p : Nat} {q : Nat × Nat} (hp : p ≤ n) (h : bv_num z n lo hi p = .inr q) : p < q.1 ∧ q.1 ≤ n ∧ lo ≤ q.2 ∧ q.2 ≤ hi := by
  obtain ⟨a, h1, h2⟩ := bv_bn_r h
  obtain ⟨b1, b2, b3, b4⟩ := bv_tk_b hp h1
  have hn := bv_nx_b (z := z) b2
  split at h2
  · next k2 =>
    split at h2
    · next hr =>
      cases h2
      have := hn.2.2 (by omega) (by omega)
      exact ⟨by show p < bv_nx z n a; omega, hn.2.1, hr.1, hr.2⟩
    · cases h2
  · cases h2
theorem bv_stp_r {z : Nat → Nat} {n p q : Nat} (hp : p ≤ n) (h : bv_stp z n p = .inr q) : p < q ∧ q ≤ n := by
  obtain ⟨a, h1, h2⟩ := bv_bn_r h
  obtain ⟨b1, b2, b3, b4⟩ := bv_tk_b hp h1
  have hn := bv_nx_b (z := z) b2
  split at h2
  · next k2 =>
    cases h2
    have := hn.2.2 (by omega) (by omega)
    exact ⟨by omega, hn.2.1⟩
  · cases h2
theorem bv_frs_r {z : Nat → Nat} {n p : Nat} {f : Nat → Nat} {q : Nat × Nat} (hp : p ≤ n) (h : bv_frs z n f p = .inr q) : p < q.1 ∧ q.1 ≤ n ∧ q.2 ≤ 7 ∧ ¬ f q.2 = 1 := by
  obtain ⟨a, h1, h2⟩ := bv_bn_r h
  obtain ⟨b1, b2, b3, b4⟩ := bv_num_r hp h1
  split at h2
  · cases h2
  · next hr =>
    cases h2
    exact ⟨b1, b2, b4, hr⟩
theorem bv_wf12 {w : bt_W} {j v : Nat} (h : bt_wf w) (h4 : w 12 4 = 0) (hj : (j = 0 ∧ v ≤ 8) ∨ (j = 1 ∧ v ≤ 6) ∨ (j = 2 ∧ v ≤ 9) ∨ (j = 3 ∧ v ≤ 6)) : bt_wf (bt_w1 w 12 j v) := by
  obtain ⟨f1, f2, f3, f4, f5, f6, f7, f8, f9, f10, f11, f12, f13, f14, f15, f16, f17, f18⟩ := h
  have en : ∀ g, g ≠ 12 → bt_w1 w 12 j v g = w g := fun g hg => bt_w1_n hg
  have ek : ∀ k, bt_w1 w 12 j v 12 k = if k = j then v else w 12 k := fun k => bt_w1_s
  unfold bt_wf
  rw [en 0 (by omega), en 1 (by omega), en 2 (by omega), en 3 (by omega), en 4 (by omega), en 5 (by omega), en 6 (by omega), en 7 (by omega), en 8 (by omega), en 9 (by omega), en 10 (by omega), en 11 (by omega)]
  rcases hj with ⟨rfl, hv⟩ | ⟨rfl, hv⟩ | ⟨rfl, hv⟩ | ⟨rfl, hv⟩
  · exact ⟨by simp [ek]; omega, by simp [ek]; omega, by simp [ek]; omega, by simp [ek]; omega, by simp [ek]; omega, by simp [ek]; omega, f7, f8, f9, f10, f11, f12, f13, f14, f15, f16, by simpa [ek] using f17, f18⟩
  · exact ⟨by simp [ek]; omega, by simp [ek]; omega, by simp [ek]; omega, by simp [ek]; omega, by simp [ek]; omega, by simp [ek]; omega, f7, f8, f9, f10, f11, f12, f13, f14, f15, f16, by simpa [ek] using f17, f18⟩
  · exact ⟨by simp [ek]; omega, by simp [ek]; omega, by simp [ek]; omega, by simp [ek]; omega, by simp [ek]; omega, by simp [ek]; omega, f7, f8, f9, f10, f11, f12, f13, f14, f15, f16, by simpa [ek] using f17, f18⟩
  · exact ⟨by simp [ek]; omega, by simp [ek]; omega, by simp [ek]; omega, by simp [ek]; omega, by simp [ek]; omega, by simp [ek]; omega, f7, f8, f9, f10, f11, f12, f13, f14, f15, f16, by simpa [ek] using f17, f18⟩
theorem bv_ok_w {Q : bv_Q} (h : bv_ok Q) {w : bt_W} {sl : Nat} (hwf : bt_wf w) (h10 : w 10 = Q.1 10) (h11 : w 11 = Q.1 11) (h4 : w 12 4 = 0) (h5 : w 12 5 = 0) (m4 : w 4 = Q.1 4) (m5 : w 5 = Q.1 5) (m6 : w 6 = Q.1 6) (hs : sl ≤ 1) : bv_ok (w, Q.2.1, sl, Q.2.2.2) := by
  obtain ⟨a1, a2, a3, a4, a5, a6, a7, a8, a9, a10⟩ := h
  refine ⟨hwf, ?_, ?_, h4, h5, a6, hs, a8, ?_, ?_⟩
  · show ∀ k, w 10 k = 0
    rw [h10]
    exact a2
  · show ∀ k, w 11 k = 0
    rw [h11]
    exact a3
  · show ∀ i, Q.2.2.2 ≤ i → w 4 i = 0 ∧ w 5 i = 0 ∧ w 6 i = 0 ∧ Q.2.1 i = 0
    rw [m4, m5, m6]
    exact a9
  · show 0 < Q.2.2.2 → w 4 (Q.2.2.2 - 1) = 1 ∨ w 5 (Q.2.2.2 - 1) = 1 ∨ w 6 (Q.2.2.2 - 1) = 1 ∨ Q.2.1 (Q.2.2.2 - 1) = 1
    rw [m4, m5, m6]
    exact a10
theorem bv_ok_m {Q : bv_Q} (h : bv_ok Q) {f i : Nat} (hf : f = 4 ∨ f = 5 ∨ f = 6) (hi : i ≤ 7) : bv_ok (bt_w1 Q.1 f i 1, Q.2.1, Q.2.2.1, max Q.2.2.2 (i + 1)) := by
  obtain ⟨a1, a2, a3, a4, a5, a6, a7, a8, a9, a10⟩ := h
  have g : ∀ j, Q.2.2.2 ≤ j → Q.1 4 j = 0 ∧ Q.1 5 j = 0 ∧ Q.1 6 j = 0 ∧ Q.2.1 j = 0 := a9
  have hwf : bt_wf (bt_w1 Q.1 f i 1) := bt_wf_w1 a1 (by omega) (by rcases hf with rfl | rfl | rfl <;> decide)
  have e : ∀ g j, g ≠ 12 → bt_w1 Q.1 f i 1 g j = if g = f ∧ j = i then 1 else Q.1 g j := fun g j _ => rfl
  refine ⟨hwf, ?_, ?_, ?_, ?_, a6, a7, ?_, ?_, ?_⟩
  · show ∀ k, bt_w1 Q.1 f i 1 10 k = 0
    rw [bt_w1_n (by omega)]
    exact a2
  · show ∀ k, bt_w1 Q.1 f i 1 11 k = 0
    rw [bt_w1_n (by omega)]
    exact a3
  · show bt_w1 Q.1 f i 1 12 4 = 0
    rw [bt_w1_n (by omega)]
    exact a4
  · show bt_w1 Q.1 f i 1 12 5 = 0
    rw [bt_w1_n (by omega)]
    exact a5
  · show max Q.2.2.2 (i + 1) ≤ 8
    omega
  · show ∀ j, max Q.2.2.2 (i + 1) ≤ j → bt_w1 Q.1 f i 1 4 j = 0 ∧ bt_w1 Q.1 f i 1 5 j = 0 ∧ bt_w1 Q.1 f i 1 6 j = 0 ∧ Q.2.1 j = 0
    intro j hj
    rw [e 4 j (by omega), e 5 j (by omega), e 6 j (by omega), if_neg (by omega), if_neg (by omega), if_neg (by omega)]
    exact g j (by omega)
  · show 0 < max Q.2.2.2 (i + 1) → bt_w1 Q.1 f i 1 4 (max Q.2.2.2 (i + 1) - 1) = 1 ∨ bt_w1 Q.1 f i 1 5 (max Q.2.2.2 (i + 1) - 1) = 1 ∨ bt_w1 Q.1 f i 1 6 (max Q.2.2.2 (i + 1) - 1) = 1 ∨ Q.2.1 (max Q.2.2.2 (i + 1) - 1) = 1
    intro _
    rw [e 4 _ (by omega), e 5 _ (by omega), e 6 _ (by omega)]
    by_cases hm : Q.2.2.2 ≤ i + 1
    · rw [show max Q.2.2.2 (i + 1) - 1 = i by omega]
      rcases hf with rfl | rfl | rfl <;> simp
    · rw [show max Q.2.2.2 (i + 1) - 1 = Q.2.2.2 - 1 by omega, if_neg (by omega), if_neg (by omega), if_neg (by omega)]
      exact a10 (by omega)
theorem bv_ok_o {Q : bv_Q} (h : bv_ok Q) {i v : Nat} (hi : i ≤ 7) (hv : v ≤ 10) : bv_ok (bt_w1 Q.1 3 i v, bv_u1 Q.2.1 i, Q.2.2.1, max Q.2.2.2 (i + 1)) := by
  obtain ⟨a1, a2, a3, a4, a5, a6, a7, a8, a9, a10⟩ := h
  have g : ∀ j, Q.2.2.2 ≤ j → Q.1 4 j = 0 ∧ Q.1 5 j = 0 ∧ Q.1 6 j = 0 ∧ Q.2.1 j = 0 := a9
  have hwf : bt_wf (bt_w1 Q.1 3 i v) := bt_wf_w1 a1 (by omega) (show v ≤ 10 from hv)
  refine ⟨hwf, ?_, ?_, ?_, ?_, ?_, a7, ?_, ?_, ?_⟩
  · show ∀ k, bt_w1 Q.1 3 i v 10 k = 0
    rw [bt_w1_n (by omega)]
    exact a2
  · show ∀ k, bt_w1 Q.1 3 i v 11 k = 0
    rw [bt_w1_n (by omega)]
    exact a3
  · show bt_w1 Q.1 3 i v 12 4 = 0
    rw [bt_w1_n (by omega)]
    exact a4
  · show bt_w1 Q.1 3 i v 12 5 = 0
    rw [bt_w1_n (by omega)]
    exact a5
  · intro k
    show (if k = i then 1 else Q.2.1 k) ≤ 1
    split
    · exact Nat.le_refl _
    · exact a6 k
  · show max Q.2.2.2 (i + 1) ≤ 8
    omega
  · show ∀ j, max Q.2.2.2 (i + 1) ≤ j → bt_w1 Q.1 3 i v 4 j = 0 ∧ bt_w1 Q.1 3 i v 5 j = 0 ∧ bt_w1 Q.1 3 i v 6 j = 0 ∧ (if j = i then 1 else Q.2.1 j) = 0
    intro j hj
    rw [bt_w1_n (by omega), bt_w1_n (by omega), bt_w1_n (by omega), if_neg (by omega)]
    exact g j (by omega)
  · show 0 < max Q.2.2.2 (i + 1) → bt_w1 Q.1 3 i v 4 (max Q.2.2.2 (i + 1) - 1) = 1 ∨ bt_w1 Q.1 3 i v 5 (max Q.2.2.2 (i + 1) - 1) = 1 ∨ bt_w1 Q.1 3 i v 6 (max Q.2.2.2 (i + 1) - 1) = 1 ∨ (if max Q.2.2.2 (i + 1) - 1 = i then 1 else Q.2.1 (max Q.2.2.2 (i + 1) - 1)) = 1
    intro _
    rw [bt_w1_n (by omega), bt_w1_n (by omega), bt_w1_n (by omega)]
    by_cases hm : Q.2.2.2 ≤ i + 1
    · rw [show max Q.2.2.2 (i + 1) - 1 = i by omega]
      simp
    · rw [show max Q.2.2.2 (i + 1) - 1 = Q.2.2.2 - 1 by omega, if_neg (by omega)]
      exact a10 (by omega)
theorem bv_road_ok {z : Nat → Nat} {n a : Nat} {Q : bv_Q} {q : Nat × bv_Q} (hQ : bv_ok Q) (hp : bv_nx z n a ≤ n) (h : bv_road z n a Q = .inr q) : bv_ok q.2 ∧ bv_nx z n a ≤ q.1 ∧ q.1 ≤ n := by
  unfold bv_road at h
  split at h
  · cases h
  · next hR =>
    obtain ⟨q1, e1, h⟩ := bv_bn_r h
    obtain ⟨q2, e2, h⟩ := bv_bn_r h
    obtain ⟨q3, e3, h⟩ := bv_bn_r h
    cases h
    have r1 := bv_num_r hp e1
    have r2 := bv_num_r r1.2.1 e2
    have r3 := bv_num_r r2.2.1 e3
    have a1 := hQ.1
    have a4 := hQ.2.2.2.1
    have a5 := hQ.2.2.2.2.1
    refine ⟨bv_ok_w hQ (bv_wf12 (bt_wf_w1 (bt_wf_w1 (bt_wf_w1 a1 (by omega) (show q1.2 ≤ 9 from r1.2.2.2)) (by omega) (show q2.2 ≤ 9 from r2.2.2.2)) (by omega) (show q3.2 ≤ 9 from r3.2.2.2)) ?_ (Or.inl ⟨rfl, by omega⟩)) ?_ ?_ ?_ ?_ ?_ ?_ ?_ hQ.2.2.2.2.2.2.1, ?_, r3.2.1⟩
    · rw [bt_w1_n (by omega), bt_w1_n (by omega), bt_w1_n (by omega)]
      exact a4
    · rw [bt_w1_n (by omega), bt_w1_n (by omega), bt_w1_n (by omega), bt_w1_n (by omega)]
    · rw [bt_w1_n (by omega), bt_w1_n (by omega), bt_w1_n (by omega), bt_w1_n (by omega)]
    · rw [bt_w1_s, if_neg (by omega), bt_w1_n (by omega), bt_w1_n (by omega), bt_w1_n (by omega)]
      exact a4
    · rw [bt_w1_s, if_neg (by omega), bt_w1_n (by omega), bt_w1_n (by omega), bt_w1_n (by omega)]
      exact a5
    · rw [bt_w1_n (by omega), bt_w1_n (by omega), bt_w1_n (by omega), bt_w1_n (by omega)]
    · rw [bt_w1_n (by omega), bt_w1_n (by omega), bt_w1_n (by omega), bt_w1_n (by omega)]
    · rw [bt_w1_n (by omega), bt_w1_n (by omega), bt_w1_n (by omega), bt_w1_n (by omega)]
    · show bv_nx z n a ≤ q3.1
      omega
theorem bv_car_ok {z : Nat → Nat} {n a : Nat} {Q : bv_Q} {q : Nat × bv_Q} (hQ : bv_ok Q) (hp : bv_nx z n a ≤ n) (h : bv_car z n a Q = .inr q) : bv_ok q.2 ∧ bv_nx z n a ≤ q.1 ∧ q.1 ≤ n := by
  unfold bv_car at h
  split at h
  · cases h
  · next hR =>
    obtain ⟨b, e0, h⟩ := bv_bn_r h
    obtain ⟨b1, b2, b3, b4⟩ := bv_tk_b hp e0
    split at h
    · next hx =>
      obtain ⟨q2, e2, h⟩ := bv_bn_r h
      obtain ⟨q3, e3, h⟩ := bv_bn_r h
      cases h
      have hnb := bv_nx_b (z := z) b2
      have r2 := bv_num_r hnb.2.1 e2
      have r3 := bv_num_r r2.2.1 e3
      have a1 := hQ.1
      have a4 := hQ.2.2.2.1
      have a5 := hQ.2.2.2.2.1
      refine ⟨bv_ok_w hQ (bv_wf12 (bt_wf_w1 (bt_wf_w1 (bt_wf_w1 a1 (by omega) (show bv_ix (bv_wd z n b) - 7 ≤ 4 by omega)) (by omega) (show q2.2 ≤ 9 from r2.2.2.2)) (by omega) (show q3.2 ≤ 5 from r3.2.2.2)) ?_ (Or.inr (Or.inl ⟨rfl, by omega⟩))) ?_ ?_ ?_ ?_ ?_ ?_ ?_ hQ.2.2.2.2.2.2.1, ?_, r3.2.1⟩
      · rw [bt_w1_n (by omega), bt_w1_n (by omega), bt_w1_n (by omega)]
        exact a4
      · rw [bt_w1_n (by omega), bt_w1_n (by omega), bt_w1_n (by omega), bt_w1_n (by omega)]
      · rw [bt_w1_n (by omega), bt_w1_n (by omega), bt_w1_n (by omega), bt_w1_n (by omega)]
      · rw [bt_w1_s, if_neg (by omega), bt_w1_n (by omega), bt_w1_n (by omega), bt_w1_n (by omega)]
        exact a4
      · rw [bt_w1_s, if_neg (by omega), bt_w1_n (by omega), bt_w1_n (by omega), bt_w1_n (by omega)]
        exact a5
      · rw [bt_w1_n (by omega), bt_w1_n (by omega), bt_w1_n (by omega), bt_w1_n (by omega)]
      · rw [bt_w1_n (by omega), bt_w1_n (by omega), bt_w1_n (by omega), bt_w1_n (by omega)]
      · rw [bt_w1_n (by omega), bt_w1_n (by omega), bt_w1_n (by omega), bt_w1_n (by omega)]
      · show bv_nx z n a ≤ q3.1
        omega
    · cases h
theorem bv_slow_ok {z : Nat → Nat} {n a : Nat} {Q : bv_Q} {q : Nat × bv_Q} (hQ : bv_ok Q) (hp : bv_nx z n a ≤ n) (h : bv_slow z n a Q = .inr q) : bv_ok q.2 ∧ bv_nx z n a ≤ q.1 ∧ q.1 ≤ n := by
  unfold bv_slow at h
  split at h
  · cases h
  · obtain ⟨q1, e1, h⟩ := bv_bn_r h
    obtain ⟨q2, e2, h⟩ := bv_bn_r h
    cases h
    have r1 := bv_num_r hp e1
    have r2 := bv_num_r r1.2.1 e2
    have a1 := hQ.1
    have a4 := hQ.2.2.2.1
    have a5 := hQ.2.2.2.2.1
    refine ⟨bv_ok_w hQ (bv_wf12 (bv_wf12 a1 a4 (Or.inr (Or.inr (Or.inl ⟨rfl, r1.2.2.2⟩)))) ?_ (Or.inr (Or.inr (Or.inr ⟨rfl, r2.2.2.2⟩)))) ?_ ?_ ?_ ?_ ?_ ?_ ?_ (Nat.le_refl _), ?_, r2.2.1⟩
    · rw [bt_w1_s, if_neg (by omega)]
      exact a4
    · rw [bt_w1_n (by omega), bt_w1_n (by omega)]
    · rw [bt_w1_n (by omega), bt_w1_n (by omega)]
    · rw [bt_w1_s, if_neg (by omega), bt_w1_s, if_neg (by omega)]
      exact a4
    · rw [bt_w1_s, if_neg (by omega), bt_w1_s, if_neg (by omega)]
      exact a5
    · rw [bt_w1_n (by omega), bt_w1_n (by omega)]
    · rw [bt_w1_n (by omega), bt_w1_n (by omega)]
    · rw [bt_w1_n (by omega), bt_w1_n (by omega)]
    · show bv_nx z n a ≤ q2.1
      omega
theorem bv_body_ok {z : Nat → Nat} {n a x : Nat} {Q : bv_Q} {q : Nat × bv_Q} (hQ : bv_ok Q) (hp : bv_nx z n a ≤ n) (h : bv_bodyI z n a x Q = .inr q) : bv_ok q.2 ∧ bv_nx z n a ≤ q.1 ∧ q.1 ≤ n := by
  have mk : ∀ f, (f = 4 ∨ f = 5 ∨ f = 6) → bv_mark z n a f Q = .inr q → bv_ok q.2 ∧ bv_nx z n a ≤ q.1 ∧ q.1 ≤ n := by
    intro f hf h
    obtain ⟨q1, e1, h⟩ := bv_bn_r h
    cases h
    have r1 := bv_frs_r hp e1
    exact ⟨bv_ok_m hQ hf r1.2.2.1, by show bv_nx z n a ≤ q1.1; omega, r1.2.1⟩
  unfold bv_bodyI at h
  split at h
  · exact bv_road_ok hQ hp h
  split at h
  · exact bv_car_ok hQ hp h
  split at h
  · exact bv_slow_ok hQ hp h
  split at h
  · obtain ⟨q1, e1, h⟩ := bv_bn_r h
    obtain ⟨q2, e2, h⟩ := bv_bn_r h
    cases h
    have r1 := bv_frs_r hp e1
    have r2 := bv_num_r r1.2.1 e2
    exact ⟨bv_ok_o hQ r1.2.2.1 r2.2.2.2, by show bv_nx z n a ≤ q2.1; omega, r2.2.1⟩
  split at h
  · exact mk 4 (by omega) h
  split at h
  · exact mk 5 (by omega) h
  split at h
  · exact mk 6 (by omega) h
  · cases h
theorem bv_ln_ok {z : Nat → Nat} {n a : Nat} {Q : bv_Q} {q : Nat × bv_Q} (hQ : bv_ok Q) (ha : a ≤ n) (h : bv_ln z n a Q = .inr q) : bv_ok q.2 ∧ a < q.1 ∧ q.1 ≤ n := by
  have hn := bv_nx_b (z := z) ha
  obtain ⟨q1, e1, h⟩ := bv_bn_r h
  obtain ⟨p, e2, h⟩ := bv_bn_r h
  cases h
  have r1 := bv_body_ok hQ hn.2.1 e1
  have r2 := bv_stp_r r1.2.2 e2
  exact ⟨r1.1, by show a < p; omega, r2.2⟩
