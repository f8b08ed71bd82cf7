/-! CALLS: text, the class -/
theorem bv_stp_e {z : Nat → Nat} {n p : Nat} {e : Nat × Nat} (hp : p ≤ n) (h : bv_stp z n p = .inl e) : 1 ≤ e.1 ∧ e.1 ≤ 6 ∧ e.2 ≤ n := by
  unfold bv_stp at h
  cases hk : bv_tk z n p with
  | inl e' =>
    rw [hk] at h
    cases h
    exact bv_tk_e hp hk
  | inr a =>
    rw [hk, bv_bn] at h
    have hb := bv_tk_b hp hk
    split at h
    · cases h
    · cases h
      exact ⟨by show 1 ≤ 2; omega, by show 2 ≤ 6; omega, hb.2.1⟩
theorem bv_bn_l {A B : Type} {x : (Nat × Nat) ⊕ A} {f : A → (Nat × Nat) ⊕ B} {e : Nat × Nat} (h : bv_bn x f = .inl e) : x = .inl e ∨ ∃ a, x = .inr a ∧ f a = .inl e := by
  cases x with
  | inl e' =>
    cases h
    exact Or.inl rfl
  | inr a => exact Or.inr ⟨a, rfl, h⟩
theorem bv_body_e {z : Nat → Nat} {n a x : Nat} {Q : bv_Q} {e : Nat × Nat} (ha : a ≤ n) (h : bv_bodyI z n a x Q = .inl e) : 1 ≤ e.1 ∧ e.1 ≤ 6 ∧ e.2 ≤ n := by
  have hp := (bv_nx_b (z := z) ha).2.1
  have mk : ∀ f, bv_mark z n a f Q = .inl e → 1 ≤ e.1 ∧ e.1 ≤ 6 ∧ e.2 ≤ n := by
    intro f h
    rcases bv_bn_l h with h | ⟨q1, k1, h⟩
    · exact bv_frs_e hp h
    · cases h
  unfold bv_bodyI at h
  split at h
  · unfold bv_road at h
    split at h
    · cases h
      exact ⟨by show 1 ≤ 5; omega, by show 5 ≤ 6; omega, ha⟩
    rcases bv_bn_l h with h | ⟨q1, k1, h⟩
    · exact bv_num_e hp h
    have r1 := bv_num_r hp k1
    rcases bv_bn_l h with h | ⟨q2, k2, h⟩
    · exact bv_num_e r1.2.1 h
    have r2 := bv_num_r r1.2.1 k2
    rcases bv_bn_l h with h | ⟨q3, k3, h⟩
    · exact bv_num_e r2.2.1 h
    · cases h
  split at h
  · unfold bv_car at h
    split at h
    · cases h
      exact ⟨by show 1 ≤ 5; omega, by show 5 ≤ 6; omega, ha⟩
    rcases bv_bn_l h with h | ⟨b, k1, h⟩
    · exact bv_tk_e hp h
    have hb := bv_tk_b hp k1
    have hnb := bv_nx_b (z := z) hb.2.1
    split at h
    · rcases bv_bn_l h with h | ⟨q2, k2, h⟩
      · exact bv_num_e hnb.2.1 h
      have r2 := bv_num_r hnb.2.1 k2
      rcases bv_bn_l h with h | ⟨q3, k3, h⟩
      · exact bv_num_e r2.2.1 h
      · cases h
    · cases h
      exact ⟨by show 1 ≤ 2; omega, by show 2 ≤ 6; omega, hb.2.1⟩
  split at h
  · unfold bv_slow at h
    split at h
    · cases h
      exact ⟨by show 1 ≤ 4; omega, by show 4 ≤ 6; omega, ha⟩
    rcases bv_bn_l h with h | ⟨q1, k1, h⟩
    · exact bv_num_e hp h
    have r1 := bv_num_r hp k1
    rcases bv_bn_l h with h | ⟨q2, k2, h⟩
    · exact bv_num_e r1.2.1 h
    · cases h
  split at h
  · rcases bv_bn_l h with h | ⟨q1, k1, h⟩
    · exact bv_frs_e hp h
    have r1 := bv_frs_r hp k1
    rcases bv_bn_l h with h | ⟨q2, k2, h⟩
    · exact bv_num_e r1.2.1 h
    · cases h
  split at h
  · exact mk 4 h
  split at h
  · exact mk 5 h
  split at h
  · exact mk 6 h
  · cases h
    exact ⟨by show 1 ≤ 2; omega, by show 2 ≤ 6; omega, ha⟩
theorem bv_ln_e {z : Nat → Nat} {n a : Nat} {Q : bv_Q} {e : Nat × Nat} (hQ : bv_ok Q) (ha : a ≤ n) (h : bv_ln z n a Q = .inl e) : 1 ≤ e.1 ∧ e.1 ≤ 6 ∧ e.2 ≤ n := by
  rcases bv_bn_l h with h | ⟨q1, k1, h⟩
  · exact bv_body_e ha h
  have r1 := bv_body_ok hQ (bv_nx_b (z := z) ha).2.1 k1
  rcases bv_bn_l h with h | ⟨q2, k2, h⟩
  · exact bv_stp_e r1.2.2 h
  · cases h
theorem bv_all_e {z : Nat → Nat} {n : Nat} {e : Nat × Nat} : ∀ f p l Q, bv_ok Q → p ≤ n → bv_all z n f p l Q = .inl e → 1 ≤ e.1 ∧ e.1 ≤ 6 ∧ e.2 ≤ n
  | 0, p, l, Q, _, _, h => by
    rw [bv_all] at h
    cases h
    exact ⟨by show 1 ≤ 6; omega, Nat.le_refl _, Nat.le_refl _⟩
  | f + 1, p, l, Q, hQ, hp, h => by
    rw [bv_all] at h
    rcases bv_bn_l h with h | ⟨a, k1, h⟩
    · exact bv_tk_e hp h
    have hb := bv_tk_b hp k1
    split at h
    · split at h
      · cases h
        exact ⟨by show 1 ≤ 6; omega, Nat.le_refl _, Nat.le_refl _⟩
      · cases h
    · rcases bv_bn_l h with h | ⟨q, k2, h⟩
      · exact bv_ln_e hQ hb.2.1 h
      have r := bv_ln_ok hQ hb.2.1 k2
      exact bv_all_e f q.1 (l + 1) q.2 r.1 r.2.2 h
theorem bv_all_r {z : Nat → Nat} {n : Nat} {q : Nat × bv_Q} : ∀ f p l Q, bv_ok Q → p ≤ n → bv_all z n f p l Q = .inr q → bv_ok q.2 ∧ q.2.2.2.2 ≤ q.2.1 12 0
  | 0, p, l, Q, _, _, h => by
    rw [bv_all] at h
    cases h
  | f + 1, p, l, Q, hQ, hp, h => by
    rw [bv_all] at h
    obtain ⟨a, k1, h⟩ := bv_bn_r h
    have hb := bv_tk_b hp k1
    split at h
    · split at h
      · cases h
      · cases h
        exact ⟨hQ, by show Q.2.2.2 ≤ Q.1 12 0; omega⟩
    · obtain ⟨q', k2, h⟩ := bv_bn_r h
      have r := bv_ln_ok hQ hb.2.1 k2
      exact bv_all_r f q'.1 (l + 1) q'.2 r.1 r.2.2 h
def bv_ur (u : Nat → Nat) (f : Nat) : Nat → Nat := fun k => if k = 0 then 0 else if k = 1 then f else u k
def bv_us (u : Nat → Nat) : Nat → Nat := fun k => if k = 0 then 0 else if k = 1 then 0 else if k = 3 then 0 else if k = 4 then 0 else if k = 5 then 0 else u k
def f_text : bt_fn := fun t S => match t, S with
  | [], (w, im, u, z, q) => (match bv_all (z 0) (u 0) (u 0 + 1) 0 0 bv_q0 with
    | .inl e => some (.int (-10 - nI e.2), (w, im, bv_ur u e.1, z, q))
    | .inr r => some (.int (nI r.1), (r.2.1, im, bv_us u, z, q)))
  | _, _ => none
theorem bv_ur_n {u : Nat → Nat} {f k : Nat} (h : 2 ≤ k) : bv_ur u f k = u k := by
  unfold bv_ur
  rw [if_neg (by omega), if_neg (by omega)]
theorem bv_us_n {u : Nat → Nat} {k : Nat} (h : 6 ≤ k ∨ k = 2) : bv_us u k = u k := by
  unfold bv_us
  rw [if_neg (by omega), if_neg (by omega), if_neg (by omega), if_neg (by omega), if_neg (by omega)]
def bt_CX5_text : bt_C := [(63, 1, 1, sX3_tellAll), (76, 1, 2, sX4_takeFrom)]
def sX5_text : bt_Sp := bt_spC f_text
set_option maxRecDepth 100000 in
theorem mX5_text : bt_MT bt_TX5_text bt_FX5 bt_CX5_text 1 2 sX5_text := by
  intro as M N Rt h P hP
  obtain ⟨t, S, r, S', rfl, hI, hf, h⟩ := bt_spC_e h
  obtain ⟨w, im, u, z, q⟩ := S
  unfold f_text at hf
  split at hf
  · next _ _ _ _ _ e =>
    cases e
    obtain ⟨a1, a2, a3, a4, a5, a6, a7, a8, a9, a10, a11, a12⟩ := id hI
    obtain ⟨b0, b1, b2, b3, b4, b5, b6, b7, b8, b9, b10⟩ := id a2
    refine bt_go0 rfl hP 100 ?_
    refine ⟨z 0, u 0, rfl, ⟨a3, b0, a4, b1⟩, fun M1 r hX => ?_⟩
    obtain ⟨t1, hX⟩ := hX
    intro M2 e2
    obtain ⟨u1, u2, u3⟩ := bv_up e2
    have x3 : ∀ x : Nat, (x < 11 ∨ 20 < x) → M2 x = M x := fun x hx2 => by rw [u1 x (by omega), t1 x hx2]
    have w9 : M2 20 3 = M1 20 3 := u3 3 (by omega)
    cases hA : bv_all (z 0) (u 0) (u 0 + 1) 0 0 bv_q0 with
    | inl e =>
      rw [hA] at hf hX
      obtain ⟨rfl, rfl⟩ := bt_some hf
      have he := bv_all_e _ _ _ _ bv_q0_ok (Nat.zero_le _) hA
      obtain ⟨m3, m4⟩ := hX
      have k4 : M2 20 4 = nI e.2 := by rw [u3 4 (by omega)]; exact m4
      refine ⟨fun y => ?_, fun _ => ?_⟩
      · rw [w9, m3, bt_n0 (by omega)] at y
        omega
      · suffices hc : bt_cI M2 (w, im, bv_ur u e.1, z, q) by
          have key := h M2 N (fun x hx => x3 x (by omega)) hc
          rw [← k4] at key
          exact key
        refine ⟨bt_cW_kept a1 (fun x _ _ => x3 x (by omega)), ?_, ?_, ?_, ?_, ?_, ?_, ?_, ?_, ?_, ?_, ?_⟩
        · refine ⟨Nat.zero_le _, b1, he.2.1, ?_, ?_, ?_, ?_, ?_, ?_, ?_, ?_⟩
          · rw [bv_ur_n (by omega)]; exact b3
          · rw [bv_ur_n (by omega)]; exact b4
          · rw [bv_ur_n (by omega)]; exact b5
          · rw [bv_ur_n (by omega)]; exact b6
          · intro k hk
            rw [bv_ur_n (by omega), bv_ur_n (by omega)]; exact b7 k hk
          · rw [bv_ur_n (by omega)]; exact b8
          · rw [bv_ur_n (by omega)]; exact b9
          · rw [bv_ur_n (by omega)]; exact b10
        · rw [u2]; rfl
        · intro j hj
          exact absurd hj (Nat.not_lt_zero _)
        · rw [w9, m3]; rfl
        · rw [x3 0 (by omega), bv_ur_n (by omega), bv_ur_n (by omega)]; exact a6
        · rw [x3 0 (by omega), bv_ur_n (by omega)]; exact a7
        · rw [bv_ur_n (by omega)]
          exact fun c => bt_cW_kept (a8 c) (fun x _ _ => x3 x (by omega))
        · rw [bv_ur_n (by omega)]
          exact fun c => bt_cW_kept (a9 c) (fun x _ _ => x3 x (by omega))
        · intro k hk
          rw [bv_ur_n (by omega), bv_ur_n (by omega), x3 (41 + 2 * k) (by omega), x3 (42 + 2 * k) (by omega)]
          exact a10 k hk
        · rw [x3 49 (by omega), bv_ur_n (by omega)]; exact a11
        · rw [x3 50 (by omega), x3 51 (by omega), bv_ur_n (by omega)]; exact a12
    | inr r' =>
      rw [hA] at hf hX
      obtain ⟨rfl, rfl⟩ := bt_some hf
      obtain ⟨rfl, m3, hcW⟩ := hX
      refine ⟨fun _ => ?_, fun y => absurd (w9.trans m3) y⟩
      have hcW3 : bt_cW M2 11 r'.2.1 := bt_cW_kept hcW (fun x _ _ => by rw [u1 x (by omega)])
      refine ⟨r'.2.1, by unfold bt_tf; decide, hcW3, fun M4 c1 c2 => ?_⟩
      intro M5 e5 M6 e6
      obtain ⟨p1, p2, p3⟩ := bv_up e5
      obtain ⟨s1, s2, s3⟩ := bv_up e6
      have x6 : ∀ x : Nat, (x = 1 ∨ (20 < x ∧ x ≠ 49)) → M6 x = M x := fun x hx => by rw [s1 x (by omega), p1 x (by omega), c2 x (by omega), x3 x (by omega)]
      have y6 : ∀ f : Nat, f ≠ 7 → M6 0 f = M 0 f := fun f f3 => by rw [s3 f f3, p1 0 (by omega), c2 0 (by omega), x3 0 (by omega)]
      have z6 : M6 20 = M2 20 := by rw [s1 20 (by omega), p1 20 (by omega), c2 20 (by omega)]
      refine h M6 N (fun x hx => x6 x (by omega)) ?_
      refine ⟨bt_cW_kept c1 (fun x _ _ => by rw [s1 x (by omega), p1 x (by omega)]), ?_, ?_, ?_, ?_, ?_, ?_, ?_, ?_, ?_, ?_, ?_⟩
      · refine ⟨Nat.zero_le _, b1, Nat.zero_le _, ?_, Nat.zero_le _, Nat.zero_le _, Nat.zero_le _, ?_, ?_, ?_, ?_⟩
        · rw [bv_us_n (by omega)]; exact b3
        · intro k hk
          rw [bv_us_n (by omega), bv_us_n (by omega)]; exact b7 k hk
        · intro k hk
          exact absurd hk (Nat.not_lt_zero _)
        · intro c
          exact absurd c (by show ¬ (0 = 1); omega)
        · intro c
          exact absurd c (by show ¬ (0 = 1); omega)
      · rw [z6, u2]; rfl
      · intro j hj
        exact absurd hj (Nat.not_lt_zero _)
      · rw [z6, w9, m3]; rfl
      · rw [s2]; rfl
      · rw [y6 8 (by omega), bv_us_n (by omega)]; exact a7
      · intro c
        exact absurd c (by show ¬ (0 = 1); omega)
      · intro c
        exact absurd c (by show ¬ (0 = 1); omega)
      · intro k hk
        rw [bv_us_n (by omega), bv_us_n (by omega), x6 (41 + 2 * k) (by omega), x6 (42 + 2 * k) (by omega)]
        exact a10 k hk
      · rw [s1 49 (by omega), p2]; rfl
      · intro k hk
        exact absurd hk (Nat.not_lt_zero _)
  · cases hf
