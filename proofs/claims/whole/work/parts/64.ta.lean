/-! THE TEXT: tokens, lines, as numbers -/
def bv_rn (z : Nat → Nat) (n : Nat) (c : Nat → Bool) : Nat → Nat → Nat
  | 0, p => p
  | f + 1, p => if p < n ∧ c (z p) = true then bv_rn z n c f (p + 1) else p
def bv_r (z : Nat → Nat) (n : Nat) (c : Nat → Bool) (p : Nat) : Nat := bv_rn z n c (n - p) p
theorem bv_r_y {z : Nat → Nat} {n p : Nat} {c : Nat → Bool} (h : p < n) (hc : c (z p) = true) : bv_r z n c p = bv_r z n c (p + 1) := by
  unfold bv_r
  rw [show n - p = (n - (p + 1)) + 1 by omega, bv_rn, if_pos ⟨h, hc⟩]
theorem bv_r_n {z : Nat → Nat} {n p : Nat} {c : Nat → Bool} (h : ¬ (p < n ∧ c (z p) = true)) : bv_r z n c p = p := by
  unfold bv_r
  cases hf : n - p with
  | zero => rfl
  | succ f => rw [bv_rn, if_neg h]
theorem bv_rn_b {z : Nat → Nat} {n : Nat} {c : Nat → Bool} : ∀ f p, p ≤ bv_rn z n c f p ∧ (p ≤ n → bv_rn z n c f p ≤ n)
  | 0, p => ⟨Nat.le_refl _, fun h => h⟩
  | f + 1, p => by
    rw [bv_rn]
    split
    · next h =>
      have := bv_rn_b (z := z) (n := n) (c := c) f (p + 1)
      exact ⟨by omega, fun _ => this.2 (by omega)⟩
    · exact ⟨Nat.le_refl _, fun h => h⟩
theorem bv_r_b {z : Nat → Nat} {n p : Nat} {c : Nat → Bool} (h : p ≤ n) : p ≤ bv_r z n c p ∧ bv_r z n c p ≤ n := ⟨(bv_rn_b _ _).1, (bv_rn_b _ _).2 h⟩
def bv_c0 (x : Nat) : Bool := x == 32
def bv_c1 (x : Nat) : Bool := Nat.ble 97 x && Nat.ble x 122
def bv_c2 (x : Nat) : Bool := Nat.ble 48 x && Nat.ble x 57
theorem bv_c0_i {x : Nat} : bv_c0 x = true ↔ x = 32 := by simp [bv_c0]
theorem bv_c1_i {x : Nat} : bv_c1 x = true ↔ 97 ≤ x ∧ x ≤ 122 := by simp [bv_c1]
theorem bv_c2_i {x : Nat} : bv_c2 x = true ↔ 48 ≤ x ∧ x ≤ 57 := by simp [bv_c2]
def bv_kd (z : Nat → Nat) (n a : Nat) : Nat := if n ≤ a then 0 else if z a = 59 then 3 else if bv_c1 (z a) = true then 1 else if bv_c2 (z a) = true then 2 else 4
def bv_nx (z : Nat → Nat) (n a : Nat) : Nat := if n ≤ a then a else if z a = 59 then a + 1 else if bv_c1 (z a) = true then bv_r z n bv_c1 a else bv_r z n bv_c2 a
def bv_vl (z : Nat → Nat) (n a : Nat) : Nat := if bv_nx z n a = a + 1 then z a - 48 else (z a - 48) * 10 + (z (a + 1) - 48)
def bv_bd (z : Nat → Nat) (n a : Nat) : Bool := (bv_kd z n a == 4) || (bv_kd z n a == 2 && Nat.ble (a + 3) (bv_nx z n a))
theorem bv_bd_i {z : Nat → Nat} {n a : Nat} : bv_bd z n a = true ↔ bv_kd z n a = 4 ∨ (bv_kd z n a = 2 ∧ a + 3 ≤ bv_nx z n a) := by simp [bv_bd]
/-- the token that comes next: a fault, or where it begins -/
def bv_tk (z : Nat → Nat) (n p : Nat) : (Nat × Nat) ⊕ Nat := if bv_bd z n (bv_r z n bv_c0 p) = true then .inl (1, bv_r z n bv_c0 p) else .inr (bv_r z n bv_c0 p)
theorem bv_kd_4 (z : Nat → Nat) (n a : Nat) : bv_kd z n a ≤ 4 := by
  unfold bv_kd
  repeat' split
  all_goals omega
theorem bv_nx_b {z : Nat → Nat} {n a : Nat} (h : a ≤ n) : a ≤ bv_nx z n a ∧ bv_nx z n a ≤ n ∧ (bv_kd z n a ≠ 0 → bv_kd z n a ≠ 4 → a < bv_nx z n a) := by
  unfold bv_nx bv_kd
  by_cases h1 : n ≤ a
  · rw [if_pos h1, if_pos h1]
    exact ⟨Nat.le_refl _, h, fun z => absurd rfl z⟩
  · rw [if_neg h1, if_neg h1]
    by_cases h2 : z a = 59
    · rw [if_pos h2, if_pos h2]
      exact ⟨by omega, by omega, fun _ _ => by omega⟩
    · rw [if_neg h2, if_neg h2]
      by_cases h3 : bv_c1 (z a) = true
      · rw [if_pos h3, if_pos h3, bv_r_y (by omega) h3]
        have := bv_r_b (z := z) (n := n) (c := bv_c1) (p := a + 1) (by omega)
        exact ⟨by omega, by omega, fun _ _ => by omega⟩
      · rw [if_neg h3, if_neg h3]
        by_cases h4 : bv_c2 (z a) = true
        · rw [if_pos h4, bv_r_y (by omega) h4]
          have := bv_r_b (z := z) (n := n) (c := bv_c2) (p := a + 1) (by omega)
          exact ⟨by omega, by omega, fun _ _ => by omega⟩
        · rw [if_neg h4]
          have := bv_r_b (z := z) (n := n) (c := bv_c2) (p := a) (by omega)
          exact ⟨by omega, by omega, fun _ y => absurd rfl y⟩
theorem bv_tk_r {z : Nat → Nat} {n p a : Nat} (h : bv_tk z n p = .inr a) : a = bv_r z n bv_c0 p ∧ ¬ bv_bd z n a = true := by
  unfold bv_tk at h
  split at h
  · cases h
  · next h1 =>
    cases h
    exact ⟨rfl, h1⟩
theorem bv_tk_l {z : Nat → Nat} {n p : Nat} {e : Nat × Nat} (h : bv_tk z n p = .inl e) : e = (1, bv_r z n bv_c0 p) ∧ bv_bd z n (bv_r z n bv_c0 p) = true := by
  unfold bv_tk at h
  split at h
  · next h1 =>
    cases h
    exact ⟨rfl, h1⟩
  · cases h
theorem bv_tk_b {z : Nat → Nat} {n p a : Nat} (hp : p ≤ n) (h : bv_tk z n p = .inr a) : p ≤ a ∧ a ≤ n ∧ bv_kd z n a ≠ 4 ∧ (bv_kd z n a = 2 → bv_nx z n a ≤ a + 2) := by
  obtain ⟨rfl, h2⟩ := bv_tk_r h
  have h1 := bv_r_b (z := z) (n := n) (c := bv_c0) hp
  rw [bv_bd_i] at h2
  exact ⟨h1.1, h1.2, fun c => h2 (Or.inl c), fun c => by omega⟩
/-- one behind the other, up to the first fault -/
def bv_bn {A B : Type} (x : (Nat × Nat) ⊕ A) (f : A → (Nat × Nat) ⊕ B) : (Nat × Nat) ⊕ B := match x with
  | .inl e => .inl e
  | .inr a => f a
def bv_num (z : Nat → Nat) (n lo hi p : Nat) : (Nat × Nat) ⊕ (Nat × Nat) := bv_bn (bv_tk z n p) (fun a => if bv_kd z n a = 2 then (if lo ≤ bv_vl z n a ∧ bv_vl z n a ≤ hi then .inr (bv_nx z n a, bv_vl z n a) else .inl (3, a)) else .inl (2, a))
def bv_stp (z : Nat → Nat) (n p : Nat) : (Nat × Nat) ⊕ Nat := bv_bn (bv_tk z n p) (fun a => if bv_kd z n a = 3 then .inr (bv_nx z n a) else .inl (2, a))
def bv_frs (z : Nat → Nat) (n : Nat) (f : Nat → Nat) (p : Nat) : (Nat × Nat) ⊕ (Nat × Nat) := bv_bn (bv_num z n 0 7 p) (fun q => if f q.2 = 1 then .inl (4, bv_r z n bv_c0 p) else .inr q)
def bv_tx (z : Nat → Nat) : Nat → Nat → List Nat
  | _, 0 => []
  | a, m + 1 => z a :: bv_tx z (a + 1) m
def bv_wd (z : Nat → Nat) (n a : Nat) : List Nat := if bv_kd z n a = 1 then bv_tx z a (bv_nx z n a - a) else []
def bv_ws : List (List Nat) := [[114, 111, 97, 100], [104, 105, 108, 108], [111, 100, 100, 115], [108, 97, 121, 98, 121], [108, 97, 110, 101], [115, 108, 111, 119], [99, 97, 114], [110, 101, 118, 101, 114], [111, 110, 101], [98, 111, 108, 100], [102, 111, 108, 108, 111, 119], [116, 105, 109, 105, 100]]
def bv_fd (x : List Nat) : List (List Nat) → Nat → Nat
  | [], i => i
  | l :: t, i => if x = l then i else bv_fd x t (i + 1)
def bv_ix (x : List Nat) : Nat := bv_fd x bv_ws 0
theorem bv_fd_s {x : List Nat} : ∀ (l : List (List Nat)) (i k : Nat), k < l.length → bv_fd x l i = i + k → x = bt_at l k []
  | [], _, _, h, _ => by cases h
  | y :: t, i, k, hk, h => by
    rw [bv_fd] at h
    by_cases e : x = y
    · rw [if_pos e] at h
      have : k = 0 := by omega
      subst this
      exact e
    · rw [if_neg e] at h
      have hge : ∀ (l : List (List Nat)) (i : Nat), i ≤ bv_fd x l i := by
        intro l
        induction l with
        | nil => intro i; exact Nat.le_refl _
        | cons a b ih =>
          intro i
          rw [bv_fd]
          split
          · exact Nat.le_refl _
          · have := ih (i + 1)
            omega
      have := hge t (i + 1)
      obtain ⟨k', rfl⟩ : ∃ k', k = k' + 1 := ⟨k - 1, by omega⟩
      exact bv_fd_s t (i + 1) k' (by simpa using hk) (by omega)
theorem bv_ix_i {x : List Nat} {i : Nat} (hi : i < 12) : bv_ix x = i ↔ x = bt_at bv_ws i [] := by
  refine ⟨fun h => bv_fd_s bv_ws 0 i (by simpa [bv_ws] using hi) (by unfold bv_ix at h; omega), fun h => ?_⟩
  rw [h]
  have : ∀ i, i < 12 → bv_ix (bt_at bv_ws i []) = i := by decide +kernel
  exact this i hi
abbrev bv_Q : Type := bt_W × (Nat → Nat) × Nat × Nat
def bv_q0 : bv_Q := (fun f k => if f = 3 then 10 else if f = 12 ∧ k = 2 then 5 else 0, fun _ => 0, 0, 0)
def bv_u1 (f : Nat → Nat) (i : Nat) : Nat → Nat := fun k => if k = i then 1 else f k
abbrev bv_X : Type := (Nat × Nat) ⊕ (Nat × bv_Q)
def bv_road (z : Nat → Nat) (n a : Nat) (Q : bv_Q) : bv_X := if 8 ≤ Q.1 12 0 then .inl (5, a) else bv_bn (bv_num z n 1 9 (bv_nx z n a)) (fun q1 => bv_bn (bv_num z n 0 9 q1.1) (fun q2 => bv_bn (bv_num z n 0 9 q2.1) (fun q3 => .inr (q3.1, (bt_w1 (bt_w1 (bt_w1 (bt_w1 Q.1 0 (Q.1 12 0) q1.2) 1 (Q.1 12 0) q2.2) 2 (Q.1 12 0) q3.2) 12 0 (Q.1 12 0 + 1), Q.2)))))
def bv_car (z : Nat → Nat) (n a : Nat) (Q : bv_Q) : bv_X := if 6 ≤ Q.1 12 1 then .inl (5, a) else bv_bn (bv_tk z n (bv_nx z n a)) (fun b => if 7 ≤ bv_ix (bv_wd z n b) ∧ bv_ix (bv_wd z n b) < 12 then bv_bn (bv_num z n 1 9 (bv_nx z n b)) (fun q2 => bv_bn (bv_num z n 1 5 q2.1) (fun q3 => .inr (q3.1, (bt_w1 (bt_w1 (bt_w1 (bt_w1 Q.1 7 (Q.1 12 1) (bv_ix (bv_wd z n b) - 7)) 8 (Q.1 12 1) q2.2) 9 (Q.1 12 1) q3.2) 12 1 (Q.1 12 1 + 1), Q.2)))) else .inl (2, b))
def bv_slow (z : Nat → Nat) (n a : Nat) (Q : bv_Q) : bv_X := if 0 < Q.2.2.1 then .inl (4, a) else bv_bn (bv_num z n 1 9 (bv_nx z n a)) (fun q1 => bv_bn (bv_num z n 0 6 q1.1) (fun q2 => .inr (q2.1, (bt_w1 (bt_w1 Q.1 12 2 q1.2) 12 3 q2.2, Q.2.1, 1, Q.2.2.2))))
def bv_odds (z : Nat → Nat) (n a : Nat) (Q : bv_Q) : bv_X := bv_bn (bv_frs z n Q.2.1 (bv_nx z n a)) (fun q1 => bv_bn (bv_num z n 0 10 q1.1) (fun q2 => .inr (q2.1, (bt_w1 Q.1 3 q1.2 q2.2, bv_u1 Q.2.1 q1.2, Q.2.2.1, max Q.2.2.2 (q1.2 + 1)))))
def bv_mark (z : Nat → Nat) (n a f : Nat) (Q : bv_Q) : bv_X := bv_bn (bv_frs z n (Q.1 f) (bv_nx z n a)) (fun q1 => .inr (q1.1, (bt_w1 Q.1 f q1.2 1, Q.2.1, Q.2.2.1, max Q.2.2.2 (q1.2 + 1))))
def bv_bodyI (z : Nat → Nat) (n a x : Nat) (Q : bv_Q) : bv_X := if x = 0 then bv_road z n a Q else if x = 6 then bv_car z n a Q else if x = 5 then bv_slow z n a Q else if x = 2 then bv_odds z n a Q else if x = 1 then bv_mark z n a 4 Q else if x = 3 then bv_mark z n a 5 Q else if x = 4 then bv_mark z n a 6 Q else .inl (2, a)
def bv_body (z : Nat → Nat) (n a : Nat) (Q : bv_Q) : bv_X := bv_bodyI z n a (bv_ix (bv_wd z n a)) Q
def bv_end (z : Nat → Nat) (n : Nat) (X : bv_X) : bv_X := bv_bn X (fun q => bv_bn (bv_stp z n q.1) (fun p => .inr (p, q.2)))
def bv_ln (z : Nat → Nat) (n a : Nat) (Q : bv_Q) : bv_X := bv_end z n (bv_body z n a Q)
def bv_all (z : Nat → Nat) (n : Nat) : Nat → Nat → Nat → bv_Q → bv_X
  | 0, _, _, _ => .inl (6, n)
  | f + 1, p, l, Q => bv_bn (bv_tk z n p) (fun a => if bv_kd z n a = 0 then (if Q.1 12 0 < Q.2.2.2 then .inl (6, n) else .inr (l, Q)) else bv_bn (bv_ln z n a Q) (fun q => bv_all z n f q.1 (l + 1) q.2))
/-! what a state that is being told keeps to -/
def bv_ok (Q : bv_Q) : Prop := bt_wf Q.1 ∧ (∀ k, Q.1 10 k = 0) ∧ (∀ k, Q.1 11 k = 0) ∧ Q.1 12 4 = 0 ∧ Q.1 12 5 = 0 ∧ bt_b1 Q.2.1 ∧ Q.2.2.1 ≤ 1 ∧ Q.2.2.2 ≤ 8 ∧ (∀ i, Q.2.2.2 ≤ i → Q.1 4 i = 0 ∧ Q.1 5 i = 0 ∧ Q.1 6 i = 0 ∧ Q.2.1 i = 0) ∧ (0 < Q.2.2.2 → Q.1 4 (Q.2.2.2 - 1) = 1 ∨ Q.1 5 (Q.2.2.2 - 1) = 1 ∨ Q.1 6 (Q.2.2.2 - 1) = 1 ∨ Q.2.1 (Q.2.2.2 - 1) = 1)
theorem bv_q0_ok : bv_ok bv_q0 := by
  refine ⟨?_, fun k => rfl, fun k => rfl, rfl, rfl, fun k => Nat.zero_le _, Nat.zero_le _, Nat.zero_le _, fun i _ => ⟨rfl, rfl, rfl, rfl⟩, fun h => absurd h (Nat.lt_irrefl _)⟩
  refine ⟨?_, ?_, ?_, ?_, ?_, ?_, ?_, ?_, ?_, ?_, ?_, ?_, ?_, ?_, ?_, ?_, ?_, ?_⟩ <;> simp [bv_q0, bt_b1]
