/-! WHAT IS DARED: the numbers -/
def bt_gs (w : bt_W) (k i : Nat) : Int := ((w 0 i * w 12 2 : Nat) : Int) - ((w 0 i * w 9 k : Nat) : Int)
def bt_sz (w : bt_W) (k : Nat) : Nat → Int
  | 0 => 0
  | j + 1 => bt_sz w k j + bt_gs w k (w 12 0 - 1 - j)
theorem bt_gs_le {w : bt_W} (h : bt_wf w) (k i : Nat) : -81 ≤ bt_gs w k i ∧ bt_gs w k i ≤ 81 := by
  obtain ⟨h1, h2, h3, h4, h5, h6, h7, h8, h9, h10, h11, h12, h13, h14, h15, h16, h17, h18⟩ := h
  have e1 : w 0 i * w 12 2 ≤ 9 * 9 := Nat.mul_le_mul (h7 i) h4
  have e2 : w 0 i * w 9 k ≤ 9 * 5 := Nat.mul_le_mul (h7 i) (h16 k)
  unfold bt_gs
  omega
theorem bt_sz_le {w : bt_W} (h : bt_wf w) (k : Nat) : ∀ j : Nat, -(81 * j : Int) ≤ bt_sz w k j ∧ bt_sz w k j ≤ 81 * j
  | 0 => by simp [bt_sz]
  | j + 1 => by
    have h1 := bt_sz_le h k j
    have h2 := bt_gs_le h k (w 12 0 - 1 - j)
    simp only [bt_sz]
    omega
theorem bt_ch_le {w : bt_W} (h : bt_wf w) (i k : Nat) : bt_ch w i k ≤ 10 := by
  obtain ⟨h1, h2, h3, h4, h5, h6, h7, h8, h9, h10, h11, h12, h13, h14, h15, h16, h17, h18⟩ := h
  unfold bt_ch
  have := h10 i
  split
  · omega
  · split <;> omega
