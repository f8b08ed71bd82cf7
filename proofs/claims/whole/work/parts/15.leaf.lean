/-! THE CLASS: its small static methods -/
theorem bt_w0 {a b : Prop} (ha : a) (hb : b) : a ∧ b := ⟨ha, hb⟩
def sX5_within : bt_Sp := fun as M N K => match as with
  | [.int v, .int lo, .int hi] => K (some (.int (bt_bi (lo ≤ v ∧ v ≤ hi)))) M N
  | _ => False
theorem mX5_within : bt_MT bt_TX5_within bt_FX5 [] 2 3 sX5_within := by
  intro as M N Rt h P hP
  unfold sX5_within at h
  split at h
  · next v lo hi =>
    refine bt_go0 rfl hP 20 ?_
    refine ⟨fun h1 => ?_, fun h1 => ?_⟩
    · refine ⟨Or.inl rfl, ?_⟩
      rw [bt_bi_f (fun q => Int32.not_le.mpr h1 q.1)] at h
      exact h
    · refine ⟨fun h2 => ?_, fun h2 => ?_⟩
      · refine ⟨Or.inl rfl, ?_⟩
        rw [bt_bi_f (fun q => Int32.not_le.mpr h2 q.2)] at h
        exact h
      · refine ⟨Or.inr rfl, ?_⟩
        rw [bt_bi_t ⟨Int32.not_lt.mp h1, Int32.not_lt.mp h2⟩] at h
        exact h
  · exact False.elim h
def sX5_bit : bt_Sp := fun as M N K => match as with
  | [.int v, .int i] => K (some (.int ((v >>> (i &&& 31)) &&& 1))) M N
  | _ => False
theorem mX5_bit : bt_MT bt_TX5_bit bt_FX5 [] 1 2 sX5_bit := by
  intro as M N Rt h P hP
  unfold sX5_bit at h
  split at h
  · exact bt_go0 rfl hP 20 h
  · exact False.elim h
def sX5_withBit : bt_Sp := fun as M N K => match as with
  | [.int v, .int i, .int b] => K (some (.int (if b = 0 then v &&& ((1 <<< (i &&& 31)) ^^^ (-1)) else v ||| (1 <<< (i &&& 31))))) M N
  | _ => False
theorem mX5_withBit : bt_MT bt_TX5_withBit bt_FX5 [] 1 3 sX5_withBit := by
  intro as M N Rt h P hP
  unfold sX5_withBit at h
  split at h
  · next v i b =>
    refine bt_go0 rfl hP 20 ?_
    refine ⟨fun h1 => ?_, fun h1 => ?_⟩
    · rw [if_pos h1] at h
      exact h
    · rw [if_neg h1] at h
      exact h
  · exact False.elim h
def bt_CX5_isSheet : bt_C := [(51, 0, 3, sX5_within)]
def sX5_isSheet : bt_Sp := fun as M N K => match as with
  | [.int v] => K (some (.int (bt_bi (bt_in v 4)))) M N
  | _ => False
theorem mX5_isSheet : bt_MT bt_TX5_isSheet bt_FX5 bt_CX5_isSheet 2 1 sX5_isSheet := by
  intro as M N Rt h P hP
  unfold sX5_isSheet at h
  split at h
  · next v =>
    refine bt_go0 rfl hP 20 ?_
    refine ⟨bt_bi_01, ?_⟩
    rw [← bt_bi_c (bt_in_top (x := v) (n := 3) (by decide))] at h
    exact h
  · exact False.elim h
def bt_CX5_isLane : bt_C := [(51, 0, 3, sX5_within)]
def sX5_isLane : bt_Sp := fun as M N K => match as with
  | [.int v] => K (some (.int (bt_bi (bt_in v 3)))) M N
  | _ => False
theorem mX5_isLane : bt_MT bt_TX5_isLane bt_FX5 bt_CX5_isLane 2 1 sX5_isLane := by
  intro as M N Rt h P hP
  unfold sX5_isLane at h
  split at h
  · next v =>
    refine bt_go0 rfl hP 20 ?_
    refine ⟨bt_bi_01, ?_⟩
    rw [← bt_bi_c (bt_in_top (x := v) (n := 2) (by decide))] at h
    exact h
  · exact False.elim h
