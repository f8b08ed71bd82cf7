/-! BY ODDS: the model's calls -/
def bt_CX6_past : bt_C := [(153, 1, 2, sX6_isCar), (46, 0, 3, sX6_in), (232, 1, 4, sX6_meanOf)]
def sX6_past : bt_Sp := bt_spM f_past
set_option maxRecDepth 100000 in
theorem mX6_past : bt_MT bt_TX6_past bt_FX6 bt_CX6_past 3 3 sX6_past := by
  intro as M N Rt h P hP
  obtain ⟨t, S, r, S', rfl, hI, hf, h⟩ := bt_spM_e h
  obtain ⟨w, im, u, z, q⟩ := S
  unfold f_past at hf
  split at hf
  · next k x _ _ _ _ _ e =>
    cases e
    obtain ⟨rfl, rfl⟩ := bt_some hf
    have a1 := hI.1
    have hw := a1.1
    have f2 := hw.2.1
    have g2 := a1.2.2.1
    have hbad : ¬ (bt_in k (w 12 1) ∧ bt_in x 2) → Rt (some (.long (-1))) M N := fun y => by
      rw [if_neg y] at h
      exact h M (fun _ _ => rfl) hI
    refine bt_go0 rfl hP 80 ?_
    refine ⟨w 12 1, rfl, g2, f2, ⟨fun y => ?_, fun y => ⟨fun y2 => ?_, fun y2 => ?_⟩⟩⟩
    · rw [bt_bi_0] at y
      exact hbad (fun c => y c.1)
    · rw [bt_bi_0, bt_inl_c (k := 1) (show (1 : Int64) = lN 1 from rfl) (by omega)] at y2
      exact hbad (fun c => y2 c.2)
    · rw [bt_bi_n0] at y
      rw [bt_bi_n0, bt_inl_c (k := 1) (show (1 : Int64) = lN 1 from rfl) (by omega)] at y2
      rw [if_pos ⟨y, y2⟩] at h
      obtain ⟨k, hk, rfl⟩ := bt_in_e y
      rw [bt_clm (by omega)] at h
      refine ⟨w, k, 0, rfl, a1, rfl, by omega, rfl, by omega, Or.inr (Or.inr hk), fun M1 t1 => ?_⟩
      exact h M1 (bt_tm_fx t1) (bt_tm_I hI t1)
  · cases hf
def bt_CX6_mean : bt_C := [(153, 1, 2, sX6_isCar), (46, 0, 3, sX6_in), (232, 1, 4, sX6_meanOf)]
def sX6_mean : bt_Sp := bt_spM f_mean
set_option maxRecDepth 100000 in
theorem mX6_mean : bt_MT bt_TX6_mean bt_FX6 bt_CX6_mean 3 3 sX6_mean := by
  intro as M N Rt h P hP
  obtain ⟨t, S, r, S', rfl, hI, hf, h⟩ := bt_spM_e h
  obtain ⟨w, im, u, z, q⟩ := S
  unfold f_mean at hf
  split at hf
  · next k x _ _ _ _ _ e =>
    cases e
    obtain ⟨rfl, rfl⟩ := bt_some hf
    have a1 := hI.1
    have hw := a1.1
    have f2 := hw.2.1
    have g2 := a1.2.2.1
    have hbad : ¬ (bt_in k (w 12 1) ∧ bt_in x 2) → Rt (some (.long (-1))) M N := fun y => by
      rw [if_neg y] at h
      exact h M (fun _ _ => rfl) hI
    refine bt_go0 rfl hP 80 ?_
    refine ⟨w 12 1, rfl, g2, f2, ⟨fun y => ?_, fun y => ⟨fun y2 => ?_, fun y2 => ?_⟩⟩⟩
    · rw [bt_bi_0] at y
      exact hbad (fun c => y c.1)
    · rw [bt_bi_0, bt_inl_c (k := 1) (show (1 : Int64) = lN 1 from rfl) (by omega)] at y2
      exact hbad (fun c => y2 c.2)
    · rw [bt_bi_n0] at y
      rw [bt_bi_n0, bt_inl_c (k := 1) (show (1 : Int64) = lN 1 from rfl) (by omega)] at y2
      rw [if_pos ⟨y, y2⟩] at h
      obtain ⟨k, hk, rfl⟩ := bt_in_e y
      rw [bt_clm (by omega)] at h
      refine ⟨w, k, 1, rfl, a1, rfl, by omega, rfl, by omega, Or.inr (Or.inr hk), fun M1 t1 => ?_⟩
      exact h M1 (bt_tm_fx t1) (bt_tm_I hI t1)
  · cases hf
def bt_CX6_row : bt_C := [(46, 0, 3, sX6_in), (232, 1, 4, sX6_meanOf)]
def sX6_row : bt_Sp := bt_spM f_row
set_option maxRecDepth 100000 in
theorem mX6_row : bt_MT bt_TX6_row bt_FX6 bt_CX6_row 3 2 sX6_row := by
  intro as M N Rt h P hP
  obtain ⟨t, S, r, S', rfl, hI, hf, h⟩ := bt_spM_e h
  obtain ⟨w, im, u, z, q⟩ := S
  unfold f_row at hf
  split at hf
  · next x _ _ _ _ _ e =>
    cases e
    obtain ⟨rfl, rfl⟩ := bt_some hf
    have a1 := hI.1
    refine bt_go0 rfl hP 80 ?_
    refine ⟨fun y => ?_, fun y => ?_⟩
    · rw [bt_bi_0, bt_inl_c (k := 1) (show (1 : Int64) = lN 1 from rfl) (by omega)] at y
      rw [if_neg y] at h
      exact h M (fun _ _ => rfl) hI
    · rw [bt_bi_n0, bt_inl_c (k := 1) (show (1 : Int64) = lN 1 from rfl) (by omega)] at y
      rw [if_pos y] at h
      refine ⟨w, 0, 2, rfl, a1, rfl, by omega, rfl, by omega, Or.inl rfl, fun M1 t1 => ?_⟩
      exact h M1 (bt_tm_fx t1) (bt_tm_I hI t1)
  · cases hf
theorem bu_inr {i : Int32} {a n : Nat} (ha : a < 2 ^ 31) (hn : n < 2 ^ 31) : ((nI a).toInt64 ≤ i.toInt64 ∧ i.toInt64 ≤ (nI n - 1).toInt64) ↔ (bt_in i n ∧ a ≤ i.toNatClampNeg) := by
  have e : i.toNatClampNeg = i.toInt.toNat := rfl
  rw [bt_l_le, bt_l_le, Int32.le_iff_toInt_le, Int32.le_iff_toInt_le, nI_toInt ha, bt_nI_sub1 hn, e]
  unfold bt_in
  omega
def bt_CX6_where : bt_C := [(153, 1, 2, sX6_isCar), (46, 0, 3, sX6_in), (232, 1, 4, sX6_meanOf)]
def sX6_where : bt_Sp := bt_spM f_where
set_option maxRecDepth 100000 in
theorem mX6_where : bt_MT bt_TX6_where bt_FX6 bt_CX6_where 3 4 sX6_where := by
  intro as M N Rt h P hP
  obtain ⟨t, S, r, S', rfl, hI, hf, h⟩ := bt_spM_e h
  obtain ⟨w, im, u, z, q⟩ := S
  unfold f_where at hf
  split at hf
  · next k i x _ _ _ _ _ e =>
    cases e
    obtain ⟨rfl, rfl⟩ := bt_some hf
    have a1 := hI.1
    have hw := a1.1
    have f1 := hw.1
    have f2 := hw.2.1
    have f3 := hw.2.2.1
    have g1 := a1.2.1
    have g2 := a1.2.2.1
    have g5 := a1.2.2.2.2.2.1
    simp only [Nat.zero_add] at g5
    have hbad : ¬ (bt_in k (w 12 1) ∧ (bt_in i (w 12 0) ∧ w 12 4 ≤ i.toNatClampNeg) ∧ bt_in x 2) → Rt (some (.long (-1))) M N := fun y => by
      rw [if_neg y] at h
      exact h M (fun _ _ => rfl) hI
    refine bt_go0 rfl hP 80 ?_
    refine ⟨w 12 1, rfl, g2, f2, ⟨fun y => ?_, fun y => ?_⟩⟩
    · rw [bt_bi_0] at y
      exact hbad (fun c => y c.1)
    · rw [bt_bi_n0] at y
      refine ⟨_, rfl, 88, rfl, by omega, ⟨fun y2 => ?_, fun y2 => ⟨fun y4 => ?_, fun y4 => ?_⟩⟩⟩
      · rw [bt_bi_0, g5, g1, bu_inr (by omega) (by omega)] at y2
        exact hbad (fun c => y2 c.2.1)
      · rw [bt_bi_0, bt_inl_c (k := 1) (show (1 : Int64) = lN 1 from rfl) (by omega)] at y4
        exact hbad (fun c => y4 c.2.2)
      · rw [bt_bi_n0, g5, g1, bu_inr (by omega) (by omega)] at y2
        rw [bt_bi_n0, bt_inl_c (k := 1) (show (1 : Int64) = lN 1 from rfl) (by omega)] at y4
        rw [if_pos ⟨y, y2, y4⟩] at h
        obtain ⟨k, hk, rfl⟩ := bt_in_e y
        obtain ⟨i, hi, rfl⟩ := bt_in_e y2.1
        rw [bt_clm (by omega)] at h
        refine ⟨w, k, 10 + i, rfl, a1, rfl, by omega, by rw [show (10 : Int32) = nI 10 from rfl, nI_add], by omega, Or.inr (Or.inl (by omega)), fun M1 t1 => ?_⟩
        have e : bu_ps w k (10 + i) = fun s => if bu_wr w s k (bu_lf w) = nI i then 1 else 0 := by
          funext s
          unfold bu_ps
          rw [if_pos (by omega), show 10 + i - 10 = i by omega]
        rw [e]
        exact h M1 (bt_tm_fx t1) (bt_tm_I hI t1)
  · cases hf
