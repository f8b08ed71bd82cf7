/-! EACH METHOD ON THE MACHINE, 3 -/
theorem bw_nX5_back : ∀ as M N Rt, sX5_back as M N Rt → bt_sum as ≤ 2 := by
  intro as M N Rt h
  obtain ⟨t, S, r, S1, rfl, -, hf, -⟩ := bt_spC_e h
  unfold f_back at hf
  split at hf
  · exact Nat.le_of_ble_eq_true rfl
  · cases hf
theorem bw_rX5_back : ∀ as M N Rt, sX5_back as M N Rt → ∃ c t n, as = .ref c :: t ∧ bt_sh c = (0, 5, n) := by
  intro as M N Rt h
  obtain ⟨t, S, r, S1, rfl, -⟩ := bt_spC_e h
  exact ⟨_, _, _, rfl, rfl⟩
theorem msX5_back (l : Launch) {y : bt_Y} (hy : bt_yo y) : bt_MS l y yX5_back cX5_back 2 (some .int) (bw_rm 2 47) sX5_back := bt_met hy mX5_back bt_okX5_back bw_fX5 (List.forall_mem_cons.mpr ⟨bt_CSS (na := 3) (msX5_within l hy) bw_lX5_51 bw_iX5_within bw_zX5 bw_cX5_within bw_dX5_within (by decide) ⟨rfl, rfl⟩, List.forall_mem_cons.mpr ⟨bt_CSS (na := 2) (msX5_bit l hy) bw_lX5_126 bw_iX5_bit bw_zX5 bw_cX5_bit bw_dX5_bit (by decide) ⟨rfl, rfl⟩, List.forall_mem_cons.mpr ⟨bt_CSV (na := 1) (ci := 4) (rc := (RX4, TX4, 18)) (msX4_takeFrom l hy) rfl rfl bw_rX4_takeFrom bw_lX5_76 bw_iX4_takeFrom bw_sX4_takeFrom bw_zX4 bw_cX4_takeFrom bw_dX4_takeFrom (by decide) ⟨rfl, rfl⟩, fun _ h => absurd h List.not_mem_nil⟩⟩⟩) rfl (by decide) ⟨by decide, rfl⟩ bw_nX5_back
theorem bw_nX5_isSheet : ∀ as M N Rt, sX5_isSheet as M N Rt → bt_sum as ≤ 1 := by
  intro as M N Rt h
  unfold sX5_isSheet at h
  split at h
  · exact Nat.le_of_ble_eq_true rfl
  · exact False.elim h
theorem msX5_isSheet (l : Launch) {y : bt_Y} (hy : bt_yo y) : bt_MS l y yX5_isSheet cX5_isSheet 1 (some .boolean) (bw_rm 1 22) sX5_isSheet := bt_met hy mX5_isSheet bt_okX5_isSheet bw_fX5 (List.forall_mem_cons.mpr ⟨bt_CSS (na := 3) (msX5_within l hy) bw_lX5_51 bw_iX5_within bw_zX5 bw_cX5_within bw_dX5_within (by decide) ⟨rfl, rfl⟩, fun _ h => absurd h List.not_mem_nil⟩) rfl (by decide) ⟨by decide, rfl⟩ bw_nX5_isSheet
theorem bw_nX5_isLane : ∀ as M N Rt, sX5_isLane as M N Rt → bt_sum as ≤ 1 := by
  intro as M N Rt h
  unfold sX5_isLane at h
  split at h
  · exact Nat.le_of_ble_eq_true rfl
  · exact False.elim h
theorem msX5_isLane (l : Launch) {y : bt_Y} (hy : bt_yo y) : bt_MS l y yX5_isLane cX5_isLane 1 (some .boolean) (bw_rm 1 22) sX5_isLane := bt_met hy mX5_isLane bt_okX5_isLane bw_fX5 (List.forall_mem_cons.mpr ⟨bt_CSS (na := 3) (msX5_within l hy) bw_lX5_51 bw_iX5_within bw_zX5 bw_cX5_within bw_dX5_within (by decide) ⟨rfl, rfl⟩, fun _ h => absurd h List.not_mem_nil⟩) rfl (by decide) ⟨by decide, rfl⟩ bw_nX5_isLane
theorem bw_nX5_sheet : ∀ as M N Rt, sX5_sheet as M N Rt → bt_sum as ≤ 4 := by
  intro as M N Rt h
  obtain ⟨t, S, r, S1, rfl, -, hf, -⟩ := bt_spC_e h
  unfold f_sheet at hf
  split at hf
  · exact Nat.le_of_ble_eq_true rfl
  · cases hf
theorem bw_rX5_sheet : ∀ as M N Rt, sX5_sheet as M N Rt → ∃ c t n, as = .ref c :: t ∧ bt_sh c = (0, 5, n) := by
  intro as M N Rt h
  obtain ⟨t, S, r, S1, rfl, -⟩ := bt_spC_e h
  exact ⟨_, _, _, rfl, rfl⟩
theorem msX5_sheet (l : Launch) {y : bt_Y} (hy : bt_yo y) : bt_MS l y yX5_sheet cX5_sheet 4 (some .int) (bw_rm 2 42) sX5_sheet := bt_met hy mX5_sheet bt_okX5_sheet bw_fX5 (List.forall_mem_cons.mpr ⟨bt_CSS (na := 1) (msX5_isSheet l hy) bw_lX5_258 bw_iX5_isSheet bw_zX5 bw_cX5_isSheet bw_dX5_isSheet (by decide) ⟨rfl, rfl⟩, List.forall_mem_cons.mpr ⟨bt_CSS (na := 1) (msX5_isLane l hy) bw_lX5_261 bw_iX5_isLane bw_zX5 bw_cX5_isLane bw_dX5_isLane (by decide) ⟨rfl, rfl⟩, List.forall_mem_cons.mpr ⟨bt_CSV (na := 2) (ci := 2) (rc := (RX2, TX2, 3)) (msX2_begin l hy) rfl rfl bw_rX2_begin bw_lX5_264 bw_iX2_begin bw_sX2_begin bw_zX2 bw_cX2_begin bw_dX2_begin (by decide) ⟨rfl, rfl⟩, fun _ h => absurd h List.not_mem_nil⟩⟩⟩) rfl (by decide) ⟨by decide, rfl⟩ bw_nX5_sheet
theorem bw_nX5_lay : ∀ as M N Rt, sX5_lay as M N Rt → bt_sum as ≤ 6 := by
  intro as M N Rt h
  obtain ⟨t, S, r, S1, rfl, -, hf, -⟩ := bt_spC_e h
  unfold f_lay at hf
  split at hf
  · exact Nat.le_of_ble_eq_true rfl
  · cases hf
theorem bw_rX5_lay : ∀ as M N Rt, sX5_lay as M N Rt → ∃ c t n, as = .ref c :: t ∧ bt_sh c = (0, 5, n) := by
  intro as M N Rt h
  obtain ⟨t, S, r, S1, rfl, -⟩ := bt_spC_e h
  exact ⟨_, _, _, rfl, rfl⟩
theorem msX5_lay (l : Launch) {y : bt_Y} (hy : bt_yo y) : bt_MS l y yX5_lay cX5_lay 6 (some .int) (bw_rm 2 44) sX5_lay := bt_met hy mX5_lay bt_okX5_lay bw_fX5 (List.forall_mem_cons.mpr ⟨bt_CSS (na := 1) (msX5_isSheet l hy) bw_lX5_258 bw_iX5_isSheet bw_zX5 bw_cX5_isSheet bw_dX5_isSheet (by decide) ⟨rfl, rfl⟩, List.forall_mem_cons.mpr ⟨bt_CSV (na := 2) (ci := 2) (rc := (RX2, TX2, 3)) (msX2_faultAt l hy) rfl rfl bw_rX2_faultAt bw_lX5_271 bw_iX2_faultAt bw_sX2_faultAt bw_zX2 bw_cX2_faultAt bw_dX2_faultAt (by decide) ⟨rfl, rfl⟩, List.forall_mem_cons.mpr ⟨bt_CSV (na := 2) (ci := 2) (rc := (RX2, TX2, 3)) (msX2_put l hy) rfl rfl bw_rX2_put bw_lX5_274 bw_iX2_put bw_sX2_put bw_zX2 bw_cX2_put bw_dX2_put (by decide) ⟨rfl, rfl⟩, fun _ h => absurd h List.not_mem_nil⟩⟩⟩) rfl (by decide) ⟨by decide, rfl⟩ bw_nX5_lay
theorem bw_nX5_read : ∀ as M N Rt, sX5_read as M N Rt → bt_sum as ≤ 9 := by
  intro as M N Rt h
  obtain ⟨t, S, r, S1, rfl, -, hf, -⟩ := bt_spC_e h
  unfold f_read at hf
  split at hf
  · exact Nat.le_of_ble_eq_true rfl
  · cases hf
theorem bw_rX5_read : ∀ as M N Rt, sX5_read as M N Rt → ∃ c t n, as = .ref c :: t ∧ bt_sh c = (0, 5, n) := by
  intro as M N Rt h
  obtain ⟨t, S, r, S1, rfl, -⟩ := bt_spC_e h
  exact ⟨_, _, _, rfl, rfl⟩
theorem msX5_read (l : Launch) {y : bt_Y} (hy : bt_yo y) : bt_MS l y yX5_read cX5_read 9 (some .int) (bw_rm 4 96) sX5_read := bt_met hy mX5_read bt_okX5_read bw_fX5 (List.forall_mem_cons.mpr ⟨bt_CSS (na := 1) (msX5_isSheet l hy) bw_lX5_258 bw_iX5_isSheet bw_zX5 bw_cX5_isSheet bw_dX5_isSheet (by decide) ⟨rfl, rfl⟩, List.forall_mem_cons.mpr ⟨bt_CSS (na := 1) (msX5_isLane l hy) bw_lX5_261 bw_iX5_isLane bw_zX5 bw_cX5_isLane bw_dX5_isLane (by decide) ⟨rfl, rfl⟩, List.forall_mem_cons.mpr ⟨bt_CSS (na := 3) (msX5_within l hy) bw_lX5_51 bw_iX5_within bw_zX5 bw_cX5_within bw_dX5_within (by decide) ⟨rfl, rfl⟩, List.forall_mem_cons.mpr ⟨bt_CSV (na := 1) (ci := 4) (rc := (RX4, TX4, 18)) (msX4_takeFrom l hy) rfl rfl bw_rX4_takeFrom bw_lX5_76 bw_iX4_takeFrom bw_sX4_takeFrom bw_zX4 bw_cX4_takeFrom bw_dX4_takeFrom (by decide) ⟨rfl, rfl⟩, List.forall_mem_cons.mpr ⟨bt_CSV (na := 2) (ci := 2) (rc := (RX2, TX2, 3)) (msX2_faultAt l hy) rfl rfl bw_rX2_faultAt bw_lX5_271 bw_iX2_faultAt bw_sX2_faultAt bw_zX2 bw_cX2_faultAt bw_dX2_faultAt (by decide) ⟨rfl, rfl⟩, List.forall_mem_cons.mpr ⟨bt_CSV (na := 0) (ci := 4) (rc := (RX4, TX4, 18)) (msX4_allHaveCome l hy) rfl rfl bw_rX4_allHaveCome bw_lX5_166 bw_iX4_allHaveCome bw_sX4_allHaveCome bw_zX4 bw_cX4_allHaveCome bw_dX4_allHaveCome (by decide) ⟨rfl, rfl⟩, List.forall_mem_cons.mpr ⟨bt_CSV (na := 1) (ci := 4) (rc := (RX4, TX4, 18)) (msX4_driveOne l hy) rfl rfl bw_rX4_driveOne bw_lX5_170 bw_iX4_driveOne bw_sX4_driveOne bw_zX4 bw_cX4_driveOne bw_dX4_driveOne (by decide) ⟨rfl, rfl⟩, fun _ h => absurd h List.not_mem_nil⟩⟩⟩⟩⟩⟩⟩) rfl (by decide) ⟨by decide, rfl⟩ bw_nX5_read
theorem bw_nX5_torn : ∀ as M N Rt, sX5_torn as M N Rt → bt_sum as ≤ 1 := by
  intro as M N Rt h
  obtain ⟨t, S, r, S1, rfl, -, hf, -⟩ := bt_spC_e h
  unfold f_torn at hf
  split at hf
  · exact Nat.le_of_ble_eq_true rfl
  · cases hf
theorem bw_rX5_torn : ∀ as M N Rt, sX5_torn as M N Rt → ∃ c t n, as = .ref c :: t ∧ bt_sh c = (0, 5, n) := by
  intro as M N Rt h
  obtain ⟨t, S, r, S1, rfl, -⟩ := bt_spC_e h
  exact ⟨_, _, _, rfl, rfl⟩
theorem msX5_torn (l : Launch) {y : bt_Y} (hy : bt_yo y) : bt_MS l y yX5_torn cX5_torn 1 (some .int) (bw_rm 0 0) sX5_torn := bt_met hy mX5_torn bt_okX5_torn bw_fX5 (fun _ h => absurd h List.not_mem_nil) rfl (by decide) ⟨by decide, rfl⟩ bw_nX5_torn
theorem bw_nX5_count : ∀ as M N Rt, sX5_count as M N Rt → bt_sum as ≤ 2 := by
  intro as M N Rt h
  obtain ⟨t, S, r, S1, rfl, -, hf, -⟩ := bt_spC_e h
  unfold f_count at hf
  split at hf
  · exact Nat.le_of_ble_eq_true rfl
  · cases hf
theorem bw_rX5_count : ∀ as M N Rt, sX5_count as M N Rt → ∃ c t n, as = .ref c :: t ∧ bt_sh c = (0, 5, n) := by
  intro as M N Rt h
  obtain ⟨t, S, r, S1, rfl, -⟩ := bt_spC_e h
  exact ⟨_, _, _, rfl, rfl⟩
theorem msX5_count (l : Launch) {y : bt_Y} (hy : bt_yo y) : bt_MS l y yX5_count cX5_count 2 (some .int) (bw_rm 1 22) sX5_count := bt_met hy mX5_count bt_okX5_count bw_fX5 (List.forall_mem_cons.mpr ⟨bt_CSS (na := 1) (msJ6_bitCount_0f7a4 l hy) bw_lX5_283 bw_iJ6_bitCount_0f7a4 bw_zJ6 bw_cJ6_bitCount_0f7a4 bw_dJ6_bitCount_0f7a4 (by decide) ⟨rfl, rfl⟩, List.forall_mem_cons.mpr ⟨bt_CSV (na := 0) (ci := 4) (rc := (RX4, TX4, 18)) (msX4_milesLeft l hy) rfl rfl bw_rX4_milesLeft bw_lX5_291 bw_iX4_milesLeft bw_sX4_milesLeft bw_zX4 bw_cX4_milesLeft bw_dX4_milesLeft (by decide) ⟨rfl, rfl⟩, List.forall_mem_cons.mpr ⟨bt_CSV (na := 0) (ci := 4) (rc := (RX4, TX4, 18)) (msX4_sumOfTimes l hy) rfl rfl bw_rX4_sumOfTimes bw_lX5_255 bw_iX4_sumOfTimes bw_sX4_sumOfTimes bw_zX4 bw_cX4_sumOfTimes bw_dX4_sumOfTimes (by decide) ⟨rfl, rfl⟩, fun _ h => absurd h List.not_mem_nil⟩⟩⟩) rfl (by decide) ⟨by decide, rfl⟩ bw_nX5_count
theorem bw_nX6_in : ∀ as M N Rt, sX6_in as M N Rt → bt_sum as ≤ 6 := by
  intro as M N Rt h
  unfold sX6_in at h
  split at h
  · exact Nat.le_of_ble_eq_true rfl
  · exact False.elim h
theorem msX6_in (l : Launch) {y : bt_Y} (hy : bt_yo y) : bt_MS l y yX6_in cX6_in 6 (some .boolean) (bw_rm 0 0) sX6_in := bt_met hy mX6_in bt_okX6_in bw_fX6 (fun _ h => absurd h List.not_mem_nil) rfl (by decide) ⟨by decide, rfl⟩ bw_nX6_in
theorem bw_nX6_feed : ∀ as M N Rt, sX6_feed as M N Rt → bt_sum as ≤ 2 := by
  intro as M N Rt h
  obtain ⟨t, S, r, S1, rfl, -, hf, -⟩ := bt_spM_e h
  unfold f_feed at hf
  split at hf
  · exact Nat.le_of_ble_eq_true rfl
  · cases hf
theorem bw_rX6_feed : ∀ as M N Rt, sX6_feed as M N Rt → ∃ c t n, as = .ref c :: t ∧ bt_sh c = (0, 6, n) := by
  intro as M N Rt h
  obtain ⟨t, S, r, S1, rfl, -⟩ := bt_spM_e h
  exact ⟨_, _, _, rfl, rfl⟩
theorem msX6_feed (l : Launch) {y : bt_Y} (hy : bt_yo y) : bt_MS l y yX6_feed cX6_feed 2 (some .int) (bw_rm 1 25) sX6_feed := bt_met hy mX6_feed bt_okX6_feed bw_fX6 (List.forall_mem_cons.mpr ⟨bt_CSS (na := 3) (msX6_in l hy) bw_lX6_46 bw_iX6_in bw_zX6 bw_cX6_in bw_dX6_in (by decide) ⟨rfl, rfl⟩, fun _ h => absurd h List.not_mem_nil⟩) rfl (by decide) ⟨by decide, rfl⟩ bw_nX6_feed
theorem bw_nX6_end : ∀ as M N Rt, sX6_end as M N Rt → bt_sum as ≤ 3 := by
  intro as M N Rt h
  obtain ⟨t, S, r, S1, rfl, -, hf, -⟩ := bt_spM_e h
  unfold f_end at hf
  split at hf
  · exact Nat.le_of_ble_eq_true rfl
  · cases hf
theorem bw_rX6_end : ∀ as M N Rt, sX6_end as M N Rt → ∃ c t n, as = .ref c :: t ∧ bt_sh c = (0, 6, n) := by
  intro as M N Rt h
  obtain ⟨t, S, r, S1, rfl, -⟩ := bt_spM_e h
  exact ⟨_, _, _, rfl, rfl⟩
theorem msX6_end (l : Launch) {y : bt_Y} (hy : bt_yo y) : bt_MS l y yX6_end cX6_end 3 (some .int) (bw_rm 1 25) sX6_end := bt_met hy mX6_end bt_okX6_end bw_fX6 (List.forall_mem_cons.mpr ⟨bt_CSS (na := 3) (msX6_in l hy) bw_lX6_46 bw_iX6_in bw_zX6 bw_cX6_in bw_dX6_in (by decide) ⟨rfl, rfl⟩, fun _ h => absurd h List.not_mem_nil⟩) rfl (by decide) ⟨by decide, rfl⟩ bw_nX6_end
theorem bw_nX6_byteAt : ∀ as M N Rt, sX6_byteAt as M N Rt → bt_sum as ≤ 2 := by
  intro as M N Rt h
  unfold sX6_byteAt at h
  split at h
  · exact Nat.le_of_ble_eq_true rfl
  · exact False.elim h
theorem bw_rX6_byteAt : ∀ as M N Rt, sX6_byteAt as M N Rt → ∃ c t n, as = .ref c :: t ∧ bt_sh c = (0, 6, n) := by
  intro as M N Rt h
  unfold sX6_byteAt at h
  split at h
  · obtain ⟨x0, x1, x2, rfl, -⟩ := h <;> exact ⟨_, _, _, rfl, rfl⟩
  · exact False.elim h
theorem msX6_byteAt (l : Launch) {y : bt_Y} (hy : bt_yo y) : bt_MS l y yX6_byteAt cX6_byteAt 2 (some .int) (bw_rm 0 0) sX6_byteAt := bt_met hy mX6_byteAt bt_okX6_byteAt bw_fX6 (fun _ h => absurd h List.not_mem_nil) rfl (by decide) ⟨by decide, rfl⟩ bw_nX6_byteAt
theorem bw_nX6_fails : ∀ as M N Rt, sX6_fails as M N Rt → bt_sum as ≤ 2 := by
  intro as M N Rt h
  unfold sX6_fails at h
  split at h
  · exact Nat.le_of_ble_eq_true rfl
  · exact False.elim h
theorem bw_rX6_fails : ∀ as M N Rt, sX6_fails as M N Rt → ∃ c t n, as = .ref c :: t ∧ bt_sh c = (0, 6, n) := by
  intro as M N Rt h
  unfold sX6_fails at h
  split at h
  · obtain ⟨rfl, -⟩ := h <;> exact ⟨_, _, _, rfl, rfl⟩
  · exact False.elim h
theorem msX6_fails (l : Launch) {y : bt_Y} (hy : bt_yo y) : bt_MS l y yX6_fails cX6_fails 2 none (bw_rm 0 0) sX6_fails := bt_met hy mX6_fails bt_okX6_fails bw_fX6 (fun _ h => absurd h List.not_mem_nil) rfl (by decide) ⟨by decide, rfl⟩ bw_nX6_fails
theorem bw_nX6_nameHere : ∀ as M N Rt, sX6_nameHere as M N Rt → bt_sum as ≤ 4 := by
  intro as M N Rt h
  unfold sX6_nameHere at h
  split at h
  · exact Nat.le_of_ble_eq_true rfl
  · exact False.elim h
theorem bw_rX6_nameHere : ∀ as M N Rt, sX6_nameHere as M N Rt → ∃ c t n, as = .ref c :: t ∧ bt_sh c = (0, 6, n) := by
  intro as M N Rt h
  unfold sX6_nameHere at h
  split at h
  · obtain ⟨x0, x1, x2, rfl, -⟩ := h <;> exact ⟨_, _, _, rfl, rfl⟩
  · exact False.elim h
theorem msX6_nameHere (l : Launch) {y : bt_Y} (hy : bt_yo y) : bt_MS l y yX6_nameHere cX6_nameHere 4 (some .int) (bw_rm 1 21) sX6_nameHere := bt_met hy mX6_nameHere bt_okX6_nameHere bw_fX6 (List.forall_mem_cons.mpr ⟨bt_CSV (na := 1) (ci := 6) (rc := (RX6, TX6, 27)) (msX6_byteAt l hy) rfl rfl bw_rX6_byteAt bw_lX6_69 bw_iX6_byteAt bw_sX6_byteAt bw_zX6 bw_cX6_byteAt bw_dX6_byteAt (by decide) ⟨rfl, rfl⟩, fun _ h => absurd h List.not_mem_nil⟩) rfl (by decide) ⟨by decide, rfl⟩ bw_nX6_nameHere
theorem bw_nX6_step : ∀ as M N Rt, sX6_step as M N Rt → bt_sum as ≤ 2 := by
  intro as M N Rt h
  unfold sX6_step at h
  split at h
  · exact Nat.le_of_ble_eq_true rfl
  · exact False.elim h
theorem bw_rX6_step : ∀ as M N Rt, sX6_step as M N Rt → ∃ c t n, as = .ref c :: t ∧ bt_sh c = (0, 6, n) := by
  intro as M N Rt h
  unfold sX6_step at h
  split at h
  · obtain ⟨x0, x1, x2, rfl, -⟩ := h <;> exact ⟨_, _, _, rfl, rfl⟩
  · exact False.elim h
theorem msX6_step (l : Launch) {y : bt_Y} (hy : bt_yo y) : bt_MS l y yX6_step cX6_step 2 none (bw_rm 1 25) sX6_step := bt_met hy mX6_step bt_okX6_step bw_fX6 (List.forall_mem_cons.mpr ⟨bt_CSV (na := 1) (ci := 6) (rc := (RX6, TX6, 27)) (msX6_byteAt l hy) rfl rfl bw_rX6_byteAt bw_lX6_69 bw_iX6_byteAt bw_sX6_byteAt bw_zX6 bw_cX6_byteAt bw_dX6_byteAt (by decide) ⟨rfl, rfl⟩, List.forall_mem_cons.mpr ⟨bt_CSS (na := 3) (msX6_in l hy) bw_lX6_46 bw_iX6_in bw_zX6 bw_cX6_in bw_dX6_in (by decide) ⟨rfl, rfl⟩, List.forall_mem_cons.mpr ⟨bt_CSV (na := 1) (ci := 6) (rc := (RX6, TX6, 27)) (msX6_fails l hy) rfl rfl bw_rX6_fails bw_lX6_84 bw_iX6_fails bw_sX6_fails bw_zX6 bw_cX6_fails bw_dX6_fails (by decide) ⟨rfl, rfl⟩, fun _ h => absurd h List.not_mem_nil⟩⟩⟩) rfl (by decide) ⟨by decide, rfl⟩ bw_nX6_step
theorem bw_nX6_number : ∀ as M N Rt, sX6_number as M N Rt → bt_sum as ≤ 4 := by
  intro as M N Rt h
  unfold sX6_number at h
  split at h
  · exact Nat.le_of_ble_eq_true rfl
  · exact False.elim h
theorem bw_rX6_number : ∀ as M N Rt, sX6_number as M N Rt → ∃ c t n, as = .ref c :: t ∧ bt_sh c = (0, 6, n) := by
  intro as M N Rt h
  unfold sX6_number at h
  split at h
  · obtain ⟨x0, x1, x2, x3, x4, rfl, -⟩ := h <;> exact ⟨_, _, _, rfl, rfl⟩
  · exact False.elim h
theorem msX6_number (l : Launch) {y : bt_Y} (hy : bt_yo y) : bt_MS l y yX6_number cX6_number 4 (some .int) (bw_rm 2 46) sX6_number := bt_met hy mX6_number bt_okX6_number bw_fX6 (List.forall_mem_cons.mpr ⟨bt_CSV (na := 1) (ci := 6) (rc := (RX6, TX6, 27)) (msX6_fails l hy) rfl rfl bw_rX6_fails bw_lX6_84 bw_iX6_fails bw_sX6_fails bw_zX6 bw_cX6_fails bw_dX6_fails (by decide) ⟨rfl, rfl⟩, List.forall_mem_cons.mpr ⟨bt_CSS (na := 3) (msX6_in l hy) bw_lX6_46 bw_iX6_in bw_zX6 bw_cX6_in bw_dX6_in (by decide) ⟨rfl, rfl⟩, List.forall_mem_cons.mpr ⟨bt_CSV (na := 0) (ci := 6) (rc := (RX6, TX6, 27)) (msX6_step l hy) rfl rfl bw_rX6_step bw_lX6_88 bw_iX6_step bw_sX6_step bw_zX6 bw_cX6_step bw_dX6_step (by decide) ⟨rfl, rfl⟩, fun _ h => absurd h List.not_mem_nil⟩⟩⟩) rfl (by decide) ⟨by decide, rfl⟩ bw_nX6_number
theorem bw_nX6_fresh : ∀ as M N Rt, sX6_fresh as M N Rt → bt_sum as ≤ 3 := by
  intro as M N Rt h
  unfold sX6_fresh at h
  split at h
  · exact Nat.le_of_ble_eq_true rfl
  · exact False.elim h
theorem bw_rX6_fresh : ∀ as M N Rt, sX6_fresh as M N Rt → ∃ c t n, as = .ref c :: t ∧ bt_sh c = (0, 6, n) := by
  intro as M N Rt h
  unfold sX6_fresh at h
  split at h
  · obtain ⟨x0, x1, x2, x3, x4, x5, rfl, -⟩ := h <;> exact ⟨_, _, _, rfl, rfl⟩
  · exact False.elim h
theorem msX6_fresh (l : Launch) {y : bt_Y} (hy : bt_yo y) : bt_MS l y yX6_fresh cX6_fresh 3 (some .int) (bw_rm 3 69) sX6_fresh := bt_met hy mX6_fresh bt_okX6_fresh bw_fX6 (List.forall_mem_cons.mpr ⟨bt_CSS (na := 3) (msX6_in l hy) bw_lX6_46 bw_iX6_in bw_zX6 bw_cX6_in bw_dX6_in (by decide) ⟨rfl, rfl⟩, List.forall_mem_cons.mpr ⟨bt_CSV (na := 1) (ci := 6) (rc := (RX6, TX6, 27)) (msX6_fails l hy) rfl rfl bw_rX6_fails bw_lX6_84 bw_iX6_fails bw_sX6_fails bw_zX6 bw_cX6_fails bw_dX6_fails (by decide) ⟨rfl, rfl⟩, List.forall_mem_cons.mpr ⟨bt_CSV (na := 2) (ci := 6) (rc := (RX6, TX6, 27)) (msX6_number l hy) rfl rfl bw_rX6_number bw_lX6_93 bw_iX6_number bw_sX6_number bw_zX6 bw_cX6_number bw_dX6_number (by decide) ⟨rfl, rfl⟩, fun _ h => absurd h List.not_mem_nil⟩⟩⟩) rfl (by decide) ⟨by decide, rfl⟩ bw_nX6_fresh
theorem bw_nX6_readCar : ∀ as M N Rt, sX6_readCar as M N Rt → bt_sum as ≤ 3 := by
  intro as M N Rt h
  unfold sX6_readCar at h
  split at h
  · exact Nat.le_of_ble_eq_true rfl
  · exact False.elim h
theorem bw_rX6_readCar : ∀ as M N Rt, sX6_readCar as M N Rt → ∃ c t n, as = .ref c :: t ∧ bt_sh c = (0, 6, n) := by
  intro as M N Rt h
  unfold sX6_readCar at h
  split at h
  · obtain ⟨x0, x1, x2, x3, rfl, -⟩ := h <;> exact ⟨_, _, _, rfl, rfl⟩
  · exact False.elim h
theorem msX6_readCar (l : Launch) {y : bt_Y} (hy : bt_yo y) : bt_MS l y yX6_readCar cX6_readCar 3 none (bw_rm 3 69) sX6_readCar := bt_met hy mX6_readCar bt_okX6_readCar bw_fX6 (List.forall_mem_cons.mpr ⟨bt_CSV (na := 0) (ci := 6) (rc := (RX6, TX6, 27)) (msX6_nameHere l hy) rfl rfl bw_rX6_nameHere bw_lX6_103 bw_iX6_nameHere bw_sX6_nameHere bw_zX6 bw_cX6_nameHere bw_dX6_nameHere (by decide) ⟨rfl, rfl⟩, List.forall_mem_cons.mpr ⟨bt_CSV (na := 1) (ci := 6) (rc := (RX6, TX6, 27)) (msX6_fails l hy) rfl rfl bw_rX6_fails bw_lX6_84 bw_iX6_fails bw_sX6_fails bw_zX6 bw_cX6_fails bw_dX6_fails (by decide) ⟨rfl, rfl⟩, List.forall_mem_cons.mpr ⟨bt_CSV (na := 0) (ci := 6) (rc := (RX6, TX6, 27)) (msX6_step l hy) rfl rfl bw_rX6_step bw_lX6_88 bw_iX6_step bw_sX6_step bw_zX6 bw_cX6_step bw_dX6_step (by decide) ⟨rfl, rfl⟩, List.forall_mem_cons.mpr ⟨bt_CSV (na := 2) (ci := 6) (rc := (RX6, TX6, 27)) (msX6_number l hy) rfl rfl bw_rX6_number bw_lX6_93 bw_iX6_number bw_sX6_number bw_zX6 bw_cX6_number bw_dX6_number (by decide) ⟨rfl, rfl⟩, fun _ h => absurd h List.not_mem_nil⟩⟩⟩⟩) rfl (by decide) ⟨by decide, rfl⟩ bw_nX6_readCar
theorem bw_nX6_readMore : ∀ as M N Rt, sX6_readMore as M N Rt → bt_sum as ≤ 3 := by
  intro as M N Rt h
  unfold sX6_readMore at h
  split at h
  · exact Nat.le_of_ble_eq_true rfl
  · exact False.elim h
theorem bw_rX6_readMore : ∀ as M N Rt, sX6_readMore as M N Rt → ∃ c t n, as = .ref c :: t ∧ bt_sh c = (0, 6, n) := by
  intro as M N Rt h
  unfold sX6_readMore at h
  split at h
  · obtain ⟨x0, x1, x2, x3, x4, x5, rfl, -⟩ := h <;> exact ⟨_, _, _, rfl, rfl⟩
  · exact False.elim h
theorem msX6_readMore (l : Launch) {y : bt_Y} (hy : bt_yo y) : bt_MS l y yX6_readMore cX6_readMore 3 none (bw_rm 4 91) sX6_readMore := bt_met hy mX6_readMore bt_okX6_readMore bw_fX6 (List.forall_mem_cons.mpr ⟨bt_CSV (na := 2) (ci := 6) (rc := (RX6, TX6, 27)) (msX6_number l hy) rfl rfl bw_rX6_number bw_lX6_93 bw_iX6_number bw_sX6_number bw_zX6 bw_cX6_number bw_dX6_number (by decide) ⟨rfl, rfl⟩, List.forall_mem_cons.mpr ⟨bt_CSV (na := 0) (ci := 6) (rc := (RX6, TX6, 27)) (msX6_readCar l hy) rfl rfl bw_rX6_readCar bw_lX6_110 bw_iX6_readCar bw_sX6_readCar bw_zX6 bw_cX6_readCar bw_dX6_readCar (by decide) ⟨rfl, rfl⟩, List.forall_mem_cons.mpr ⟨bt_CSV (na := 1) (ci := 6) (rc := (RX6, TX6, 27)) (msX6_fresh l hy) rfl rfl bw_rX6_fresh bw_lX6_113 bw_iX6_fresh bw_sX6_fresh bw_zX6 bw_cX6_fresh bw_dX6_fresh (by decide) ⟨rfl, rfl⟩, fun _ h => absurd h List.not_mem_nil⟩⟩⟩) rfl (by decide) ⟨by decide, rfl⟩ bw_nX6_readMore
theorem bw_nX6_readLine : ∀ as M N Rt, sX6_readLine as M N Rt → bt_sum as ≤ 2 := by
  intro as M N Rt h
  unfold sX6_readLine at h
  split at h
  · exact Nat.le_of_ble_eq_true rfl
  · exact False.elim h
theorem bw_rX6_readLine : ∀ as M N Rt, sX6_readLine as M N Rt → ∃ c t n, as = .ref c :: t ∧ bt_sh c = (0, 6, n) := by
  intro as M N Rt h
  unfold sX6_readLine at h
  split at h
  · obtain ⟨x0, x1, x2, x3, rfl, -⟩ := h <;> exact ⟨_, _, _, rfl, rfl⟩
  · exact False.elim h
theorem msX6_readLine (l : Launch) {y : bt_Y} (hy : bt_yo y) : bt_MS l y yX6_readLine cX6_readLine 2 none (bw_rm 5 113) sX6_readLine := bt_met hy mX6_readLine bt_okX6_readLine bw_fX6 (List.forall_mem_cons.mpr ⟨bt_CSV (na := 0) (ci := 6) (rc := (RX6, TX6, 27)) (msX6_nameHere l hy) rfl rfl bw_rX6_nameHere bw_lX6_103 bw_iX6_nameHere bw_sX6_nameHere bw_zX6 bw_cX6_nameHere bw_dX6_nameHere (by decide) ⟨rfl, rfl⟩, List.forall_mem_cons.mpr ⟨bt_CSS (na := 3) (msX6_in l hy) bw_lX6_46 bw_iX6_in bw_zX6 bw_cX6_in bw_dX6_in (by decide) ⟨rfl, rfl⟩, List.forall_mem_cons.mpr ⟨bt_CSV (na := 1) (ci := 6) (rc := (RX6, TX6, 27)) (msX6_fails l hy) rfl rfl bw_rX6_fails bw_lX6_84 bw_iX6_fails bw_sX6_fails bw_zX6 bw_cX6_fails bw_dX6_fails (by decide) ⟨rfl, rfl⟩, List.forall_mem_cons.mpr ⟨bt_CSV (na := 0) (ci := 6) (rc := (RX6, TX6, 27)) (msX6_step l hy) rfl rfl bw_rX6_step bw_lX6_88 bw_iX6_step bw_sX6_step bw_zX6 bw_cX6_step bw_dX6_step (by decide) ⟨rfl, rfl⟩, List.forall_mem_cons.mpr ⟨bt_CSV (na := 1) (ci := 6) (rc := (RX6, TX6, 27)) (msX6_readMore l hy) rfl rfl bw_rX6_readMore bw_lX6_121 bw_iX6_readMore bw_sX6_readMore bw_zX6 bw_cX6_readMore bw_dX6_readMore (by decide) ⟨rfl, rfl⟩, fun _ h => absurd h List.not_mem_nil⟩⟩⟩⟩⟩) rfl (by decide) ⟨by decide, rfl⟩ bw_nX6_readLine
theorem bw_nX6_text : ∀ as M N Rt, sX6_text as M N Rt → bt_sum as ≤ 3 := by
  intro as M N Rt h
  obtain ⟨t, S, r, S1, rfl, -, hf, -⟩ := bt_spM_e h
  unfold f_text at hf
  split at hf
  · exact Nat.le_of_ble_eq_true rfl
  · cases hf
theorem bw_rX6_text : ∀ as M N Rt, sX6_text as M N Rt → ∃ c t n, as = .ref c :: t ∧ bt_sh c = (0, 6, n) := by
  intro as M N Rt h
  obtain ⟨t, S, r, S1, rfl, -⟩ := bt_spM_e h
  exact ⟨_, _, _, rfl, rfl⟩
theorem msX6_text (l : Launch) {y : bt_Y} (hy : bt_yo y) : bt_MS l y yX6_text cX6_text 3 (some .int) (bw_rm 6 134) sX6_text := bt_met hy mX6_text bt_okX6_text bw_fX6 (List.forall_mem_cons.mpr ⟨bt_CSV (na := 0) (ci := 6) (rc := (RX6, TX6, 27)) (msX6_step l hy) rfl rfl bw_rX6_step bw_lX6_88 bw_iX6_step bw_sX6_step bw_zX6 bw_cX6_step bw_dX6_step (by decide) ⟨rfl, rfl⟩, List.forall_mem_cons.mpr ⟨bt_CSV (na := 0) (ci := 6) (rc := (RX6, TX6, 27)) (msX6_readLine l hy) rfl rfl bw_rX6_readLine bw_lX6_124 bw_iX6_readLine bw_sX6_readLine bw_zX6 bw_cX6_readLine bw_dX6_readLine (by decide) ⟨rfl, rfl⟩, List.forall_mem_cons.mpr ⟨bt_CSV (na := 1) (ci := 6) (rc := (RX6, TX6, 27)) (msX6_fails l hy) rfl rfl bw_rX6_fails bw_lX6_84 bw_iX6_fails bw_sX6_fails bw_zX6 bw_cX6_fails bw_dX6_fails (by decide) ⟨rfl, rfl⟩, fun _ h => absurd h List.not_mem_nil⟩⟩⟩) rfl (by decide) ⟨by decide, rfl⟩ bw_nX6_text
theorem bw_nX6_fault : ∀ as M N Rt, sX6_fault as M N Rt → bt_sum as ≤ 1 := by
  intro as M N Rt h
  obtain ⟨t, S, r, S1, rfl, -, hf, -⟩ := bt_spM_e h
  unfold f_fault at hf
  split at hf
  · exact Nat.le_of_ble_eq_true rfl
  · cases hf
theorem bw_rX6_fault : ∀ as M N Rt, sX6_fault as M N Rt → ∃ c t n, as = .ref c :: t ∧ bt_sh c = (0, 6, n) := by
  intro as M N Rt h
  obtain ⟨t, S, r, S1, rfl, -⟩ := bt_spM_e h
  exact ⟨_, _, _, rfl, rfl⟩
theorem msX6_fault (l : Launch) {y : bt_Y} (hy : bt_yo y) : bt_MS l y yX6_fault cX6_fault 1 (some .int) (bw_rm 0 0) sX6_fault := bt_met hy mX6_fault bt_okX6_fault bw_fX6 (fun _ h => absurd h List.not_mem_nil) rfl (by decide) ⟨by decide, rfl⟩ bw_nX6_fault
theorem bw_nX6_isRoad : ∀ as M N Rt, sX6_isRoad as M N Rt → bt_sum as ≤ 2 := by
  intro as M N Rt h
  unfold sX6_isRoad at h
  split at h
  · exact Nat.le_of_ble_eq_true rfl
  · exact False.elim h
theorem bw_rX6_isRoad : ∀ as M N Rt, sX6_isRoad as M N Rt → ∃ c t n, as = .ref c :: t ∧ bt_sh c = (0, 6, n) := by
  intro as M N Rt h
  unfold sX6_isRoad at h
  split at h
  · obtain ⟨x0, rfl, -⟩ := h <;> exact ⟨_, _, _, rfl, rfl⟩
  · exact False.elim h
theorem msX6_isRoad (l : Launch) {y : bt_Y} (hy : bt_yo y) : bt_MS l y yX6_isRoad cX6_isRoad 2 (some .boolean) (bw_rm 1 25) sX6_isRoad := bt_met hy mX6_isRoad bt_okX6_isRoad bw_fX6 (List.forall_mem_cons.mpr ⟨bt_CSS (na := 3) (msX6_in l hy) bw_lX6_46 bw_iX6_in bw_zX6 bw_cX6_in bw_dX6_in (by decide) ⟨rfl, rfl⟩, fun _ h => absurd h List.not_mem_nil⟩) rfl (by decide) ⟨by decide, rfl⟩ bw_nX6_isRoad
theorem bw_nX6_isCar : ∀ as M N Rt, sX6_isCar as M N Rt → bt_sum as ≤ 2 := by
  intro as M N Rt h
  unfold sX6_isCar at h
  split at h
  · exact Nat.le_of_ble_eq_true rfl
  · exact False.elim h
theorem bw_rX6_isCar : ∀ as M N Rt, sX6_isCar as M N Rt → ∃ c t n, as = .ref c :: t ∧ bt_sh c = (0, 6, n) := by
  intro as M N Rt h
  unfold sX6_isCar at h
  split at h
  · obtain ⟨x0, rfl, -⟩ := h <;> exact ⟨_, _, _, rfl, rfl⟩
  · exact False.elim h
theorem msX6_isCar (l : Launch) {y : bt_Y} (hy : bt_yo y) : bt_MS l y yX6_isCar cX6_isCar 2 (some .boolean) (bw_rm 1 25) sX6_isCar := bt_met hy mX6_isCar bt_okX6_isCar bw_fX6 (List.forall_mem_cons.mpr ⟨bt_CSS (na := 3) (msX6_in l hy) bw_lX6_46 bw_iX6_in bw_zX6 bw_cX6_in bw_dX6_in (by decide) ⟨rfl, rfl⟩, fun _ h => absurd h List.not_mem_nil⟩) rfl (by decide) ⟨by decide, rfl⟩ bw_nX6_isCar
theorem bw_nX6_isPast : ∀ as M N Rt, sX6_isPast as M N Rt → bt_sum as ≤ 3 := by
  intro as M N Rt h
  unfold sX6_isPast at h
  split at h
  · exact Nat.le_of_ble_eq_true rfl
  · exact False.elim h
theorem bw_rX6_isPast : ∀ as M N Rt, sX6_isPast as M N Rt → ∃ c t n, as = .ref c :: t ∧ bt_sh c = (0, 6, n) := by
  intro as M N Rt h
  unfold sX6_isPast at h
  split at h
  · obtain ⟨x0, x1, x2, rfl, -⟩ := h <;> exact ⟨_, _, _, rfl, rfl⟩
  · exact False.elim h
theorem msX6_isPast (l : Launch) {y : bt_Y} (hy : bt_yo y) : bt_MS l y yX6_isPast cX6_isPast 3 (some .boolean) (bw_rm 0 0) sX6_isPast := bt_met hy mX6_isPast bt_okX6_isPast bw_fX6 (fun _ h => absurd h List.not_mem_nil) rfl (by decide) ⟨by decide, rfl⟩ bw_nX6_isPast
theorem bw_nX6_pastOn : ∀ as M N Rt, sX6_pastOn as M N Rt → bt_sum as ≤ 4 := by
  intro as M N Rt h
  unfold sX6_pastOn at h
  split at h
  · exact Nat.le_of_ble_eq_true rfl
  · exact False.elim h
theorem bw_rX6_pastOn : ∀ as M N Rt, sX6_pastOn as M N Rt → ∃ c t n, as = .ref c :: t ∧ bt_sh c = (0, 6, n) := by
  intro as M N Rt h
  unfold sX6_pastOn at h
  split at h
  · obtain ⟨x0, x1, x2, rfl, -⟩ := h <;> exact ⟨_, _, _, rfl, rfl⟩
  · exact False.elim h
theorem msX6_pastOn (l : Launch) {y : bt_Y} (hy : bt_yo y) : bt_MS l y yX6_pastOn cX6_pastOn 4 (some .int) (bw_rm 1 22) sX6_pastOn := bt_met hy mX6_pastOn bt_okX6_pastOn bw_fX6 (List.forall_mem_cons.mpr ⟨bt_CSV (na := 2) (ci := 6) (rc := (RX6, TX6, 27)) (msX6_isPast l hy) rfl rfl bw_rX6_isPast bw_lX6_139 bw_iX6_isPast bw_sX6_isPast bw_zX6 bw_cX6_isPast bw_dX6_isPast (by decide) ⟨rfl, rfl⟩, fun _ h => absurd h List.not_mem_nil⟩) rfl (by decide) ⟨by decide, rfl⟩ bw_nX6_pastOn
theorem bw_nX6_paceOn : ∀ as M N Rt, sX6_paceOn as M N Rt → bt_sum as ≤ 2 := by
  intro as M N Rt h
  unfold sX6_paceOn at h
  split at h
  · exact Nat.le_of_ble_eq_true rfl
  · exact False.elim h
theorem bw_rX6_paceOn : ∀ as M N Rt, sX6_paceOn as M N Rt → ∃ c t n, as = .ref c :: t ∧ bt_sh c = (0, 6, n) := by
  intro as M N Rt h
  unfold sX6_paceOn at h
  split at h
  · obtain ⟨x0, x1, rfl, -⟩ := h <;> exact ⟨_, _, _, rfl, rfl⟩
  · exact False.elim h
theorem msX6_paceOn (l : Launch) {y : bt_Y} (hy : bt_yo y) : bt_MS l y yX6_paceOn cX6_paceOn 2 (some .int) (bw_rm 0 0) sX6_paceOn := bt_met hy mX6_paceOn bt_okX6_paceOn bw_fX6 (fun _ h => absurd h List.not_mem_nil) rfl (by decide) ⟨by decide, rfl⟩ bw_nX6_paceOn
theorem bw_nX6_rule : ∀ as M N Rt, sX6_rule as M N Rt → bt_sum as ≤ 2 := by
  intro as M N Rt h
  obtain ⟨t, S, r, S1, rfl, -, hf, -⟩ := bt_spM_e h
  unfold f_rule at hf
  split at hf
  · exact Nat.le_of_ble_eq_true rfl
  · cases hf
theorem bw_rX6_rule : ∀ as M N Rt, sX6_rule as M N Rt → ∃ c t n, as = .ref c :: t ∧ bt_sh c = (0, 6, n) := by
  intro as M N Rt h
  obtain ⟨t, S, r, S1, rfl, -⟩ := bt_spM_e h
  exact ⟨_, _, _, rfl, rfl⟩
theorem msX6_rule (l : Launch) {y : bt_Y} (hy : bt_yo y) : bt_MS l y yX6_rule cX6_rule 2 (some .int) (bw_rm 2 45) sX6_rule := bt_met hy mX6_rule bt_okX6_rule bw_fX6 (List.forall_mem_cons.mpr ⟨bt_CSV (na := 1) (ci := 6) (rc := (RX6, TX6, 27)) (msX6_paceOn l hy) rfl rfl bw_rX6_paceOn bw_lX6_143 bw_iX6_paceOn bw_sX6_paceOn bw_zX6 bw_cX6_paceOn bw_dX6_paceOn (by decide) ⟨rfl, rfl⟩, List.forall_mem_cons.mpr ⟨bt_CSV (na := 1) (ci := 6) (rc := (RX6, TX6, 27)) (msX6_pastOn l hy) rfl rfl bw_rX6_pastOn bw_lX6_146 bw_iX6_pastOn bw_sX6_pastOn bw_zX6 bw_cX6_pastOn bw_dX6_pastOn (by decide) ⟨rfl, rfl⟩, fun _ h => absurd h List.not_mem_nil⟩⟩) rfl (by decide) ⟨by decide, rfl⟩ bw_nX6_rule
theorem bw_nX6_road : ∀ as M N Rt, sX6_road as M N Rt → bt_sum as ≤ 3 := by
  intro as M N Rt h
  obtain ⟨t, S, r, S1, rfl, -, hf, -⟩ := bt_spM_e h
  unfold f_road at hf
  split at hf
  · exact Nat.le_of_ble_eq_true rfl
  · cases hf
theorem bw_rX6_road : ∀ as M N Rt, sX6_road as M N Rt → ∃ c t n, as = .ref c :: t ∧ bt_sh c = (0, 6, n) := by
  intro as M N Rt h
  obtain ⟨t, S, r, S1, rfl, -⟩ := bt_spM_e h
  exact ⟨_, _, _, rfl, rfl⟩
theorem msX6_road (l : Launch) {y : bt_Y} (hy : bt_yo y) : bt_MS l y yX6_road cX6_road 3 (some .int) (bw_rm 2 46) sX6_road := bt_met hy mX6_road bt_okX6_road bw_fX6 (List.forall_mem_cons.mpr ⟨bt_CSV (na := 1) (ci := 6) (rc := (RX6, TX6, 27)) (msX6_isRoad l hy) rfl rfl bw_rX6_isRoad bw_lX6_149 bw_iX6_isRoad bw_sX6_isRoad bw_zX6 bw_cX6_isRoad bw_dX6_isRoad (by decide) ⟨rfl, rfl⟩, List.forall_mem_cons.mpr ⟨bt_CSS (na := 3) (msX6_in l hy) bw_lX6_46 bw_iX6_in bw_zX6 bw_cX6_in bw_dX6_in (by decide) ⟨rfl, rfl⟩, fun _ h => absurd h List.not_mem_nil⟩⟩) rfl (by decide) ⟨by decide, rfl⟩ bw_nX6_road
theorem bw_nX6_aheadOf : ∀ as M N Rt, sX6_aheadOf as M N Rt → bt_sum as ≤ 5 := by
  intro as M N Rt h
  unfold sX6_aheadOf at h
  split at h
  · exact Nat.le_of_ble_eq_true rfl
  · exact False.elim h
theorem bw_rX6_aheadOf : ∀ as M N Rt, sX6_aheadOf as M N Rt → ∃ c t n, as = .ref c :: t ∧ bt_sh c = (0, 6, n) := by
  intro as M N Rt h
  unfold sX6_aheadOf at h
  split at h
  · obtain ⟨x0, x1, x2, rfl, -⟩ := h <;> exact ⟨_, _, _, rfl, rfl⟩
  · exact False.elim h
theorem msX6_aheadOf (l : Launch) {y : bt_Y} (hy : bt_yo y) : bt_MS l y yX6_aheadOf cX6_aheadOf 5 (some .int) (bw_rm 1 22) sX6_aheadOf := bt_met hy mX6_aheadOf bt_okX6_aheadOf bw_fX6 (List.forall_mem_cons.mpr ⟨bt_CSV (na := 2) (ci := 6) (rc := (RX6, TX6, 27)) (msX6_isPast l hy) rfl rfl bw_rX6_isPast bw_lX6_139 bw_iX6_isPast bw_sX6_isPast bw_zX6 bw_cX6_isPast bw_dX6_isPast (by decide) ⟨rfl, rfl⟩, fun _ h => absurd h List.not_mem_nil⟩) rfl (by decide) ⟨by decide, rfl⟩ bw_nX6_aheadOf
theorem bw_nX6_car : ∀ as M N Rt, sX6_car as M N Rt → bt_sum as ≤ 3 := by
  intro as M N Rt h
  obtain ⟨t, S, r, S1, rfl, -, hf, -⟩ := bt_spM_e h
  unfold f_car at hf
  split at hf
  · exact Nat.le_of_ble_eq_true rfl
  · cases hf
theorem bw_rX6_car : ∀ as M N Rt, sX6_car as M N Rt → ∃ c t n, as = .ref c :: t ∧ bt_sh c = (0, 6, n) := by
  intro as M N Rt h
  obtain ⟨t, S, r, S1, rfl, -⟩ := bt_spM_e h
  exact ⟨_, _, _, rfl, rfl⟩
theorem msX6_car (l : Launch) {y : bt_Y} (hy : bt_yo y) : bt_MS l y yX6_car cX6_car 3 (some .int) (bw_rm 2 46) sX6_car := bt_met hy mX6_car bt_okX6_car bw_fX6 (List.forall_mem_cons.mpr ⟨bt_CSV (na := 1) (ci := 6) (rc := (RX6, TX6, 27)) (msX6_isCar l hy) rfl rfl bw_rX6_isCar bw_lX6_153 bw_iX6_isCar bw_sX6_isCar bw_zX6 bw_cX6_isCar bw_dX6_isCar (by decide) ⟨rfl, rfl⟩, List.forall_mem_cons.mpr ⟨bt_CSS (na := 3) (msX6_in l hy) bw_lX6_46 bw_iX6_in bw_zX6 bw_cX6_in bw_dX6_in (by decide) ⟨rfl, rfl⟩, List.forall_mem_cons.mpr ⟨bt_CSV (na := 2) (ci := 6) (rc := (RX6, TX6, 27)) (msX6_aheadOf l hy) rfl rfl bw_rX6_aheadOf bw_lX6_158 bw_iX6_aheadOf bw_sX6_aheadOf bw_zX6 bw_cX6_aheadOf bw_dX6_aheadOf (by decide) ⟨rfl, rfl⟩, fun _ h => absurd h List.not_mem_nil⟩⟩⟩) rfl (by decide) ⟨by decide, rfl⟩ bw_nX6_car
theorem bw_nX6_useOn : ∀ as M N Rt, sX6_useOn as M N Rt → bt_sum as ≤ 6 := by
  intro as M N Rt h
  unfold sX6_useOn at h
  split at h
  · exact Nat.le_of_ble_eq_true rfl
  · exact False.elim h
theorem bw_rX6_useOn : ∀ as M N Rt, sX6_useOn as M N Rt → ∃ c t n, as = .ref c :: t ∧ bt_sh c = (0, 6, n) := by
  intro as M N Rt h
  unfold sX6_useOn at h
  split at h
  · obtain ⟨x0, x1, x2, x3, x4, x5, rfl, -⟩ := h <;> exact ⟨_, _, _, rfl, rfl⟩
  · exact False.elim h
theorem msX6_useOn (l : Launch) {y : bt_Y} (hy : bt_yo y) : bt_MS l y yX6_useOn cX6_useOn 6 (some .int) (bw_rm 0 0) sX6_useOn := bt_met hy mX6_useOn bt_okX6_useOn bw_fX6 (fun _ h => absurd h List.not_mem_nil) rfl (by decide) ⟨by decide, rfl⟩ bw_nX6_useOn
theorem bw_nX6_use : ∀ as M N Rt, sX6_use as M N Rt → bt_sum as ≤ 3 := by
  intro as M N Rt h
  obtain ⟨t, S, r, S1, rfl, -, hf, -⟩ := bt_spM_e h
  unfold f_use at hf
  split at hf
  · exact Nat.le_of_ble_eq_true rfl
  · cases hf
theorem bw_rX6_use : ∀ as M N Rt, sX6_use as M N Rt → ∃ c t n, as = .ref c :: t ∧ bt_sh c = (0, 6, n) := by
  intro as M N Rt h
  obtain ⟨t, S, r, S1, rfl, -⟩ := bt_spM_e h
  exact ⟨_, _, _, rfl, rfl⟩
theorem msX6_use (l : Launch) {y : bt_Y} (hy : bt_yo y) : bt_MS l y yX6_use cX6_use 3 (some .int) (bw_rm 2 46) sX6_use := bt_met hy mX6_use bt_okX6_use bw_fX6 (List.forall_mem_cons.mpr ⟨bt_CSV (na := 1) (ci := 6) (rc := (RX6, TX6, 27)) (msX6_isRoad l hy) rfl rfl bw_rX6_isRoad bw_lX6_149 bw_iX6_isRoad bw_sX6_isRoad bw_zX6 bw_cX6_isRoad bw_dX6_isRoad (by decide) ⟨rfl, rfl⟩, List.forall_mem_cons.mpr ⟨bt_CSS (na := 3) (msX6_in l hy) bw_lX6_46 bw_iX6_in bw_zX6 bw_cX6_in bw_dX6_in (by decide) ⟨rfl, rfl⟩, List.forall_mem_cons.mpr ⟨bt_CSV (na := 3) (ci := 6) (rc := (RX6, TX6, 27)) (msX6_useOn l hy) rfl rfl bw_rX6_useOn bw_lX6_163 bw_iX6_useOn bw_sX6_useOn bw_zX6 bw_cX6_useOn bw_dX6_useOn (by decide) ⟨rfl, rfl⟩, fun _ h => absurd h List.not_mem_nil⟩⟩⟩) rfl (by decide) ⟨by decide, rfl⟩ bw_nX6_use
theorem bw_nX6_sets : ∀ as M N Rt, sX6_sets as M N Rt → bt_sum as ≤ 5 := by
  intro as M N Rt h
  unfold sX6_sets at h
  split at h
  · exact Nat.le_of_ble_eq_true rfl
  · exact False.elim h
theorem bw_rX6_sets : ∀ as M N Rt, sX6_sets as M N Rt → ∃ c t n, as = .ref c :: t ∧ bt_sh c = (0, 6, n) := by
  intro as M N Rt h
  unfold sX6_sets at h
  split at h
  · obtain ⟨rfl, -⟩ := h <;> exact ⟨_, _, _, rfl, rfl⟩
  · exact False.elim h
theorem msX6_sets (l : Launch) {y : bt_Y} (hy : bt_yo y) : bt_MS l y yX6_sets cX6_sets 5 (some .int) (bw_rm 0 0) sX6_sets := bt_met hy mX6_sets bt_okX6_sets bw_fX6 (fun _ h => absurd h List.not_mem_nil) rfl (by decide) ⟨by decide, rfl⟩ bw_nX6_sets
theorem bw_nX6_gap : ∀ as M N Rt, sX6_gap as M N Rt → bt_sum as ≤ 3 := by
  intro as M N Rt h
  obtain ⟨t, S, r, S1, rfl, -, hf, -⟩ := bt_spM_e h
  unfold f_gap at hf
  split at hf
  · exact Nat.le_of_ble_eq_true rfl
  · cases hf
theorem bw_rX6_gap : ∀ as M N Rt, sX6_gap as M N Rt → ∃ c t n, as = .ref c :: t ∧ bt_sh c = (0, 6, n) := by
  intro as M N Rt h
  obtain ⟨t, S, r, S1, rfl, -⟩ := bt_spM_e h
  exact ⟨_, _, _, rfl, rfl⟩
theorem msX6_gap (l : Launch) {y : bt_Y} (hy : bt_yo y) : bt_MS l y yX6_gap cX6_gap 3 (some .int) (bw_rm 2 46) sX6_gap := bt_met hy mX6_gap bt_okX6_gap bw_fX6 (List.forall_mem_cons.mpr ⟨bt_CSV (na := 1) (ci := 6) (rc := (RX6, TX6, 27)) (msX6_isRoad l hy) rfl rfl bw_rX6_isRoad bw_lX6_149 bw_iX6_isRoad bw_sX6_isRoad bw_zX6 bw_cX6_isRoad bw_dX6_isRoad (by decide) ⟨rfl, rfl⟩, List.forall_mem_cons.mpr ⟨bt_CSS (na := 3) (msX6_in l hy) bw_lX6_46 bw_iX6_in bw_zX6 bw_cX6_in bw_dX6_in (by decide) ⟨rfl, rfl⟩, List.forall_mem_cons.mpr ⟨bt_CSV (na := 3) (ci := 6) (rc := (RX6, TX6, 27)) (msX6_sets l hy) rfl rfl bw_rX6_sets bw_lX6_167 bw_iX6_sets bw_sX6_sets bw_zX6 bw_cX6_sets bw_dX6_sets (by decide) ⟨rfl, rfl⟩, fun _ h => absurd h List.not_mem_nil⟩⟩⟩) rfl (by decide) ⟨by decide, rfl⟩ bw_nX6_gap
theorem bw_nX6_sight : ∀ as M N Rt, sX6_sight as M N Rt → bt_sum as ≤ 3 := by
  intro as M N Rt h
  obtain ⟨t, S, r, S1, rfl, -, hf, -⟩ := bt_spM_e h
  unfold f_sight at hf
  split at hf
  · exact Nat.le_of_ble_eq_true rfl
  · cases hf
theorem bw_rX6_sight : ∀ as M N Rt, sX6_sight as M N Rt → ∃ c t n, as = .ref c :: t ∧ bt_sh c = (0, 6, n) := by
  intro as M N Rt h
  obtain ⟨t, S, r, S1, rfl, -⟩ := bt_spM_e h
  exact ⟨_, _, _, rfl, rfl⟩
theorem msX6_sight (l : Launch) {y : bt_Y} (hy : bt_yo y) : bt_MS l y yX6_sight cX6_sight 3 (some .int) (bw_rm 2 46) sX6_sight := bt_met hy mX6_sight bt_okX6_sight bw_fX6 (List.forall_mem_cons.mpr ⟨bt_CSV (na := 1) (ci := 6) (rc := (RX6, TX6, 27)) (msX6_isRoad l hy) rfl rfl bw_rX6_isRoad bw_lX6_149 bw_iX6_isRoad bw_sX6_isRoad bw_zX6 bw_cX6_isRoad bw_dX6_isRoad (by decide) ⟨rfl, rfl⟩, List.forall_mem_cons.mpr ⟨bt_CSS (na := 3) (msX6_in l hy) bw_lX6_46 bw_iX6_in bw_zX6 bw_cX6_in bw_dX6_in (by decide) ⟨rfl, rfl⟩, List.forall_mem_cons.mpr ⟨bt_CSV (na := 3) (ci := 6) (rc := (RX6, TX6, 27)) (msX6_sets l hy) rfl rfl bw_rX6_sets bw_lX6_167 bw_iX6_sets bw_sX6_sets bw_zX6 bw_cX6_sets bw_dX6_sets (by decide) ⟨rfl, rfl⟩, fun _ h => absurd h List.not_mem_nil⟩⟩⟩) rfl (by decide) ⟨by decide, rfl⟩ bw_nX6_sight
theorem bw_nX6_odd : ∀ as M N Rt, sX6_odd as M N Rt → bt_sum as ≤ 3 := by
  intro as M N Rt h
  obtain ⟨t, S, r, S1, rfl, -, hf, -⟩ := bt_spM_e h
  unfold f_odd at hf
  split at hf
  · exact Nat.le_of_ble_eq_true rfl
  · cases hf
theorem bw_rX6_odd : ∀ as M N Rt, sX6_odd as M N Rt → ∃ c t n, as = .ref c :: t ∧ bt_sh c = (0, 6, n) := by
  intro as M N Rt h
  obtain ⟨t, S, r, S1, rfl, -⟩ := bt_spM_e h
  exact ⟨_, _, _, rfl, rfl⟩
theorem msX6_odd (l : Launch) {y : bt_Y} (hy : bt_yo y) : bt_MS l y yX6_odd cX6_odd 3 (some .int) (bw_rm 2 46) sX6_odd := bt_met hy mX6_odd bt_okX6_odd bw_fX6 (List.forall_mem_cons.mpr ⟨bt_CSV (na := 1) (ci := 6) (rc := (RX6, TX6, 27)) (msX6_isRoad l hy) rfl rfl bw_rX6_isRoad bw_lX6_149 bw_iX6_isRoad bw_sX6_isRoad bw_zX6 bw_cX6_isRoad bw_dX6_isRoad (by decide) ⟨rfl, rfl⟩, List.forall_mem_cons.mpr ⟨bt_CSS (na := 3) (msX6_in l hy) bw_lX6_46 bw_iX6_in bw_zX6 bw_cX6_in bw_dX6_in (by decide) ⟨rfl, rfl⟩, List.forall_mem_cons.mpr ⟨bt_CSV (na := 3) (ci := 6) (rc := (RX6, TX6, 27)) (msX6_sets l hy) rfl rfl bw_rX6_sets bw_lX6_167 bw_iX6_sets bw_sX6_sets bw_zX6 bw_cX6_sets bw_dX6_sets (by decide) ⟨rfl, rfl⟩, fun _ h => absurd h List.not_mem_nil⟩⟩⟩) rfl (by decide) ⟨by decide, rfl⟩ bw_nX6_odd
theorem bw_nX6_build : ∀ as M N Rt, sX6_build as M N Rt → bt_sum as ≤ 5 := by
  intro as M N Rt h
  obtain ⟨t, S, r, S1, rfl, -, hf, -⟩ := bt_spM_e h
  unfold f_build at hf
  split at hf
  · exact Nat.le_of_ble_eq_true rfl
  · cases hf
theorem bw_rX6_build : ∀ as M N Rt, sX6_build as M N Rt → ∃ c t n, as = .ref c :: t ∧ bt_sh c = (0, 6, n) := by
  intro as M N Rt h
  obtain ⟨t, S, r, S1, rfl, -⟩ := bt_spM_e h
  exact ⟨_, _, _, rfl, rfl⟩
theorem msX6_build (l : Launch) {y : bt_Y} (hy : bt_yo y) : bt_MS l y yX6_build cX6_build 5 (some .int) (bw_rm 2 46) sX6_build := bt_met hy mX6_build bt_okX6_build bw_fX6 (List.forall_mem_cons.mpr ⟨bt_CSV (na := 1) (ci := 6) (rc := (RX6, TX6, 27)) (msX6_isRoad l hy) rfl rfl bw_rX6_isRoad bw_lX6_149 bw_iX6_isRoad bw_sX6_isRoad bw_zX6 bw_cX6_isRoad bw_dX6_isRoad (by decide) ⟨rfl, rfl⟩, List.forall_mem_cons.mpr ⟨bt_CSS (na := 3) (msX6_in l hy) bw_lX6_46 bw_iX6_in bw_zX6 bw_cX6_in bw_dX6_in (by decide) ⟨rfl, rfl⟩, List.forall_mem_cons.mpr ⟨bt_CSV (na := 3) (ci := 6) (rc := (RX6, TX6, 27)) (msX6_sets l hy) rfl rfl bw_rX6_sets bw_lX6_167 bw_iX6_sets bw_sX6_sets bw_zX6 bw_cX6_sets bw_dX6_sets (by decide) ⟨rfl, rfl⟩, fun _ h => absurd h List.not_mem_nil⟩⟩⟩) rfl (by decide) ⟨by decide, rfl⟩ bw_nX6_build
theorem bw_nX6_polite : ∀ as M N Rt, sX6_polite as M N Rt → bt_sum as ≤ 2 := by
  intro as M N Rt h
  obtain ⟨t, S, r, S1, rfl, -, hf, -⟩ := bt_spM_e h
  unfold f_polite at hf
  split at hf
  · exact Nat.le_of_ble_eq_true rfl
  · cases hf
theorem bw_rX6_polite : ∀ as M N Rt, sX6_polite as M N Rt → ∃ c t n, as = .ref c :: t ∧ bt_sh c = (0, 6, n) := by
  intro as M N Rt h
  obtain ⟨t, S, r, S1, rfl, -⟩ := bt_spM_e h
  exact ⟨_, _, _, rfl, rfl⟩
theorem msX6_polite (l : Launch) {y : bt_Y} (hy : bt_yo y) : bt_MS l y yX6_polite cX6_polite 2 (some .int) (bw_rm 1 25) sX6_polite := bt_met hy mX6_polite bt_okX6_polite bw_fX6 (List.forall_mem_cons.mpr ⟨bt_CSS (na := 3) (msX6_in l hy) bw_lX6_46 bw_iX6_in bw_zX6 bw_cX6_in bw_dX6_in (by decide) ⟨rfl, rfl⟩, List.forall_mem_cons.mpr ⟨bt_CSV (na := 3) (ci := 6) (rc := (RX6, TX6, 27)) (msX6_sets l hy) rfl rfl bw_rX6_sets bw_lX6_167 bw_iX6_sets bw_sX6_sets bw_zX6 bw_cX6_sets bw_dX6_sets (by decide) ⟨rfl, rfl⟩, fun _ h => absurd h List.not_mem_nil⟩⟩) rfl (by decide) ⟨by decide, rfl⟩ bw_nX6_polite
theorem bw_nX6_teach : ∀ as M N Rt, sX6_teach as M N Rt → bt_sum as ≤ 4 := by
  intro as M N Rt h
  obtain ⟨t, S, r, S1, rfl, -, hf, -⟩ := bt_spM_e h
  unfold f_teach at hf
  split at hf
  · exact Nat.le_of_ble_eq_true rfl
  · cases hf
theorem bw_rX6_teach : ∀ as M N Rt, sX6_teach as M N Rt → ∃ c t n, as = .ref c :: t ∧ bt_sh c = (0, 6, n) := by
  intro as M N Rt h
  obtain ⟨t, S, r, S1, rfl, -⟩ := bt_spM_e h
  exact ⟨_, _, _, rfl, rfl⟩
theorem msX6_teach (l : Launch) {y : bt_Y} (hy : bt_yo y) : bt_MS l y yX6_teach cX6_teach 4 (some .int) (bw_rm 2 46) sX6_teach := bt_met hy mX6_teach bt_okX6_teach bw_fX6 (List.forall_mem_cons.mpr ⟨bt_CSV (na := 1) (ci := 6) (rc := (RX6, TX6, 27)) (msX6_isCar l hy) rfl rfl bw_rX6_isCar bw_lX6_153 bw_iX6_isCar bw_sX6_isCar bw_zX6 bw_cX6_isCar bw_dX6_isCar (by decide) ⟨rfl, rfl⟩, List.forall_mem_cons.mpr ⟨bt_CSS (na := 3) (msX6_in l hy) bw_lX6_46 bw_iX6_in bw_zX6 bw_cX6_in bw_dX6_in (by decide) ⟨rfl, rfl⟩, List.forall_mem_cons.mpr ⟨bt_CSV (na := 3) (ci := 6) (rc := (RX6, TX6, 27)) (msX6_sets l hy) rfl rfl bw_rX6_sets bw_lX6_167 bw_iX6_sets bw_sX6_sets bw_zX6 bw_cX6_sets bw_dX6_sets (by decide) ⟨rfl, rfl⟩, fun _ h => absurd h List.not_mem_nil⟩⟩⟩) rfl (by decide) ⟨by decide, rfl⟩ bw_nX6_teach
theorem bw_nX6_isEnough : ∀ as M N Rt, sX6_isEnough as M N Rt → bt_sum as ≤ 5 := by
  intro as M N Rt h
  unfold sX6_isEnough at h
  split at h
  · exact Nat.le_of_ble_eq_true rfl
  · exact False.elim h
theorem bw_rX6_isEnough : ∀ as M N Rt, sX6_isEnough as M N Rt → ∃ c t n, as = .ref c :: t ∧ bt_sh c = (0, 6, n) := by
  intro as M N Rt h
  unfold sX6_isEnough at h
  split at h
  · obtain ⟨x0, x1, x2, x3, rfl, -⟩ := h <;> exact ⟨_, _, _, rfl, rfl⟩
  · exact False.elim h
theorem msX6_isEnough (l : Launch) {y : bt_Y} (hy : bt_yo y) : bt_MS l y yX6_isEnough cX6_isEnough 5 (some .boolean) (bw_rm 0 0) sX6_isEnough := bt_met hy mX6_isEnough bt_okX6_isEnough bw_fX6 (fun _ h => absurd h List.not_mem_nil) rfl (by decide) ⟨by decide, rfl⟩ bw_nX6_isEnough
theorem bw_nX6_passOn : ∀ as M N Rt, sX6_passOn as M N Rt → bt_sum as ≤ 8 := by
  intro as M N Rt h
  unfold sX6_passOn at h
  split at h
  · exact Nat.le_of_ble_eq_true rfl
  · exact False.elim h
theorem bw_rX6_passOn : ∀ as M N Rt, sX6_passOn as M N Rt → ∃ c t n, as = .ref c :: t ∧ bt_sh c = (0, 6, n) := by
  intro as M N Rt h
  unfold sX6_passOn at h
  split at h
  · obtain ⟨x0, x1, x2, rfl, -⟩ := h <;> exact ⟨_, _, _, rfl, rfl⟩
  · exact False.elim h
theorem msX6_passOn (l : Launch) {y : bt_Y} (hy : bt_yo y) : bt_MS l y yX6_passOn cX6_passOn 8 (some .int) (bw_rm 2 46) sX6_passOn := bt_met hy mX6_passOn bt_okX6_passOn bw_fX6 (List.forall_mem_cons.mpr ⟨bt_CSV (na := 2) (ci := 6) (rc := (RX6, TX6, 27)) (msX6_aheadOf l hy) rfl rfl bw_rX6_aheadOf bw_lX6_158 bw_iX6_aheadOf bw_sX6_aheadOf bw_zX6 bw_cX6_aheadOf bw_dX6_aheadOf (by decide) ⟨rfl, rfl⟩, List.forall_mem_cons.mpr ⟨bt_CSV (na := 2) (ci := 6) (rc := (RX6, TX6, 27)) (msX6_isPast l hy) rfl rfl bw_rX6_isPast bw_lX6_139 bw_iX6_isPast bw_sX6_isPast bw_zX6 bw_cX6_isPast bw_dX6_isPast (by decide) ⟨rfl, rfl⟩, List.forall_mem_cons.mpr ⟨bt_CSV (na := 4) (ci := 6) (rc := (RX6, TX6, 27)) (msX6_isEnough l hy) rfl rfl bw_rX6_isEnough bw_lX6_177 bw_iX6_isEnough bw_sX6_isEnough bw_zX6 bw_cX6_isEnough bw_dX6_isEnough (by decide) ⟨rfl, rfl⟩, fun _ h => absurd h List.not_mem_nil⟩⟩⟩) rfl (by decide) ⟨by decide, rfl⟩ bw_nX6_passOn
theorem bw_nX6_bitsOf : ∀ as M N Rt, sX6_bitsOf as M N Rt → bt_sum as ≤ 3 := by
  intro as M N Rt h
  unfold sX6_bitsOf at h
  split at h
  · exact Nat.le_of_ble_eq_true rfl
  · exact False.elim h
theorem msX6_bitsOf (l : Launch) {y : bt_Y} (hy : bt_yo y) : bt_MS l y yX6_bitsOf cX6_bitsOf 3 (some .int) (bw_rm 0 0) sX6_bitsOf := bt_met hy mX6_bitsOf bt_okX6_bitsOf bw_fX6 (fun _ h => absurd h List.not_mem_nil) rfl (by decide) ⟨by decide, rfl⟩ bw_nX6_bitsOf
theorem bw_nX6_driveOn : ∀ as M N Rt, sX6_driveOn as M N Rt → bt_sum as ≤ 10 := by
  intro as M N Rt h
  unfold sX6_driveOn at h
  split at h
  · exact Nat.le_of_ble_eq_true rfl
  · exact False.elim h
theorem bw_rX6_driveOn : ∀ as M N Rt, sX6_driveOn as M N Rt → ∃ c t n, as = .ref c :: t ∧ bt_sh c = (0, 6, n) := by
  intro as M N Rt h
  unfold sX6_driveOn at h
  split at h
  · obtain ⟨x0, x1, x2, rfl, -⟩ := h <;> exact ⟨_, _, _, rfl, rfl⟩
  · exact False.elim h
theorem msX6_driveOn (l : Launch) {y : bt_Y} (hy : bt_yo y) : bt_MS l y yX6_driveOn cX6_driveOn 10 (some .int) (bw_rm 3 73) sX6_driveOn := bt_met hy mX6_driveOn bt_okX6_driveOn bw_fX6 (List.forall_mem_cons.mpr ⟨bt_CSV (na := 1) (ci := 6) (rc := (RX6, TX6, 27)) (msX6_pastOn l hy) rfl rfl bw_rX6_pastOn bw_lX6_146 bw_iX6_pastOn bw_sX6_pastOn bw_zX6 bw_cX6_pastOn bw_dX6_pastOn (by decide) ⟨rfl, rfl⟩, List.forall_mem_cons.mpr ⟨bt_CSS (na := 1) (msX6_bitsOf l hy) bw_lX6_181 bw_iX6_bitsOf bw_zX6 bw_cX6_bitsOf bw_dX6_bitsOf (by decide) ⟨rfl, rfl⟩, List.forall_mem_cons.mpr ⟨bt_CSV (na := 3) (ci := 6) (rc := (RX6, TX6, 27)) (msX6_useOn l hy) rfl rfl bw_rX6_useOn bw_lX6_163 bw_iX6_useOn bw_sX6_useOn bw_zX6 bw_cX6_useOn bw_dX6_useOn (by decide) ⟨rfl, rfl⟩, List.forall_mem_cons.mpr ⟨bt_CSV (na := 2) (ci := 6) (rc := (RX6, TX6, 27)) (msX6_passOn l hy) rfl rfl bw_rX6_passOn bw_lX6_184 bw_iX6_passOn bw_sX6_passOn bw_zX6 bw_cX6_passOn bw_dX6_passOn (by decide) ⟨rfl, rfl⟩, List.forall_mem_cons.mpr ⟨bt_CSV (na := 2) (ci := 6) (rc := (RX6, TX6, 27)) (msX6_isPast l hy) rfl rfl bw_rX6_isPast bw_lX6_139 bw_iX6_isPast bw_sX6_isPast bw_zX6 bw_cX6_isPast bw_dX6_isPast (by decide) ⟨rfl, rfl⟩, List.forall_mem_cons.mpr ⟨bt_CSV (na := 1) (ci := 6) (rc := (RX6, TX6, 27)) (msX6_paceOn l hy) rfl rfl bw_rX6_paceOn bw_lX6_143 bw_iX6_paceOn bw_sX6_paceOn bw_zX6 bw_cX6_paceOn bw_dX6_paceOn (by decide) ⟨rfl, rfl⟩, fun _ h => absurd h List.not_mem_nil⟩⟩⟩⟩⟩⟩) rfl (by decide) ⟨by decide, rfl⟩ bw_nX6_driveOn
theorem bw_nX6_areLeft : ∀ as M N Rt, sX6_areLeft as M N Rt → bt_sum as ≤ 2 := by
  intro as M N Rt h
  unfold sX6_areLeft at h
  split at h
  · exact Nat.le_of_ble_eq_true rfl
  · exact False.elim h
theorem bw_rX6_areLeft : ∀ as M N Rt, sX6_areLeft as M N Rt → ∃ c t n, as = .ref c :: t ∧ bt_sh c = (0, 6, n) := by
  intro as M N Rt h
  unfold sX6_areLeft at h
  split at h
  · obtain ⟨x0, x1, x2, rfl, -⟩ := h <;> exact ⟨_, _, _, rfl, rfl⟩
  · exact False.elim h
theorem msX6_areLeft (l : Launch) {y : bt_Y} (hy : bt_yo y) : bt_MS l y yX6_areLeft cX6_areLeft 2 (some .boolean) (bw_rm 0 0) sX6_areLeft := bt_met hy mX6_areLeft bt_okX6_areLeft bw_fX6 (fun _ h => absurd h List.not_mem_nil) rfl (by decide) ⟨by decide, rfl⟩ bw_nX6_areLeft
theorem bw_nX6_drives : ∀ as M N Rt, sX6_drives as M N Rt → bt_sum as ≤ 2 := by
  intro as M N Rt h
  unfold sX6_drives at h
  split at h
  · exact Nat.le_of_ble_eq_true rfl
  · exact False.elim h
theorem bw_rX6_drives : ∀ as M N Rt, sX6_drives as M N Rt → ∃ c t n, as = .ref c :: t ∧ bt_sh c = (0, 6, n) := by
  intro as M N Rt h
  unfold sX6_drives at h
  split at h
  · obtain ⟨x0, rfl, -⟩ := h <;> exact ⟨_, _, _, rfl, rfl⟩
  · exact False.elim h
theorem msX6_drives (l : Launch) {y : bt_Y} (hy : bt_yo y) : bt_MS l y yX6_drives cX6_drives 2 (some .int) (bw_rm 4 102) sX6_drives := bt_met hy mX6_drives bt_okX6_drives bw_fX6 (List.forall_mem_cons.mpr ⟨bt_CSS (na := 3) (msX6_in l hy) bw_lX6_46 bw_iX6_in bw_zX6 bw_cX6_in bw_dX6_in (by decide) ⟨rfl, rfl⟩, List.forall_mem_cons.mpr ⟨bt_CSV (na := 1) (ci := 6) (rc := (RX6, TX6, 27)) (msX6_areLeft l hy) rfl rfl bw_rX6_areLeft bw_lX6_187 bw_iX6_areLeft bw_sX6_areLeft bw_zX6 bw_cX6_areLeft bw_dX6_areLeft (by decide) ⟨rfl, rfl⟩, List.forall_mem_cons.mpr ⟨bt_CSV (na := 2) (ci := 6) (rc := (RX6, TX6, 27)) (msX6_driveOn l hy) rfl rfl bw_rX6_driveOn bw_lX6_190 bw_iX6_driveOn bw_sX6_driveOn bw_zX6 bw_cX6_driveOn bw_dX6_driveOn (by decide) ⟨rfl, rfl⟩, fun _ h => absurd h List.not_mem_nil⟩⟩⟩) rfl (by decide) ⟨by decide, rfl⟩ bw_nX6_drives
