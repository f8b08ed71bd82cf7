/-! EACH METHOD ON THE MACHINE, 2 -/
theorem bw_nX4_allHaveCome : ∀ as M N Rt, sX4_allHaveCome as M N Rt → bt_sum as ≤ 1 := by
  intro as M N Rt h
  unfold sX4_allHaveCome at h
  split at h
  · exact Nat.le_of_ble_eq_true rfl
  · exact False.elim h
theorem bw_rX4_allHaveCome : ∀ as M N Rt, sX4_allHaveCome as M N Rt → ∃ c t n, as = .ref c :: t ∧ bt_sh c = (0, 4, n) := by
  intro as M N Rt h
  unfold sX4_allHaveCome at h
  split at h
  · obtain ⟨x0, (rfl | rfl), -⟩ := h <;> exact ⟨_, _, _, rfl, rfl⟩
  · exact False.elim h
theorem msX4_allHaveCome (l : Launch) {y : bt_Y} (hy : bt_yo y) : bt_MS l y yX4_allHaveCome cX4_allHaveCome 1 (some .boolean) (bw_rm 0 0) sX4_allHaveCome := bt_met hy mX4_allHaveCome bt_okX4_allHaveCome bw_fX4 (fun _ h => absurd h List.not_mem_nil) rfl (by decide) ⟨by decide, rfl⟩ bw_nX4_allHaveCome
theorem bw_nX4_milesLeft : ∀ as M N Rt, sX4_milesLeft as M N Rt → bt_sum as ≤ 3 := by
  intro as M N Rt h
  unfold sX4_milesLeft at h
  split at h
  · exact Nat.le_of_ble_eq_true rfl
  · exact False.elim h
theorem bw_rX4_milesLeft : ∀ as M N Rt, sX4_milesLeft as M N Rt → ∃ c t n, as = .ref c :: t ∧ bt_sh c = (0, 4, n) := by
  intro as M N Rt h
  unfold sX4_milesLeft at h
  split at h
  · obtain ⟨x0, (rfl | rfl), -⟩ := h <;> exact ⟨_, _, _, rfl, rfl⟩
  · exact False.elim h
theorem msX4_milesLeft (l : Launch) {y : bt_Y} (hy : bt_yo y) : bt_MS l y yX4_milesLeft cX4_milesLeft 3 (some .int) (bw_rm 0 0) sX4_milesLeft := bt_met hy mX4_milesLeft bt_okX4_milesLeft bw_fX4 (fun _ h => absurd h List.not_mem_nil) rfl (by decide) ⟨by decide, rfl⟩ bw_nX4_milesLeft
theorem bw_nX4_sumOfTimes : ∀ as M N Rt, sX4_sumOfTimes as M N Rt → bt_sum as ≤ 3 := by
  intro as M N Rt h
  unfold sX4_sumOfTimes at h
  split at h
  · exact Nat.le_of_ble_eq_true rfl
  · exact False.elim h
theorem bw_rX4_sumOfTimes : ∀ as M N Rt, sX4_sumOfTimes as M N Rt → ∃ c t n, as = .ref c :: t ∧ bt_sh c = (0, 4, n) := by
  intro as M N Rt h
  unfold sX4_sumOfTimes at h
  split at h
  · obtain ⟨x0, (rfl | rfl), -⟩ := h <;> exact ⟨_, _, _, rfl, rfl⟩
  · exact False.elim h
theorem msX4_sumOfTimes (l : Launch) {y : bt_Y} (hy : bt_yo y) : bt_MS l y yX4_sumOfTimes cX4_sumOfTimes 3 (some .int) (bw_rm 0 0) sX4_sumOfTimes := bt_met hy mX4_sumOfTimes bt_okX4_sumOfTimes bw_fX4 (fun _ h => absurd h List.not_mem_nil) rfl (by decide) ⟨by decide, rfl⟩ bw_nX4_sumOfTimes
theorem bw_nX4_driveOne : ∀ as M N Rt, sX4_driveOne as M N Rt → bt_sum as ≤ 4 := by
  intro as M N Rt h
  unfold sX4_driveOne at h
  split at h
  · exact Nat.le_of_ble_eq_true rfl
  · exact False.elim h
theorem bw_rX4_driveOne : ∀ as M N Rt, sX4_driveOne as M N Rt → ∃ c t n, as = .ref c :: t ∧ bt_sh c = (0, 4, n) := by
  intro as M N Rt h
  unfold sX4_driveOne at h
  split at h
  · obtain ⟨x0, x1, (rfl | rfl), -⟩ := h <;> exact ⟨_, _, _, rfl, rfl⟩
  · exact False.elim h
theorem msX4_driveOne (l : Launch) {y : bt_Y} (hy : bt_yo y) : bt_MS l y yX4_driveOne cX4_driveOne 4 (some .int) (bw_rm 3 73) sX4_driveOne := bt_met hy mX4_driveOne bt_okX4_driveOne bw_fX4 (List.forall_mem_cons.mpr ⟨bt_CSV (na := 3) (ci := 4) (rc := (RX4, TX4, 18)) (msX4_comers l hy) rfl rfl bw_rX4_comers bw_lX4_105 bw_iX4_comers bw_sX4_comers bw_zX4 bw_cX4_comers bw_dX4_comers (by decide) ⟨rfl, rfl⟩, List.forall_mem_cons.mpr ⟨bt_CSV (na := 3) (ci := 4) (rc := (RX4, TX4, 18)) (msX4_minutes l hy) rfl rfl bw_rX4_minutes bw_lX4_109 bw_iX4_minutes bw_sX4_minutes bw_zX4 bw_cX4_minutes bw_dX4_minutes (by decide) ⟨rfl, rfl⟩, fun _ h => absurd h List.not_mem_nil⟩⟩) rfl (by decide) ⟨by decide, rfl⟩ bw_nX4_driveOne
theorem bw_nX4_driveToEnd : ∀ as M N Rt, sX4_driveToEnd as M N Rt → bt_sum as ≤ 2 := by
  intro as M N Rt h
  unfold sX4_driveToEnd at h
  split at h
  · exact Nat.le_of_ble_eq_true rfl
  · exact False.elim h
theorem bw_rX4_driveToEnd : ∀ as M N Rt, sX4_driveToEnd as M N Rt → ∃ c t n, as = .ref c :: t ∧ bt_sh c = (0, 4, n) := by
  intro as M N Rt h
  unfold sX4_driveToEnd at h
  split at h
  · obtain ⟨x0, (rfl | rfl), -⟩ := h <;> exact ⟨_, _, _, rfl, rfl⟩
  · exact False.elim h
theorem msX4_driveToEnd (l : Launch) {y : bt_Y} (hy : bt_yo y) : bt_MS l y yX4_driveToEnd cX4_driveToEnd 2 (some .int) (bw_rm 4 96) sX4_driveToEnd := bt_met hy mX4_driveToEnd bt_okX4_driveToEnd bw_fX4 (List.forall_mem_cons.mpr ⟨bt_CSV (na := 1) (ci := 4) (rc := (RX4, TX4, 18)) (msX4_driveOne l hy) rfl rfl bw_rX4_driveOne bw_lX4_112 bw_iX4_driveOne bw_sX4_driveOne bw_zX4 bw_cX4_driveOne bw_dX4_driveOne (by decide) ⟨rfl, rfl⟩, List.forall_mem_cons.mpr ⟨bt_CSV (na := 0) (ci := 4) (rc := (RX4, TX4, 18)) (msX4_sumOfTimes l hy) rfl rfl bw_rX4_sumOfTimes bw_lX4_115 bw_iX4_sumOfTimes bw_sX4_sumOfTimes bw_zX4 bw_cX4_sumOfTimes bw_dX4_sumOfTimes (by decide) ⟨rfl, rfl⟩, fun _ h => absurd h List.not_mem_nil⟩⟩) rfl (by decide) ⟨by decide, rfl⟩ bw_nX4_driveToEnd
theorem bw_nX5_feed : ∀ as M N Rt, sX5_feed as M N Rt → bt_sum as ≤ 2 := by
  intro as M N Rt h
  obtain ⟨t, S, r, S1, rfl, -, hf, -⟩ := bt_spC_e h
  unfold f_feed at hf
  split at hf
  · exact Nat.le_of_ble_eq_true rfl
  · cases hf
theorem bw_rX5_feed : ∀ as M N Rt, sX5_feed as M N Rt → ∃ c t n, as = .ref c :: t ∧ bt_sh c = (0, 5, n) := by
  intro as M N Rt h
  obtain ⟨t, S, r, S1, rfl, -⟩ := bt_spC_e h
  exact ⟨_, _, _, rfl, rfl⟩
theorem msX5_feed (l : Launch) {y : bt_Y} (hy : bt_yo y) : bt_MS l y yX5_feed cX5_feed 2 (some .int) (bw_rm 1 22) sX5_feed := bt_met hy mX5_feed bt_okX5_feed bw_fX5 (List.forall_mem_cons.mpr ⟨bt_CSS (na := 3) (msX5_within l hy) bw_lX5_51 bw_iX5_within bw_zX5 bw_cX5_within bw_dX5_within (by decide) ⟨rfl, rfl⟩, List.forall_mem_cons.mpr ⟨bt_CSV (na := 1) (ci := 3) (rc := (RX3, TX3, 14)) (msX3_add l hy) rfl rfl bw_rX3_add bw_lX5_55 bw_iX3_add bw_sX3_add bw_zX3 bw_cX3_add bw_dX3_add (by decide) ⟨rfl, rfl⟩, fun _ h => absurd h List.not_mem_nil⟩⟩) rfl (by decide) ⟨by decide, rfl⟩ bw_nX5_feed
theorem bw_nX5_end : ∀ as M N Rt, sX5_end as M N Rt → bt_sum as ≤ 3 := by
  intro as M N Rt h
  obtain ⟨t, S, r, S1, rfl, -, hf, -⟩ := bt_spC_e h
  unfold f_end at hf
  split at hf
  · exact Nat.le_of_ble_eq_true rfl
  · cases hf
theorem bw_rX5_end : ∀ as M N Rt, sX5_end as M N Rt → ∃ c t n, as = .ref c :: t ∧ bt_sh c = (0, 5, n) := by
  intro as M N Rt h
  obtain ⟨t, S, r, S1, rfl, -⟩ := bt_spC_e h
  exact ⟨_, _, _, rfl, rfl⟩
theorem msX5_end (l : Launch) {y : bt_Y} (hy : bt_yo y) : bt_MS l y yX5_end cX5_end 3 (some .int) (bw_rm 1 22) sX5_end := bt_met hy mX5_end bt_okX5_end bw_fX5 (List.forall_mem_cons.mpr ⟨bt_CSS (na := 3) (msX5_within l hy) bw_lX5_51 bw_iX5_within bw_zX5 bw_cX5_within bw_dX5_within (by decide) ⟨rfl, rfl⟩, fun _ h => absurd h List.not_mem_nil⟩) rfl (by decide) ⟨by decide, rfl⟩ bw_nX5_end
theorem bw_nX5_text : ∀ as M N Rt, sX5_text as M N Rt → bt_sum as ≤ 2 := by
  intro as M N Rt h
  obtain ⟨t, S, r, S1, rfl, -, hf, -⟩ := bt_spC_e h
  unfold f_text at hf
  split at hf
  · exact Nat.le_of_ble_eq_true rfl
  · cases hf
theorem bw_rX5_text : ∀ as M N Rt, sX5_text as M N Rt → ∃ c t n, as = .ref c :: t ∧ bt_sh c = (0, 5, n) := by
  intro as M N Rt h
  obtain ⟨t, S, r, S1, rfl, -⟩ := bt_spC_e h
  exact ⟨_, _, _, rfl, rfl⟩
theorem msX5_text (l : Launch) {y : bt_Y} (hy : bt_yo y) : bt_MS l y yX5_text cX5_text 2 (some .int) (bw_rm 9 190) sX5_text := bt_met hy mX5_text bt_okX5_text bw_fX5 (List.forall_mem_cons.mpr ⟨bt_CSV (na := 0) (ci := 3) (rc := (RX3, TX3, 14)) (msX3_tellAll l hy) rfl rfl bw_rX3_tellAll bw_lX5_63 bw_iX3_tellAll bw_sX3_tellAll bw_zX3 bw_cX3_tellAll bw_dX3_tellAll (by decide) ⟨rfl, rfl⟩, List.forall_mem_cons.mpr ⟨bt_CSV (na := 1) (ci := 4) (rc := (RX4, TX4, 18)) (msX4_takeFrom l hy) rfl rfl bw_rX4_takeFrom bw_lX5_76 bw_iX4_takeFrom bw_sX4_takeFrom bw_zX4 bw_cX4_takeFrom bw_dX4_takeFrom (by decide) ⟨rfl, rfl⟩, fun _ h => absurd h List.not_mem_nil⟩⟩) rfl (by decide) ⟨by decide, rfl⟩ bw_nX5_text
theorem bw_nX5_fault : ∀ as M N Rt, sX5_fault as M N Rt → bt_sum as ≤ 1 := by
  intro as M N Rt h
  obtain ⟨t, S, r, S1, rfl, -, hf, -⟩ := bt_spC_e h
  unfold f_fault at hf
  split at hf
  · exact Nat.le_of_ble_eq_true rfl
  · cases hf
theorem bw_rX5_fault : ∀ as M N Rt, sX5_fault as M N Rt → ∃ c t n, as = .ref c :: t ∧ bt_sh c = (0, 5, n) := by
  intro as M N Rt h
  obtain ⟨t, S, r, S1, rfl, -⟩ := bt_spC_e h
  exact ⟨_, _, _, rfl, rfl⟩
theorem msX5_fault (l : Launch) {y : bt_Y} (hy : bt_yo y) : bt_MS l y yX5_fault cX5_fault 1 (some .int) (bw_rm 0 0) sX5_fault := bt_met hy mX5_fault bt_okX5_fault bw_fX5 (fun _ h => absurd h List.not_mem_nil) rfl (by decide) ⟨by decide, rfl⟩ bw_nX5_fault
theorem bw_nX5_rule : ∀ as M N Rt, sX5_rule as M N Rt → bt_sum as ≤ 2 := by
  intro as M N Rt h
  obtain ⟨t, S, r, S1, rfl, -, hf, -⟩ := bt_spC_e h
  unfold f_rule at hf
  split at hf
  · exact Nat.le_of_ble_eq_true rfl
  · cases hf
theorem bw_rX5_rule : ∀ as M N Rt, sX5_rule as M N Rt → ∃ c t n, as = .ref c :: t ∧ bt_sh c = (0, 5, n) := by
  intro as M N Rt h
  obtain ⟨t, S, r, S1, rfl, -⟩ := bt_spC_e h
  exact ⟨_, _, _, rfl, rfl⟩
theorem msX5_rule (l : Launch) {y : bt_Y} (hy : bt_yo y) : bt_MS l y yX5_rule cX5_rule 2 (some .int) (bw_rm 0 0) sX5_rule := bt_met hy mX5_rule bt_okX5_rule bw_fX5 (fun _ h => absurd h List.not_mem_nil) rfl (by decide) ⟨by decide, rfl⟩ bw_nX5_rule
theorem bw_nX5_isStretch : ∀ as M N Rt, sX5_isStretch as M N Rt → bt_sum as ≤ 2 := by
  intro as M N Rt h
  unfold sX5_isStretch at h
  split at h
  · exact Nat.le_of_ble_eq_true rfl
  · exact False.elim h
theorem bw_rX5_isStretch : ∀ as M N Rt, sX5_isStretch as M N Rt → ∃ c t n, as = .ref c :: t ∧ bt_sh c = (0, 5, n) := by
  intro as M N Rt h
  unfold sX5_isStretch at h
  split at h
  · obtain ⟨x0, rfl, -⟩ := h <;> exact ⟨_, _, _, rfl, rfl⟩
  · exact False.elim h
theorem msX5_isStretch (l : Launch) {y : bt_Y} (hy : bt_yo y) : bt_MS l y yX5_isStretch cX5_isStretch 2 (some .boolean) (bw_rm 1 22) sX5_isStretch := bt_met hy mX5_isStretch bt_okX5_isStretch bw_fX5 (List.forall_mem_cons.mpr ⟨bt_CSS (na := 3) (msX5_within l hy) bw_lX5_51 bw_iX5_within bw_zX5 bw_cX5_within bw_dX5_within (by decide) ⟨rfl, rfl⟩, fun _ h => absurd h List.not_mem_nil⟩) rfl (by decide) ⟨by decide, rfl⟩ bw_nX5_isStretch
theorem bw_nX5_road : ∀ as M N Rt, sX5_road as M N Rt → bt_sum as ≤ 3 := by
  intro as M N Rt h
  obtain ⟨t, S, r, S1, rfl, -, hf, -⟩ := bt_spC_e h
  unfold f_road at hf
  split at hf
  · exact Nat.le_of_ble_eq_true rfl
  · cases hf
theorem bw_rX5_road : ∀ as M N Rt, sX5_road as M N Rt → ∃ c t n, as = .ref c :: t ∧ bt_sh c = (0, 5, n) := by
  intro as M N Rt h
  obtain ⟨t, S, r, S1, rfl, -⟩ := bt_spC_e h
  exact ⟨_, _, _, rfl, rfl⟩
theorem msX5_road (l : Launch) {y : bt_Y} (hy : bt_yo y) : bt_MS l y yX5_road cX5_road 3 (some .int) (bw_rm 2 43) sX5_road := bt_met hy mX5_road bt_okX5_road bw_fX5 (List.forall_mem_cons.mpr ⟨bt_CSV (na := 1) (ci := 5) (rc := (RX5, TX5, 9)) (msX5_isStretch l hy) rfl rfl bw_rX5_isStretch bw_lX5_107 bw_iX5_isStretch bw_sX5_isStretch bw_zX5 bw_cX5_isStretch bw_dX5_isStretch (by decide) ⟨rfl, rfl⟩, List.forall_mem_cons.mpr ⟨bt_CSS (na := 2) (msX5_bit l hy) bw_lX5_126 bw_iX5_bit bw_zX5 bw_cX5_bit bw_dX5_bit (by decide) ⟨rfl, rfl⟩, fun _ h => absurd h List.not_mem_nil⟩⟩) rfl (by decide) ⟨by decide, rfl⟩ bw_nX5_road
theorem bw_nX5_isCar : ∀ as M N Rt, sX5_isCar as M N Rt → bt_sum as ≤ 2 := by
  intro as M N Rt h
  unfold sX5_isCar at h
  split at h
  · exact Nat.le_of_ble_eq_true rfl
  · exact False.elim h
theorem bw_rX5_isCar : ∀ as M N Rt, sX5_isCar as M N Rt → ∃ c t n, as = .ref c :: t ∧ bt_sh c = (0, 5, n) := by
  intro as M N Rt h
  unfold sX5_isCar at h
  split at h
  · obtain ⟨x0, rfl, -⟩ := h <;> exact ⟨_, _, _, rfl, rfl⟩
  · exact False.elim h
theorem msX5_isCar (l : Launch) {y : bt_Y} (hy : bt_yo y) : bt_MS l y yX5_isCar cX5_isCar 2 (some .boolean) (bw_rm 1 22) sX5_isCar := bt_met hy mX5_isCar bt_okX5_isCar bw_fX5 (List.forall_mem_cons.mpr ⟨bt_CSS (na := 3) (msX5_within l hy) bw_lX5_51 bw_iX5_within bw_zX5 bw_cX5_within bw_dX5_within (by decide) ⟨rfl, rfl⟩, fun _ h => absurd h List.not_mem_nil⟩) rfl (by decide) ⟨by decide, rfl⟩ bw_nX5_isCar
theorem bw_nX5_car : ∀ as M N Rt, sX5_car as M N Rt → bt_sum as ≤ 3 := by
  intro as M N Rt h
  obtain ⟨t, S, r, S1, rfl, -, hf, -⟩ := bt_spC_e h
  unfold f_car at hf
  split at hf
  · exact Nat.le_of_ble_eq_true rfl
  · cases hf
theorem bw_rX5_car : ∀ as M N Rt, sX5_car as M N Rt → ∃ c t n, as = .ref c :: t ∧ bt_sh c = (0, 5, n) := by
  intro as M N Rt h
  obtain ⟨t, S, r, S1, rfl, -⟩ := bt_spC_e h
  exact ⟨_, _, _, rfl, rfl⟩
theorem msX5_car (l : Launch) {y : bt_Y} (hy : bt_yo y) : bt_MS l y yX5_car cX5_car 3 (some .int) (bw_rm 3 62) sX5_car := bt_met hy mX5_car bt_okX5_car bw_fX5 (List.forall_mem_cons.mpr ⟨bt_CSV (na := 1) (ci := 5) (rc := (RX5, TX5, 9)) (msX5_isCar l hy) rfl rfl bw_rX5_isCar bw_lX5_136 bw_iX5_isCar bw_sX5_isCar bw_zX5 bw_cX5_isCar bw_dX5_isCar (by decide) ⟨rfl, rfl⟩, List.forall_mem_cons.mpr ⟨bt_CSS (na := 2) (msX5_bit l hy) bw_lX5_126 bw_iX5_bit bw_zX5 bw_cX5_bit bw_dX5_bit (by decide) ⟨rfl, rfl⟩, List.forall_mem_cons.mpr ⟨bt_CSV (na := 1) (ci := 4) (rc := (RX4, TX4, 18)) (msX4_behindAheadOf l hy) rfl rfl bw_rX4_behindAheadOf bw_lX5_151 bw_iX4_behindAheadOf bw_sX4_behindAheadOf bw_zX4 bw_cX4_behindAheadOf bw_dX4_behindAheadOf (by decide) ⟨rfl, rfl⟩, fun _ h => absurd h List.not_mem_nil⟩⟩⟩) rfl (by decide) ⟨by decide, rfl⟩ bw_nX5_car
theorem bw_nX5_use : ∀ as M N Rt, sX5_use as M N Rt → bt_sum as ≤ 3 := by
  intro as M N Rt h
  obtain ⟨t, S, r, S1, rfl, -, hf, -⟩ := bt_spC_e h
  unfold f_use at hf
  split at hf
  · exact Nat.le_of_ble_eq_true rfl
  · cases hf
theorem bw_rX5_use : ∀ as M N Rt, sX5_use as M N Rt → ∃ c t n, as = .ref c :: t ∧ bt_sh c = (0, 5, n) := by
  intro as M N Rt h
  obtain ⟨t, S, r, S1, rfl, -⟩ := bt_spC_e h
  exact ⟨_, _, _, rfl, rfl⟩
theorem msX5_use (l : Launch) {y : bt_Y} (hy : bt_yo y) : bt_MS l y yX5_use cX5_use 3 (some .int) (bw_rm 2 44) sX5_use := bt_met hy mX5_use bt_okX5_use bw_fX5 (List.forall_mem_cons.mpr ⟨bt_CSV (na := 1) (ci := 5) (rc := (RX5, TX5, 9)) (msX5_isStretch l hy) rfl rfl bw_rX5_isStretch bw_lX5_107 bw_iX5_isStretch bw_sX5_isStretch bw_zX5 bw_cX5_isStretch bw_dX5_isStretch (by decide) ⟨rfl, rfl⟩, List.forall_mem_cons.mpr ⟨bt_CSS (na := 3) (msX5_within l hy) bw_lX5_51 bw_iX5_within bw_zX5 bw_cX5_within bw_dX5_within (by decide) ⟨rfl, rfl⟩, List.forall_mem_cons.mpr ⟨bt_CSV (na := 2) (ci := 4) (rc := (RX4, TX4, 18)) (msX4_ofUse l hy) rfl rfl bw_rX4_ofUse bw_lX5_155 bw_iX4_ofUse bw_sX4_ofUse bw_zX4 bw_cX4_ofUse bw_dX4_ofUse (by decide) ⟨rfl, rfl⟩, fun _ h => absurd h List.not_mem_nil⟩⟩⟩) rfl (by decide) ⟨by decide, rfl⟩ bw_nX5_use
theorem bw_nX5_exchange : ∀ as M N Rt, sX5_exchange as M N Rt → bt_sum as ≤ 4 := by
  intro as M N Rt h
  unfold sX5_exchange at h
  split at h
  · exact Nat.le_of_ble_eq_true rfl
  · exact False.elim h
theorem msX5_exchange (l : Launch) {y : bt_Y} (hy : bt_yo y) : bt_MS l y yX5_exchange cX5_exchange 4 (some .int) (bw_rm 0 0) sX5_exchange := bt_met hy mX5_exchange bt_okX5_exchange bw_fX5 (fun _ h => absurd h List.not_mem_nil) rfl (by decide) ⟨by decide, rfl⟩ bw_nX5_exchange
theorem bw_nX5_gap : ∀ as M N Rt, sX5_gap as M N Rt → bt_sum as ≤ 3 := by
  intro as M N Rt h
  obtain ⟨t, S, r, S1, rfl, -, hf, -⟩ := bt_spC_e h
  unfold f_gap at hf
  split at hf
  · exact Nat.le_of_ble_eq_true rfl
  · cases hf
theorem bw_rX5_gap : ∀ as M N Rt, sX5_gap as M N Rt → ∃ c t n, as = .ref c :: t ∧ bt_sh c = (0, 5, n) := by
  intro as M N Rt h
  obtain ⟨t, S, r, S1, rfl, -⟩ := bt_spC_e h
  exact ⟨_, _, _, rfl, rfl⟩
theorem msX5_gap (l : Launch) {y : bt_Y} (hy : bt_yo y) : bt_MS l y yX5_gap cX5_gap 3 (some .int) (bw_rm 2 43) sX5_gap := bt_met hy mX5_gap bt_okX5_gap bw_fX5 (List.forall_mem_cons.mpr ⟨bt_CSV (na := 1) (ci := 5) (rc := (RX5, TX5, 9)) (msX5_isStretch l hy) rfl rfl bw_rX5_isStretch bw_lX5_107 bw_iX5_isStretch bw_sX5_isStretch bw_zX5 bw_cX5_isStretch bw_dX5_isStretch (by decide) ⟨rfl, rfl⟩, List.forall_mem_cons.mpr ⟨bt_CSS (na := 3) (msX5_within l hy) bw_lX5_51 bw_iX5_within bw_zX5 bw_cX5_within bw_dX5_within (by decide) ⟨rfl, rfl⟩, List.forall_mem_cons.mpr ⟨bt_CSS (na := 3) (msX5_exchange l hy) bw_lX5_158 bw_iX5_exchange bw_zX5 bw_cX5_exchange bw_dX5_exchange (by decide) ⟨rfl, rfl⟩, fun _ h => absurd h List.not_mem_nil⟩⟩⟩) rfl (by decide) ⟨by decide, rfl⟩ bw_nX5_gap
theorem bw_nX5_sight : ∀ as M N Rt, sX5_sight as M N Rt → bt_sum as ≤ 3 := by
  intro as M N Rt h
  obtain ⟨t, S, r, S1, rfl, -, hf, -⟩ := bt_spC_e h
  unfold f_sight at hf
  split at hf
  · exact Nat.le_of_ble_eq_true rfl
  · cases hf
theorem bw_rX5_sight : ∀ as M N Rt, sX5_sight as M N Rt → ∃ c t n, as = .ref c :: t ∧ bt_sh c = (0, 5, n) := by
  intro as M N Rt h
  obtain ⟨t, S, r, S1, rfl, -⟩ := bt_spC_e h
  exact ⟨_, _, _, rfl, rfl⟩
theorem msX5_sight (l : Launch) {y : bt_Y} (hy : bt_yo y) : bt_MS l y yX5_sight cX5_sight 3 (some .int) (bw_rm 2 43) sX5_sight := bt_met hy mX5_sight bt_okX5_sight bw_fX5 (List.forall_mem_cons.mpr ⟨bt_CSV (na := 1) (ci := 5) (rc := (RX5, TX5, 9)) (msX5_isStretch l hy) rfl rfl bw_rX5_isStretch bw_lX5_107 bw_iX5_isStretch bw_sX5_isStretch bw_zX5 bw_cX5_isStretch bw_dX5_isStretch (by decide) ⟨rfl, rfl⟩, List.forall_mem_cons.mpr ⟨bt_CSS (na := 3) (msX5_within l hy) bw_lX5_51 bw_iX5_within bw_zX5 bw_cX5_within bw_dX5_within (by decide) ⟨rfl, rfl⟩, List.forall_mem_cons.mpr ⟨bt_CSS (na := 3) (msX5_exchange l hy) bw_lX5_158 bw_iX5_exchange bw_zX5 bw_cX5_exchange bw_dX5_exchange (by decide) ⟨rfl, rfl⟩, fun _ h => absurd h List.not_mem_nil⟩⟩⟩) rfl (by decide) ⟨by decide, rfl⟩ bw_nX5_sight
theorem bw_nX5_odd : ∀ as M N Rt, sX5_odd as M N Rt → bt_sum as ≤ 3 := by
  intro as M N Rt h
  obtain ⟨t, S, r, S1, rfl, -, hf, -⟩ := bt_spC_e h
  unfold f_odd at hf
  split at hf
  · exact Nat.le_of_ble_eq_true rfl
  · cases hf
theorem bw_rX5_odd : ∀ as M N Rt, sX5_odd as M N Rt → ∃ c t n, as = .ref c :: t ∧ bt_sh c = (0, 5, n) := by
  intro as M N Rt h
  obtain ⟨t, S, r, S1, rfl, -⟩ := bt_spC_e h
  exact ⟨_, _, _, rfl, rfl⟩
theorem msX5_odd (l : Launch) {y : bt_Y} (hy : bt_yo y) : bt_MS l y yX5_odd cX5_odd 3 (some .int) (bw_rm 2 43) sX5_odd := bt_met hy mX5_odd bt_okX5_odd bw_fX5 (List.forall_mem_cons.mpr ⟨bt_CSV (na := 1) (ci := 5) (rc := (RX5, TX5, 9)) (msX5_isStretch l hy) rfl rfl bw_rX5_isStretch bw_lX5_107 bw_iX5_isStretch bw_sX5_isStretch bw_zX5 bw_cX5_isStretch bw_dX5_isStretch (by decide) ⟨rfl, rfl⟩, List.forall_mem_cons.mpr ⟨bt_CSS (na := 3) (msX5_within l hy) bw_lX5_51 bw_iX5_within bw_zX5 bw_cX5_within bw_dX5_within (by decide) ⟨rfl, rfl⟩, List.forall_mem_cons.mpr ⟨bt_CSS (na := 3) (msX5_exchange l hy) bw_lX5_158 bw_iX5_exchange bw_zX5 bw_cX5_exchange bw_dX5_exchange (by decide) ⟨rfl, rfl⟩, fun _ h => absurd h List.not_mem_nil⟩⟩⟩) rfl (by decide) ⟨by decide, rfl⟩ bw_nX5_odd
theorem bw_nX5_withBit : ∀ as M N Rt, sX5_withBit as M N Rt → bt_sum as ≤ 3 := by
  intro as M N Rt h
  unfold sX5_withBit at h
  split at h
  · exact Nat.le_of_ble_eq_true rfl
  · exact False.elim h
theorem msX5_withBit (l : Launch) {y : bt_Y} (hy : bt_yo y) : bt_MS l y yX5_withBit cX5_withBit 3 (some .int) (bw_rm 0 0) sX5_withBit := bt_met hy mX5_withBit bt_okX5_withBit bw_fX5 (fun _ h => absurd h List.not_mem_nil) rfl (by decide) ⟨by decide, rfl⟩ bw_nX5_withBit
theorem bw_nX5_build : ∀ as M N Rt, sX5_build as M N Rt → bt_sum as ≤ 5 := by
  intro as M N Rt h
  obtain ⟨t, S, r, S1, rfl, -, hf, -⟩ := bt_spC_e h
  unfold f_build at hf
  split at hf
  · exact Nat.le_of_ble_eq_true rfl
  · cases hf
theorem bw_rX5_build : ∀ as M N Rt, sX5_build as M N Rt → ∃ c t n, as = .ref c :: t ∧ bt_sh c = (0, 5, n) := by
  intro as M N Rt h
  obtain ⟨t, S, r, S1, rfl, -⟩ := bt_spC_e h
  exact ⟨_, _, _, rfl, rfl⟩
theorem msX5_build (l : Launch) {y : bt_Y} (hy : bt_yo y) : bt_MS l y yX5_build cX5_build 5 (some .int) (bw_rm 2 43) sX5_build := bt_met hy mX5_build bt_okX5_build bw_fX5 (List.forall_mem_cons.mpr ⟨bt_CSV (na := 1) (ci := 5) (rc := (RX5, TX5, 9)) (msX5_isStretch l hy) rfl rfl bw_rX5_isStretch bw_lX5_107 bw_iX5_isStretch bw_sX5_isStretch bw_zX5 bw_cX5_isStretch bw_dX5_isStretch (by decide) ⟨rfl, rfl⟩, List.forall_mem_cons.mpr ⟨bt_CSS (na := 2) (msX5_bit l hy) bw_lX5_126 bw_iX5_bit bw_zX5 bw_cX5_bit bw_dX5_bit (by decide) ⟨rfl, rfl⟩, List.forall_mem_cons.mpr ⟨bt_CSS (na := 3) (msX5_withBit l hy) bw_lX5_162 bw_iX5_withBit bw_zX5 bw_cX5_withBit bw_dX5_withBit (by decide) ⟨rfl, rfl⟩, fun _ h => absurd h List.not_mem_nil⟩⟩⟩) rfl (by decide) ⟨by decide, rfl⟩ bw_nX5_build
theorem bw_nX5_polite : ∀ as M N Rt, sX5_polite as M N Rt → bt_sum as ≤ 3 := by
  intro as M N Rt h
  obtain ⟨t, S, r, S1, rfl, -, hf, -⟩ := bt_spC_e h
  unfold f_polite at hf
  split at hf
  · exact Nat.le_of_ble_eq_true rfl
  · cases hf
theorem bw_rX5_polite : ∀ as M N Rt, sX5_polite as M N Rt → ∃ c t n, as = .ref c :: t ∧ bt_sh c = (0, 5, n) := by
  intro as M N Rt h
  obtain ⟨t, S, r, S1, rfl, -⟩ := bt_spC_e h
  exact ⟨_, _, _, rfl, rfl⟩
theorem msX5_polite (l : Launch) {y : bt_Y} (hy : bt_yo y) : bt_MS l y yX5_polite cX5_polite 3 (some .int) (bw_rm 1 22) sX5_polite := bt_met hy mX5_polite bt_okX5_polite bw_fX5 (List.forall_mem_cons.mpr ⟨bt_CSS (na := 3) (msX5_within l hy) bw_lX5_51 bw_iX5_within bw_zX5 bw_cX5_within bw_dX5_within (by decide) ⟨rfl, rfl⟩, fun _ h => absurd h List.not_mem_nil⟩) rfl (by decide) ⟨by decide, rfl⟩ bw_nX5_polite
theorem bw_nX5_teach : ∀ as M N Rt, sX5_teach as M N Rt → bt_sum as ≤ 4 := by
  intro as M N Rt h
  obtain ⟨t, S, r, S1, rfl, -, hf, -⟩ := bt_spC_e h
  unfold f_teach at hf
  split at hf
  · exact Nat.le_of_ble_eq_true rfl
  · cases hf
theorem bw_rX5_teach : ∀ as M N Rt, sX5_teach as M N Rt → ∃ c t n, as = .ref c :: t ∧ bt_sh c = (0, 5, n) := by
  intro as M N Rt h
  obtain ⟨t, S, r, S1, rfl, -⟩ := bt_spC_e h
  exact ⟨_, _, _, rfl, rfl⟩
theorem msX5_teach (l : Launch) {y : bt_Y} (hy : bt_yo y) : bt_MS l y yX5_teach cX5_teach 4 (some .int) (bw_rm 2 43) sX5_teach := bt_met hy mX5_teach bt_okX5_teach bw_fX5 (List.forall_mem_cons.mpr ⟨bt_CSV (na := 1) (ci := 5) (rc := (RX5, TX5, 9)) (msX5_isCar l hy) rfl rfl bw_rX5_isCar bw_lX5_136 bw_iX5_isCar bw_sX5_isCar bw_zX5 bw_cX5_isCar bw_dX5_isCar (by decide) ⟨rfl, rfl⟩, List.forall_mem_cons.mpr ⟨bt_CSS (na := 3) (msX5_within l hy) bw_lX5_51 bw_iX5_within bw_zX5 bw_cX5_within bw_dX5_within (by decide) ⟨rfl, rfl⟩, List.forall_mem_cons.mpr ⟨bt_CSS (na := 3) (msX5_exchange l hy) bw_lX5_158 bw_iX5_exchange bw_zX5 bw_cX5_exchange bw_dX5_exchange (by decide) ⟨rfl, rfl⟩, fun _ h => absurd h List.not_mem_nil⟩⟩⟩) rfl (by decide) ⟨by decide, rfl⟩ bw_nX5_teach
theorem bw_nX5_drive : ∀ as M N Rt, sX5_drive as M N Rt → bt_sum as ≤ 2 := by
  intro as M N Rt h
  obtain ⟨t, S, r, S1, rfl, -, hf, -⟩ := bt_spC_e h
  unfold f_drive at hf
  split at hf
  · exact Nat.le_of_ble_eq_true rfl
  · cases hf
theorem bw_rX5_drive : ∀ as M N Rt, sX5_drive as M N Rt → ∃ c t n, as = .ref c :: t ∧ bt_sh c = (0, 5, n) := by
  intro as M N Rt h
  obtain ⟨t, S, r, S1, rfl, -⟩ := bt_spC_e h
  exact ⟨_, _, _, rfl, rfl⟩
theorem msX5_drive (l : Launch) {y : bt_Y} (hy : bt_yo y) : bt_MS l y yX5_drive cX5_drive 2 (some .int) (bw_rm 4 96) sX5_drive := bt_met hy mX5_drive bt_okX5_drive bw_fX5 (List.forall_mem_cons.mpr ⟨bt_CSS (na := 3) (msX5_within l hy) bw_lX5_51 bw_iX5_within bw_zX5 bw_cX5_within bw_dX5_within (by decide) ⟨rfl, rfl⟩, List.forall_mem_cons.mpr ⟨bt_CSV (na := 0) (ci := 4) (rc := (RX4, TX4, 18)) (msX4_allHaveCome l hy) rfl rfl bw_rX4_allHaveCome bw_lX5_166 bw_iX4_allHaveCome bw_sX4_allHaveCome bw_zX4 bw_cX4_allHaveCome bw_dX4_allHaveCome (by decide) ⟨rfl, rfl⟩, List.forall_mem_cons.mpr ⟨bt_CSV (na := 1) (ci := 4) (rc := (RX4, TX4, 18)) (msX4_driveOne l hy) rfl rfl bw_rX4_driveOne bw_lX5_170 bw_iX4_driveOne bw_sX4_driveOne bw_zX4 bw_cX4_driveOne bw_dX4_driveOne (by decide) ⟨rfl, rfl⟩, fun _ h => absurd h List.not_mem_nil⟩⟩⟩) rfl (by decide) ⟨by decide, rfl⟩ bw_nX5_drive
theorem bw_nX5_on : ∀ as M N Rt, sX5_on as M N Rt → bt_sum as ≤ 1 := by
  intro as M N Rt h
  obtain ⟨t, S, r, S1, rfl, -, hf, -⟩ := bt_spC_e h
  unfold f_on at hf
  split at hf
  · exact Nat.le_of_ble_eq_true rfl
  · cases hf
theorem bw_rX5_on : ∀ as M N Rt, sX5_on as M N Rt → ∃ c t n, as = .ref c :: t ∧ bt_sh c = (0, 5, n) := by
  intro as M N Rt h
  obtain ⟨t, S, r, S1, rfl, -⟩ := bt_spC_e h
  exact ⟨_, _, _, rfl, rfl⟩
theorem msX5_on (l : Launch) {y : bt_Y} (hy : bt_yo y) : bt_MS l y yX5_on cX5_on 1 (some .int) (bw_rm 4 96) sX5_on := bt_met hy mX5_on bt_okX5_on bw_fX5 (List.forall_mem_cons.mpr ⟨bt_CSV (na := 0) (ci := 4) (rc := (RX4, TX4, 18)) (msX4_allHaveCome l hy) rfl rfl bw_rX4_allHaveCome bw_lX5_166 bw_iX4_allHaveCome bw_sX4_allHaveCome bw_zX4 bw_cX4_allHaveCome bw_dX4_allHaveCome (by decide) ⟨rfl, rfl⟩, List.forall_mem_cons.mpr ⟨bt_CSV (na := 1) (ci := 4) (rc := (RX4, TX4, 18)) (msX4_driveOne l hy) rfl rfl bw_rX4_driveOne bw_lX5_170 bw_iX4_driveOne bw_sX4_driveOne bw_zX4 bw_cX4_driveOne bw_dX4_driveOne (by decide) ⟨rfl, rfl⟩, fun _ h => absurd h List.not_mem_nil⟩⟩) rfl (by decide) ⟨by decide, rfl⟩ bw_nX5_on
theorem bw_nX5_ahead : ∀ as M N Rt, sX5_ahead as M N Rt → bt_sum as ≤ 4 := by
  intro as M N Rt h
  obtain ⟨t, S, r, S1, rfl, -, hf, -⟩ := bt_spC_e h
  unfold f_ahead at hf
  split at hf
  · exact Nat.le_of_ble_eq_true rfl
  · cases hf
theorem bw_rX5_ahead : ∀ as M N Rt, sX5_ahead as M N Rt → ∃ c t n, as = .ref c :: t ∧ bt_sh c = (0, 5, n) := by
  intro as M N Rt h
  obtain ⟨t, S, r, S1, rfl, -⟩ := bt_spC_e h
  exact ⟨_, _, _, rfl, rfl⟩
theorem msX5_ahead (l : Launch) {y : bt_Y} (hy : bt_yo y) : bt_MS l y yX5_ahead cX5_ahead 4 (some .int) (bw_rm 5 117) sX5_ahead := bt_met hy mX5_ahead bt_okX5_ahead bw_fX5 (List.forall_mem_cons.mpr ⟨bt_CSV (na := 1) (ci := 5) (rc := (RX5, TX5, 9)) (msX5_isCar l hy) rfl rfl bw_rX5_isCar bw_lX5_136 bw_iX5_isCar bw_sX5_isCar bw_zX5 bw_cX5_isCar bw_dX5_isCar (by decide) ⟨rfl, rfl⟩, List.forall_mem_cons.mpr ⟨bt_CSS (na := 3) (msX5_within l hy) bw_lX5_51 bw_iX5_within bw_zX5 bw_cX5_within bw_dX5_within (by decide) ⟨rfl, rfl⟩, List.forall_mem_cons.mpr ⟨bt_CSV (na := 1) (ci := 4) (rc := (RX4, TX4, 18)) (msX4_takeFrom l hy) rfl rfl bw_rX4_takeFrom bw_lX5_76 bw_iX4_takeFrom bw_sX4_takeFrom bw_zX4 bw_cX4_takeFrom bw_dX4_takeFrom (by decide) ⟨rfl, rfl⟩, List.forall_mem_cons.mpr ⟨bt_CSV (na := 0) (ci := 4) (rc := (RX4, TX4, 18)) (msX4_driveToEnd l hy) rfl rfl bw_rX4_driveToEnd bw_lX5_173 bw_iX4_driveToEnd bw_sX4_driveToEnd bw_zX4 bw_cX4_driveToEnd bw_dX4_driveToEnd (by decide) ⟨rfl, rfl⟩, List.forall_mem_cons.mpr ⟨bt_CSV (na := 1) (ci := 4) (rc := (RX4, TX4, 18)) (msX4_driveOne l hy) rfl rfl bw_rX4_driveOne bw_lX5_170 bw_iX4_driveOne bw_sX4_driveOne bw_zX4 bw_cX4_driveOne bw_dX4_driveOne (by decide) ⟨rfl, rfl⟩, List.forall_mem_cons.mpr ⟨bt_CSS (na := 2) (msX5_bit l hy) bw_lX5_126 bw_iX5_bit bw_zX5 bw_cX5_bit bw_dX5_bit (by decide) ⟨rfl, rfl⟩, fun _ h => absurd h List.not_mem_nil⟩⟩⟩⟩⟩⟩) rfl (by decide) ⟨by decide, rfl⟩ bw_nX5_ahead
theorem bw_nX5_tail : ∀ as M N Rt, sX5_tail as M N Rt → bt_sum as ≤ 4 := by
  intro as M N Rt h
  obtain ⟨t, S, r, S1, rfl, -, hf, -⟩ := bt_spC_e h
  unfold f_tail at hf
  split at hf
  · exact Nat.le_of_ble_eq_true rfl
  · cases hf
theorem bw_rX5_tail : ∀ as M N Rt, sX5_tail as M N Rt → ∃ c t n, as = .ref c :: t ∧ bt_sh c = (0, 5, n) := by
  intro as M N Rt h
  obtain ⟨t, S, r, S1, rfl, -⟩ := bt_spC_e h
  exact ⟨_, _, _, rfl, rfl⟩
theorem msX5_tail (l : Launch) {y : bt_Y} (hy : bt_yo y) : bt_MS l y yX5_tail cX5_tail 4 (some .int) (bw_rm 4 96) sX5_tail := bt_met hy mX5_tail bt_okX5_tail bw_fX5 (List.forall_mem_cons.mpr ⟨bt_CSS (na := 3) (msX5_within l hy) bw_lX5_51 bw_iX5_within bw_zX5 bw_cX5_within bw_dX5_within (by decide) ⟨rfl, rfl⟩, List.forall_mem_cons.mpr ⟨bt_CSV (na := 1) (ci := 4) (rc := (RX4, TX4, 18)) (msX4_takeFrom l hy) rfl rfl bw_rX4_takeFrom bw_lX5_76 bw_iX4_takeFrom bw_sX4_takeFrom bw_zX4 bw_cX4_takeFrom bw_dX4_takeFrom (by decide) ⟨rfl, rfl⟩, List.forall_mem_cons.mpr ⟨bw_mn bw_lX5_176 (by decide), List.forall_mem_cons.mpr ⟨bt_CSV (na := 1) (ci := 4) (rc := (RX4, TX4, 18)) (msX4_driveOne l hy) rfl rfl bw_rX4_driveOne bw_lX5_170 bw_iX4_driveOne bw_sX4_driveOne bw_zX4 bw_cX4_driveOne bw_dX4_driveOne (by decide) ⟨rfl, rfl⟩, List.forall_mem_cons.mpr ⟨bt_CSV (na := 1) (ci := 4) (rc := (RX4, TX4, 18)) (msX4_behind l hy) rfl rfl bw_rX4_behind bw_lX5_181 bw_iX4_behind bw_sX4_behind bw_zX4 bw_cX4_behind bw_dX4_behind (by decide) ⟨rfl, rfl⟩, fun _ h => absurd h List.not_mem_nil⟩⟩⟩⟩⟩) rfl (by decide) ⟨by decide, rfl⟩ bw_nX5_tail
theorem bw_nX5_lost : ∀ as M N Rt, sX5_lost as M N Rt → bt_sum as ≤ 2 := by
  intro as M N Rt h
  obtain ⟨t, S, r, S1, rfl, -, hf, -⟩ := bt_spC_e h
  unfold f_lost at hf
  split at hf
  · exact Nat.le_of_ble_eq_true rfl
  · cases hf
theorem bw_rX5_lost : ∀ as M N Rt, sX5_lost as M N Rt → ∃ c t n, as = .ref c :: t ∧ bt_sh c = (0, 5, n) := by
  intro as M N Rt h
  obtain ⟨t, S, r, S1, rfl, -⟩ := bt_spC_e h
  exact ⟨_, _, _, rfl, rfl⟩
theorem msX5_lost (l : Launch) {y : bt_Y} (hy : bt_yo y) : bt_MS l y yX5_lost cX5_lost 2 (some .int) (bw_rm 5 117) sX5_lost := bt_met hy mX5_lost bt_okX5_lost bw_fX5 (List.forall_mem_cons.mpr ⟨bt_CSV (na := 1) (ci := 4) (rc := (RX4, TX4, 18)) (msX4_takeFrom l hy) rfl rfl bw_rX4_takeFrom bw_lX5_76 bw_iX4_takeFrom bw_sX4_takeFrom bw_zX4 bw_cX4_takeFrom bw_dX4_takeFrom (by decide) ⟨rfl, rfl⟩, List.forall_mem_cons.mpr ⟨bt_CSV (na := 0) (ci := 4) (rc := (RX4, TX4, 18)) (msX4_everybody l hy) rfl rfl bw_rX4_everybody bw_lX5_184 bw_iX4_everybody bw_sX4_everybody bw_zX4 bw_cX4_everybody bw_dX4_everybody (by decide) ⟨rfl, rfl⟩, List.forall_mem_cons.mpr ⟨bt_CSV (na := 0) (ci := 4) (rc := (RX4, TX4, 18)) (msX4_driveToEnd l hy) rfl rfl bw_rX4_driveToEnd bw_lX5_173 bw_iX4_driveToEnd bw_sX4_driveToEnd bw_zX4 bw_cX4_driveToEnd bw_dX4_driveToEnd (by decide) ⟨rfl, rfl⟩, fun _ h => absurd h List.not_mem_nil⟩⟩⟩) rfl (by decide) ⟨by decide, rfl⟩ bw_nX5_lost
theorem bw_nX5_lowest : ∀ as M N Rt, sX5_lowest as M N Rt → bt_sum as ≤ 12 := by
  intro as M N Rt h
  unfold sX5_lowest at h
  split at h
  · exact Nat.le_of_ble_eq_true rfl
  · exact False.elim h
theorem msX5_lowest (l : Launch) {y : bt_Y} (hy : bt_yo y) : bt_MS l y yX5_lowest cX5_lowest 12 (some .long) (bw_rm 0 0) sX5_lowest := bt_met hy mX5_lowest bt_okX5_lowest bw_fX5 (fun _ h => absurd h List.not_mem_nil) rfl (by decide) ⟨by decide, rfl⟩ bw_nX5_lowest
theorem bw_nX5_past : ∀ as M N Rt, sX5_past as M N Rt → bt_sum as ≤ 3 := by
  intro as M N Rt h
  obtain ⟨t, S, r, S1, rfl, -, hf, -⟩ := bt_spC_e h
  unfold f_past at hf
  split at hf
  · exact Nat.le_of_ble_eq_true rfl
  · cases hf
theorem bw_rX5_past : ∀ as M N Rt, sX5_past as M N Rt → ∃ c t n, as = .ref c :: t ∧ bt_sh c = (0, 5, n) := by
  intro as M N Rt h
  obtain ⟨t, S, r, S1, rfl, -⟩ := bt_spC_e h
  exact ⟨_, _, _, rfl, rfl⟩
theorem msX5_past (l : Launch) {y : bt_Y} (hy : bt_yo y) : bt_MS l y yX5_past cX5_past 3 (some .long) (bw_rm 5 120) sX5_past := bt_met hy mX5_past bt_okX5_past bw_fX5 (List.forall_mem_cons.mpr ⟨bt_CSV (na := 1) (ci := 5) (rc := (RX5, TX5, 9)) (msX5_isCar l hy) rfl rfl bw_rX5_isCar bw_lX5_136 bw_iX5_isCar bw_sX5_isCar bw_zX5 bw_cX5_isCar bw_dX5_isCar (by decide) ⟨rfl, rfl⟩, List.forall_mem_cons.mpr ⟨bt_CSS (na := 3) (msX5_within l hy) bw_lX5_51 bw_iX5_within bw_zX5 bw_cX5_within bw_dX5_within (by decide) ⟨rfl, rfl⟩, List.forall_mem_cons.mpr ⟨bt_CSV (na := 2) (ci := 1) (rc := (RX1, TX1, 4)) (msX1_spread l hy) rfl rfl bw_rX1_spread bw_lX5_189 bw_iX1_spread bw_sX1_spread bw_zX1 bw_cX1_spread bw_dX1_spread (by decide) ⟨rfl, rfl⟩, List.forall_mem_cons.mpr ⟨bt_CSV (na := 1) (ci := 1) (rc := (RX1, TX1, 4)) (msX1_weightOfGone l hy) rfl rfl bw_rX1_weightOfGone bw_lX5_193 bw_iX1_weightOfGone bw_sX1_weightOfGone bw_zX1 bw_cX1_weightOfGone bw_dX1_weightOfGone (by decide) ⟨rfl, rfl⟩, List.forall_mem_cons.mpr ⟨bt_CSS (na := 3) (msX5_lowest l hy) bw_lX5_201 bw_iX5_lowest bw_zX5 bw_cX5_lowest bw_dX5_lowest (by decide) ⟨rfl, rfl⟩, fun _ h => absurd h List.not_mem_nil⟩⟩⟩⟩⟩) rfl (by decide) ⟨by decide, rfl⟩ bw_nX5_past
theorem bw_nX5_mean : ∀ as M N Rt, sX5_mean as M N Rt → bt_sum as ≤ 5 := by
  intro as M N Rt h
  obtain ⟨t, S, r, S1, rfl, -, hf, -⟩ := bt_spC_e h
  unfold f_mean at hf
  split at hf
  · exact Nat.le_of_ble_eq_true rfl
  · cases hf
theorem bw_rX5_mean : ∀ as M N Rt, sX5_mean as M N Rt → ∃ c t n, as = .ref c :: t ∧ bt_sh c = (0, 5, n) := by
  intro as M N Rt h
  obtain ⟨t, S, r, S1, rfl, -⟩ := bt_spC_e h
  exact ⟨_, _, _, rfl, rfl⟩
theorem msX5_mean (l : Launch) {y : bt_Y} (hy : bt_yo y) : bt_MS l y yX5_mean cX5_mean 5 (some .long) (bw_rm 5 124) sX5_mean := bt_met hy mX5_mean bt_okX5_mean bw_fX5 (List.forall_mem_cons.mpr ⟨bt_CSV (na := 1) (ci := 5) (rc := (RX5, TX5, 9)) (msX5_isCar l hy) rfl rfl bw_rX5_isCar bw_lX5_136 bw_iX5_isCar bw_sX5_isCar bw_zX5 bw_cX5_isCar bw_dX5_isCar (by decide) ⟨rfl, rfl⟩, List.forall_mem_cons.mpr ⟨bt_CSS (na := 3) (msX5_within l hy) bw_lX5_51 bw_iX5_within bw_zX5 bw_cX5_within bw_dX5_within (by decide) ⟨rfl, rfl⟩, List.forall_mem_cons.mpr ⟨bt_CSV (na := 2) (ci := 1) (rc := (RX1, TX1, 4)) (msX1_weightedTime l hy) rfl rfl bw_rX1_weightedTime bw_lX5_205 bw_iX1_weightedTime bw_sX1_weightedTime bw_zX1 bw_cX1_weightedTime bw_dX1_weightedTime (by decide) ⟨rfl, rfl⟩, List.forall_mem_cons.mpr ⟨bt_CSS (na := 3) (msX5_lowest l hy) bw_lX5_201 bw_iX5_lowest bw_zX5 bw_cX5_lowest bw_dX5_lowest (by decide) ⟨rfl, rfl⟩, fun _ h => absurd h List.not_mem_nil⟩⟩⟩⟩) rfl (by decide) ⟨by decide, rfl⟩ bw_nX5_mean
theorem bw_nX5_row : ∀ as M N Rt, sX5_row as M N Rt → bt_sum as ≤ 5 := by
  intro as M N Rt h
  obtain ⟨t, S, r, S1, rfl, -, hf, -⟩ := bt_spC_e h
  unfold f_row at hf
  split at hf
  · exact Nat.le_of_ble_eq_true rfl
  · cases hf
theorem bw_rX5_row : ∀ as M N Rt, sX5_row as M N Rt → ∃ c t n, as = .ref c :: t ∧ bt_sh c = (0, 5, n) := by
  intro as M N Rt h
  obtain ⟨t, S, r, S1, rfl, -⟩ := bt_spC_e h
  exact ⟨_, _, _, rfl, rfl⟩
theorem msX5_row (l : Launch) {y : bt_Y} (hy : bt_yo y) : bt_MS l y yX5_row cX5_row 5 (some .long) (bw_rm 5 120) sX5_row := bt_met hy mX5_row bt_okX5_row bw_fX5 (List.forall_mem_cons.mpr ⟨bt_CSS (na := 3) (msX5_within l hy) bw_lX5_51 bw_iX5_within bw_zX5 bw_cX5_within bw_dX5_within (by decide) ⟨rfl, rfl⟩, List.forall_mem_cons.mpr ⟨bt_CSV (na := 2) (ci := 1) (rc := (RX1, TX1, 4)) (msX1_spread l hy) rfl rfl bw_rX1_spread bw_lX5_189 bw_iX1_spread bw_sX1_spread bw_zX1 bw_cX1_spread bw_dX1_spread (by decide) ⟨rfl, rfl⟩, List.forall_mem_cons.mpr ⟨bt_CSV (na := 1) (ci := 1) (rc := (RX1, TX1, 4)) (msX1_weightOfGone l hy) rfl rfl bw_rX1_weightOfGone bw_lX5_193 bw_iX1_weightOfGone bw_sX1_weightOfGone bw_zX1 bw_cX1_weightOfGone bw_dX1_weightOfGone (by decide) ⟨rfl, rfl⟩, List.forall_mem_cons.mpr ⟨bt_CSS (na := 3) (msX5_lowest l hy) bw_lX5_201 bw_iX5_lowest bw_zX5 bw_cX5_lowest bw_dX5_lowest (by decide) ⟨rfl, rfl⟩, fun _ h => absurd h List.not_mem_nil⟩⟩⟩⟩) rfl (by decide) ⟨by decide, rfl⟩ bw_nX5_row
theorem bw_nX5_where : ∀ as M N Rt, sX5_where as M N Rt → bt_sum as ≤ 6 := by
  intro as M N Rt h
  obtain ⟨t, S, r, S1, rfl, -, hf, -⟩ := bt_spC_e h
  unfold f_where at hf
  split at hf
  · exact Nat.le_of_ble_eq_true rfl
  · cases hf
theorem bw_rX5_where : ∀ as M N Rt, sX5_where as M N Rt → ∃ c t n, as = .ref c :: t ∧ bt_sh c = (0, 5, n) := by
  intro as M N Rt h
  obtain ⟨t, S, r, S1, rfl, -⟩ := bt_spC_e h
  exact ⟨_, _, _, rfl, rfl⟩
theorem msX5_where (l : Launch) {y : bt_Y} (hy : bt_yo y) : bt_MS l y yX5_where cX5_where 6 (some .long) (bw_rm 5 120) sX5_where := bt_met hy mX5_where bt_okX5_where bw_fX5 (List.forall_mem_cons.mpr ⟨bt_CSV (na := 1) (ci := 5) (rc := (RX5, TX5, 9)) (msX5_isCar l hy) rfl rfl bw_rX5_isCar bw_lX5_136 bw_iX5_isCar bw_sX5_isCar bw_zX5 bw_cX5_isCar bw_dX5_isCar (by decide) ⟨rfl, rfl⟩, List.forall_mem_cons.mpr ⟨bt_CSV (na := 1) (ci := 5) (rc := (RX5, TX5, 9)) (msX5_isStretch l hy) rfl rfl bw_rX5_isStretch bw_lX5_107 bw_iX5_isStretch bw_sX5_isStretch bw_zX5 bw_cX5_isStretch bw_dX5_isStretch (by decide) ⟨rfl, rfl⟩, List.forall_mem_cons.mpr ⟨bt_CSS (na := 3) (msX5_within l hy) bw_lX5_51 bw_iX5_within bw_zX5 bw_cX5_within bw_dX5_within (by decide) ⟨rfl, rfl⟩, List.forall_mem_cons.mpr ⟨bt_CSV (na := 2) (ci := 1) (rc := (RX1, TX1, 4)) (msX1_spread l hy) rfl rfl bw_rX1_spread bw_lX5_189 bw_iX1_spread bw_sX1_spread bw_zX1 bw_cX1_spread bw_dX1_spread (by decide) ⟨rfl, rfl⟩, List.forall_mem_cons.mpr ⟨bt_CSV (na := 1) (ci := 1) (rc := (RX1, TX1, 4)) (msX1_weightOfGone l hy) rfl rfl bw_rX1_weightOfGone bw_lX5_193 bw_iX1_weightOfGone bw_sX1_weightOfGone bw_zX1 bw_cX1_weightOfGone bw_dX1_weightOfGone (by decide) ⟨rfl, rfl⟩, List.forall_mem_cons.mpr ⟨bt_CSV (na := 2) (ci := 1) (rc := (RX1, TX1, 4)) (msX1_spreadOne l hy) rfl rfl bw_rX1_spreadOne bw_lX5_209 bw_iX1_spreadOne bw_sX1_spreadOne bw_zX1 bw_cX1_spreadOne bw_dX1_spreadOne (by decide) ⟨rfl, rfl⟩, List.forall_mem_cons.mpr ⟨bt_CSS (na := 3) (msX5_lowest l hy) bw_lX5_201 bw_iX5_lowest bw_zX5 bw_cX5_lowest bw_dX5_lowest (by decide) ⟨rfl, rfl⟩, fun _ h => absurd h List.not_mem_nil⟩⟩⟩⟩⟩⟩⟩) rfl (by decide) ⟨by decide, rfl⟩ bw_nX5_where
theorem bw_nX5_cost : ∀ as M N Rt, sX5_cost as M N Rt → bt_sum as ≤ 4 := by
  intro as M N Rt h
  obtain ⟨t, S, r, S1, rfl, -, hf, -⟩ := bt_spC_e h
  unfold f_cost at hf
  split at hf
  · exact Nat.le_of_ble_eq_true rfl
  · cases hf
theorem bw_rX5_cost : ∀ as M N Rt, sX5_cost as M N Rt → ∃ c t n, as = .ref c :: t ∧ bt_sh c = (0, 5, n) := by
  intro as M N Rt h
  obtain ⟨t, S, r, S1, rfl, -⟩ := bt_spC_e h
  exact ⟨_, _, _, rfl, rfl⟩
theorem msX5_cost (l : Launch) {y : bt_Y} (hy : bt_yo y) : bt_MS l y yX5_cost cX5_cost 4 (some .int) (bw_rm 5 117) sX5_cost := bt_met hy mX5_cost bt_okX5_cost bw_fX5 (List.forall_mem_cons.mpr ⟨bt_CSV (na := 1) (ci := 5) (rc := (RX5, TX5, 9)) (msX5_isCar l hy) rfl rfl bw_rX5_isCar bw_lX5_136 bw_iX5_isCar bw_sX5_isCar bw_zX5 bw_cX5_isCar bw_dX5_isCar (by decide) ⟨rfl, rfl⟩, List.forall_mem_cons.mpr ⟨bt_CSV (na := 1) (ci := 4) (rc := (RX4, TX4, 18)) (msX4_takeFrom l hy) rfl rfl bw_rX4_takeFrom bw_lX5_76 bw_iX4_takeFrom bw_sX4_takeFrom bw_zX4 bw_cX4_takeFrom bw_dX4_takeFrom (by decide) ⟨rfl, rfl⟩, List.forall_mem_cons.mpr ⟨bt_CSV (na := 0) (ci := 4) (rc := (RX4, TX4, 18)) (msX4_driveToEnd l hy) rfl rfl bw_rX4_driveToEnd bw_lX5_173 bw_iX4_driveToEnd bw_sX4_driveToEnd bw_zX4 bw_cX4_driveToEnd bw_dX4_driveToEnd (by decide) ⟨rfl, rfl⟩, fun _ h => absurd h List.not_mem_nil⟩⟩⟩) rfl (by decide) ⟨by decide, rfl⟩ bw_nX5_cost
theorem bw_nX5_bestPlace : ∀ as M N Rt, sX5_bestPlace as M N Rt → bt_sum as ≤ 8 := by
  intro as M N Rt h
  unfold sX5_bestPlace at h
  split at h
  · exact Nat.le_of_ble_eq_true rfl
  · exact False.elim h
theorem bw_rX5_bestPlace : ∀ as M N Rt, sX5_bestPlace as M N Rt → ∃ c t n, as = .ref c :: t ∧ bt_sh c = (0, 5, n) := by
  intro as M N Rt h
  unfold sX5_bestPlace at h
  split at h
  · obtain ⟨x0, rfl, -⟩ := h <;> exact ⟨_, _, _, rfl, rfl⟩
  · exact False.elim h
theorem msX5_bestPlace (l : Launch) {y : bt_Y} (hy : bt_yo y) : bt_MS l y yX5_bestPlace cX5_bestPlace 8 (some .int) (bw_rm 5 117) sX5_bestPlace := bt_met hy mX5_bestPlace bt_okX5_bestPlace bw_fX5 (List.forall_mem_cons.mpr ⟨bt_CSV (na := 1) (ci := 4) (rc := (RX4, TX4, 18)) (msX4_takeFrom l hy) rfl rfl bw_rX4_takeFrom bw_lX5_76 bw_iX4_takeFrom bw_sX4_takeFrom bw_zX4 bw_cX4_takeFrom bw_dX4_takeFrom (by decide) ⟨rfl, rfl⟩, List.forall_mem_cons.mpr ⟨bt_CSV (na := 0) (ci := 4) (rc := (RX4, TX4, 18)) (msX4_driveToEnd l hy) rfl rfl bw_rX4_driveToEnd bw_lX5_173 bw_iX4_driveToEnd bw_sX4_driveToEnd bw_zX4 bw_cX4_driveToEnd bw_dX4_driveToEnd (by decide) ⟨rfl, rfl⟩, List.forall_mem_cons.mpr ⟨bt_CSS (na := 2) (msX5_bit l hy) bw_lX5_126 bw_iX5_bit bw_zX5 bw_cX5_bit bw_dX5_bit (by decide) ⟨rfl, rfl⟩, List.forall_mem_cons.mpr ⟨bt_CSS (na := 3) (msX5_withBit l hy) bw_lX5_162 bw_iX5_withBit bw_zX5 bw_cX5_withBit bw_dX5_withBit (by decide) ⟨rfl, rfl⟩, fun _ h => absurd h List.not_mem_nil⟩⟩⟩⟩) rfl (by decide) ⟨by decide, rfl⟩ bw_nX5_bestPlace
theorem bw_nX5_third : ∀ as M N Rt, sX5_third as M N Rt → bt_sum as ≤ 2 := by
  intro as M N Rt h
  obtain ⟨t, S, r, S1, rfl, -, hf, -⟩ := bt_spC_e h
  unfold f_third at hf
  split at hf
  · exact Nat.le_of_ble_eq_true rfl
  · cases hf
theorem bw_rX5_third : ∀ as M N Rt, sX5_third as M N Rt → ∃ c t n, as = .ref c :: t ∧ bt_sh c = (0, 5, n) := by
  intro as M N Rt h
  obtain ⟨t, S, r, S1, rfl, -⟩ := bt_spC_e h
  exact ⟨_, _, _, rfl, rfl⟩
theorem msX5_third (l : Launch) {y : bt_Y} (hy : bt_yo y) : bt_MS l y yX5_third cX5_third 2 (some .int) (bw_rm 6 144) sX5_third := bt_met hy mX5_third bt_okX5_third bw_fX5 (List.forall_mem_cons.mpr ⟨bt_CSS (na := 3) (msX5_within l hy) bw_lX5_51 bw_iX5_within bw_zX5 bw_cX5_within bw_dX5_within (by decide) ⟨rfl, rfl⟩, List.forall_mem_cons.mpr ⟨bt_CSV (na := 2) (ci := 5) (rc := (RX5, TX5, 9)) (msX5_bestPlace l hy) rfl rfl bw_rX5_bestPlace bw_lX5_214 bw_iX5_bestPlace bw_sX5_bestPlace bw_zX5 bw_cX5_bestPlace bw_dX5_bestPlace (by decide) ⟨rfl, rfl⟩, fun _ h => absurd h List.not_mem_nil⟩⟩) rfl (by decide) ⟨by decide, rfl⟩ bw_nX5_third
theorem bw_nX5_layby : ∀ as M N Rt, sX5_layby as M N Rt → bt_sum as ≤ 2 := by
  intro as M N Rt h
  obtain ⟨t, S, r, S1, rfl, -, hf, -⟩ := bt_spC_e h
  unfold f_layby at hf
  split at hf
  · exact Nat.le_of_ble_eq_true rfl
  · cases hf
theorem bw_rX5_layby : ∀ as M N Rt, sX5_layby as M N Rt → ∃ c t n, as = .ref c :: t ∧ bt_sh c = (0, 5, n) := by
  intro as M N Rt h
  obtain ⟨t, S, r, S1, rfl, -⟩ := bt_spC_e h
  exact ⟨_, _, _, rfl, rfl⟩
theorem msX5_layby (l : Launch) {y : bt_Y} (hy : bt_yo y) : bt_MS l y yX5_layby cX5_layby 2 (some .int) (bw_rm 6 144) sX5_layby := bt_met hy mX5_layby bt_okX5_layby bw_fX5 (List.forall_mem_cons.mpr ⟨bt_CSS (na := 3) (msX5_within l hy) bw_lX5_51 bw_iX5_within bw_zX5 bw_cX5_within bw_dX5_within (by decide) ⟨rfl, rfl⟩, List.forall_mem_cons.mpr ⟨bt_CSV (na := 2) (ci := 5) (rc := (RX5, TX5, 9)) (msX5_bestPlace l hy) rfl rfl bw_rX5_bestPlace bw_lX5_214 bw_iX5_bestPlace bw_sX5_bestPlace bw_zX5 bw_cX5_bestPlace bw_dX5_bestPlace (by decide) ⟨rfl, rfl⟩, fun _ h => absurd h List.not_mem_nil⟩⟩) rfl (by decide) ⟨by decide, rfl⟩ bw_nX5_layby
theorem bw_nX5_fair : ∀ as M N Rt, sX5_fair as M N Rt → bt_sum as ≤ 6 := by
  intro as M N Rt h
  obtain ⟨t, S, r, S1, rfl, -, hf, -⟩ := bt_spC_e h
  unfold f_fair at hf
  split at hf
  · exact Nat.le_of_ble_eq_true rfl
  · cases hf
theorem bw_rX5_fair : ∀ as M N Rt, sX5_fair as M N Rt → ∃ c t n, as = .ref c :: t ∧ bt_sh c = (0, 5, n) := by
  intro as M N Rt h
  obtain ⟨t, S, r, S1, rfl, -⟩ := bt_spC_e h
  exact ⟨_, _, _, rfl, rfl⟩
theorem msX5_fair (l : Launch) {y : bt_Y} (hy : bt_yo y) : bt_MS l y yX5_fair cX5_fair 6 (some .int) (bw_rm 5 117) sX5_fair := bt_met hy mX5_fair bt_okX5_fair bw_fX5 (List.forall_mem_cons.mpr ⟨bt_CSS (na := 3) (msX5_within l hy) bw_lX5_51 bw_iX5_within bw_zX5 bw_cX5_within bw_dX5_within (by decide) ⟨rfl, rfl⟩, List.forall_mem_cons.mpr ⟨bt_CSV (na := 1) (ci := 4) (rc := (RX4, TX4, 18)) (msX4_takeFrom l hy) rfl rfl bw_rX4_takeFrom bw_lX5_76 bw_iX4_takeFrom bw_sX4_takeFrom bw_zX4 bw_cX4_takeFrom bw_dX4_takeFrom (by decide) ⟨rfl, rfl⟩, List.forall_mem_cons.mpr ⟨bt_CSV (na := 0) (ci := 4) (rc := (RX4, TX4, 18)) (msX4_driveToEnd l hy) rfl rfl bw_rX4_driveToEnd bw_lX5_173 bw_iX4_driveToEnd bw_sX4_driveToEnd bw_zX4 bw_cX4_driveToEnd bw_dX4_driveToEnd (by decide) ⟨rfl, rfl⟩, fun _ h => absurd h List.not_mem_nil⟩⟩⟩) rfl (by decide) ⟨by decide, rfl⟩ bw_nX5_fair
theorem bw_nX5_need : ∀ as M N Rt, sX5_need as M N Rt → bt_sum as ≤ 3 := by
  intro as M N Rt h
  obtain ⟨t, S, r, S1, rfl, -, hf, -⟩ := bt_spC_e h
  unfold f_need at hf
  split at hf
  · exact Nat.le_of_ble_eq_true rfl
  · cases hf
theorem bw_rX5_need : ∀ as M N Rt, sX5_need as M N Rt → ∃ c t n, as = .ref c :: t ∧ bt_sh c = (0, 5, n) := by
  intro as M N Rt h
  obtain ⟨t, S, r, S1, rfl, -⟩ := bt_spC_e h
  exact ⟨_, _, _, rfl, rfl⟩
theorem msX5_need (l : Launch) {y : bt_Y} (hy : bt_yo y) : bt_MS l y yX5_need cX5_need 3 (some .int) (bw_rm 5 117) sX5_need := bt_met hy mX5_need bt_okX5_need bw_fX5 (List.forall_mem_cons.mpr ⟨bt_CSV (na := 1) (ci := 5) (rc := (RX5, TX5, 9)) (msX5_isCar l hy) rfl rfl bw_rX5_isCar bw_lX5_136 bw_iX5_isCar bw_sX5_isCar bw_zX5 bw_cX5_isCar bw_dX5_isCar (by decide) ⟨rfl, rfl⟩, List.forall_mem_cons.mpr ⟨bt_CSS (na := 2) (msX5_bit l hy) bw_lX5_126 bw_iX5_bit bw_zX5 bw_cX5_bit bw_dX5_bit (by decide) ⟨rfl, rfl⟩, List.forall_mem_cons.mpr ⟨bt_CSV (na := 1) (ci := 4) (rc := (RX4, TX4, 18)) (msX4_takeFrom l hy) rfl rfl bw_rX4_takeFrom bw_lX5_76 bw_iX4_takeFrom bw_sX4_takeFrom bw_zX4 bw_cX4_takeFrom bw_dX4_takeFrom (by decide) ⟨rfl, rfl⟩, List.forall_mem_cons.mpr ⟨bt_CSV (na := 0) (ci := 4) (rc := (RX4, TX4, 18)) (msX4_driveToEnd l hy) rfl rfl bw_rX4_driveToEnd bw_lX5_173 bw_iX4_driveToEnd bw_sX4_driveToEnd bw_zX4 bw_cX4_driveToEnd bw_dX4_driveToEnd (by decide) ⟨rfl, rfl⟩, fun _ h => absurd h List.not_mem_nil⟩⟩⟩⟩) rfl (by decide) ⟨by decide, rfl⟩ bw_nX5_need
theorem bw_nX5_dare : ∀ as M N Rt, sX5_dare as M N Rt → bt_sum as ≤ 6 := by
  intro as M N Rt h
  obtain ⟨t, S, r, S1, rfl, -, hf, -⟩ := bt_spC_e h
  unfold f_dare at hf
  split at hf
  · exact Nat.le_of_ble_eq_true rfl
  · cases hf
theorem bw_rX5_dare : ∀ as M N Rt, sX5_dare as M N Rt → ∃ c t n, as = .ref c :: t ∧ bt_sh c = (0, 5, n) := by
  intro as M N Rt h
  obtain ⟨t, S, r, S1, rfl, -⟩ := bt_spC_e h
  exact ⟨_, _, _, rfl, rfl⟩
theorem msX5_dare (l : Launch) {y : bt_Y} (hy : bt_yo y) : bt_MS l y yX5_dare cX5_dare 6 (some .long) (bw_rm 4 98) sX5_dare := bt_met hy mX5_dare bt_okX5_dare bw_fX5 (List.forall_mem_cons.mpr ⟨bt_CSS (na := 3) (msX5_within l hy) bw_lX5_51 bw_iX5_within bw_zX5 bw_cX5_within bw_dX5_within (by decide) ⟨rfl, rfl⟩, List.forall_mem_cons.mpr ⟨bt_CSV (na := 0) (ci := 4) (rc := (RX4, TX4, 18)) (msX4_firstBehind l hy) rfl rfl bw_rX4_firstBehind bw_lX5_218 bw_iX4_firstBehind bw_sX4_firstBehind bw_zX4 bw_cX4_firstBehind bw_dX4_firstBehind (by decide) ⟨rfl, rfl⟩, List.forall_mem_cons.mpr ⟨bt_CSV (na := 3) (ci := 1) (rc := (RX1, TX1, 4)) (msX1_bestDaring l hy) rfl rfl bw_rX1_bestDaring bw_lX5_223 bw_iX1_bestDaring bw_sX1_bestDaring bw_zX1 bw_cX1_bestDaring bw_dX1_bestDaring (by decide) ⟨rfl, rfl⟩, List.forall_mem_cons.mpr ⟨bt_CSS (na := 3) (msX5_lowest l hy) bw_lX5_201 bw_iX5_lowest bw_zX5 bw_cX5_lowest bw_dX5_lowest (by decide) ⟨rfl, rfl⟩, fun _ h => absurd h List.not_mem_nil⟩⟩⟩⟩) rfl (by decide) ⟨by decide, rfl⟩ bw_nX5_dare
theorem bw_nX5_see : ∀ as M N Rt, sX5_see as M N Rt → bt_sum as ≤ 3 := by
  intro as M N Rt h
  obtain ⟨t, S, r, S1, rfl, -, hf, -⟩ := bt_spC_e h
  unfold f_see at hf
  split at hf
  · exact Nat.le_of_ble_eq_true rfl
  · cases hf
theorem bw_rX5_see : ∀ as M N Rt, sX5_see as M N Rt → ∃ c t n, as = .ref c :: t ∧ bt_sh c = (0, 5, n) := by
  intro as M N Rt h
  obtain ⟨t, S, r, S1, rfl, -⟩ := bt_spC_e h
  exact ⟨_, _, _, rfl, rfl⟩
theorem msX5_see (l : Launch) {y : bt_Y} (hy : bt_yo y) : bt_MS l y yX5_see cX5_see 3 (some .int) (bw_rm 2 43) sX5_see := bt_met hy mX5_see bt_okX5_see bw_fX5 (List.forall_mem_cons.mpr ⟨bt_CSV (na := 1) (ci := 5) (rc := (RX5, TX5, 9)) (msX5_isCar l hy) rfl rfl bw_rX5_isCar bw_lX5_136 bw_iX5_isCar bw_sX5_isCar bw_zX5 bw_cX5_isCar bw_dX5_isCar (by decide) ⟨rfl, rfl⟩, List.forall_mem_cons.mpr ⟨bt_CSS (na := 3) (msX5_within l hy) bw_lX5_51 bw_iX5_within bw_zX5 bw_cX5_within bw_dX5_within (by decide) ⟨rfl, rfl⟩, List.forall_mem_cons.mpr ⟨bt_CSV (na := 2) (ci := 0) (rc := (RX0, TX0, 11)) (msX0_add l hy) rfl rfl bw_rX0_add bw_lX5_230 bw_iX0_add bw_sX0_add bw_zX0 bw_cX0_add bw_dX0_add (by decide) ⟨rfl, rfl⟩, fun _ h => absurd h List.not_mem_nil⟩⟩⟩) rfl (by decide) ⟨by decide, rfl⟩ bw_nX5_see
theorem bw_nX5_forget : ∀ as M N Rt, sX5_forget as M N Rt → bt_sum as ≤ 3 := by
  intro as M N Rt h
  obtain ⟨t, S, r, S1, rfl, -, hf, -⟩ := bt_spC_e h
  unfold f_forget at hf
  split at hf
  · exact Nat.le_of_ble_eq_true rfl
  · cases hf
theorem bw_rX5_forget : ∀ as M N Rt, sX5_forget as M N Rt → ∃ c t n, as = .ref c :: t ∧ bt_sh c = (0, 5, n) := by
  intro as M N Rt h
  obtain ⟨t, S, r, S1, rfl, -⟩ := bt_spC_e h
  exact ⟨_, _, _, rfl, rfl⟩
theorem msX5_forget (l : Launch) {y : bt_Y} (hy : bt_yo y) : bt_MS l y yX5_forget cX5_forget 3 (some .int) (bw_rm 1 22) sX5_forget := bt_met hy mX5_forget bt_okX5_forget bw_fX5 (List.forall_mem_cons.mpr ⟨bt_CSS (na := 3) (msX5_within l hy) bw_lX5_51 bw_iX5_within bw_zX5 bw_cX5_within bw_dX5_within (by decide) ⟨rfl, rfl⟩, fun _ h => absurd h List.not_mem_nil⟩) rfl (by decide) ⟨by decide, rfl⟩ bw_nX5_forget
theorem bw_nX5_fits : ∀ as M N Rt, sX5_fits as M N Rt → bt_sum as ≤ 2 := by
  intro as M N Rt h
  obtain ⟨t, S, r, S1, rfl, -, hf, -⟩ := bt_spC_e h
  unfold f_fits at hf
  split at hf
  · exact Nat.le_of_ble_eq_true rfl
  · cases hf
theorem bw_rX5_fits : ∀ as M N Rt, sX5_fits as M N Rt → ∃ c t n, as = .ref c :: t ∧ bt_sh c = (0, 5, n) := by
  intro as M N Rt h
  obtain ⟨t, S, r, S1, rfl, -⟩ := bt_spC_e h
  exact ⟨_, _, _, rfl, rfl⟩
theorem msX5_fits (l : Launch) {y : bt_Y} (hy : bt_yo y) : bt_MS l y yX5_fits cX5_fits 2 (some .int) (bw_rm 5 124) sX5_fits := bt_met hy mX5_fits bt_okX5_fits bw_fX5 (List.forall_mem_cons.mpr ⟨bt_CSS (na := 3) (msX5_within l hy) bw_lX5_51 bw_iX5_within bw_zX5 bw_cX5_within bw_dX5_within (by decide) ⟨rfl, rfl⟩, List.forall_mem_cons.mpr ⟨bt_CSV (na := 1) (ci := 0) (rc := (RX0, TX0, 11)) (msX0_tryAllSets l hy) rfl rfl bw_rX0_tryAllSets bw_lX5_233 bw_iX0_tryAllSets bw_sX0_tryAllSets bw_zX0 bw_cX0_tryAllSets bw_dX0_tryAllSets (by decide) ⟨rfl, rfl⟩, List.forall_mem_cons.mpr ⟨bt_CSV (na := 0) (ci := 4) (rc := (RX4, TX4, 18)) (msX4_stretchesLeft l hy) rfl rfl bw_rX4_stretchesLeft bw_lX5_245 bw_iX4_stretchesLeft bw_sX4_stretchesLeft bw_zX4 bw_cX4_stretchesLeft bw_dX4_stretchesLeft (by decide) ⟨rfl, rfl⟩, fun _ h => absurd h List.not_mem_nil⟩⟩⟩) rfl (by decide) ⟨by decide, rfl⟩ bw_nX5_fits
theorem bw_nX5_could : ∀ as M N Rt, sX5_could as M N Rt → bt_sum as ≤ 1 := by
  intro as M N Rt h
  obtain ⟨t, S, r, S1, rfl, -, hf, -⟩ := bt_spC_e h
  unfold f_could at hf
  split at hf
  · exact Nat.le_of_ble_eq_true rfl
  · cases hf
theorem bw_rX5_could : ∀ as M N Rt, sX5_could as M N Rt → ∃ c t n, as = .ref c :: t ∧ bt_sh c = (0, 5, n) := by
  intro as M N Rt h
  obtain ⟨t, S, r, S1, rfl, -⟩ := bt_spC_e h
  exact ⟨_, _, _, rfl, rfl⟩
theorem msX5_could (l : Launch) {y : bt_Y} (hy : bt_yo y) : bt_MS l y yX5_could cX5_could 1 (some .int) (bw_rm 5 124) sX5_could := bt_met hy mX5_could bt_okX5_could bw_fX5 (List.forall_mem_cons.mpr ⟨bt_CSV (na := 1) (ci := 0) (rc := (RX0, TX0, 11)) (msX0_tryAllSets l hy) rfl rfl bw_rX0_tryAllSets bw_lX5_233 bw_iX0_tryAllSets bw_sX0_tryAllSets bw_zX0 bw_cX0_tryAllSets bw_dX0_tryAllSets (by decide) ⟨rfl, rfl⟩, fun _ h => absurd h List.not_mem_nil⟩) rfl (by decide) ⟨by decide, rfl⟩ bw_nX5_could
theorem bw_nX5_drift : ∀ as M N Rt, sX5_drift as M N Rt → bt_sum as ≤ 5 := by
  intro as M N Rt h
  obtain ⟨t, S, r, S1, rfl, -, hf, -⟩ := bt_spC_e h
  unfold f_drift at hf
  split at hf
  · exact Nat.le_of_ble_eq_true rfl
  · cases hf
theorem bw_rX5_drift : ∀ as M N Rt, sX5_drift as M N Rt → ∃ c t n, as = .ref c :: t ∧ bt_sh c = (0, 5, n) := by
  intro as M N Rt h
  obtain ⟨t, S, r, S1, rfl, -⟩ := bt_spC_e h
  exact ⟨_, _, _, rfl, rfl⟩
theorem msX5_drift (l : Launch) {y : bt_Y} (hy : bt_yo y) : bt_MS l y yX5_drift cX5_drift 5 (some .int) (bw_rm 4 96) sX5_drift := bt_met hy mX5_drift bt_okX5_drift bw_fX5 (List.forall_mem_cons.mpr ⟨bt_CSS (na := 3) (msX5_within l hy) bw_lX5_51 bw_iX5_within bw_zX5 bw_cX5_within bw_dX5_within (by decide) ⟨rfl, rfl⟩, List.forall_mem_cons.mpr ⟨bt_CSV (na := 1) (ci := 4) (rc := (RX4, TX4, 18)) (msX4_takeFrom l hy) rfl rfl bw_rX4_takeFrom bw_lX5_76 bw_iX4_takeFrom bw_sX4_takeFrom bw_zX4 bw_cX4_takeFrom bw_dX4_takeFrom (by decide) ⟨rfl, rfl⟩, List.forall_mem_cons.mpr ⟨bt_CSV (na := 1) (ci := 4) (rc := (RX4, TX4, 18)) (msX4_driveOne l hy) rfl rfl bw_rX4_driveOne bw_lX5_170 bw_iX4_driveOne bw_sX4_driveOne bw_zX4 bw_cX4_driveOne bw_dX4_driveOne (by decide) ⟨rfl, rfl⟩, List.forall_mem_cons.mpr ⟨bt_CSV (na := 0) (ci := 4) (rc := (RX4, TX4, 18)) (msX4_sumOfTimes l hy) rfl rfl bw_rX4_sumOfTimes bw_lX5_255 bw_iX4_sumOfTimes bw_sX4_sumOfTimes bw_zX4 bw_cX4_sumOfTimes bw_dX4_sumOfTimes (by decide) ⟨rfl, rfl⟩, fun _ h => absurd h List.not_mem_nil⟩⟩⟩⟩) rfl (by decide) ⟨by decide, rfl⟩ bw_nX5_drift
theorem bw_nX5_keep : ∀ as M N Rt, sX5_keep as M N Rt → bt_sum as ≤ 3 := by
  intro as M N Rt h
  obtain ⟨t, S, r, S1, rfl, -, hf, -⟩ := bt_spC_e h
  unfold f_keep at hf
  split at hf
  · exact Nat.le_of_ble_eq_true rfl
  · cases hf
theorem bw_rX5_keep : ∀ as M N Rt, sX5_keep as M N Rt → ∃ c t n, as = .ref c :: t ∧ bt_sh c = (0, 5, n) := by
  intro as M N Rt h
  obtain ⟨t, S, r, S1, rfl, -⟩ := bt_spC_e h
  exact ⟨_, _, _, rfl, rfl⟩
theorem msX5_keep (l : Launch) {y : bt_Y} (hy : bt_yo y) : bt_MS l y yX5_keep cX5_keep 3 (some .int) (bw_rm 2 47) sX5_keep := bt_met hy mX5_keep bt_okX5_keep bw_fX5 (List.forall_mem_cons.mpr ⟨bt_CSS (na := 3) (msX5_within l hy) bw_lX5_51 bw_iX5_within bw_zX5 bw_cX5_within bw_dX5_within (by decide) ⟨rfl, rfl⟩, List.forall_mem_cons.mpr ⟨bt_CSS (na := 2) (msX5_bit l hy) bw_lX5_126 bw_iX5_bit bw_zX5 bw_cX5_bit bw_dX5_bit (by decide) ⟨rfl, rfl⟩, List.forall_mem_cons.mpr ⟨bt_CSV (na := 1) (ci := 4) (rc := (RX4, TX4, 18)) (msX4_takeFrom l hy) rfl rfl bw_rX4_takeFrom bw_lX5_76 bw_iX4_takeFrom bw_sX4_takeFrom bw_zX4 bw_cX4_takeFrom bw_dX4_takeFrom (by decide) ⟨rfl, rfl⟩, List.forall_mem_cons.mpr ⟨bt_CSS (na := 3) (msX5_withBit l hy) bw_lX5_162 bw_iX5_withBit bw_zX5 bw_cX5_withBit bw_dX5_withBit (by decide) ⟨rfl, rfl⟩, fun _ h => absurd h List.not_mem_nil⟩⟩⟩⟩) rfl (by decide) ⟨by decide, rfl⟩ bw_nX5_keep
