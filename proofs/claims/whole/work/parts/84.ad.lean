/-! EACH METHOD ON THE MACHINE, 4 -/
theorem bw_nX6_drive : ∀ as M N Rt, sX6_drive as M N Rt → bt_sum as ≤ 2 := by
  intro as M N Rt h
  obtain ⟨t, S, r, S1, rfl, -, hf, -⟩ := bt_spM_e h
  unfold f_drive at hf
  split at hf
  · exact Nat.le_of_ble_eq_true rfl
  · cases hf
theorem bw_rX6_drive : ∀ as M N Rt, sX6_drive as M N Rt → ∃ c t n, as = .ref c :: t ∧ bt_sh c = (0, 6, n) := by
  intro as M N Rt h
  obtain ⟨t, S, r, S1, rfl, -⟩ := bt_spM_e h
  exact ⟨_, _, _, rfl, rfl⟩
theorem msX6_drive (l : Launch) {y : bt_Y} (hy : bt_yo y) : bt_MS l y yX6_drive cX6_drive 2 (some .int) (bw_rm 5 123) sX6_drive := bt_met hy mX6_drive bt_okX6_drive bw_fX6 (List.forall_mem_cons.mpr ⟨bt_CSV (na := 1) (ci := 6) (rc := (RX6, TX6, 27)) (msX6_drives l hy) rfl rfl bw_rX6_drives bw_lX6_193 bw_iX6_drives bw_sX6_drives bw_zX6 bw_cX6_drives bw_dX6_drives (by decide) ⟨rfl, rfl⟩, fun _ h => absurd h List.not_mem_nil⟩) rfl (by decide) ⟨by decide, rfl⟩ bw_nX6_drive
theorem bw_nX6_ownGap : ∀ as M N Rt, sX6_ownGap as M N Rt → bt_sum as ≤ 2 := by
  intro as M N Rt h
  unfold sX6_ownGap at h
  split at h
  · exact Nat.le_of_ble_eq_true rfl
  · exact False.elim h
theorem bw_rX6_ownGap : ∀ as M N Rt, sX6_ownGap as M N Rt → ∃ c t n, as = .ref c :: t ∧ bt_sh c = (0, 6, n) := by
  intro as M N Rt h
  unfold sX6_ownGap at h
  split at h
  · obtain ⟨x0, x1, x2, rfl, -⟩ := h <;> exact ⟨_, _, _, rfl, rfl⟩
  · exact False.elim h
theorem msX6_ownGap (l : Launch) {y : bt_Y} (hy : bt_yo y) : bt_MS l y yX6_ownGap cX6_ownGap 2 (some .int) (bw_rm 0 0) sX6_ownGap := bt_met hy mX6_ownGap bt_okX6_ownGap bw_fX6 (fun _ h => absurd h List.not_mem_nil) rfl (by decide) ⟨by decide, rfl⟩ bw_nX6_ownGap
theorem bw_nX6_on : ∀ as M N Rt, sX6_on as M N Rt → bt_sum as ≤ 1 := by
  intro as M N Rt h
  obtain ⟨t, S, r, S1, rfl, -, hf, -⟩ := bt_spM_e h
  unfold f_on at hf
  split at hf
  · exact Nat.le_of_ble_eq_true rfl
  · cases hf
theorem bw_rX6_on : ∀ as M N Rt, sX6_on as M N Rt → ∃ c t n, as = .ref c :: t ∧ bt_sh c = (0, 6, n) := by
  intro as M N Rt h
  obtain ⟨t, S, r, S1, rfl, -⟩ := bt_spM_e h
  exact ⟨_, _, _, rfl, rfl⟩
theorem msX6_on (l : Launch) {y : bt_Y} (hy : bt_yo y) : bt_MS l y yX6_on cX6_on 1 (some .int) (bw_rm 4 102) sX6_on := bt_met hy mX6_on bt_okX6_on bw_fX6 (List.forall_mem_cons.mpr ⟨bt_CSV (na := 1) (ci := 6) (rc := (RX6, TX6, 27)) (msX6_areLeft l hy) rfl rfl bw_rX6_areLeft bw_lX6_187 bw_iX6_areLeft bw_sX6_areLeft bw_zX6 bw_cX6_areLeft bw_dX6_areLeft (by decide) ⟨rfl, rfl⟩, List.forall_mem_cons.mpr ⟨bt_CSV (na := 1) (ci := 6) (rc := (RX6, TX6, 27)) (msX6_ownGap l hy) rfl rfl bw_rX6_ownGap bw_lX6_196 bw_iX6_ownGap bw_sX6_ownGap bw_zX6 bw_cX6_ownGap bw_dX6_ownGap (by decide) ⟨rfl, rfl⟩, List.forall_mem_cons.mpr ⟨bt_CSV (na := 2) (ci := 6) (rc := (RX6, TX6, 27)) (msX6_driveOn l hy) rfl rfl bw_rX6_driveOn bw_lX6_190 bw_iX6_driveOn bw_sX6_driveOn bw_zX6 bw_cX6_driveOn bw_dX6_driveOn (by decide) ⟨rfl, rfl⟩, fun _ h => absurd h List.not_mem_nil⟩⟩⟩) rfl (by decide) ⟨by decide, rfl⟩ bw_nX6_on
theorem bw_nX6_copies : ∀ as M N Rt, sX6_copies as M N Rt → bt_sum as ≤ 4 := by
  intro as M N Rt h
  unfold sX6_copies at h
  split at h
  · exact Nat.le_of_ble_eq_true rfl
  · exact False.elim h
theorem bw_rX6_copies : ∀ as M N Rt, sX6_copies as M N Rt → ∃ c t n, as = .ref c :: t ∧ bt_sh c = (0, 6, n) := by
  intro as M N Rt h
  unfold sX6_copies at h
  split at h
  · obtain ⟨x0, x1, rfl, -⟩ := h <;> exact ⟨_, _, _, rfl, rfl⟩
  · exact False.elim h
theorem msX6_copies (l : Launch) {y : bt_Y} (hy : bt_yo y) : bt_MS l y yX6_copies cX6_copies 4 none (bw_rm 0 0) sX6_copies := bt_met hy mX6_copies bt_okX6_copies bw_fX6 (fun _ h => absurd h List.not_mem_nil) rfl (by decide) ⟨by decide, rfl⟩ bw_nX6_copies
theorem bw_nX6_triesFrom : ∀ as M N Rt, sX6_triesFrom as M N Rt → bt_sum as ≤ 2 := by
  intro as M N Rt h
  unfold sX6_triesFrom at h
  split at h
  · exact Nat.le_of_ble_eq_true rfl
  · exact False.elim h
theorem bw_rX6_triesFrom : ∀ as M N Rt, sX6_triesFrom as M N Rt → ∃ c t n, as = .ref c :: t ∧ bt_sh c = (0, 6, n) := by
  intro as M N Rt h
  unfold sX6_triesFrom at h
  split at h
  · obtain ⟨x0, x1, rfl, -⟩ := h <;> exact ⟨_, _, _, rfl, rfl⟩
  · exact False.elim h
theorem msX6_triesFrom (l : Launch) {y : bt_Y} (hy : bt_yo y) : bt_MS l y yX6_triesFrom cX6_triesFrom 2 none (bw_rm 4 102) sX6_triesFrom := bt_met hy mX6_triesFrom bt_okX6_triesFrom bw_fX6 (List.forall_mem_cons.mpr ⟨bt_CSV (na := 2) (ci := 6) (rc := (RX6, TX6, 27)) (msX6_copies l hy) rfl rfl bw_rX6_copies bw_lX6_199 bw_iX6_copies bw_sX6_copies bw_zX6 bw_cX6_copies bw_dX6_copies (by decide) ⟨rfl, rfl⟩, List.forall_mem_cons.mpr ⟨bt_CSV (na := 1) (ci := 6) (rc := (RX6, TX6, 27)) (msX6_areLeft l hy) rfl rfl bw_rX6_areLeft bw_lX6_187 bw_iX6_areLeft bw_sX6_areLeft bw_zX6 bw_cX6_areLeft bw_dX6_areLeft (by decide) ⟨rfl, rfl⟩, List.forall_mem_cons.mpr ⟨bt_CSV (na := 1) (ci := 6) (rc := (RX6, TX6, 27)) (msX6_ownGap l hy) rfl rfl bw_rX6_ownGap bw_lX6_196 bw_iX6_ownGap bw_sX6_ownGap bw_zX6 bw_cX6_ownGap bw_dX6_ownGap (by decide) ⟨rfl, rfl⟩, List.forall_mem_cons.mpr ⟨bt_CSV (na := 2) (ci := 6) (rc := (RX6, TX6, 27)) (msX6_driveOn l hy) rfl rfl bw_rX6_driveOn bw_lX6_190 bw_iX6_driveOn bw_sX6_driveOn bw_zX6 bw_cX6_driveOn bw_dX6_driveOn (by decide) ⟨rfl, rfl⟩, fun _ h => absurd h List.not_mem_nil⟩⟩⟩⟩) rfl (by decide) ⟨by decide, rfl⟩ bw_nX6_triesFrom
theorem bw_nX6_timesOn : ∀ as M N Rt, sX6_timesOn as M N Rt → bt_sum as ≤ 4 := by
  intro as M N Rt h
  unfold sX6_timesOn at h
  split at h
  · exact Nat.le_of_ble_eq_true rfl
  · exact False.elim h
theorem bw_rX6_timesOn : ∀ as M N Rt, sX6_timesOn as M N Rt → ∃ c t n, as = .ref c :: t ∧ bt_sh c = (0, 6, n) := by
  intro as M N Rt h
  unfold sX6_timesOn at h
  split at h
  · obtain ⟨x0, x1, rfl, -⟩ := h <;> exact ⟨_, _, _, rfl, rfl⟩
  · exact False.elim h
theorem msX6_timesOn (l : Launch) {y : bt_Y} (hy : bt_yo y) : bt_MS l y yX6_timesOn cX6_timesOn 4 (some .int) (bw_rm 0 0) sX6_timesOn := bt_met hy mX6_timesOn bt_okX6_timesOn bw_fX6 (fun _ h => absurd h List.not_mem_nil) rfl (by decide) ⟨by decide, rfl⟩ bw_nX6_timesOn
theorem bw_nX6_ahead : ∀ as M N Rt, sX6_ahead as M N Rt → bt_sum as ≤ 6 := by
  intro as M N Rt h
  obtain ⟨t, S, r, S1, rfl, -, hf, -⟩ := bt_spM_e h
  unfold f_ahead at hf
  split at hf
  · exact Nat.le_of_ble_eq_true rfl
  · cases hf
theorem bw_rX6_ahead : ∀ as M N Rt, sX6_ahead as M N Rt → ∃ c t n, as = .ref c :: t ∧ bt_sh c = (0, 6, n) := by
  intro as M N Rt h
  obtain ⟨t, S, r, S1, rfl, -⟩ := bt_spM_e h
  exact ⟨_, _, _, rfl, rfl⟩
theorem msX6_ahead (l : Launch) {y : bt_Y} (hy : bt_yo y) : bt_MS l y yX6_ahead cX6_ahead 6 (some .int) (bw_rm 4 102) sX6_ahead := bt_met hy mX6_ahead bt_okX6_ahead bw_fX6 (List.forall_mem_cons.mpr ⟨bt_CSV (na := 1) (ci := 6) (rc := (RX6, TX6, 27)) (msX6_isCar l hy) rfl rfl bw_rX6_isCar bw_lX6_153 bw_iX6_isCar bw_sX6_isCar bw_zX6 bw_cX6_isCar bw_dX6_isCar (by decide) ⟨rfl, rfl⟩, List.forall_mem_cons.mpr ⟨bt_CSS (na := 3) (msX6_in l hy) bw_lX6_46 bw_iX6_in bw_zX6 bw_cX6_in bw_dX6_in (by decide) ⟨rfl, rfl⟩, List.forall_mem_cons.mpr ⟨bt_CSV (na := 2) (ci := 6) (rc := (RX6, TX6, 27)) (msX6_copies l hy) rfl rfl bw_rX6_copies bw_lX6_199 bw_iX6_copies bw_sX6_copies bw_zX6 bw_cX6_copies bw_dX6_copies (by decide) ⟨rfl, rfl⟩, List.forall_mem_cons.mpr ⟨bt_CSV (na := 1) (ci := 6) (rc := (RX6, TX6, 27)) (msX6_areLeft l hy) rfl rfl bw_rX6_areLeft bw_lX6_187 bw_iX6_areLeft bw_sX6_areLeft bw_zX6 bw_cX6_areLeft bw_dX6_areLeft (by decide) ⟨rfl, rfl⟩, List.forall_mem_cons.mpr ⟨bt_CSV (na := 1) (ci := 6) (rc := (RX6, TX6, 27)) (msX6_ownGap l hy) rfl rfl bw_rX6_ownGap bw_lX6_196 bw_iX6_ownGap bw_sX6_ownGap bw_zX6 bw_cX6_ownGap bw_dX6_ownGap (by decide) ⟨rfl, rfl⟩, List.forall_mem_cons.mpr ⟨bt_CSV (na := 2) (ci := 6) (rc := (RX6, TX6, 27)) (msX6_driveOn l hy) rfl rfl bw_rX6_driveOn bw_lX6_190 bw_iX6_driveOn bw_sX6_driveOn bw_zX6 bw_cX6_driveOn bw_dX6_driveOn (by decide) ⟨rfl, rfl⟩, fun _ h => absurd h List.not_mem_nil⟩⟩⟩⟩⟩⟩) rfl (by decide) ⟨by decide, rfl⟩ bw_nX6_ahead
theorem bw_nX6_tail : ∀ as M N Rt, sX6_tail as M N Rt → bt_sum as ≤ 3 := by
  intro as M N Rt h
  obtain ⟨t, S, r, S1, rfl, -, hf, -⟩ := bt_spM_e h
  unfold f_tail at hf
  split at hf
  · exact Nat.le_of_ble_eq_true rfl
  · cases hf
theorem bw_rX6_tail : ∀ as M N Rt, sX6_tail as M N Rt → ∃ c t n, as = .ref c :: t ∧ bt_sh c = (0, 6, n) := by
  intro as M N Rt h
  obtain ⟨t, S, r, S1, rfl, -⟩ := bt_spM_e h
  exact ⟨_, _, _, rfl, rfl⟩
theorem msX6_tail (l : Launch) {y : bt_Y} (hy : bt_yo y) : bt_MS l y yX6_tail cX6_tail 3 (some .int) (bw_rm 4 102) sX6_tail := bt_met hy mX6_tail bt_okX6_tail bw_fX6 (List.forall_mem_cons.mpr ⟨bt_CSS (na := 3) (msX6_in l hy) bw_lX6_46 bw_iX6_in bw_zX6 bw_cX6_in bw_dX6_in (by decide) ⟨rfl, rfl⟩, List.forall_mem_cons.mpr ⟨bt_CSV (na := 2) (ci := 6) (rc := (RX6, TX6, 27)) (msX6_copies l hy) rfl rfl bw_rX6_copies bw_lX6_199 bw_iX6_copies bw_sX6_copies bw_zX6 bw_cX6_copies bw_dX6_copies (by decide) ⟨rfl, rfl⟩, List.forall_mem_cons.mpr ⟨bt_CSV (na := 1) (ci := 6) (rc := (RX6, TX6, 27)) (msX6_areLeft l hy) rfl rfl bw_rX6_areLeft bw_lX6_187 bw_iX6_areLeft bw_sX6_areLeft bw_zX6 bw_cX6_areLeft bw_dX6_areLeft (by decide) ⟨rfl, rfl⟩, List.forall_mem_cons.mpr ⟨bt_CSV (na := 1) (ci := 6) (rc := (RX6, TX6, 27)) (msX6_ownGap l hy) rfl rfl bw_rX6_ownGap bw_lX6_196 bw_iX6_ownGap bw_sX6_ownGap bw_zX6 bw_cX6_ownGap bw_dX6_ownGap (by decide) ⟨rfl, rfl⟩, List.forall_mem_cons.mpr ⟨bt_CSV (na := 2) (ci := 6) (rc := (RX6, TX6, 27)) (msX6_driveOn l hy) rfl rfl bw_rX6_driveOn bw_lX6_190 bw_iX6_driveOn bw_sX6_driveOn bw_zX6 bw_cX6_driveOn bw_dX6_driveOn (by decide) ⟨rfl, rfl⟩, List.forall_mem_cons.mpr ⟨bt_CSV (na := 1) (ci := 6) (rc := (RX6, TX6, 27)) (msX6_pastOn l hy) rfl rfl bw_rX6_pastOn bw_lX6_146 bw_iX6_pastOn bw_sX6_pastOn bw_zX6 bw_cX6_pastOn bw_dX6_pastOn (by decide) ⟨rfl, rfl⟩, fun _ h => absurd h List.not_mem_nil⟩⟩⟩⟩⟩⟩) rfl (by decide) ⟨by decide, rfl⟩ bw_nX6_tail
theorem bw_nX6_milesLeft : ∀ as M N Rt, sX6_milesLeft as M N Rt → bt_sum as ≤ 3 := by
  intro as M N Rt h
  unfold sX6_milesLeft at h
  split at h
  · exact Nat.le_of_ble_eq_true rfl
  · exact False.elim h
theorem bw_rX6_milesLeft : ∀ as M N Rt, sX6_milesLeft as M N Rt → ∃ c t n, as = .ref c :: t ∧ bt_sh c = (0, 6, n) := by
  intro as M N Rt h
  unfold sX6_milesLeft at h
  split at h
  · obtain ⟨x0, rfl, -⟩ := h <;> exact ⟨_, _, _, rfl, rfl⟩
  · exact False.elim h
theorem msX6_milesLeft (l : Launch) {y : bt_Y} (hy : bt_yo y) : bt_MS l y yX6_milesLeft cX6_milesLeft 3 (some .int) (bw_rm 0 0) sX6_milesLeft := bt_met hy mX6_milesLeft bt_okX6_milesLeft bw_fX6 (fun _ h => absurd h List.not_mem_nil) rfl (by decide) ⟨by decide, rfl⟩ bw_nX6_milesLeft
theorem bw_nX6_lost : ∀ as M N Rt, sX6_lost as M N Rt → bt_sum as ≤ 3 := by
  intro as M N Rt h
  obtain ⟨t, S, r, S1, rfl, -, hf, -⟩ := bt_spM_e h
  unfold f_lost at hf
  split at hf
  · exact Nat.le_of_ble_eq_true rfl
  · cases hf
theorem bw_rX6_lost : ∀ as M N Rt, sX6_lost as M N Rt → ∃ c t n, as = .ref c :: t ∧ bt_sh c = (0, 6, n) := by
  intro as M N Rt h
  obtain ⟨t, S, r, S1, rfl, -⟩ := bt_spM_e h
  exact ⟨_, _, _, rfl, rfl⟩
theorem msX6_lost (l : Launch) {y : bt_Y} (hy : bt_yo y) : bt_MS l y yX6_lost cX6_lost 3 (some .int) (bw_rm 5 123) sX6_lost := bt_met hy mX6_lost bt_okX6_lost bw_fX6 (List.forall_mem_cons.mpr ⟨bt_CSV (na := 1) (ci := 6) (rc := (RX6, TX6, 27)) (msX6_triesFrom l hy) rfl rfl bw_rX6_triesFrom bw_lX6_205 bw_iX6_triesFrom bw_sX6_triesFrom bw_zX6 bw_cX6_triesFrom bw_dX6_triesFrom (by decide) ⟨rfl, rfl⟩, List.forall_mem_cons.mpr ⟨bt_CSV (na := 1) (ci := 6) (rc := (RX6, TX6, 27)) (msX6_timesOn l hy) rfl rfl bw_rX6_timesOn bw_lX6_208 bw_iX6_timesOn bw_sX6_timesOn bw_zX6 bw_cX6_timesOn bw_dX6_timesOn (by decide) ⟨rfl, rfl⟩, List.forall_mem_cons.mpr ⟨bt_CSV (na := 0) (ci := 6) (rc := (RX6, TX6, 27)) (msX6_milesLeft l hy) rfl rfl bw_rX6_milesLeft bw_lX6_211 bw_iX6_milesLeft bw_sX6_milesLeft bw_zX6 bw_cX6_milesLeft bw_dX6_milesLeft (by decide) ⟨rfl, rfl⟩, fun _ h => absurd h List.not_mem_nil⟩⟩⟩) rfl (by decide) ⟨by decide, rfl⟩ bw_nX6_lost
theorem bw_nX6_leftMany : ∀ as M N Rt, sX6_leftMany as M N Rt → bt_sum as ≤ 1 := by
  intro as M N Rt h
  unfold sX6_leftMany at h
  split at h
  · exact Nat.le_of_ble_eq_true rfl
  · exact False.elim h
theorem bw_rX6_leftMany : ∀ as M N Rt, sX6_leftMany as M N Rt → ∃ c t n, as = .ref c :: t ∧ bt_sh c = (0, 6, n) := by
  intro as M N Rt h
  unfold sX6_leftMany at h
  split at h
  · obtain ⟨x0, rfl, -⟩ := h <;> exact ⟨_, _, _, rfl, rfl⟩
  · exact False.elim h
theorem msX6_leftMany (l : Launch) {y : bt_Y} (hy : bt_yo y) : bt_MS l y yX6_leftMany cX6_leftMany 1 (some .int) (bw_rm 0 0) sX6_leftMany := bt_met hy mX6_leftMany bt_okX6_leftMany bw_fX6 (fun _ h => absurd h List.not_mem_nil) rfl (by decide) ⟨by decide, rfl⟩ bw_nX6_leftMany
theorem bw_nX6_triesBy : ∀ as M N Rt, sX6_triesBy as M N Rt → bt_sum as ≤ 7 := by
  intro as M N Rt h
  unfold sX6_triesBy at h
  split at h
  · exact Nat.le_of_ble_eq_true rfl
  · exact False.elim h
theorem bw_rX6_triesBy : ∀ as M N Rt, sX6_triesBy as M N Rt → ∃ c t n, as = .ref c :: t ∧ bt_sh c = (0, 6, n) := by
  intro as M N Rt h
  unfold sX6_triesBy at h
  split at h
  · obtain ⟨x0, x1, x2, rfl, -⟩ := h <;> exact ⟨_, _, _, rfl, rfl⟩
  · exact False.elim h
theorem msX6_triesBy (l : Launch) {y : bt_Y} (hy : bt_yo y) : bt_MS l y yX6_triesBy cX6_triesBy 7 (some .int) (bw_rm 4 102) sX6_triesBy := bt_met hy mX6_triesBy bt_okX6_triesBy bw_fX6 (List.forall_mem_cons.mpr ⟨bt_CSV (na := 2) (ci := 6) (rc := (RX6, TX6, 27)) (msX6_copies l hy) rfl rfl bw_rX6_copies bw_lX6_199 bw_iX6_copies bw_sX6_copies bw_zX6 bw_cX6_copies bw_dX6_copies (by decide) ⟨rfl, rfl⟩, List.forall_mem_cons.mpr ⟨bt_CSV (na := 1) (ci := 6) (rc := (RX6, TX6, 27)) (msX6_areLeft l hy) rfl rfl bw_rX6_areLeft bw_lX6_187 bw_iX6_areLeft bw_sX6_areLeft bw_zX6 bw_cX6_areLeft bw_dX6_areLeft (by decide) ⟨rfl, rfl⟩, List.forall_mem_cons.mpr ⟨bt_CSV (na := 1) (ci := 6) (rc := (RX6, TX6, 27)) (msX6_ownGap l hy) rfl rfl bw_rX6_ownGap bw_lX6_196 bw_iX6_ownGap bw_sX6_ownGap bw_zX6 bw_cX6_ownGap bw_dX6_ownGap (by decide) ⟨rfl, rfl⟩, List.forall_mem_cons.mpr ⟨bt_CSV (na := 2) (ci := 6) (rc := (RX6, TX6, 27)) (msX6_driveOn l hy) rfl rfl bw_rX6_driveOn bw_lX6_190 bw_iX6_driveOn bw_sX6_driveOn bw_zX6 bw_cX6_driveOn bw_dX6_driveOn (by decide) ⟨rfl, rfl⟩, fun _ h => absurd h List.not_mem_nil⟩⟩⟩⟩) rfl (by decide) ⟨by decide, rfl⟩ bw_nX6_triesBy
theorem bw_nX6_weightOf : ∀ as M N Rt, sX6_weightOf as M N Rt → bt_sum as ≤ 6 := by
  intro as M N Rt h
  unfold sX6_weightOf at h
  split at h
  · exact Nat.le_of_ble_eq_true rfl
  · exact False.elim h
theorem bw_rX6_weightOf : ∀ as M N Rt, sX6_weightOf as M N Rt → ∃ c t n, as = .ref c :: t ∧ bt_sh c = (0, 6, n) := by
  intro as M N Rt h
  unfold sX6_weightOf at h
  split at h
  · obtain ⟨x0, x1, rfl, -⟩ := h <;> exact ⟨_, _, _, rfl, rfl⟩
  · exact False.elim h
theorem msX6_weightOf (l : Launch) {y : bt_Y} (hy : bt_yo y) : bt_MS l y yX6_weightOf cX6_weightOf 6 (some .long) (bw_rm 1 20) sX6_weightOf := bt_met hy mX6_weightOf bt_okX6_weightOf bw_fX6 (List.forall_mem_cons.mpr ⟨bt_CSV (na := 0) (ci := 6) (rc := (RX6, TX6, 27)) (msX6_leftMany l hy) rfl rfl bw_rX6_leftMany bw_lX6_214 bw_iX6_leftMany bw_sX6_leftMany bw_zX6 bw_cX6_leftMany bw_dX6_leftMany (by decide) ⟨rfl, rfl⟩, fun _ h => absurd h List.not_mem_nil⟩) rfl (by decide) ⟨by decide, rfl⟩ bw_nX6_weightOf
theorem bw_nX6_allWeight : ∀ as M N Rt, sX6_allWeight as M N Rt → bt_sum as ≤ 4 := by
  intro as M N Rt h
  unfold sX6_allWeight at h
  split at h
  · exact Nat.le_of_ble_eq_true rfl
  · exact False.elim h
theorem bw_rX6_allWeight : ∀ as M N Rt, sX6_allWeight as M N Rt → ∃ c t n, as = .ref c :: t ∧ bt_sh c = (0, 6, n) := by
  intro as M N Rt h
  unfold sX6_allWeight at h
  split at h
  · obtain ⟨x0, rfl, -⟩ := h <;> exact ⟨_, _, _, rfl, rfl⟩
  · exact False.elim h
theorem msX6_allWeight (l : Launch) {y : bt_Y} (hy : bt_yo y) : bt_MS l y yX6_allWeight cX6_allWeight 4 (some .long) (bw_rm 1 20) sX6_allWeight := bt_met hy mX6_allWeight bt_okX6_allWeight bw_fX6 (List.forall_mem_cons.mpr ⟨bt_CSV (na := 0) (ci := 6) (rc := (RX6, TX6, 27)) (msX6_leftMany l hy) rfl rfl bw_rX6_leftMany bw_lX6_214 bw_iX6_leftMany bw_sX6_leftMany bw_zX6 bw_cX6_leftMany bw_dX6_leftMany (by decide) ⟨rfl, rfl⟩, fun _ h => absurd h List.not_mem_nil⟩) rfl (by decide) ⟨by decide, rfl⟩ bw_nX6_allWeight
theorem bw_nX6_lowest : ∀ as M N Rt, sX6_lowest as M N Rt → bt_sum as ≤ 11 := by
  intro as M N Rt h
  unfold sX6_lowest sX5_lowest at h
  split at h
  · exact Nat.le_of_ble_eq_true rfl
  · exact False.elim h
theorem msX6_lowest (l : Launch) {y : bt_Y} (hy : bt_yo y) : bt_MS l y yX6_lowest cX6_lowest 11 (some .long) (bw_rm 0 0) sX6_lowest := bt_met hy mX6_lowest bt_okX6_lowest bw_fX6 (fun _ h => absurd h List.not_mem_nil) rfl (by decide) ⟨by decide, rfl⟩ bw_nX6_lowest
theorem bw_nX6_meanOf : ∀ as M N Rt, sX6_meanOf as M N Rt → bt_sum as ≤ 10 := by
  intro as M N Rt h
  unfold sX6_meanOf at h
  split at h
  · exact Nat.le_of_ble_eq_true rfl
  · exact False.elim h
theorem bw_rX6_meanOf : ∀ as M N Rt, sX6_meanOf as M N Rt → ∃ c t n, as = .ref c :: t ∧ bt_sh c = (0, 6, n) := by
  intro as M N Rt h
  unfold sX6_meanOf at h
  split at h
  · obtain ⟨x0, x1, x2, rfl, -⟩ := h <;> exact ⟨_, _, _, rfl, rfl⟩
  · exact False.elim h
theorem msX6_meanOf (l : Launch) {y : bt_Y} (hy : bt_yo y) : bt_MS l y yX6_meanOf cX6_meanOf 10 (some .long) (bw_rm 5 128) sX6_meanOf := bt_met hy mX6_meanOf bt_okX6_meanOf bw_fX6 (List.forall_mem_cons.mpr ⟨bt_CSV (na := 0) (ci := 6) (rc := (RX6, TX6, 27)) (msX6_leftMany l hy) rfl rfl bw_rX6_leftMany bw_lX6_214 bw_iX6_leftMany bw_sX6_leftMany bw_zX6 bw_cX6_leftMany bw_dX6_leftMany (by decide) ⟨rfl, rfl⟩, List.forall_mem_cons.mpr ⟨bt_CSV (na := 2) (ci := 6) (rc := (RX6, TX6, 27)) (msX6_triesBy l hy) rfl rfl bw_rX6_triesBy bw_lX6_217 bw_iX6_triesBy bw_sX6_triesBy bw_zX6 bw_cX6_triesBy bw_dX6_triesBy (by decide) ⟨rfl, rfl⟩, List.forall_mem_cons.mpr ⟨bt_CSV (na := 1) (ci := 6) (rc := (RX6, TX6, 27)) (msX6_pastOn l hy) rfl rfl bw_rX6_pastOn bw_lX6_146 bw_iX6_pastOn bw_sX6_pastOn bw_zX6 bw_cX6_pastOn bw_dX6_pastOn (by decide) ⟨rfl, rfl⟩, List.forall_mem_cons.mpr ⟨bt_CSS (na := 1) (msX6_bitsOf l hy) bw_lX6_181 bw_iX6_bitsOf bw_zX6 bw_cX6_bitsOf bw_dX6_bitsOf (by decide) ⟨rfl, rfl⟩, List.forall_mem_cons.mpr ⟨bt_CSV (na := 1) (ci := 6) (rc := (RX6, TX6, 27)) (msX6_weightOf l hy) rfl rfl bw_rX6_weightOf bw_lX6_220 bw_iX6_weightOf bw_sX6_weightOf bw_zX6 bw_cX6_weightOf bw_dX6_weightOf (by decide) ⟨rfl, rfl⟩, List.forall_mem_cons.mpr ⟨bt_CSV (na := 0) (ci := 6) (rc := (RX6, TX6, 27)) (msX6_allWeight l hy) rfl rfl bw_rX6_allWeight bw_lX6_224 bw_iX6_allWeight bw_sX6_allWeight bw_zX6 bw_cX6_allWeight bw_dX6_allWeight (by decide) ⟨rfl, rfl⟩, List.forall_mem_cons.mpr ⟨bt_CSS (na := 3) (msX6_lowest l hy) bw_lX6_228 bw_iX6_lowest bw_zX6 bw_cX6_lowest bw_dX6_lowest (by decide) ⟨rfl, rfl⟩, fun _ h => absurd h List.not_mem_nil⟩⟩⟩⟩⟩⟩⟩) rfl (by decide) ⟨by decide, rfl⟩ bw_nX6_meanOf
theorem bw_nX6_past : ∀ as M N Rt, sX6_past as M N Rt → bt_sum as ≤ 3 := by
  intro as M N Rt h
  obtain ⟨t, S, r, S1, rfl, -, hf, -⟩ := bt_spM_e h
  unfold f_past at hf
  split at hf
  · exact Nat.le_of_ble_eq_true rfl
  · cases hf
theorem bw_rX6_past : ∀ as M N Rt, sX6_past as M N Rt → ∃ c t n, as = .ref c :: t ∧ bt_sh c = (0, 6, n) := by
  intro as M N Rt h
  obtain ⟨t, S, r, S1, rfl, -⟩ := bt_spM_e h
  exact ⟨_, _, _, rfl, rfl⟩
theorem msX6_past (l : Launch) {y : bt_Y} (hy : bt_yo y) : bt_MS l y yX6_past cX6_past 3 (some .long) (bw_rm 6 157) sX6_past := bt_met hy mX6_past bt_okX6_past bw_fX6 (List.forall_mem_cons.mpr ⟨bt_CSV (na := 1) (ci := 6) (rc := (RX6, TX6, 27)) (msX6_isCar l hy) rfl rfl bw_rX6_isCar bw_lX6_153 bw_iX6_isCar bw_sX6_isCar bw_zX6 bw_cX6_isCar bw_dX6_isCar (by decide) ⟨rfl, rfl⟩, List.forall_mem_cons.mpr ⟨bt_CSS (na := 3) (msX6_in l hy) bw_lX6_46 bw_iX6_in bw_zX6 bw_cX6_in bw_dX6_in (by decide) ⟨rfl, rfl⟩, List.forall_mem_cons.mpr ⟨bt_CSV (na := 3) (ci := 6) (rc := (RX6, TX6, 27)) (msX6_meanOf l hy) rfl rfl bw_rX6_meanOf bw_lX6_232 bw_iX6_meanOf bw_sX6_meanOf bw_zX6 bw_cX6_meanOf bw_dX6_meanOf (by decide) ⟨rfl, rfl⟩, fun _ h => absurd h List.not_mem_nil⟩⟩⟩) rfl (by decide) ⟨by decide, rfl⟩ bw_nX6_past
theorem bw_nX6_mean : ∀ as M N Rt, sX6_mean as M N Rt → bt_sum as ≤ 3 := by
  intro as M N Rt h
  obtain ⟨t, S, r, S1, rfl, -, hf, -⟩ := bt_spM_e h
  unfold f_mean at hf
  split at hf
  · exact Nat.le_of_ble_eq_true rfl
  · cases hf
theorem bw_rX6_mean : ∀ as M N Rt, sX6_mean as M N Rt → ∃ c t n, as = .ref c :: t ∧ bt_sh c = (0, 6, n) := by
  intro as M N Rt h
  obtain ⟨t, S, r, S1, rfl, -⟩ := bt_spM_e h
  exact ⟨_, _, _, rfl, rfl⟩
theorem msX6_mean (l : Launch) {y : bt_Y} (hy : bt_yo y) : bt_MS l y yX6_mean cX6_mean 3 (some .long) (bw_rm 6 157) sX6_mean := bt_met hy mX6_mean bt_okX6_mean bw_fX6 (List.forall_mem_cons.mpr ⟨bt_CSV (na := 1) (ci := 6) (rc := (RX6, TX6, 27)) (msX6_isCar l hy) rfl rfl bw_rX6_isCar bw_lX6_153 bw_iX6_isCar bw_sX6_isCar bw_zX6 bw_cX6_isCar bw_dX6_isCar (by decide) ⟨rfl, rfl⟩, List.forall_mem_cons.mpr ⟨bt_CSS (na := 3) (msX6_in l hy) bw_lX6_46 bw_iX6_in bw_zX6 bw_cX6_in bw_dX6_in (by decide) ⟨rfl, rfl⟩, List.forall_mem_cons.mpr ⟨bt_CSV (na := 3) (ci := 6) (rc := (RX6, TX6, 27)) (msX6_meanOf l hy) rfl rfl bw_rX6_meanOf bw_lX6_232 bw_iX6_meanOf bw_sX6_meanOf bw_zX6 bw_cX6_meanOf bw_dX6_meanOf (by decide) ⟨rfl, rfl⟩, fun _ h => absurd h List.not_mem_nil⟩⟩⟩) rfl (by decide) ⟨by decide, rfl⟩ bw_nX6_mean
theorem bw_nX6_row : ∀ as M N Rt, sX6_row as M N Rt → bt_sum as ≤ 2 := by
  intro as M N Rt h
  obtain ⟨t, S, r, S1, rfl, -, hf, -⟩ := bt_spM_e h
  unfold f_row at hf
  split at hf
  · exact Nat.le_of_ble_eq_true rfl
  · cases hf
theorem bw_rX6_row : ∀ as M N Rt, sX6_row as M N Rt → ∃ c t n, as = .ref c :: t ∧ bt_sh c = (0, 6, n) := by
  intro as M N Rt h
  obtain ⟨t, S, r, S1, rfl, -⟩ := bt_spM_e h
  exact ⟨_, _, _, rfl, rfl⟩
theorem msX6_row (l : Launch) {y : bt_Y} (hy : bt_yo y) : bt_MS l y yX6_row cX6_row 2 (some .long) (bw_rm 6 157) sX6_row := bt_met hy mX6_row bt_okX6_row bw_fX6 (List.forall_mem_cons.mpr ⟨bt_CSS (na := 3) (msX6_in l hy) bw_lX6_46 bw_iX6_in bw_zX6 bw_cX6_in bw_dX6_in (by decide) ⟨rfl, rfl⟩, List.forall_mem_cons.mpr ⟨bt_CSV (na := 3) (ci := 6) (rc := (RX6, TX6, 27)) (msX6_meanOf l hy) rfl rfl bw_rX6_meanOf bw_lX6_232 bw_iX6_meanOf bw_sX6_meanOf bw_zX6 bw_cX6_meanOf bw_dX6_meanOf (by decide) ⟨rfl, rfl⟩, fun _ h => absurd h List.not_mem_nil⟩⟩) rfl (by decide) ⟨by decide, rfl⟩ bw_nX6_row
theorem bw_nX6_where : ∀ as M N Rt, sX6_where as M N Rt → bt_sum as ≤ 4 := by
  intro as M N Rt h
  obtain ⟨t, S, r, S1, rfl, -, hf, -⟩ := bt_spM_e h
  unfold f_where at hf
  split at hf
  · exact Nat.le_of_ble_eq_true rfl
  · cases hf
theorem bw_rX6_where : ∀ as M N Rt, sX6_where as M N Rt → ∃ c t n, as = .ref c :: t ∧ bt_sh c = (0, 6, n) := by
  intro as M N Rt h
  obtain ⟨t, S, r, S1, rfl, -⟩ := bt_spM_e h
  exact ⟨_, _, _, rfl, rfl⟩
theorem msX6_where (l : Launch) {y : bt_Y} (hy : bt_yo y) : bt_MS l y yX6_where cX6_where 4 (some .long) (bw_rm 6 157) sX6_where := bt_met hy mX6_where bt_okX6_where bw_fX6 (List.forall_mem_cons.mpr ⟨bt_CSV (na := 1) (ci := 6) (rc := (RX6, TX6, 27)) (msX6_isCar l hy) rfl rfl bw_rX6_isCar bw_lX6_153 bw_iX6_isCar bw_sX6_isCar bw_zX6 bw_cX6_isCar bw_dX6_isCar (by decide) ⟨rfl, rfl⟩, List.forall_mem_cons.mpr ⟨bt_CSS (na := 3) (msX6_in l hy) bw_lX6_46 bw_iX6_in bw_zX6 bw_cX6_in bw_dX6_in (by decide) ⟨rfl, rfl⟩, List.forall_mem_cons.mpr ⟨bt_CSV (na := 3) (ci := 6) (rc := (RX6, TX6, 27)) (msX6_meanOf l hy) rfl rfl bw_rX6_meanOf bw_lX6_232 bw_iX6_meanOf bw_sX6_meanOf bw_zX6 bw_cX6_meanOf bw_dX6_meanOf (by decide) ⟨rfl, rfl⟩, fun _ h => absurd h List.not_mem_nil⟩⟩⟩) rfl (by decide) ⟨by decide, rfl⟩ bw_nX6_where
theorem bw_nX6_timesOfOthers : ∀ as M N Rt, sX6_timesOfOthers as M N Rt → bt_sum as ≤ 2 := by
  intro as M N Rt h
  unfold sX6_timesOfOthers at h
  split at h
  · exact Nat.le_of_ble_eq_true rfl
  · exact False.elim h
theorem bw_rX6_timesOfOthers : ∀ as M N Rt, sX6_timesOfOthers as M N Rt → ∃ c t n, as = .ref c :: t ∧ bt_sh c = (0, 6, n) := by
  intro as M N Rt h
  unfold sX6_timesOfOthers at h
  split at h
  · obtain ⟨x0, x1, rfl, -⟩ := h <;> exact ⟨_, _, _, rfl, rfl⟩
  · exact False.elim h
theorem msX6_timesOfOthers (l : Launch) {y : bt_Y} (hy : bt_yo y) : bt_MS l y yX6_timesOfOthers cX6_timesOfOthers 2 (some .int) (bw_rm 1 23) sX6_timesOfOthers := bt_met hy mX6_timesOfOthers bt_okX6_timesOfOthers bw_fX6 (List.forall_mem_cons.mpr ⟨bt_CSV (na := 1) (ci := 6) (rc := (RX6, TX6, 27)) (msX6_timesOn l hy) rfl rfl bw_rX6_timesOn bw_lX6_208 bw_iX6_timesOn bw_sX6_timesOn bw_zX6 bw_cX6_timesOn bw_dX6_timesOn (by decide) ⟨rfl, rfl⟩, fun _ h => absurd h List.not_mem_nil⟩) rfl (by decide) ⟨by decide, rfl⟩ bw_nX6_timesOfOthers
theorem bw_nX6_cost : ∀ as M N Rt, sX6_cost as M N Rt → bt_sum as ≤ 3 := by
  intro as M N Rt h
  obtain ⟨t, S, r, S1, rfl, -, hf, -⟩ := bt_spM_e h
  unfold f_cost at hf
  split at hf
  · exact Nat.le_of_ble_eq_true rfl
  · cases hf
theorem bw_rX6_cost : ∀ as M N Rt, sX6_cost as M N Rt → ∃ c t n, as = .ref c :: t ∧ bt_sh c = (0, 6, n) := by
  intro as M N Rt h
  obtain ⟨t, S, r, S1, rfl, -⟩ := bt_spM_e h
  exact ⟨_, _, _, rfl, rfl⟩
theorem msX6_cost (l : Launch) {y : bt_Y} (hy : bt_yo y) : bt_MS l y yX6_cost cX6_cost 3 (some .int) (bw_rm 5 123) sX6_cost := bt_met hy mX6_cost bt_okX6_cost bw_fX6 (List.forall_mem_cons.mpr ⟨bt_CSV (na := 1) (ci := 6) (rc := (RX6, TX6, 27)) (msX6_isCar l hy) rfl rfl bw_rX6_isCar bw_lX6_153 bw_iX6_isCar bw_sX6_isCar bw_zX6 bw_cX6_isCar bw_dX6_isCar (by decide) ⟨rfl, rfl⟩, List.forall_mem_cons.mpr ⟨bt_CSV (na := 1) (ci := 6) (rc := (RX6, TX6, 27)) (msX6_triesFrom l hy) rfl rfl bw_rX6_triesFrom bw_lX6_205 bw_iX6_triesFrom bw_sX6_triesFrom bw_zX6 bw_cX6_triesFrom bw_dX6_triesFrom (by decide) ⟨rfl, rfl⟩, List.forall_mem_cons.mpr ⟨bt_CSV (na := 1) (ci := 6) (rc := (RX6, TX6, 27)) (msX6_timesOfOthers l hy) rfl rfl bw_rX6_timesOfOthers bw_lX6_238 bw_iX6_timesOfOthers bw_sX6_timesOfOthers bw_zX6 bw_cX6_timesOfOthers bw_dX6_timesOfOthers (by decide) ⟨rfl, rfl⟩, List.forall_mem_cons.mpr ⟨bt_CSV (na := 2) (ci := 6) (rc := (RX6, TX6, 27)) (msX6_copies l hy) rfl rfl bw_rX6_copies bw_lX6_199 bw_iX6_copies bw_sX6_copies bw_zX6 bw_cX6_copies bw_dX6_copies (by decide) ⟨rfl, rfl⟩, fun _ h => absurd h List.not_mem_nil⟩⟩⟩⟩) rfl (by decide) ⟨by decide, rfl⟩ bw_nX6_cost
theorem bw_nX6_mostSaved : ∀ as M N Rt, sX6_mostSaved as M N Rt → bt_sum as ≤ 8 := by
  intro as M N Rt h
  unfold sX6_mostSaved at h
  split at h
  · exact Nat.le_of_ble_eq_true rfl
  · exact False.elim h
theorem bw_rX6_mostSaved : ∀ as M N Rt, sX6_mostSaved as M N Rt → ∃ c t n, as = .ref c :: t ∧ bt_sh c = (0, 6, n) := by
  intro as M N Rt h
  unfold sX6_mostSaved at h
  split at h
  · obtain ⟨x0, x1, rfl, -⟩ := h <;> exact ⟨_, _, _, rfl, rfl⟩
  · exact False.elim h
theorem msX6_mostSaved (l : Launch) {y : bt_Y} (hy : bt_yo y) : bt_MS l y yX6_mostSaved cX6_mostSaved 8 (some .int) (bw_rm 5 123) sX6_mostSaved := bt_met hy mX6_mostSaved bt_okX6_mostSaved bw_fX6 (List.forall_mem_cons.mpr ⟨bt_CSV (na := 1) (ci := 6) (rc := (RX6, TX6, 27)) (msX6_triesFrom l hy) rfl rfl bw_rX6_triesFrom bw_lX6_205 bw_iX6_triesFrom bw_sX6_triesFrom bw_zX6 bw_cX6_triesFrom bw_dX6_triesFrom (by decide) ⟨rfl, rfl⟩, List.forall_mem_cons.mpr ⟨bt_CSV (na := 1) (ci := 6) (rc := (RX6, TX6, 27)) (msX6_timesOn l hy) rfl rfl bw_rX6_timesOn bw_lX6_208 bw_iX6_timesOn bw_sX6_timesOn bw_zX6 bw_cX6_timesOn bw_dX6_timesOn (by decide) ⟨rfl, rfl⟩, List.forall_mem_cons.mpr ⟨bt_CSV (na := 2) (ci := 6) (rc := (RX6, TX6, 27)) (msX6_copies l hy) rfl rfl bw_rX6_copies bw_lX6_199 bw_iX6_copies bw_sX6_copies bw_zX6 bw_cX6_copies bw_dX6_copies (by decide) ⟨rfl, rfl⟩, fun _ h => absurd h List.not_mem_nil⟩⟩⟩) rfl (by decide) ⟨by decide, rfl⟩ bw_nX6_mostSaved
theorem bw_nX6_third : ∀ as M N Rt, sX6_third as M N Rt → bt_sum as ≤ 2 := by
  intro as M N Rt h
  obtain ⟨t, S, r, S1, rfl, -, hf, -⟩ := bt_spM_e h
  unfold f_third at hf
  split at hf
  · exact Nat.le_of_ble_eq_true rfl
  · cases hf
theorem bw_rX6_third : ∀ as M N Rt, sX6_third as M N Rt → ∃ c t n, as = .ref c :: t ∧ bt_sh c = (0, 6, n) := by
  intro as M N Rt h
  obtain ⟨t, S, r, S1, rfl, -⟩ := bt_spM_e h
  exact ⟨_, _, _, rfl, rfl⟩
theorem msX6_third (l : Launch) {y : bt_Y} (hy : bt_yo y) : bt_MS l y yX6_third cX6_third 2 (some .int) (bw_rm 6 150) sX6_third := bt_met hy mX6_third bt_okX6_third bw_fX6 (List.forall_mem_cons.mpr ⟨bt_CSS (na := 3) (msX6_in l hy) bw_lX6_46 bw_iX6_in bw_zX6 bw_cX6_in bw_dX6_in (by decide) ⟨rfl, rfl⟩, List.forall_mem_cons.mpr ⟨bt_CSV (na := 2) (ci := 6) (rc := (RX6, TX6, 27)) (msX6_mostSaved l hy) rfl rfl bw_rX6_mostSaved bw_lX6_241 bw_iX6_mostSaved bw_sX6_mostSaved bw_zX6 bw_cX6_mostSaved bw_dX6_mostSaved (by decide) ⟨rfl, rfl⟩, fun _ h => absurd h List.not_mem_nil⟩⟩) rfl (by decide) ⟨by decide, rfl⟩ bw_nX6_third
theorem bw_nX6_layby : ∀ as M N Rt, sX6_layby as M N Rt → bt_sum as ≤ 2 := by
  intro as M N Rt h
  obtain ⟨t, S, r, S1, rfl, -, hf, -⟩ := bt_spM_e h
  unfold f_layby at hf
  split at hf
  · exact Nat.le_of_ble_eq_true rfl
  · cases hf
theorem bw_rX6_layby : ∀ as M N Rt, sX6_layby as M N Rt → ∃ c t n, as = .ref c :: t ∧ bt_sh c = (0, 6, n) := by
  intro as M N Rt h
  obtain ⟨t, S, r, S1, rfl, -⟩ := bt_spM_e h
  exact ⟨_, _, _, rfl, rfl⟩
theorem msX6_layby (l : Launch) {y : bt_Y} (hy : bt_yo y) : bt_MS l y yX6_layby cX6_layby 2 (some .int) (bw_rm 6 150) sX6_layby := bt_met hy mX6_layby bt_okX6_layby bw_fX6 (List.forall_mem_cons.mpr ⟨bt_CSS (na := 3) (msX6_in l hy) bw_lX6_46 bw_iX6_in bw_zX6 bw_cX6_in bw_dX6_in (by decide) ⟨rfl, rfl⟩, List.forall_mem_cons.mpr ⟨bt_CSV (na := 2) (ci := 6) (rc := (RX6, TX6, 27)) (msX6_mostSaved l hy) rfl rfl bw_rX6_mostSaved bw_lX6_241 bw_iX6_mostSaved bw_sX6_mostSaved bw_zX6 bw_cX6_mostSaved bw_dX6_mostSaved (by decide) ⟨rfl, rfl⟩, fun _ h => absurd h List.not_mem_nil⟩⟩) rfl (by decide) ⟨by decide, rfl⟩ bw_nX6_layby
theorem bw_nX6_fair : ∀ as M N Rt, sX6_fair as M N Rt → bt_sum as ≤ 6 := by
  intro as M N Rt h
  obtain ⟨t, S, r, S1, rfl, -, hf, -⟩ := bt_spM_e h
  unfold f_fair at hf
  split at hf
  · exact Nat.le_of_ble_eq_true rfl
  · cases hf
theorem bw_rX6_fair : ∀ as M N Rt, sX6_fair as M N Rt → ∃ c t n, as = .ref c :: t ∧ bt_sh c = (0, 6, n) := by
  intro as M N Rt h
  obtain ⟨t, S, r, S1, rfl, -⟩ := bt_spM_e h
  exact ⟨_, _, _, rfl, rfl⟩
theorem msX6_fair (l : Launch) {y : bt_Y} (hy : bt_yo y) : bt_MS l y yX6_fair cX6_fair 6 (some .int) (bw_rm 5 123) sX6_fair := bt_met hy mX6_fair bt_okX6_fair bw_fX6 (List.forall_mem_cons.mpr ⟨bt_CSS (na := 3) (msX6_in l hy) bw_lX6_46 bw_iX6_in bw_zX6 bw_cX6_in bw_dX6_in (by decide) ⟨rfl, rfl⟩, List.forall_mem_cons.mpr ⟨bt_CSV (na := 2) (ci := 6) (rc := (RX6, TX6, 27)) (msX6_copies l hy) rfl rfl bw_rX6_copies bw_lX6_199 bw_iX6_copies bw_sX6_copies bw_zX6 bw_cX6_copies bw_dX6_copies (by decide) ⟨rfl, rfl⟩, List.forall_mem_cons.mpr ⟨bt_CSV (na := 1) (ci := 6) (rc := (RX6, TX6, 27)) (msX6_triesFrom l hy) rfl rfl bw_rX6_triesFrom bw_lX6_205 bw_iX6_triesFrom bw_sX6_triesFrom bw_zX6 bw_cX6_triesFrom bw_dX6_triesFrom (by decide) ⟨rfl, rfl⟩, List.forall_mem_cons.mpr ⟨bt_CSV (na := 1) (ci := 6) (rc := (RX6, TX6, 27)) (msX6_timesOn l hy) rfl rfl bw_rX6_timesOn bw_lX6_208 bw_iX6_timesOn bw_sX6_timesOn bw_zX6 bw_cX6_timesOn bw_dX6_timesOn (by decide) ⟨rfl, rfl⟩, fun _ h => absurd h List.not_mem_nil⟩⟩⟩⟩) rfl (by decide) ⟨by decide, rfl⟩ bw_nX6_fair
theorem bw_nX6_need : ∀ as M N Rt, sX6_need as M N Rt → bt_sum as ≤ 3 := by
  intro as M N Rt h
  obtain ⟨t, S, r, S1, rfl, -, hf, -⟩ := bt_spM_e h
  unfold f_need at hf
  split at hf
  · exact Nat.le_of_ble_eq_true rfl
  · cases hf
theorem bw_rX6_need : ∀ as M N Rt, sX6_need as M N Rt → ∃ c t n, as = .ref c :: t ∧ bt_sh c = (0, 6, n) := by
  intro as M N Rt h
  obtain ⟨t, S, r, S1, rfl, -⟩ := bt_spM_e h
  exact ⟨_, _, _, rfl, rfl⟩
theorem msX6_need (l : Launch) {y : bt_Y} (hy : bt_yo y) : bt_MS l y yX6_need cX6_need 3 (some .int) (bw_rm 5 123) sX6_need := bt_met hy mX6_need bt_okX6_need bw_fX6 (List.forall_mem_cons.mpr ⟨bt_CSV (na := 1) (ci := 6) (rc := (RX6, TX6, 27)) (msX6_isCar l hy) rfl rfl bw_rX6_isCar bw_lX6_153 bw_iX6_isCar bw_sX6_isCar bw_zX6 bw_cX6_isCar bw_dX6_isCar (by decide) ⟨rfl, rfl⟩, List.forall_mem_cons.mpr ⟨bt_CSV (na := 2) (ci := 6) (rc := (RX6, TX6, 27)) (msX6_isPast l hy) rfl rfl bw_rX6_isPast bw_lX6_139 bw_iX6_isPast bw_sX6_isPast bw_zX6 bw_cX6_isPast bw_dX6_isPast (by decide) ⟨rfl, rfl⟩, List.forall_mem_cons.mpr ⟨bt_CSV (na := 2) (ci := 6) (rc := (RX6, TX6, 27)) (msX6_copies l hy) rfl rfl bw_rX6_copies bw_lX6_199 bw_iX6_copies bw_sX6_copies bw_zX6 bw_cX6_copies bw_dX6_copies (by decide) ⟨rfl, rfl⟩, List.forall_mem_cons.mpr ⟨bt_CSV (na := 1) (ci := 6) (rc := (RX6, TX6, 27)) (msX6_triesFrom l hy) rfl rfl bw_rX6_triesFrom bw_lX6_205 bw_iX6_triesFrom bw_sX6_triesFrom bw_zX6 bw_cX6_triesFrom bw_dX6_triesFrom (by decide) ⟨rfl, rfl⟩, fun _ h => absurd h List.not_mem_nil⟩⟩⟩⟩) rfl (by decide) ⟨by decide, rfl⟩ bw_nX6_need
theorem bw_nX6_firstBehind : ∀ as M N Rt, sX6_firstBehind as M N Rt → bt_sum as ≤ 2 := by
  intro as M N Rt h
  unfold sX6_firstBehind at h
  split at h
  · exact Nat.le_of_ble_eq_true rfl
  · exact False.elim h
theorem bw_rX6_firstBehind : ∀ as M N Rt, sX6_firstBehind as M N Rt → ∃ c t n, as = .ref c :: t ∧ bt_sh c = (0, 6, n) := by
  intro as M N Rt h
  unfold sX6_firstBehind at h
  split at h
  · obtain ⟨x0, rfl, -⟩ := h <;> exact ⟨_, _, _, rfl, rfl⟩
  · exact False.elim h
theorem msX6_firstBehind (l : Launch) {y : bt_Y} (hy : bt_yo y) : bt_MS l y yX6_firstBehind cX6_firstBehind 2 (some .int) (bw_rm 1 22) sX6_firstBehind := bt_met hy mX6_firstBehind bt_okX6_firstBehind bw_fX6 (List.forall_mem_cons.mpr ⟨bt_CSV (na := 2) (ci := 6) (rc := (RX6, TX6, 27)) (msX6_isPast l hy) rfl rfl bw_rX6_isPast bw_lX6_139 bw_iX6_isPast bw_sX6_isPast bw_zX6 bw_cX6_isPast bw_dX6_isPast (by decide) ⟨rfl, rfl⟩, fun _ h => absurd h List.not_mem_nil⟩) rfl (by decide) ⟨by decide, rfl⟩ bw_nX6_firstBehind
theorem bw_nX6_chance : ∀ as M N Rt, sX6_chance as M N Rt → bt_sum as ≤ 7 := by
  intro as M N Rt h
  unfold sX6_chance at h
  split at h
  · exact Nat.le_of_ble_eq_true rfl
  · exact False.elim h
theorem bw_rX6_chance : ∀ as M N Rt, sX6_chance as M N Rt → ∃ c t n, as = .ref c :: t ∧ bt_sh c = (0, 6, n) := by
  intro as M N Rt h
  unfold sX6_chance at h
  split at h
  · obtain ⟨x0, x1, x2, rfl, -⟩ := h <;> exact ⟨_, _, _, rfl, rfl⟩
  · exact False.elim h
theorem msX6_chance (l : Launch) {y : bt_Y} (hy : bt_yo y) : bt_MS l y yX6_chance cX6_chance 7 (some .int) (bw_rm 1 25) sX6_chance := bt_met hy mX6_chance bt_okX6_chance bw_fX6 (List.forall_mem_cons.mpr ⟨bt_CSV (na := 3) (ci := 6) (rc := (RX6, TX6, 27)) (msX6_useOn l hy) rfl rfl bw_rX6_useOn bw_lX6_163 bw_iX6_useOn bw_sX6_useOn bw_zX6 bw_cX6_useOn bw_dX6_useOn (by decide) ⟨rfl, rfl⟩, List.forall_mem_cons.mpr ⟨bt_CSV (na := 4) (ci := 6) (rc := (RX6, TX6, 27)) (msX6_isEnough l hy) rfl rfl bw_rX6_isEnough bw_lX6_177 bw_iX6_isEnough bw_sX6_isEnough bw_zX6 bw_cX6_isEnough bw_dX6_isEnough (by decide) ⟨rfl, rfl⟩, fun _ h => absurd h List.not_mem_nil⟩⟩) rfl (by decide) ⟨by decide, rfl⟩ bw_nX6_chance
theorem bw_nX6_dare : ∀ as M N Rt, sX6_dare as M N Rt → bt_sum as ≤ 17 := by
  intro as M N Rt h
  obtain ⟨t, S, r, S1, rfl, -, hf, -⟩ := bt_spM_e h
  unfold f_dare at hf
  split at hf
  · exact Nat.le_of_ble_eq_true rfl
  · cases hf
theorem bw_rX6_dare : ∀ as M N Rt, sX6_dare as M N Rt → ∃ c t n, as = .ref c :: t ∧ bt_sh c = (0, 6, n) := by
  intro as M N Rt h
  obtain ⟨t, S, r, S1, rfl, -⟩ := bt_spM_e h
  exact ⟨_, _, _, rfl, rfl⟩
theorem msX6_dare (l : Launch) {y : bt_Y} (hy : bt_yo y) : bt_MS l y yX6_dare cX6_dare 17 (some .long) (bw_rm 2 51) sX6_dare := bt_met hy mX6_dare bt_okX6_dare bw_fX6 (List.forall_mem_cons.mpr ⟨bt_CSS (na := 3) (msX6_in l hy) bw_lX6_46 bw_iX6_in bw_zX6 bw_cX6_in bw_dX6_in (by decide) ⟨rfl, rfl⟩, List.forall_mem_cons.mpr ⟨bt_CSV (na := 0) (ci := 6) (rc := (RX6, TX6, 27)) (msX6_firstBehind l hy) rfl rfl bw_rX6_firstBehind bw_lX6_246 bw_iX6_firstBehind bw_sX6_firstBehind bw_zX6 bw_cX6_firstBehind bw_dX6_firstBehind (by decide) ⟨rfl, rfl⟩, List.forall_mem_cons.mpr ⟨bt_CSV (na := 1) (ci := 6) (rc := (RX6, TX6, 27)) (msX6_paceOn l hy) rfl rfl bw_rX6_paceOn bw_lX6_143 bw_iX6_paceOn bw_sX6_paceOn bw_zX6 bw_cX6_paceOn bw_dX6_paceOn (by decide) ⟨rfl, rfl⟩, List.forall_mem_cons.mpr ⟨bt_CSV (na := 2) (ci := 6) (rc := (RX6, TX6, 27)) (msX6_chance l hy) rfl rfl bw_rX6_chance bw_lX6_251 bw_iX6_chance bw_sX6_chance bw_zX6 bw_cX6_chance bw_dX6_chance (by decide) ⟨rfl, rfl⟩, List.forall_mem_cons.mpr ⟨bt_CSS (na := 3) (msX6_lowest l hy) bw_lX6_228 bw_iX6_lowest bw_zX6 bw_cX6_lowest bw_dX6_lowest (by decide) ⟨rfl, rfl⟩, fun _ h => absurd h List.not_mem_nil⟩⟩⟩⟩⟩) rfl (by decide) ⟨by decide, rfl⟩ bw_nX6_dare
theorem bw_nX6_see : ∀ as M N Rt, sX6_see as M N Rt → bt_sum as ≤ 3 := by
  intro as M N Rt h
  obtain ⟨t, S, r, S1, rfl, -, hf, -⟩ := bt_spM_e h
  unfold f_see at hf
  split at hf
  · exact Nat.le_of_ble_eq_true rfl
  · cases hf
theorem bw_rX6_see : ∀ as M N Rt, sX6_see as M N Rt → ∃ c t n, as = .ref c :: t ∧ bt_sh c = (0, 6, n) := by
  intro as M N Rt h
  obtain ⟨t, S, r, S1, rfl, -⟩ := bt_spM_e h
  exact ⟨_, _, _, rfl, rfl⟩
theorem msX6_see (l : Launch) {y : bt_Y} (hy : bt_yo y) : bt_MS l y yX6_see cX6_see 3 (some .int) (bw_rm 2 46) sX6_see := bt_met hy mX6_see bt_okX6_see bw_fX6 (List.forall_mem_cons.mpr ⟨bt_CSV (na := 1) (ci := 6) (rc := (RX6, TX6, 27)) (msX6_isCar l hy) rfl rfl bw_rX6_isCar bw_lX6_153 bw_iX6_isCar bw_sX6_isCar bw_zX6 bw_cX6_isCar bw_dX6_isCar (by decide) ⟨rfl, rfl⟩, List.forall_mem_cons.mpr ⟨bt_CSS (na := 3) (msX6_in l hy) bw_lX6_46 bw_iX6_in bw_zX6 bw_cX6_in bw_dX6_in (by decide) ⟨rfl, rfl⟩, fun _ h => absurd h List.not_mem_nil⟩⟩) rfl (by decide) ⟨by decide, rfl⟩ bw_nX6_see
theorem bw_nX6_forget : ∀ as M N Rt, sX6_forget as M N Rt → bt_sum as ≤ 3 := by
  intro as M N Rt h
  obtain ⟨t, S, r, S1, rfl, -, hf, -⟩ := bt_spM_e h
  unfold f_forget at hf
  split at hf
  · exact Nat.le_of_ble_eq_true rfl
  · cases hf
theorem bw_rX6_forget : ∀ as M N Rt, sX6_forget as M N Rt → ∃ c t n, as = .ref c :: t ∧ bt_sh c = (0, 6, n) := by
  intro as M N Rt h
  obtain ⟨t, S, r, S1, rfl, -⟩ := bt_spM_e h
  exact ⟨_, _, _, rfl, rfl⟩
theorem msX6_forget (l : Launch) {y : bt_Y} (hy : bt_yo y) : bt_MS l y yX6_forget cX6_forget 3 (some .int) (bw_rm 1 25) sX6_forget := bt_met hy mX6_forget bt_okX6_forget bw_fX6 (List.forall_mem_cons.mpr ⟨bt_CSS (na := 3) (msX6_in l hy) bw_lX6_46 bw_iX6_in bw_zX6 bw_cX6_in bw_dX6_in (by decide) ⟨rfl, rfl⟩, fun _ h => absurd h List.not_mem_nil⟩) rfl (by decide) ⟨by decide, rfl⟩ bw_nX6_forget
theorem bw_nX6_isAsSeen : ∀ as M N Rt, sX6_isAsSeen as M N Rt → bt_sum as ≤ 4 := by
  intro as M N Rt h
  unfold sX6_isAsSeen at h
  split at h
  · exact Nat.le_of_ble_eq_true rfl
  · exact False.elim h
theorem bw_rX6_isAsSeen : ∀ as M N Rt, sX6_isAsSeen as M N Rt → ∃ c t n, as = .ref c :: t ∧ bt_sh c = (0, 6, n) := by
  intro as M N Rt h
  unfold sX6_isAsSeen at h
  split at h
  · obtain ⟨x0, x1, x2, x3, x4, rfl, -⟩ := h <;> exact ⟨_, _, _, rfl, rfl⟩
  · exact False.elim h
theorem msX6_isAsSeen (l : Launch) {y : bt_Y} (hy : bt_yo y) : bt_MS l y yX6_isAsSeen cX6_isAsSeen 4 (some .boolean) (bw_rm 5 128) sX6_isAsSeen := bt_met hy mX6_isAsSeen bt_okX6_isAsSeen bw_fX6 (List.forall_mem_cons.mpr ⟨bt_CSV (na := 2) (ci := 6) (rc := (RX6, TX6, 27)) (msX6_triesBy l hy) rfl rfl bw_rX6_triesBy bw_lX6_217 bw_iX6_triesBy bw_sX6_triesBy bw_zX6 bw_cX6_triesBy bw_dX6_triesBy (by decide) ⟨rfl, rfl⟩, fun _ h => absurd h List.not_mem_nil⟩) rfl (by decide) ⟨by decide, rfl⟩ bw_nX6_isAsSeen
theorem bw_nX6_fits : ∀ as M N Rt, sX6_fits as M N Rt → bt_sum as ≤ 8 := by
  intro as M N Rt h
  obtain ⟨t, S, r, S1, rfl, -, hf, -⟩ := bt_spM_e h
  unfold f_fits at hf
  split at hf
  · exact Nat.le_of_ble_eq_true rfl
  · cases hf
theorem bw_rX6_fits : ∀ as M N Rt, sX6_fits as M N Rt → ∃ c t n, as = .ref c :: t ∧ bt_sh c = (0, 6, n) := by
  intro as M N Rt h
  obtain ⟨t, S, r, S1, rfl, -⟩ := bt_spM_e h
  exact ⟨_, _, _, rfl, rfl⟩
theorem msX6_fits (l : Launch) {y : bt_Y} (hy : bt_yo y) : bt_MS l y yX6_fits cX6_fits 8 (some .int) (bw_rm 6 151) sX6_fits := bt_met hy mX6_fits bt_okX6_fits bw_fX6 (List.forall_mem_cons.mpr ⟨bt_CSS (na := 3) (msX6_in l hy) bw_lX6_46 bw_iX6_in bw_zX6 bw_cX6_in bw_dX6_in (by decide) ⟨rfl, rfl⟩, List.forall_mem_cons.mpr ⟨bt_CSV (na := 0) (ci := 6) (rc := (RX6, TX6, 27)) (msX6_leftMany l hy) rfl rfl bw_rX6_leftMany bw_lX6_214 bw_iX6_leftMany bw_sX6_leftMany bw_zX6 bw_cX6_leftMany bw_dX6_leftMany (by decide) ⟨rfl, rfl⟩, List.forall_mem_cons.mpr ⟨bt_CSV (na := 1) (ci := 6) (rc := (RX6, TX6, 27)) (msX6_isAsSeen l hy) rfl rfl bw_rX6_isAsSeen bw_lX6_258 bw_iX6_isAsSeen bw_sX6_isAsSeen bw_zX6 bw_cX6_isAsSeen bw_dX6_isAsSeen (by decide) ⟨rfl, rfl⟩, fun _ h => absurd h List.not_mem_nil⟩⟩⟩) rfl (by decide) ⟨by decide, rfl⟩ bw_nX6_fits
theorem bw_nX6_could : ∀ as M N Rt, sX6_could as M N Rt → bt_sum as ≤ 3 := by
  intro as M N Rt h
  obtain ⟨t, S, r, S1, rfl, -, hf, -⟩ := bt_spM_e h
  unfold f_could at hf
  split at hf
  · exact Nat.le_of_ble_eq_true rfl
  · cases hf
theorem bw_rX6_could : ∀ as M N Rt, sX6_could as M N Rt → ∃ c t n, as = .ref c :: t ∧ bt_sh c = (0, 6, n) := by
  intro as M N Rt h
  obtain ⟨t, S, r, S1, rfl, -⟩ := bt_spM_e h
  exact ⟨_, _, _, rfl, rfl⟩
theorem msX6_could (l : Launch) {y : bt_Y} (hy : bt_yo y) : bt_MS l y yX6_could cX6_could 3 (some .int) (bw_rm 6 151) sX6_could := bt_met hy mX6_could bt_okX6_could bw_fX6 (List.forall_mem_cons.mpr ⟨bt_CSV (na := 0) (ci := 6) (rc := (RX6, TX6, 27)) (msX6_leftMany l hy) rfl rfl bw_rX6_leftMany bw_lX6_214 bw_iX6_leftMany bw_sX6_leftMany bw_zX6 bw_cX6_leftMany bw_dX6_leftMany (by decide) ⟨rfl, rfl⟩, List.forall_mem_cons.mpr ⟨bt_CSV (na := 1) (ci := 6) (rc := (RX6, TX6, 27)) (msX6_isAsSeen l hy) rfl rfl bw_rX6_isAsSeen bw_lX6_258 bw_iX6_isAsSeen bw_sX6_isAsSeen bw_zX6 bw_cX6_isAsSeen bw_dX6_isAsSeen (by decide) ⟨rfl, rfl⟩, List.forall_mem_cons.mpr ⟨bt_CSV (na := 1) (ci := 6) (rc := (RX6, TX6, 27)) (msX6_pastOn l hy) rfl rfl bw_rX6_pastOn bw_lX6_146 bw_iX6_pastOn bw_sX6_pastOn bw_zX6 bw_cX6_pastOn bw_dX6_pastOn (by decide) ⟨rfl, rfl⟩, fun _ h => absurd h List.not_mem_nil⟩⟩⟩) rfl (by decide) ⟨by decide, rfl⟩ bw_nX6_could
theorem bw_nX6_drift : ∀ as M N Rt, sX6_drift as M N Rt → bt_sum as ≤ 4 := by
  intro as M N Rt h
  obtain ⟨t, S, r, S1, rfl, -, hf, -⟩ := bt_spM_e h
  unfold f_drift at hf
  split at hf
  · exact Nat.le_of_ble_eq_true rfl
  · cases hf
theorem bw_rX6_drift : ∀ as M N Rt, sX6_drift as M N Rt → ∃ c t n, as = .ref c :: t ∧ bt_sh c = (0, 6, n) := by
  intro as M N Rt h
  obtain ⟨t, S, r, S1, rfl, -⟩ := bt_spM_e h
  exact ⟨_, _, _, rfl, rfl⟩
theorem msX6_drift (l : Launch) {y : bt_Y} (hy : bt_yo y) : bt_MS l y yX6_drift cX6_drift 4 (some .int) (bw_rm 4 102) sX6_drift := bt_met hy mX6_drift bt_okX6_drift bw_fX6 (List.forall_mem_cons.mpr ⟨bt_CSS (na := 3) (msX6_in l hy) bw_lX6_46 bw_iX6_in bw_zX6 bw_cX6_in bw_dX6_in (by decide) ⟨rfl, rfl⟩, List.forall_mem_cons.mpr ⟨bt_CSV (na := 2) (ci := 6) (rc := (RX6, TX6, 27)) (msX6_copies l hy) rfl rfl bw_rX6_copies bw_lX6_199 bw_iX6_copies bw_sX6_copies bw_zX6 bw_cX6_copies bw_dX6_copies (by decide) ⟨rfl, rfl⟩, List.forall_mem_cons.mpr ⟨bt_CSV (na := 1) (ci := 6) (rc := (RX6, TX6, 27)) (msX6_areLeft l hy) rfl rfl bw_rX6_areLeft bw_lX6_187 bw_iX6_areLeft bw_sX6_areLeft bw_zX6 bw_cX6_areLeft bw_dX6_areLeft (by decide) ⟨rfl, rfl⟩, List.forall_mem_cons.mpr ⟨bt_CSV (na := 2) (ci := 6) (rc := (RX6, TX6, 27)) (msX6_driveOn l hy) rfl rfl bw_rX6_driveOn bw_lX6_190 bw_iX6_driveOn bw_sX6_driveOn bw_zX6 bw_cX6_driveOn bw_dX6_driveOn (by decide) ⟨rfl, rfl⟩, List.forall_mem_cons.mpr ⟨bt_CSV (na := 1) (ci := 6) (rc := (RX6, TX6, 27)) (msX6_timesOn l hy) rfl rfl bw_rX6_timesOn bw_lX6_208 bw_iX6_timesOn bw_sX6_timesOn bw_zX6 bw_cX6_timesOn bw_dX6_timesOn (by decide) ⟨rfl, rfl⟩, List.forall_mem_cons.mpr ⟨bt_CSV (na := 1) (ci := 6) (rc := (RX6, TX6, 27)) (msX6_pastOn l hy) rfl rfl bw_rX6_pastOn bw_lX6_146 bw_iX6_pastOn bw_sX6_pastOn bw_zX6 bw_cX6_pastOn bw_dX6_pastOn (by decide) ⟨rfl, rfl⟩, fun _ h => absurd h List.not_mem_nil⟩⟩⟩⟩⟩⟩) rfl (by decide) ⟨by decide, rfl⟩ bw_nX6_drift
theorem bw_nX6_keep : ∀ as M N Rt, sX6_keep as M N Rt → bt_sum as ≤ 3 := by
  intro as M N Rt h
  obtain ⟨t, S, r, S1, rfl, -, hf, -⟩ := bt_spM_e h
  unfold f_keep at hf
  split at hf
  · exact Nat.le_of_ble_eq_true rfl
  · cases hf
theorem bw_rX6_keep : ∀ as M N Rt, sX6_keep as M N Rt → ∃ c t n, as = .ref c :: t ∧ bt_sh c = (0, 6, n) := by
  intro as M N Rt h
  obtain ⟨t, S, r, S1, rfl, -⟩ := bt_spM_e h
  exact ⟨_, _, _, rfl, rfl⟩
theorem msX6_keep (l : Launch) {y : bt_Y} (hy : bt_yo y) : bt_MS l y yX6_keep cX6_keep 3 (some .int) (bw_rm 1 25) sX6_keep := bt_met hy mX6_keep bt_okX6_keep bw_fX6 (List.forall_mem_cons.mpr ⟨bt_CSS (na := 3) (msX6_in l hy) bw_lX6_46 bw_iX6_in bw_zX6 bw_cX6_in bw_dX6_in (by decide) ⟨rfl, rfl⟩, List.forall_mem_cons.mpr ⟨bt_CSV (na := 2) (ci := 6) (rc := (RX6, TX6, 27)) (msX6_copies l hy) rfl rfl bw_rX6_copies bw_lX6_199 bw_iX6_copies bw_sX6_copies bw_zX6 bw_cX6_copies bw_dX6_copies (by decide) ⟨rfl, rfl⟩, fun _ h => absurd h List.not_mem_nil⟩⟩) rfl (by decide) ⟨by decide, rfl⟩ bw_nX6_keep
theorem bw_nX6_back : ∀ as M N Rt, sX6_back as M N Rt → bt_sum as ≤ 2 := by
  intro as M N Rt h
  obtain ⟨t, S, r, S1, rfl, -, hf, -⟩ := bt_spM_e h
  unfold f_back at hf
  split at hf
  · exact Nat.le_of_ble_eq_true rfl
  · cases hf
theorem bw_rX6_back : ∀ as M N Rt, sX6_back as M N Rt → ∃ c t n, as = .ref c :: t ∧ bt_sh c = (0, 6, n) := by
  intro as M N Rt h
  obtain ⟨t, S, r, S1, rfl, -⟩ := bt_spM_e h
  exact ⟨_, _, _, rfl, rfl⟩
theorem msX6_back (l : Launch) {y : bt_Y} (hy : bt_yo y) : bt_MS l y yX6_back cX6_back 2 (some .int) (bw_rm 1 25) sX6_back := bt_met hy mX6_back bt_okX6_back bw_fX6 (List.forall_mem_cons.mpr ⟨bt_CSS (na := 3) (msX6_in l hy) bw_lX6_46 bw_iX6_in bw_zX6 bw_cX6_in bw_dX6_in (by decide) ⟨rfl, rfl⟩, List.forall_mem_cons.mpr ⟨bt_CSV (na := 2) (ci := 6) (rc := (RX6, TX6, 27)) (msX6_copies l hy) rfl rfl bw_rX6_copies bw_lX6_199 bw_iX6_copies bw_sX6_copies bw_zX6 bw_cX6_copies bw_dX6_copies (by decide) ⟨rfl, rfl⟩, fun _ h => absurd h List.not_mem_nil⟩⟩) rfl (by decide) ⟨by decide, rfl⟩ bw_nX6_back
theorem bw_nX6_sheet : ∀ as M N Rt, sX6_sheet as M N Rt → bt_sum as ≤ 5 := by
  intro as M N Rt h
  obtain ⟨t, S, r, S1, rfl, -, hf, -⟩ := bt_spM_e h
  unfold f_sheet at hf
  split at hf
  · exact Nat.le_of_ble_eq_true rfl
  · cases hf
theorem bw_rX6_sheet : ∀ as M N Rt, sX6_sheet as M N Rt → ∃ c t n, as = .ref c :: t ∧ bt_sh c = (0, 6, n) := by
  intro as M N Rt h
  obtain ⟨t, S, r, S1, rfl, -⟩ := bt_spM_e h
  exact ⟨_, _, _, rfl, rfl⟩
theorem msX6_sheet (l : Launch) {y : bt_Y} (hy : bt_yo y) : bt_MS l y yX6_sheet cX6_sheet 5 (some .int) (bw_rm 1 25) sX6_sheet := bt_met hy mX6_sheet bt_okX6_sheet bw_fX6 (List.forall_mem_cons.mpr ⟨bt_CSS (na := 3) (msX6_in l hy) bw_lX6_46 bw_iX6_in bw_zX6 bw_cX6_in bw_dX6_in (by decide) ⟨rfl, rfl⟩, fun _ h => absurd h List.not_mem_nil⟩) rfl (by decide) ⟨by decide, rfl⟩ bw_nX6_sheet
theorem bw_nX6_lay : ∀ as M N Rt, sX6_lay as M N Rt → bt_sum as ≤ 4 := by
  intro as M N Rt h
  obtain ⟨t, S, r, S1, rfl, -, hf, -⟩ := bt_spM_e h
  unfold f_lay at hf
  split at hf
  · exact Nat.le_of_ble_eq_true rfl
  · cases hf
theorem bw_rX6_lay : ∀ as M N Rt, sX6_lay as M N Rt → ∃ c t n, as = .ref c :: t ∧ bt_sh c = (0, 6, n) := by
  intro as M N Rt h
  obtain ⟨t, S, r, S1, rfl, -⟩ := bt_spM_e h
  exact ⟨_, _, _, rfl, rfl⟩
theorem msX6_lay (l : Launch) {y : bt_Y} (hy : bt_yo y) : bt_MS l y yX6_lay cX6_lay 4 (some .int) (bw_rm 1 25) sX6_lay := bt_met hy mX6_lay bt_okX6_lay bw_fX6 (List.forall_mem_cons.mpr ⟨bt_CSS (na := 3) (msX6_in l hy) bw_lX6_46 bw_iX6_in bw_zX6 bw_cX6_in bw_dX6_in (by decide) ⟨rfl, rfl⟩, fun _ h => absurd h List.not_mem_nil⟩) rfl (by decide) ⟨by decide, rfl⟩ bw_nX6_lay
theorem bw_nX6_read : ∀ as M N Rt, sX6_read as M N Rt → bt_sum as ≤ 7 := by
  intro as M N Rt h
  obtain ⟨t, S, r, S1, rfl, -, hf, -⟩ := bt_spM_e h
  unfold f_read at hf
  split at hf
  · exact Nat.le_of_ble_eq_true rfl
  · cases hf
theorem bw_rX6_read : ∀ as M N Rt, sX6_read as M N Rt → ∃ c t n, as = .ref c :: t ∧ bt_sh c = (0, 6, n) := by
  intro as M N Rt h
  obtain ⟨t, S, r, S1, rfl, -⟩ := bt_spM_e h
  exact ⟨_, _, _, rfl, rfl⟩
theorem msX6_read (l : Launch) {y : bt_Y} (hy : bt_yo y) : bt_MS l y yX6_read cX6_read 7 (some .int) (bw_rm 5 123) sX6_read := bt_met hy mX6_read bt_okX6_read bw_fX6 (List.forall_mem_cons.mpr ⟨bt_CSS (na := 3) (msX6_in l hy) bw_lX6_46 bw_iX6_in bw_zX6 bw_cX6_in bw_dX6_in (by decide) ⟨rfl, rfl⟩, List.forall_mem_cons.mpr ⟨bt_CSV (na := 2) (ci := 6) (rc := (RX6, TX6, 27)) (msX6_copies l hy) rfl rfl bw_rX6_copies bw_lX6_199 bw_iX6_copies bw_sX6_copies bw_zX6 bw_cX6_copies bw_dX6_copies (by decide) ⟨rfl, rfl⟩, List.forall_mem_cons.mpr ⟨bt_CSV (na := 1) (ci := 6) (rc := (RX6, TX6, 27)) (msX6_drives l hy) rfl rfl bw_rX6_drives bw_lX6_193 bw_iX6_drives bw_sX6_drives bw_zX6 bw_cX6_drives bw_dX6_drives (by decide) ⟨rfl, rfl⟩, fun _ h => absurd h List.not_mem_nil⟩⟩⟩) rfl (by decide) ⟨by decide, rfl⟩ bw_nX6_read
theorem bw_nX6_torn : ∀ as M N Rt, sX6_torn as M N Rt → bt_sum as ≤ 1 := by
  intro as M N Rt h
  obtain ⟨t, S, r, S1, rfl, -, hf, -⟩ := bt_spM_e h
  unfold f_torn at hf
  split at hf
  · exact Nat.le_of_ble_eq_true rfl
  · cases hf
theorem bw_rX6_torn : ∀ as M N Rt, sX6_torn as M N Rt → ∃ c t n, as = .ref c :: t ∧ bt_sh c = (0, 6, n) := by
  intro as M N Rt h
  obtain ⟨t, S, r, S1, rfl, -⟩ := bt_spM_e h
  exact ⟨_, _, _, rfl, rfl⟩
theorem msX6_torn (l : Launch) {y : bt_Y} (hy : bt_yo y) : bt_MS l y yX6_torn cX6_torn 1 (some .int) (bw_rm 0 0) sX6_torn := bt_met hy mX6_torn bt_okX6_torn bw_fX6 (fun _ h => absurd h List.not_mem_nil) rfl (by decide) ⟨by decide, rfl⟩ bw_nX6_torn
theorem bw_nX6_count : ∀ as M N Rt, sX6_count as M N Rt → bt_sum as ≤ 2 := by
  intro as M N Rt h
  obtain ⟨t, S, r, S1, rfl, -, hf, -⟩ := bt_spM_e h
  unfold f_count at hf
  split at hf
  · exact Nat.le_of_ble_eq_true rfl
  · cases hf
theorem bw_rX6_count : ∀ as M N Rt, sX6_count as M N Rt → ∃ c t n, as = .ref c :: t ∧ bt_sh c = (0, 6, n) := by
  intro as M N Rt h
  obtain ⟨t, S, r, S1, rfl, -⟩ := bt_spM_e h
  exact ⟨_, _, _, rfl, rfl⟩
theorem msX6_count (l : Launch) {y : bt_Y} (hy : bt_yo y) : bt_MS l y yX6_count cX6_count 2 (some .int) (bw_rm 2 45) sX6_count := bt_met hy mX6_count bt_okX6_count bw_fX6 (List.forall_mem_cons.mpr ⟨bt_CSV (na := 1) (ci := 6) (rc := (RX6, TX6, 27)) (msX6_pastOn l hy) rfl rfl bw_rX6_pastOn bw_lX6_146 bw_iX6_pastOn bw_sX6_pastOn bw_zX6 bw_cX6_pastOn bw_dX6_pastOn (by decide) ⟨rfl, rfl⟩, List.forall_mem_cons.mpr ⟨bt_CSS (na := 1) (msX6_bitsOf l hy) bw_lX6_181 bw_iX6_bitsOf bw_zX6 bw_cX6_bitsOf bw_dX6_bitsOf (by decide) ⟨rfl, rfl⟩, List.forall_mem_cons.mpr ⟨bt_CSV (na := 0) (ci := 6) (rc := (RX6, TX6, 27)) (msX6_milesLeft l hy) rfl rfl bw_rX6_milesLeft bw_lX6_211 bw_iX6_milesLeft bw_sX6_milesLeft bw_zX6 bw_cX6_milesLeft bw_dX6_milesLeft (by decide) ⟨rfl, rfl⟩, List.forall_mem_cons.mpr ⟨bt_CSV (na := 1) (ci := 6) (rc := (RX6, TX6, 27)) (msX6_timesOn l hy) rfl rfl bw_rX6_timesOn bw_lX6_208 bw_iX6_timesOn bw_sX6_timesOn bw_zX6 bw_cX6_timesOn bw_dX6_timesOn (by decide) ⟨rfl, rfl⟩, fun _ h => absurd h List.not_mem_nil⟩⟩⟩⟩) rfl (by decide) ⟨by decide, rfl⟩ bw_nX6_count
