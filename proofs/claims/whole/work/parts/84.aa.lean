/-! EACH METHOD ON THE MACHINE, 1 -/
theorem bw_nX0_add : ∀ as M N Rt, sX0_add as M N Rt → bt_sum as ≤ 3 := by
  intro as M N Rt h
  unfold sX0_add at h
  split at h
  · exact Nat.le_of_ble_eq_true rfl
  · exact False.elim h
theorem bw_rX0_add : ∀ as M N Rt, sX0_add as M N Rt → ∃ c t n, as = .ref c :: t ∧ bt_sh c = (0, 0, n) := by
  intro as M N Rt h
  unfold sX0_add at h
  split at h
  · obtain ⟨x0, rfl, -⟩ := h <;> exact ⟨_, _, _, rfl, rfl⟩
  · exact False.elim h
theorem msX0_add (l : Launch) {y : bt_Y} (hy : bt_yo y) : bt_MS l y yX0_add cX0_add 3 (some .boolean) (bw_rm 0 0) sX0_add := bt_met hy mX0_add bt_okX0_add bw_fX0 (fun _ h => absurd h List.not_mem_nil) rfl (by decide) ⟨by decide, rfl⟩ bw_nX0_add
theorem bw_nX4_stretchesLeft : ∀ as M N Rt, sX4_stretchesLeft as M N Rt → bt_sum as ≤ 1 := by
  intro as M N Rt h
  unfold sX4_stretchesLeft at h
  split at h
  · exact Nat.le_of_ble_eq_true rfl
  · exact False.elim h
theorem bw_rX4_stretchesLeft : ∀ as M N Rt, sX4_stretchesLeft as M N Rt → ∃ c t n, as = .ref c :: t ∧ bt_sh c = (0, 4, n) := by
  intro as M N Rt h
  unfold sX4_stretchesLeft at h
  split at h
  · obtain ⟨x0, (rfl | rfl), -⟩ := h <;> exact ⟨_, _, _, rfl, rfl⟩
  · exact False.elim h
theorem msX4_stretchesLeft (l : Launch) {y : bt_Y} (hy : bt_yo y) : bt_MS l y yX4_stretchesLeft cX4_stretchesLeft 1 (some .int) (bw_rm 0 0) sX4_stretchesLeft := bt_met hy mX4_stretchesLeft bt_okX4_stretchesLeft bw_fX4 (fun _ h => absurd h List.not_mem_nil) rfl (by decide) ⟨by decide, rfl⟩ bw_nX4_stretchesLeft
theorem bw_nJ6_numberOfTrailingZeros_0f7a4 : ∀ as M N Rt, sJ6_numberOfTrailingZeros_0f7a4 as M N Rt → bt_sum as ≤ 2 := by
  intro as M N Rt h
  unfold sJ6_numberOfTrailingZeros_0f7a4 at h
  split at h
  · exact Nat.le_of_ble_eq_true rfl
  · exact False.elim h
theorem msJ6_numberOfTrailingZeros_0f7a4 (l : Launch) {y : bt_Y} (hy : bt_yo y) : bt_MS l y yJ6_numberOfTrailingZeros_0f7a4 cJ6_numberOfTrailingZeros_0f7a4 2 (some .int) (bw_rm 0 0) sJ6_numberOfTrailingZeros_0f7a4 := bt_met hy mJ6_numberOfTrailingZeros_0f7a4 bt_okJ6_numberOfTrailingZeros_0f7a4 (fun _ h => absurd h List.not_mem_nil) (fun _ h => absurd h List.not_mem_nil) rfl (by decide) ⟨by decide, rfl⟩ bw_nJ6_numberOfTrailingZeros_0f7a4
theorem bw_nX5_bit : ∀ as M N Rt, sX5_bit as M N Rt → bt_sum as ≤ 2 := by
  intro as M N Rt h
  unfold sX5_bit at h
  split at h
  · exact Nat.le_of_ble_eq_true rfl
  · exact False.elim h
theorem msX5_bit (l : Launch) {y : bt_Y} (hy : bt_yo y) : bt_MS l y yX5_bit cX5_bit 2 (some .int) (bw_rm 0 0) sX5_bit := bt_met hy mX5_bit bt_okX5_bit bw_fX5 (fun _ h => absurd h List.not_mem_nil) rfl (by decide) ⟨by decide, rfl⟩ bw_nX5_bit
theorem bw_nX4_everybody : ∀ as M N Rt, sX4_everybody as M N Rt → bt_sum as ≤ 1 := by
  intro as M N Rt h
  unfold sX4_everybody at h
  split at h
  · exact Nat.le_of_ble_eq_true rfl
  · exact False.elim h
theorem bw_rX4_everybody : ∀ as M N Rt, sX4_everybody as M N Rt → ∃ c t n, as = .ref c :: t ∧ bt_sh c = (0, 4, n) := by
  intro as M N Rt h
  unfold sX4_everybody at h
  split at h
  · obtain ⟨x0, (rfl | rfl), -⟩ := h <;> exact ⟨_, _, _, rfl, rfl⟩
  · exact False.elim h
theorem msX4_everybody (l : Launch) {y : bt_Y} (hy : bt_yo y) : bt_MS l y yX4_everybody cX4_everybody 1 (some .int) (bw_rm 0 0) sX4_everybody := bt_met hy mX4_everybody bt_okX4_everybody bw_fX4 (fun _ h => absurd h List.not_mem_nil) rfl (by decide) ⟨by decide, rfl⟩ bw_nX4_everybody
theorem bw_nX4_behind : ∀ as M N Rt, sX4_behind as M N Rt → bt_sum as ≤ 2 := by
  intro as M N Rt h
  unfold sX4_behind at h
  split at h
  · exact Nat.le_of_ble_eq_true rfl
  · exact False.elim h
theorem bw_rX4_behind : ∀ as M N Rt, sX4_behind as M N Rt → ∃ c t n, as = .ref c :: t ∧ bt_sh c = (0, 4, n) := by
  intro as M N Rt h
  unfold sX4_behind at h
  split at h
  · obtain ⟨x0, x1, (rfl | rfl), -⟩ := h <;> exact ⟨_, _, _, rfl, rfl⟩
  · exact False.elim h
theorem msX4_behind (l : Launch) {y : bt_Y} (hy : bt_yo y) : bt_MS l y yX4_behind cX4_behind 2 (some .int) (bw_rm 1 20) sX4_behind := bt_met hy mX4_behind bt_okX4_behind bw_fX4 (List.forall_mem_cons.mpr ⟨bt_CSV (na := 0) (ci := 4) (rc := (RX4, TX4, 18)) (msX4_everybody l hy) rfl rfl bw_rX4_everybody bw_lX4_73 bw_iX4_everybody bw_sX4_everybody bw_zX4 bw_cX4_everybody bw_dX4_everybody (by decide) ⟨rfl, rfl⟩, fun _ h => absurd h List.not_mem_nil⟩) rfl (by decide) ⟨by decide, rfl⟩ bw_nX4_behind
theorem bw_nJ6_bitCount_0f7a4 : ∀ as M N Rt, sJ6_bitCount_0f7a4 as M N Rt → bt_sum as ≤ 1 := by
  intro as M N Rt h
  unfold sJ6_bitCount_0f7a4 at h
  split at h
  · exact Nat.le_of_ble_eq_true rfl
  · exact False.elim h
theorem msJ6_bitCount_0f7a4 (l : Launch) {y : bt_Y} (hy : bt_yo y) : bt_MS l y yJ6_bitCount_0f7a4 cJ6_bitCount_0f7a4 1 (some .int) (bw_rm 0 0) sJ6_bitCount_0f7a4 := bt_met hy mJ6_bitCount_0f7a4 bt_okJ6_bitCount_0f7a4 (fun _ h => absurd h List.not_mem_nil) (fun _ h => absurd h List.not_mem_nil) rfl (by decide) ⟨by decide, rfl⟩ bw_nJ6_bitCount_0f7a4
theorem bw_nX4_ofUse : ∀ as M N Rt, sX4_ofUse as M N Rt → bt_sum as ≤ 4 := by
  intro as M N Rt h
  unfold sX4_ofUse at h
  split at h
  · exact Nat.le_of_ble_eq_true rfl
  · exact False.elim h
theorem bw_rX4_ofUse : ∀ as M N Rt, sX4_ofUse as M N Rt → ∃ c t n, as = .ref c :: t ∧ bt_sh c = (0, 4, n) := by
  intro as M N Rt h
  unfold sX4_ofUse at h
  split at h
  · obtain ⟨x0, x1, x2, (rfl | rfl), -⟩ := h <;> exact ⟨_, _, _, rfl, rfl⟩
  · exact False.elim h
theorem msX4_ofUse (l : Launch) {y : bt_Y} (hy : bt_yo y) : bt_MS l y yX4_ofUse cX4_ofUse 4 (some .int) (bw_rm 1 21) sX4_ofUse := bt_met hy mX4_ofUse bt_okX4_ofUse bw_fX4 (List.forall_mem_cons.mpr ⟨bt_CSN (host := RX5) (na := 2) (msX5_bit l hy) bw_lX4_77 bw_iX5_bit bw_zX5 bw_cX5_bit bw_dX5_bit (by decide) ⟨rfl, rfl⟩, List.forall_mem_cons.mpr ⟨bw_mx bw_lX4_90 (by decide), List.forall_mem_cons.mpr ⟨bw_mn bw_lX4_95 (by decide), fun _ h => absurd h List.not_mem_nil⟩⟩⟩) rfl (by decide) ⟨by decide, rfl⟩ bw_nX4_ofUse
theorem bw_nX4_passes : ∀ as M N Rt, sX4_passes as M N Rt → bt_sum as ≤ 6 := by
  intro as M N Rt h
  unfold sX4_passes at h
  split at h
  · exact Nat.le_of_ble_eq_true rfl
  · exact False.elim h
theorem bw_rX4_passes : ∀ as M N Rt, sX4_passes as M N Rt → ∃ c t n, as = .ref c :: t ∧ bt_sh c = (0, 4, n) := by
  intro as M N Rt h
  unfold sX4_passes at h
  split at h
  · obtain ⟨x0, x1, x2, x3, x4, (rfl | rfl), -⟩ := h <;> exact ⟨_, _, _, rfl, rfl⟩
  · exact False.elim h
theorem msX4_passes (l : Launch) {y : bt_Y} (hy : bt_yo y) : bt_MS l y yX4_passes cX4_passes 6 (some .boolean) (bw_rm 0 0) sX4_passes := bt_met hy mX4_passes bt_okX4_passes bw_fX4 (fun _ h => absurd h List.not_mem_nil) rfl (by decide) ⟨by decide, rfl⟩ bw_nX4_passes
theorem bw_nX4_comers : ∀ as M N Rt, sX4_comers as M N Rt → bt_sum as ≤ 10 := by
  intro as M N Rt h
  unfold sX4_comers at h
  split at h
  · exact Nat.le_of_ble_eq_true rfl
  · exact False.elim h
theorem bw_rX4_comers : ∀ as M N Rt, sX4_comers as M N Rt → ∃ c t n, as = .ref c :: t ∧ bt_sh c = (0, 4, n) := by
  intro as M N Rt h
  unfold sX4_comers at h
  split at h
  · obtain ⟨x0, x1, x2, x3, (rfl | rfl), -⟩ := h <;> exact ⟨_, _, _, rfl, rfl⟩
  · exact False.elim h
theorem msX4_comers (l : Launch) {y : bt_Y} (hy : bt_yo y) : bt_MS l y yX4_comers cX4_comers 10 (some .int) (bw_rm 2 44) sX4_comers := bt_met hy mX4_comers bt_okX4_comers bw_fX4 (List.forall_mem_cons.mpr ⟨bt_CSV (na := 1) (ci := 4) (rc := (RX4, TX4, 18)) (msX4_behind l hy) rfl rfl bw_rX4_behind bw_lX4_81 bw_iX4_behind bw_sX4_behind bw_zX4 bw_cX4_behind bw_dX4_behind (by decide) ⟨rfl, rfl⟩, List.forall_mem_cons.mpr ⟨bt_CSN (host := RX5) (na := 2) (msX5_bit l hy) bw_lX4_77 bw_iX5_bit bw_zX5 bw_cX5_bit bw_dX5_bit (by decide) ⟨rfl, rfl⟩, List.forall_mem_cons.mpr ⟨bt_CSS (na := 1) (msJ6_bitCount_0f7a4 l hy) bw_lX4_85 bw_iJ6_bitCount_0f7a4 bw_zJ6 bw_cJ6_bitCount_0f7a4 bw_dJ6_bitCount_0f7a4 (by decide) ⟨rfl, rfl⟩, List.forall_mem_cons.mpr ⟨bt_CSV (na := 2) (ci := 4) (rc := (RX4, TX4, 18)) (msX4_ofUse l hy) rfl rfl bw_rX4_ofUse bw_lX4_98 bw_iX4_ofUse bw_sX4_ofUse bw_zX4 bw_cX4_ofUse bw_dX4_ofUse (by decide) ⟨rfl, rfl⟩, List.forall_mem_cons.mpr ⟨bt_CSV (na := 4) (ci := 4) (rc := (RX4, TX4, 18)) (msX4_passes l hy) rfl rfl bw_rX4_passes bw_lX4_101 bw_iX4_passes bw_sX4_passes bw_zX4 bw_cX4_passes bw_dX4_passes (by decide) ⟨rfl, rfl⟩, fun _ h => absurd h List.not_mem_nil⟩⟩⟩⟩⟩) rfl (by decide) ⟨by decide, rfl⟩ bw_nX4_comers
theorem bw_nX4_minutes : ∀ as M N Rt, sX4_minutes as M N Rt → bt_sum as ≤ 4 := by
  intro as M N Rt h
  unfold sX4_minutes at h
  split at h
  · exact Nat.le_of_ble_eq_true rfl
  · exact False.elim h
theorem bw_rX4_minutes : ∀ as M N Rt, sX4_minutes as M N Rt → ∃ c t n, as = .ref c :: t ∧ bt_sh c = (0, 4, n) := by
  intro as M N Rt h
  unfold sX4_minutes at h
  split at h
  · obtain ⟨x0, x1, x2, x3, x4, x5, x6, (rfl | rfl), -⟩ := h <;> exact ⟨_, _, _, rfl, rfl⟩
  · exact False.elim h
theorem msX4_minutes (l : Launch) {y : bt_Y} (hy : bt_yo y) : bt_MS l y yX4_minutes cX4_minutes 4 (some .int) (bw_rm 1 21) sX4_minutes := bt_met hy mX4_minutes bt_okX4_minutes bw_fX4 (List.forall_mem_cons.mpr ⟨bt_CSN (host := RX5) (na := 2) (msX5_bit l hy) bw_lX4_77 bw_iX5_bit bw_zX5 bw_cX5_bit bw_dX5_bit (by decide) ⟨rfl, rfl⟩, fun _ h => absurd h List.not_mem_nil⟩) rfl (by decide) ⟨by decide, rfl⟩ bw_nX4_minutes
theorem bw_nX0_goDown : ∀ as M N Rt, sX0_goDown as M N Rt → bt_sum as ≤ 7 := by
  intro as M N Rt h
  unfold sX0_goDown at h
  split at h
  · exact Nat.le_of_ble_eq_true rfl
  · exact False.elim h
theorem bw_rX0_goDown : ∀ as M N Rt, sX0_goDown as M N Rt → ∃ c t n, as = .ref c :: t ∧ bt_sh c = (0, 0, n) := by
  intro as M N Rt h
  unfold sX0_goDown at h
  split at h
  · obtain ⟨x0, x1, x2, x3, x4, x5, rfl, -⟩ := h <;> exact ⟨_, _, _, rfl, rfl⟩
  · exact False.elim h
theorem msX0_goDown (l : Launch) {y : bt_Y} (hy : bt_yo y) : bt_MS l y yX0_goDown cX0_goDown 7 none (bw_rm 3 73) sX0_goDown := bt_met hy mX0_goDown bt_okX0_goDown bw_fX0 (List.forall_mem_cons.mpr ⟨bt_CSV (na := 3) (ci := 4) (rc := (RX4, TX4, 18)) (msX4_comers l hy) rfl rfl bw_rX4_comers bw_lX0_92 bw_iX4_comers bw_sX4_comers bw_zX4 bw_cX4_comers bw_dX4_comers (by decide) ⟨rfl, rfl⟩, List.forall_mem_cons.mpr ⟨bt_CSV (na := 3) (ci := 4) (rc := (RX4, TX4, 18)) (msX4_minutes l hy) rfl rfl bw_rX4_minutes bw_lX0_99 bw_iX4_minutes bw_sX4_minutes bw_zX4 bw_cX4_minutes bw_dX4_minutes (by decide) ⟨rfl, rfl⟩, fun _ h => absurd h List.not_mem_nil⟩⟩) rfl (by decide) ⟨by decide, rfl⟩ bw_nX0_goDown
theorem bw_nX0_judge : ∀ as M N Rt, sX0_judge as M N Rt → bt_sum as ≤ 5 := by
  intro as M N Rt h
  unfold sX0_judge at h
  split at h
  · exact Nat.le_of_ble_eq_true rfl
  · exact False.elim h
theorem bw_rX0_judge : ∀ as M N Rt, sX0_judge as M N Rt → ∃ c t n, as = .ref c :: t ∧ bt_sh c = (0, 0, n) := by
  intro as M N Rt h
  unfold sX0_judge at h
  split at h
  · obtain ⟨x0, x1, x2, x3, x4, x5, x6, x7, x8, rfl, -⟩ := h <;> exact ⟨_, _, _, rfl, rfl⟩
  · exact False.elim h
theorem msX0_judge (l : Launch) {y : bt_Y} (hy : bt_yo y) : bt_MS l y yX0_judge cX0_judge 5 none (bw_rm 1 21) sX0_judge := bt_met hy mX0_judge bt_okX0_judge bw_fX0 (List.forall_mem_cons.mpr ⟨bw_mn bw_lX0_102 (by decide), fun _ h => absurd h List.not_mem_nil⟩) rfl (by decide) ⟨by decide, rfl⟩ bw_nX0_judge
theorem bw_nX0_tryAllSets : ∀ as M N Rt, sX0_tryAllSets as M N Rt → bt_sum as ≤ 6 := by
  intro as M N Rt h
  unfold sX0_tryAllSets at h
  split at h
  · exact Nat.le_of_ble_eq_true rfl
  · exact False.elim h
theorem bw_rX0_tryAllSets : ∀ as M N Rt, sX0_tryAllSets as M N Rt → ∃ c t n, as = .ref c :: t ∧ bt_sh c = (0, 0, n) := by
  intro as M N Rt h
  unfold sX0_tryAllSets at h
  split at h
  · obtain ⟨x0, x1, x2, x3, rfl, -⟩ := h <;> exact ⟨_, _, _, rfl, rfl⟩
  · exact False.elim h
theorem msX0_tryAllSets (l : Launch) {y : bt_Y} (hy : bt_yo y) : bt_MS l y yX0_tryAllSets cX0_tryAllSets 6 none (bw_rm 4 99) sX0_tryAllSets := bt_met hy mX0_tryAllSets bt_okX0_tryAllSets bw_fX0 (List.forall_mem_cons.mpr ⟨bt_CSV (na := 0) (ci := 4) (rc := (RX4, TX4, 18)) (msX4_stretchesLeft l hy) rfl rfl bw_rX4_stretchesLeft bw_lX0_39 bw_iX4_stretchesLeft bw_sX4_stretchesLeft bw_zX4 bw_cX4_stretchesLeft bw_dX4_stretchesLeft (by decide) ⟨rfl, rfl⟩, List.forall_mem_cons.mpr ⟨bt_CSaI bw_lX0_59 bw_an bw_as bw_az (by decide), List.forall_mem_cons.mpr ⟨bt_CSS (na := 1) (msJ6_numberOfTrailingZeros_0f7a4 l hy) bw_lX0_71 bw_iJ6_numberOfTrailingZeros_0f7a4 bw_zJ6 bw_cJ6_numberOfTrailingZeros_0f7a4 bw_dJ6_numberOfTrailingZeros_0f7a4 (by decide) ⟨rfl, rfl⟩, List.forall_mem_cons.mpr ⟨bt_CSN (host := RX5) (na := 2) (msX5_bit l hy) bw_lX0_77 bw_iX5_bit bw_zX5 bw_cX5_bit bw_dX5_bit (by decide) ⟨rfl, rfl⟩, List.forall_mem_cons.mpr ⟨bt_CSV (na := 3) (ci := 0) (rc := (RX0, TX0, 11)) (msX0_goDown l hy) rfl rfl bw_rX0_goDown bw_lX0_81 bw_iX0_goDown bw_sX0_goDown bw_zX0 bw_cX0_goDown bw_dX0_goDown (by decide) ⟨rfl, rfl⟩, List.forall_mem_cons.mpr ⟨bt_CSV (na := 3) (ci := 0) (rc := (RX0, TX0, 11)) (msX0_judge l hy) rfl rfl bw_rX0_judge bw_lX0_85 bw_iX0_judge bw_sX0_judge bw_zX0 bw_cX0_judge bw_dX0_judge (by decide) ⟨rfl, rfl⟩, fun _ h => absurd h List.not_mem_nil⟩⟩⟩⟩⟩⟩) rfl (by decide) ⟨by decide, rfl⟩ bw_nX0_tryAllSets
theorem bw_nX1_begin : ∀ as M N Rt, sX1_begin as M N Rt → bt_sum as ≤ 3 := by
  intro as M N Rt h
  unfold sX1_begin at h
  split at h
  · exact Nat.le_of_ble_eq_true rfl
  · exact False.elim h
theorem bw_rX1_begin : ∀ as M N Rt, sX1_begin as M N Rt → ∃ c t n, as = .ref c :: t ∧ bt_sh c = (0, 1, n) := by
  intro as M N Rt h
  unfold sX1_begin at h
  split at h
  · obtain ⟨x0, rfl, -⟩ := h <;> exact ⟨_, _, _, rfl, rfl⟩
  · exact False.elim h
theorem msX1_begin (l : Launch) {y : bt_Y} (hy : bt_yo y) : bt_MS l y yX1_begin cX1_begin 3 none (bw_rm 0 0) sX1_begin := bt_met hy mX1_begin bt_okX1_begin bw_fX1 (fun _ h => absurd h List.not_mem_nil) rfl (by decide) ⟨by decide, rfl⟩ bw_nX1_begin
theorem bw_nX1_spreadOne : ∀ as M N Rt, sX1_spreadOne as M N Rt → bt_sum as ≤ 5 := by
  intro as M N Rt h
  unfold sX1_spreadOne at h
  split at h
  · exact Nat.le_of_ble_eq_true rfl
  · exact False.elim h
theorem bw_rX1_spreadOne : ∀ as M N Rt, sX1_spreadOne as M N Rt → ∃ c t n, as = .ref c :: t ∧ bt_sh c = (0, 1, n) := by
  intro as M N Rt h
  unfold sX1_spreadOne at h
  split at h
  · obtain ⟨x0, x1, rfl, -⟩ := h <;> exact ⟨_, _, _, rfl, rfl⟩
  · exact False.elim h
theorem msX1_spreadOne (l : Launch) {y : bt_Y} (hy : bt_yo y) : bt_MS l y yX1_spreadOne cX1_spreadOne 5 none (bw_rm 3 73) sX1_spreadOne := bt_met hy mX1_spreadOne bt_okX1_spreadOne bw_fX1 (List.forall_mem_cons.mpr ⟨bt_CSV (na := 3) (ci := 4) (rc := (RX4, TX4, 18)) (msX4_comers l hy) rfl rfl bw_rX4_comers bw_lX1_46 bw_iX4_comers bw_sX4_comers bw_zX4 bw_cX4_comers bw_dX4_comers (by decide) ⟨rfl, rfl⟩, List.forall_mem_cons.mpr ⟨bt_CSaL bw_lX1_53 bw_an bw_as bw_az (by decide), fun _ h => absurd h List.not_mem_nil⟩⟩) rfl (by decide) ⟨by decide, rfl⟩ bw_nX1_spreadOne
theorem bw_nX1_spread : ∀ as M N Rt, sX1_spread as M N Rt → bt_sum as ≤ 4 := by
  intro as M N Rt h
  unfold sX1_spread at h
  split at h
  · exact Nat.le_of_ble_eq_true rfl
  · exact False.elim h
theorem bw_rX1_spread : ∀ as M N Rt, sX1_spread as M N Rt → ∃ c t n, as = .ref c :: t ∧ bt_sh c = (0, 1, n) := by
  intro as M N Rt h
  unfold sX1_spread at h
  split at h
  · obtain ⟨x0, x1, rfl, -⟩ := h <;> exact ⟨_, _, _, rfl, rfl⟩
  · exact False.elim h
theorem msX1_spread (l : Launch) {y : bt_Y} (hy : bt_yo y) : bt_MS l y yX1_spread cX1_spread 4 none (bw_rm 4 97) sX1_spread := bt_met hy mX1_spread bt_okX1_spread bw_fX1 (List.forall_mem_cons.mpr ⟨bt_CSV (na := 1) (ci := 1) (rc := (RX1, TX1, 4)) (msX1_begin l hy) rfl rfl bw_rX1_begin bw_lX1_18 bw_iX1_begin bw_sX1_begin bw_zX1 bw_cX1_begin bw_dX1_begin (by decide) ⟨rfl, rfl⟩, List.forall_mem_cons.mpr ⟨bt_CSV (na := 2) (ci := 1) (rc := (RX1, TX1, 4)) (msX1_spreadOne l hy) rfl rfl bw_rX1_spreadOne bw_lX1_28 bw_iX1_spreadOne bw_sX1_spreadOne bw_zX1 bw_cX1_spreadOne bw_dX1_spreadOne (by decide) ⟨rfl, rfl⟩, fun _ h => absurd h List.not_mem_nil⟩⟩) rfl (by decide) ⟨by decide, rfl⟩ bw_nX1_spread
theorem bw_nX1_weightOfGone : ∀ as M N Rt, sX1_weightOfGone as M N Rt → bt_sum as ≤ 5 := by
  intro as M N Rt h
  unfold sX1_weightOfGone at h
  split at h
  · exact Nat.le_of_ble_eq_true rfl
  · exact False.elim h
theorem bw_rX1_weightOfGone : ∀ as M N Rt, sX1_weightOfGone as M N Rt → ∃ c t n, as = .ref c :: t ∧ bt_sh c = (0, 1, n) := by
  intro as M N Rt h
  unfold sX1_weightOfGone at h
  split at h
  · obtain ⟨x0, x1, x2, rfl, -⟩ := h <;> exact ⟨_, _, _, rfl, rfl⟩
  · exact False.elim h
theorem msX1_weightOfGone (l : Launch) {y : bt_Y} (hy : bt_yo y) : bt_MS l y yX1_weightOfGone cX1_weightOfGone 5 (some .long) (bw_rm 1 21) sX1_weightOfGone := bt_met hy mX1_weightOfGone bt_okX1_weightOfGone bw_fX1 (List.forall_mem_cons.mpr ⟨bt_CSN (host := RX5) (na := 2) (msX5_bit l hy) bw_lX1_61 bw_iX5_bit bw_zX5 bw_cX5_bit bw_dX5_bit (by decide) ⟨rfl, rfl⟩, fun _ h => absurd h List.not_mem_nil⟩) rfl (by decide) ⟨by decide, rfl⟩ bw_nX1_weightOfGone
theorem bw_nX1_weightedTime : ∀ as M N Rt, sX1_weightedTime as M N Rt → bt_sum as ≤ 8 := by
  intro as M N Rt h
  unfold sX1_weightedTime at h
  split at h
  · exact Nat.le_of_ble_eq_true rfl
  · exact False.elim h
theorem bw_rX1_weightedTime : ∀ as M N Rt, sX1_weightedTime as M N Rt → ∃ c t n, as = .ref c :: t ∧ bt_sh c = (0, 1, n) := by
  intro as M N Rt h
  unfold sX1_weightedTime at h
  split at h
  · obtain ⟨x0, x1, rfl, -⟩ := h <;> exact ⟨_, _, _, rfl, rfl⟩
  · exact False.elim h
theorem msX1_weightedTime (l : Launch) {y : bt_Y} (hy : bt_yo y) : bt_MS l y yX1_weightedTime cX1_weightedTime 8 (some .long) (bw_rm 4 97) sX1_weightedTime := bt_met hy mX1_weightedTime bt_okX1_weightedTime bw_fX1 (List.forall_mem_cons.mpr ⟨bt_CSV (na := 1) (ci := 1) (rc := (RX1, TX1, 4)) (msX1_begin l hy) rfl rfl bw_rX1_begin bw_lX1_18 bw_iX1_begin bw_sX1_begin bw_zX1 bw_cX1_begin bw_dX1_begin (by decide) ⟨rfl, rfl⟩, List.forall_mem_cons.mpr ⟨bt_CSV (na := 2) (ci := 1) (rc := (RX1, TX1, 4)) (msX1_spreadOne l hy) rfl rfl bw_rX1_spreadOne bw_lX1_28 bw_iX1_spreadOne bw_sX1_spreadOne bw_zX1 bw_cX1_spreadOne bw_dX1_spreadOne (by decide) ⟨rfl, rfl⟩, List.forall_mem_cons.mpr ⟨bt_CSV (na := 1) (ci := 1) (rc := (RX1, TX1, 4)) (msX1_weightOfGone l hy) rfl rfl bw_rX1_weightOfGone bw_lX1_71 bw_iX1_weightOfGone bw_sX1_weightOfGone bw_zX1 bw_cX1_weightOfGone bw_dX1_weightOfGone (by decide) ⟨rfl, rfl⟩, fun _ h => absurd h List.not_mem_nil⟩⟩⟩) rfl (by decide) ⟨by decide, rfl⟩ bw_nX1_weightedTime
theorem bw_nX1_tenthsToPass : ∀ as M N Rt, sX1_tenthsToPass as M N Rt → bt_sum as ≤ 3 := by
  intro as M N Rt h
  unfold sX1_tenthsToPass at h
  split at h
  · exact Nat.le_of_ble_eq_true rfl
  · exact False.elim h
theorem msX1_tenthsToPass (l : Launch) {y : bt_Y} (hy : bt_yo y) : bt_MS l y yX1_tenthsToPass cX1_tenthsToPass 3 (some .int) (bw_rm 2 44) sX1_tenthsToPass := bt_met hy mX1_tenthsToPass bt_okX1_tenthsToPass bw_fX1 (List.forall_mem_cons.mpr ⟨bt_CSV (na := 2) (ci := 4) (rc := (RX4, TX4, 18)) (msX4_ofUse l hy) rfl rfl bw_rX4_ofUse bw_lX1_97 bw_iX4_ofUse bw_sX4_ofUse bw_zX4 bw_cX4_ofUse bw_dX4_ofUse (by decide) ⟨rfl, rfl⟩, List.forall_mem_cons.mpr ⟨bt_CSV (na := 4) (ci := 4) (rc := (RX4, TX4, 18)) (msX4_passes l hy) rfl rfl bw_rX4_passes bw_lX1_100 bw_iX4_passes bw_sX4_passes bw_zX4 bw_cX4_passes bw_dX4_passes (by decide) ⟨rfl, rfl⟩, fun _ h => absurd h List.not_mem_nil⟩⟩) rfl (by decide) ⟨by decide, rfl⟩ bw_nX1_tenthsToPass
theorem bw_nX1_bestDaring : ∀ as M N Rt, sX1_bestDaring as M N Rt → bt_sum as ≤ 13 := by
  intro as M N Rt h
  unfold sX1_bestDaring at h
  split at h
  · exact Nat.le_of_ble_eq_true rfl
  · exact False.elim h
theorem bw_rX1_bestDaring : ∀ as M N Rt, sX1_bestDaring as M N Rt → ∃ c t n, as = .ref c :: t ∧ bt_sh c = (0, 1, n) := by
  intro as M N Rt h
  unfold sX1_bestDaring at h
  split at h
  · obtain ⟨x0, x1, x2, rfl, -⟩ := h <;> exact ⟨_, _, _, rfl, rfl⟩
  · exact False.elim h
theorem msX1_bestDaring (l : Launch) {y : bt_Y} (hy : bt_yo y) : bt_MS l y yX1_bestDaring cX1_bestDaring 13 (some .long) (bw_rm 3 66) sX1_bestDaring := bt_met hy mX1_bestDaring bt_okX1_bestDaring bw_fX1 (List.forall_mem_cons.mpr ⟨bt_CSS (na := 3) (msX1_tenthsToPass l hy) bw_lX1_87 bw_iX1_tenthsToPass bw_zX1 bw_cX1_tenthsToPass bw_dX1_tenthsToPass (by decide) ⟨rfl, rfl⟩, List.forall_mem_cons.mpr ⟨bw_ml bw_lX1_91 (by decide), fun _ h => absurd h List.not_mem_nil⟩⟩) rfl (by decide) ⟨by decide, rfl⟩ bw_nX1_bestDaring
theorem bw_nX2_begin : ∀ as M N Rt, sX2_begin as M N Rt → bt_sum as ≤ 4 := by
  intro as M N Rt h
  unfold sX2_begin at h
  split at h
  · exact Nat.le_of_ble_eq_true rfl
  · exact False.elim h
theorem bw_rX2_begin : ∀ as M N Rt, sX2_begin as M N Rt → ∃ c t n, as = .ref c :: t ∧ bt_sh c = (0, 2, n) := by
  intro as M N Rt h
  unfold sX2_begin at h
  split at h
  · obtain ⟨k, hk, rfl, -⟩ := h
    rcases (show k = 0 ∨ k = 1 ∨ k = 2 ∨ k = 3 by omega) with rfl | rfl | rfl | rfl <;> exact ⟨_, _, _, rfl, rfl⟩
  · exact False.elim h
theorem msX2_begin (l : Launch) {y : bt_Y} (hy : bt_yo y) : bt_MS l y yX2_begin cX2_begin 4 none (bw_rm 0 0) sX2_begin := bt_met hy mX2_begin bt_okX2_begin bw_fX2 (fun _ h => absurd h List.not_mem_nil) rfl (by decide) ⟨by decide, rfl⟩ bw_nX2_begin
theorem bw_nX5_within : ∀ as M N Rt, sX5_within as M N Rt → bt_sum as ≤ 3 := by
  intro as M N Rt h
  unfold sX5_within at h
  split at h
  · exact Nat.le_of_ble_eq_true rfl
  · exact False.elim h
theorem msX5_within (l : Launch) {y : bt_Y} (hy : bt_yo y) : bt_MS l y yX5_within cX5_within 3 (some .boolean) (bw_rm 0 0) sX5_within := bt_met hy mX5_within bt_okX5_within bw_fX5 (fun _ h => absurd h List.not_mem_nil) rfl (by decide) ⟨by decide, rfl⟩ bw_nX5_within
theorem bw_nX2_faultAt : ∀ as M N Rt, sX2_faultAt as M N Rt → bt_sum as ≤ 3 := by
  intro as M N Rt h
  unfold sX2_faultAt at h
  split at h
  · exact Nat.le_of_ble_eq_true rfl
  · exact False.elim h
theorem bw_rX2_faultAt : ∀ as M N Rt, sX2_faultAt as M N Rt → ∃ c t n, as = .ref c :: t ∧ bt_sh c = (0, 2, n) := by
  intro as M N Rt h
  unfold sX2_faultAt at h
  split at h
  · obtain ⟨k, x1, x2, hk, rfl, -⟩ := h
    rcases (show k = 0 ∨ k = 1 ∨ k = 2 ∨ k = 3 by omega) with rfl | rfl | rfl | rfl <;> exact ⟨_, _, _, rfl, rfl⟩
  · exact False.elim h
theorem msX2_faultAt (l : Launch) {y : bt_Y} (hy : bt_yo y) : bt_MS l y yX2_faultAt cX2_faultAt 3 (some .int) (bw_rm 1 22) sX2_faultAt := bt_met hy mX2_faultAt bt_okX2_faultAt bw_fX2 (List.forall_mem_cons.mpr ⟨bt_CSN (host := RX5) (na := 3) (msX5_within l hy) bw_lX2_22 bw_iX5_within bw_zX5 bw_cX5_within bw_dX5_within (by decide) ⟨rfl, rfl⟩, fun _ h => absurd h List.not_mem_nil⟩) rfl (by decide) ⟨by decide, rfl⟩ bw_nX2_faultAt
theorem bw_nX2_put : ∀ as M N Rt, sX2_put as M N Rt → bt_sum as ≤ 3 := by
  intro as M N Rt h
  unfold sX2_put at h
  split at h
  · exact Nat.le_of_ble_eq_true rfl
  · exact False.elim h
theorem bw_rX2_put : ∀ as M N Rt, sX2_put as M N Rt → ∃ c t n, as = .ref c :: t ∧ bt_sh c = (0, 2, n) := by
  intro as M N Rt h
  unfold sX2_put at h
  split at h
  · obtain ⟨k, x1, x2, hk, rfl, -⟩ := h
    rcases (show k = 0 ∨ k = 1 ∨ k = 2 ∨ k = 3 by omega) with rfl | rfl | rfl | rfl <;> exact ⟨_, _, _, rfl, rfl⟩
  · exact False.elim h
theorem msX2_put (l : Launch) {y : bt_Y} (hy : bt_yo y) : bt_MS l y yX2_put cX2_put 3 none (bw_rm 0 0) sX2_put := bt_met hy mX2_put bt_okX2_put bw_fX2 (fun _ h => absurd h List.not_mem_nil) rfl (by decide) ⟨by decide, rfl⟩ bw_nX2_put
theorem bw_nX3_add : ∀ as M N Rt, sX3_add as M N Rt → bt_sum as ≤ 2 := by
  intro as M N Rt h
  unfold sX3_add at h
  split at h
  · exact Nat.le_of_ble_eq_true rfl
  · exact False.elim h
theorem bw_rX3_add : ∀ as M N Rt, sX3_add as M N Rt → ∃ c t n, as = .ref c :: t ∧ bt_sh c = (0, 3, n) := by
  intro as M N Rt h
  unfold sX3_add at h
  split at h
  · obtain ⟨x0, rfl, -⟩ := h <;> exact ⟨_, _, _, rfl, rfl⟩
  · exact False.elim h
theorem msX3_add (l : Launch) {y : bt_Y} (hy : bt_yo y) : bt_MS l y yX3_add cX3_add 2 (some .boolean) (bw_rm 0 0) sX3_add := bt_met hy mX3_add bt_okX3_add bw_fX3 (fun _ h => absurd h List.not_mem_nil) rfl (by decide) ⟨by decide, rfl⟩ bw_nX3_add
theorem bw_nX4_clear : ∀ as M N Rt, sX4_clear as M N Rt → bt_sum as ≤ 2 := by
  intro as M N Rt h
  unfold sX4_clear at h
  split at h
  · exact Nat.le_of_ble_eq_true rfl
  · exact False.elim h
theorem bw_rX4_clear : ∀ as M N Rt, sX4_clear as M N Rt → ∃ c t n, as = .ref c :: t ∧ bt_sh c = (0, 4, n) := by
  intro as M N Rt h
  unfold sX4_clear at h
  split at h
  · obtain ⟨rfl, -⟩ := h <;> exact ⟨_, _, _, rfl, rfl⟩
  · exact False.elim h
theorem msX4_clear (l : Launch) {y : bt_Y} (hy : bt_yo y) : bt_MS l y yX4_clear cX4_clear 2 none (bw_rm 0 0) sX4_clear := bt_met hy mX4_clear bt_okX4_clear bw_fX4 (fun _ h => absurd h List.not_mem_nil) rfl (by decide) ⟨by decide, rfl⟩ bw_nX4_clear
theorem bw_nX3_isLetter : ∀ as M N Rt, sX3_isLetter as M N Rt → bt_sum as ≤ 1 := by
  intro as M N Rt h
  unfold sX3_isLetter at h
  split at h
  · exact Nat.le_of_ble_eq_true rfl
  · exact False.elim h
theorem msX3_isLetter (l : Launch) {y : bt_Y} (hy : bt_yo y) : bt_MS l y yX3_isLetter cX3_isLetter 1 (some .boolean) (bw_rm 0 0) sX3_isLetter := bt_met hy mX3_isLetter bt_okX3_isLetter bw_fX3 (fun _ h => absurd h List.not_mem_nil) rfl (by decide) ⟨by decide, rfl⟩ bw_nX3_isLetter
theorem bw_nX3_isFigure : ∀ as M N Rt, sX3_isFigure as M N Rt → bt_sum as ≤ 1 := by
  intro as M N Rt h
  unfold sX3_isFigure at h
  split at h
  · exact Nat.le_of_ble_eq_true rfl
  · exact False.elim h
theorem msX3_isFigure (l : Launch) {y : bt_Y} (hy : bt_yo y) : bt_MS l y yX3_isFigure cX3_isFigure 1 (some .boolean) (bw_rm 0 0) sX3_isFigure := bt_met hy mX3_isFigure bt_okX3_isFigure bw_fX3 (fun _ h => absurd h List.not_mem_nil) rfl (by decide) ⟨by decide, rfl⟩ bw_nX3_isFigure
theorem bw_nX3_refuse : ∀ as M N Rt, sX3_refuse as M N Rt → bt_sum as ≤ 3 := by
  intro as M N Rt h
  unfold sX3_refuse at h
  split at h
  · exact Nat.le_of_ble_eq_true rfl
  · exact False.elim h
theorem bw_rX3_refuse : ∀ as M N Rt, sX3_refuse as M N Rt → ∃ c t n, as = .ref c :: t ∧ bt_sh c = (0, 3, n) := by
  intro as M N Rt h
  unfold sX3_refuse at h
  split at h
  · obtain ⟨rfl, -⟩ := h <;> exact ⟨_, _, _, rfl, rfl⟩
  · exact False.elim h
theorem msX3_refuse (l : Launch) {y : bt_Y} (hy : bt_yo y) : bt_MS l y yX3_refuse cX3_refuse 3 (some .boolean) (bw_rm 0 0) sX3_refuse := bt_met hy mX3_refuse bt_okX3_refuse bw_fX3 (fun _ h => absurd h List.not_mem_nil) rfl (by decide) ⟨by decide, rfl⟩ bw_nX3_refuse
theorem bw_nX3_advance : ∀ as M N Rt, sX3_advance as M N Rt → bt_sum as ≤ 2 := by
  intro as M N Rt h
  unfold sX3_advance at h
  split at h
  · exact Nat.le_of_ble_eq_true rfl
  · exact False.elim h
theorem bw_rX3_advance : ∀ as M N Rt, sX3_advance as M N Rt → ∃ c t n, as = .ref c :: t ∧ bt_sh c = (0, 3, n) := by
  intro as M N Rt h
  unfold sX3_advance at h
  split at h
  · obtain ⟨x0, x1, x2, rfl, -⟩ := h <;> exact ⟨_, _, _, rfl, rfl⟩
  · exact False.elim h
theorem msX3_advance (l : Launch) {y : bt_Y} (hy : bt_yo y) : bt_MS l y yX3_advance cX3_advance 2 (some .boolean) (bw_rm 1 22) sX3_advance := bt_met hy mX3_advance bt_okX3_advance bw_fX3 (List.forall_mem_cons.mpr ⟨bt_CSS (na := 1) (msX3_isLetter l hy) bw_lX3_85 bw_iX3_isLetter bw_zX3 bw_cX3_isLetter bw_dX3_isLetter (by decide) ⟨rfl, rfl⟩, List.forall_mem_cons.mpr ⟨bt_CSS (na := 1) (msX3_isFigure l hy) bw_lX3_92 bw_iX3_isFigure bw_zX3 bw_cX3_isFigure bw_dX3_isFigure (by decide) ⟨rfl, rfl⟩, List.forall_mem_cons.mpr ⟨bt_CSN (host := RX5) (na := 3) (msX5_within l hy) bw_lX3_95 bw_iX5_within bw_zX5 bw_cX5_within bw_dX5_within (by decide) ⟨rfl, rfl⟩, List.forall_mem_cons.mpr ⟨bt_CSV (na := 2) (ci := 3) (rc := (RX3, TX3, 14)) (msX3_refuse l hy) rfl rfl bw_rX3_refuse bw_lX3_69 bw_iX3_refuse bw_sX3_refuse bw_zX3 bw_cX3_refuse bw_dX3_refuse (by decide) ⟨rfl, rfl⟩, fun _ h => absurd h List.not_mem_nil⟩⟩⟩⟩) rfl (by decide) ⟨by decide, rfl⟩ bw_nX3_advance
theorem bw_nX3_says : ∀ as M N Rt, sX3_says as M N Rt → bt_sum as ≤ 3 := by
  intro as M N Rt h
  unfold sX3_says at h
  split at h
  · exact Nat.le_of_ble_eq_true rfl
  · exact False.elim h
theorem bw_rX3_says : ∀ as M N Rt, sX3_says as M N Rt → ∃ c t n, as = .ref c :: t ∧ bt_sh c = (0, 3, n) := by
  intro as M N Rt h
  unfold sX3_says at h
  split at h
  · obtain ⟨x0, x1, x2, x3, rfl, -⟩ := h <;> exact ⟨_, _, _, rfl, rfl⟩
  · exact False.elim h
theorem msX3_says (l : Launch) {y : bt_Y} (hy : bt_yo y) : bt_MS l y yX3_says cX3_says 3 (some .boolean) (bw_rm 4 85) sX3_says := bt_met hy mX3_says bt_okX3_says bw_fX3 (List.forall_mem_cons.mpr ⟨bw_kl (by decide), List.forall_mem_cons.mpr ⟨bw_kc (by decide), fun _ h => absurd h List.not_mem_nil⟩⟩) rfl (by decide) ⟨by decide, rfl⟩ bw_nX3_says
theorem bw_nX3_numbered : ∀ as M N Rt, sX3_numbered as M N Rt → bt_sum as ≤ 3 := by
  intro as M N Rt h
  unfold sX3_numbered at h
  split at h
  · exact Nat.le_of_ble_eq_true rfl
  · exact False.elim h
theorem bw_rX3_numbered : ∀ as M N Rt, sX3_numbered as M N Rt → ∃ c t n, as = .ref c :: t ∧ bt_sh c = (0, 3, n) := by
  intro as M N Rt h
  unfold sX3_numbered at h
  split at h
  · obtain ⟨x0, x1, x2, x3, x4, rfl, -⟩ := h <;> exact ⟨_, _, _, rfl, rfl⟩
  · exact False.elim h
theorem msX3_numbered (l : Launch) {y : bt_Y} (hy : bt_yo y) : bt_MS l y yX3_numbered cX3_numbered 3 (some .boolean) (bw_rm 2 43) sX3_numbered := bt_met hy mX3_numbered bt_okX3_numbered bw_fX3 (List.forall_mem_cons.mpr ⟨bt_CSV (na := 0) (ci := 3) (rc := (RX3, TX3, 14)) (msX3_advance l hy) rfl rfl bw_rX3_advance bw_lX3_53 bw_iX3_advance bw_sX3_advance bw_zX3 bw_cX3_advance bw_dX3_advance (by decide) ⟨rfl, rfl⟩, List.forall_mem_cons.mpr ⟨bt_CSV (na := 2) (ci := 3) (rc := (RX3, TX3, 14)) (msX3_refuse l hy) rfl rfl bw_rX3_refuse bw_lX3_69 bw_iX3_refuse bw_sX3_refuse bw_zX3 bw_cX3_refuse bw_dX3_refuse (by decide) ⟨rfl, rfl⟩, List.forall_mem_cons.mpr ⟨bt_CSN (host := RX5) (na := 3) (msX5_within l hy) bw_lX3_95 bw_iX5_within bw_zX5 bw_cX5_within bw_dX5_within (by decide) ⟨rfl, rfl⟩, fun _ h => absurd h List.not_mem_nil⟩⟩⟩) rfl (by decide) ⟨by decide, rfl⟩ bw_nX3_numbered
theorem bw_nX3_stops : ∀ as M N Rt, sX3_stops as M N Rt → bt_sum as ≤ 1 := by
  intro as M N Rt h
  unfold sX3_stops at h
  split at h
  · exact Nat.le_of_ble_eq_true rfl
  · exact False.elim h
theorem bw_rX3_stops : ∀ as M N Rt, sX3_stops as M N Rt → ∃ c t n, as = .ref c :: t ∧ bt_sh c = (0, 3, n) := by
  intro as M N Rt h
  unfold sX3_stops at h
  split at h
  · obtain ⟨x0, x1, x2, rfl, -⟩ := h <;> exact ⟨_, _, _, rfl, rfl⟩
  · exact False.elim h
theorem msX3_stops (l : Launch) {y : bt_Y} (hy : bt_yo y) : bt_MS l y yX3_stops cX3_stops 1 (some .boolean) (bw_rm 2 43) sX3_stops := bt_met hy mX3_stops bt_okX3_stops bw_fX3 (List.forall_mem_cons.mpr ⟨bt_CSV (na := 0) (ci := 3) (rc := (RX3, TX3, 14)) (msX3_advance l hy) rfl rfl bw_rX3_advance bw_lX3_53 bw_iX3_advance bw_sX3_advance bw_zX3 bw_cX3_advance bw_dX3_advance (by decide) ⟨rfl, rfl⟩, List.forall_mem_cons.mpr ⟨bt_CSV (na := 2) (ci := 3) (rc := (RX3, TX3, 14)) (msX3_refuse l hy) rfl rfl bw_rX3_refuse bw_lX3_69 bw_iX3_refuse bw_sX3_refuse bw_zX3 bw_cX3_refuse bw_dX3_refuse (by decide) ⟨rfl, rfl⟩, fun _ h => absurd h List.not_mem_nil⟩⟩) rfl (by decide) ⟨by decide, rfl⟩ bw_nX3_stops
theorem bw_nX3_tellRoad : ∀ as M N Rt, sX3_tellRoad as M N Rt → bt_sum as ≤ 2 := by
  intro as M N Rt h
  unfold sX3_tellRoad at h
  split at h
  · exact Nat.le_of_ble_eq_true rfl
  · exact False.elim h
theorem bw_rX3_tellRoad : ∀ as M N Rt, sX3_tellRoad as M N Rt → ∃ c t n, as = .ref c :: t ∧ bt_sh c = (0, 3, n) := by
  intro as M N Rt h
  unfold sX3_tellRoad at h
  split at h
  · obtain ⟨x0, x1, x2, x3, rfl, -⟩ := h <;> exact ⟨_, _, _, rfl, rfl⟩
  · exact False.elim h
theorem msX3_tellRoad (l : Launch) {y : bt_Y} (hy : bt_yo y) : bt_MS l y yX3_tellRoad cX3_tellRoad 2 (some .boolean) (bw_rm 3 65) sX3_tellRoad := bt_met hy mX3_tellRoad bt_okX3_tellRoad bw_fX3 (List.forall_mem_cons.mpr ⟨bt_CSV (na := 2) (ci := 3) (rc := (RX3, TX3, 14)) (msX3_refuse l hy) rfl rfl bw_rX3_refuse bw_lX3_69 bw_iX3_refuse bw_sX3_refuse bw_zX3 bw_cX3_refuse bw_dX3_refuse (by decide) ⟨rfl, rfl⟩, List.forall_mem_cons.mpr ⟨bt_CSV (na := 2) (ci := 3) (rc := (RX3, TX3, 14)) (msX3_numbered l hy) rfl rfl bw_rX3_numbered bw_lX3_145 bw_iX3_numbered bw_sX3_numbered bw_zX3 bw_cX3_numbered bw_dX3_numbered (by decide) ⟨rfl, rfl⟩, List.forall_mem_cons.mpr ⟨bt_CSV (na := 0) (ci := 3) (rc := (RX3, TX3, 14)) (msX3_stops l hy) rfl rfl bw_rX3_stops bw_lX3_138 bw_iX3_stops bw_sX3_stops bw_zX3 bw_cX3_stops bw_dX3_stops (by decide) ⟨rfl, rfl⟩, fun _ h => absurd h List.not_mem_nil⟩⟩⟩) rfl (by decide) ⟨by decide, rfl⟩ bw_nX3_tellRoad
theorem bw_nX3_kindSaid : ∀ as M N Rt, sX3_kindSaid as M N Rt → bt_sum as ≤ 1 := by
  intro as M N Rt h
  unfold sX3_kindSaid at h
  split at h
  · exact Nat.le_of_ble_eq_true rfl
  · exact False.elim h
theorem bw_rX3_kindSaid : ∀ as M N Rt, sX3_kindSaid as M N Rt → ∃ c t n, as = .ref c :: t ∧ bt_sh c = (0, 3, n) := by
  intro as M N Rt h
  unfold sX3_kindSaid at h
  split at h
  · obtain ⟨x0, x1, x2, rfl, -⟩ := h <;> exact ⟨_, _, _, rfl, rfl⟩
  · exact False.elim h
theorem msX3_kindSaid (l : Launch) {y : bt_Y} (hy : bt_yo y) : bt_MS l y yX3_kindSaid cX3_kindSaid 1 (some .int) (bw_rm 5 107) sX3_kindSaid := bt_met hy mX3_kindSaid bt_okX3_kindSaid bw_fX3 (List.forall_mem_cons.mpr ⟨bt_CSV (na := 1) (ci := 3) (rc := (RX3, TX3, 14)) (msX3_says l hy) rfl rfl bw_rX3_says bw_lX3_110 bw_iX3_says bw_sX3_says bw_zX3 bw_cX3_says bw_dX3_says (by decide) ⟨rfl, rfl⟩, fun _ h => absurd h List.not_mem_nil⟩) rfl (by decide) ⟨by decide, rfl⟩ bw_nX3_kindSaid
theorem bw_nX3_tellCar : ∀ as M N Rt, sX3_tellCar as M N Rt → bt_sum as ≤ 3 := by
  intro as M N Rt h
  unfold sX3_tellCar at h
  split at h
  · exact Nat.le_of_ble_eq_true rfl
  · exact False.elim h
theorem bw_rX3_tellCar : ∀ as M N Rt, sX3_tellCar as M N Rt → ∃ c t n, as = .ref c :: t ∧ bt_sh c = (0, 3, n) := by
  intro as M N Rt h
  unfold sX3_tellCar at h
  split at h
  · obtain ⟨x0, x1, x2, x3, rfl, -⟩ := h <;> exact ⟨_, _, _, rfl, rfl⟩
  · exact False.elim h
theorem msX3_tellCar (l : Launch) {y : bt_Y} (hy : bt_yo y) : bt_MS l y yX3_tellCar cX3_tellCar 3 (some .boolean) (bw_rm 6 127) sX3_tellCar := bt_met hy mX3_tellCar bt_okX3_tellCar bw_fX3 (List.forall_mem_cons.mpr ⟨bt_CSV (na := 2) (ci := 3) (rc := (RX3, TX3, 14)) (msX3_refuse l hy) rfl rfl bw_rX3_refuse bw_lX3_69 bw_iX3_refuse bw_sX3_refuse bw_zX3 bw_cX3_refuse bw_dX3_refuse (by decide) ⟨rfl, rfl⟩, List.forall_mem_cons.mpr ⟨bt_CSV (na := 0) (ci := 3) (rc := (RX3, TX3, 14)) (msX3_advance l hy) rfl rfl bw_rX3_advance bw_lX3_53 bw_iX3_advance bw_sX3_advance bw_zX3 bw_cX3_advance bw_dX3_advance (by decide) ⟨rfl, rfl⟩, List.forall_mem_cons.mpr ⟨bt_CSV (na := 0) (ci := 3) (rc := (RX3, TX3, 14)) (msX3_kindSaid l hy) rfl rfl bw_rX3_kindSaid bw_lX3_173 bw_iX3_kindSaid bw_sX3_kindSaid bw_zX3 bw_cX3_kindSaid bw_dX3_kindSaid (by decide) ⟨rfl, rfl⟩, List.forall_mem_cons.mpr ⟨bt_CSV (na := 2) (ci := 3) (rc := (RX3, TX3, 14)) (msX3_numbered l hy) rfl rfl bw_rX3_numbered bw_lX3_145 bw_iX3_numbered bw_sX3_numbered bw_zX3 bw_cX3_numbered bw_dX3_numbered (by decide) ⟨rfl, rfl⟩, List.forall_mem_cons.mpr ⟨bt_CSV (na := 0) (ci := 3) (rc := (RX3, TX3, 14)) (msX3_stops l hy) rfl rfl bw_rX3_stops bw_lX3_138 bw_iX3_stops bw_sX3_stops bw_zX3 bw_cX3_stops bw_dX3_stops (by decide) ⟨rfl, rfl⟩, fun _ h => absurd h List.not_mem_nil⟩⟩⟩⟩⟩) rfl (by decide) ⟨by decide, rfl⟩ bw_nX3_tellCar
theorem bw_nX3_tellSlow : ∀ as M N Rt, sX3_tellSlow as M N Rt → bt_sum as ≤ 1 := by
  intro as M N Rt h
  unfold sX3_tellSlow at h
  split at h
  · exact Nat.le_of_ble_eq_true rfl
  · exact False.elim h
theorem bw_rX3_tellSlow : ∀ as M N Rt, sX3_tellSlow as M N Rt → ∃ c t n, as = .ref c :: t ∧ bt_sh c = (0, 3, n) := by
  intro as M N Rt h
  unfold sX3_tellSlow at h
  split at h
  · obtain ⟨x0, x1, x2, x3, rfl, -⟩ := h <;> exact ⟨_, _, _, rfl, rfl⟩
  · exact False.elim h
theorem msX3_tellSlow (l : Launch) {y : bt_Y} (hy : bt_yo y) : bt_MS l y yX3_tellSlow cX3_tellSlow 1 (some .boolean) (bw_rm 3 65) sX3_tellSlow := bt_met hy mX3_tellSlow bt_okX3_tellSlow bw_fX3 (List.forall_mem_cons.mpr ⟨bt_CSV (na := 2) (ci := 3) (rc := (RX3, TX3, 14)) (msX3_refuse l hy) rfl rfl bw_rX3_refuse bw_lX3_69 bw_iX3_refuse bw_sX3_refuse bw_zX3 bw_cX3_refuse bw_dX3_refuse (by decide) ⟨rfl, rfl⟩, List.forall_mem_cons.mpr ⟨bt_CSV (na := 2) (ci := 3) (rc := (RX3, TX3, 14)) (msX3_numbered l hy) rfl rfl bw_rX3_numbered bw_lX3_145 bw_iX3_numbered bw_sX3_numbered bw_zX3 bw_cX3_numbered bw_dX3_numbered (by decide) ⟨rfl, rfl⟩, List.forall_mem_cons.mpr ⟨bt_CSV (na := 0) (ci := 3) (rc := (RX3, TX3, 14)) (msX3_stops l hy) rfl rfl bw_rX3_stops bw_lX3_138 bw_iX3_stops bw_sX3_stops bw_zX3 bw_cX3_stops bw_dX3_stops (by decide) ⟨rfl, rfl⟩, fun _ h => absurd h List.not_mem_nil⟩⟩⟩) rfl (by decide) ⟨by decide, rfl⟩ bw_nX3_tellSlow
theorem bw_nX3_stretchMore : ∀ as M N Rt, sX3_stretchMore as M N Rt → bt_sum as ≤ 2 := by
  intro as M N Rt h
  unfold sX3_stretchMore at h
  split at h
  · exact Nat.le_of_ble_eq_true rfl
  · exact False.elim h
theorem bw_rX3_stretchMore : ∀ as M N Rt, sX3_stretchMore as M N Rt → ∃ c t n, as = .ref c :: t ∧ bt_sh c = (0, 3, n) := by
  intro as M N Rt h
  unfold sX3_stretchMore at h
  split at h
  · obtain ⟨x0, x1, x2, x3, rfl, -⟩ := h <;> exact ⟨_, _, _, rfl, rfl⟩
  · exact False.elim h
theorem msX3_stretchMore (l : Launch) {y : bt_Y} (hy : bt_yo y) : bt_MS l y yX3_stretchMore cX3_stretchMore 2 (some .int) (bw_rm 3 65) sX3_stretchMore := bt_met hy mX3_stretchMore bt_okX3_stretchMore bw_fX3 (List.forall_mem_cons.mpr ⟨bt_CSV (na := 2) (ci := 3) (rc := (RX3, TX3, 14)) (msX3_numbered l hy) rfl rfl bw_rX3_numbered bw_lX3_145 bw_iX3_numbered bw_sX3_numbered bw_zX3 bw_cX3_numbered bw_dX3_numbered (by decide) ⟨rfl, rfl⟩, List.forall_mem_cons.mpr ⟨bt_CSN (host := RX5) (na := 2) (msX5_bit l hy) bw_lX3_148 bw_iX5_bit bw_zX5 bw_cX5_bit bw_dX5_bit (by decide) ⟨rfl, rfl⟩, List.forall_mem_cons.mpr ⟨bt_CSV (na := 2) (ci := 3) (rc := (RX3, TX3, 14)) (msX3_refuse l hy) rfl rfl bw_rX3_refuse bw_lX3_69 bw_iX3_refuse bw_sX3_refuse bw_zX3 bw_cX3_refuse bw_dX3_refuse (by decide) ⟨rfl, rfl⟩, fun _ h => absurd h List.not_mem_nil⟩⟩⟩) rfl (by decide) ⟨by decide, rfl⟩ bw_nX3_stretchMore
theorem bw_nX3_tellOdds : ∀ as M N Rt, sX3_tellOdds as M N Rt → bt_sum as ≤ 2 := by
  intro as M N Rt h
  unfold sX3_tellOdds at h
  split at h
  · exact Nat.le_of_ble_eq_true rfl
  · exact False.elim h
theorem bw_rX3_tellOdds : ∀ as M N Rt, sX3_tellOdds as M N Rt → ∃ c t n, as = .ref c :: t ∧ bt_sh c = (0, 3, n) := by
  intro as M N Rt h
  unfold sX3_tellOdds at h
  split at h
  · obtain ⟨x0, x1, x2, x3, x4, rfl, -⟩ := h <;> exact ⟨_, _, _, rfl, rfl⟩
  · exact False.elim h
theorem msX3_tellOdds (l : Launch) {y : bt_Y} (hy : bt_yo y) : bt_MS l y yX3_tellOdds cX3_tellOdds 2 (some .boolean) (bw_rm 3 65) sX3_tellOdds := bt_met hy mX3_tellOdds bt_okX3_tellOdds bw_fX3 (List.forall_mem_cons.mpr ⟨bt_CSV (na := 2) (ci := 3) (rc := (RX3, TX3, 14)) (msX3_numbered l hy) rfl rfl bw_rX3_numbered bw_lX3_145 bw_iX3_numbered bw_sX3_numbered bw_zX3 bw_cX3_numbered bw_dX3_numbered (by decide) ⟨rfl, rfl⟩, List.forall_mem_cons.mpr ⟨bt_CSV (na := 0) (ci := 3) (rc := (RX3, TX3, 14)) (msX3_stops l hy) rfl rfl bw_rX3_stops bw_lX3_138 bw_iX3_stops bw_sX3_stops bw_zX3 bw_cX3_stops bw_dX3_stops (by decide) ⟨rfl, rfl⟩, fun _ h => absurd h List.not_mem_nil⟩⟩) rfl (by decide) ⟨by decide, rfl⟩ bw_nX3_tellOdds
theorem bw_nX3_tellLine : ∀ as M N Rt, sX3_tellLine as M N Rt → bt_sum as ≤ 1 := by
  intro as M N Rt h
  unfold sX3_tellLine at h
  split at h
  · exact Nat.le_of_ble_eq_true rfl
  · exact False.elim h
theorem bw_rX3_tellLine : ∀ as M N Rt, sX3_tellLine as M N Rt → ∃ c t n, as = .ref c :: t ∧ bt_sh c = (0, 3, n) := by
  intro as M N Rt h
  unfold sX3_tellLine at h
  split at h
  · obtain ⟨x0, x1, x2, x3, rfl, -⟩ := h <;> exact ⟨_, _, _, rfl, rfl⟩
  · exact False.elim h
theorem msX3_tellLine (l : Launch) {y : bt_Y} (hy : bt_yo y) : bt_MS l y yX3_tellLine cX3_tellLine 1 (some .boolean) (bw_rm 7 149) sX3_tellLine := bt_met hy mX3_tellLine bt_okX3_tellLine bw_fX3 (List.forall_mem_cons.mpr ⟨bt_CSV (na := 1) (ci := 3) (rc := (RX3, TX3, 14)) (msX3_says l hy) rfl rfl bw_rX3_says bw_lX3_110 bw_iX3_says bw_sX3_says bw_zX3 bw_cX3_says bw_dX3_says (by decide) ⟨rfl, rfl⟩, List.forall_mem_cons.mpr ⟨bt_CSV (na := 0) (ci := 3) (rc := (RX3, TX3, 14)) (msX3_tellRoad l hy) rfl rfl bw_rX3_tellRoad bw_lX3_114 bw_iX3_tellRoad bw_sX3_tellRoad bw_zX3 bw_cX3_tellRoad bw_dX3_tellRoad (by decide) ⟨rfl, rfl⟩, List.forall_mem_cons.mpr ⟨bt_CSV (na := 0) (ci := 3) (rc := (RX3, TX3, 14)) (msX3_tellCar l hy) rfl rfl bw_rX3_tellCar bw_lX3_119 bw_iX3_tellCar bw_sX3_tellCar bw_zX3 bw_cX3_tellCar bw_dX3_tellCar (by decide) ⟨rfl, rfl⟩, List.forall_mem_cons.mpr ⟨bt_CSV (na := 0) (ci := 3) (rc := (RX3, TX3, 14)) (msX3_tellSlow l hy) rfl rfl bw_rX3_tellSlow bw_lX3_124 bw_iX3_tellSlow bw_sX3_tellSlow bw_zX3 bw_cX3_tellSlow bw_dX3_tellSlow (by decide) ⟨rfl, rfl⟩, List.forall_mem_cons.mpr ⟨bt_CSV (na := 1) (ci := 3) (rc := (RX3, TX3, 14)) (msX3_stretchMore l hy) rfl rfl bw_rX3_stretchMore bw_lX3_129 bw_iX3_stretchMore bw_sX3_stretchMore bw_zX3 bw_cX3_stretchMore bw_dX3_stretchMore (by decide) ⟨rfl, rfl⟩, List.forall_mem_cons.mpr ⟨bt_CSV (na := 1) (ci := 3) (rc := (RX3, TX3, 14)) (msX3_tellOdds l hy) rfl rfl bw_rX3_tellOdds bw_lX3_133 bw_iX3_tellOdds bw_sX3_tellOdds bw_zX3 bw_cX3_tellOdds bw_dX3_tellOdds (by decide) ⟨rfl, rfl⟩, List.forall_mem_cons.mpr ⟨bt_CSV (na := 0) (ci := 3) (rc := (RX3, TX3, 14)) (msX3_stops l hy) rfl rfl bw_rX3_stops bw_lX3_138 bw_iX3_stops bw_sX3_stops bw_zX3 bw_cX3_stops bw_dX3_stops (by decide) ⟨rfl, rfl⟩, List.forall_mem_cons.mpr ⟨bt_CSV (na := 2) (ci := 3) (rc := (RX3, TX3, 14)) (msX3_refuse l hy) rfl rfl bw_rX3_refuse bw_lX3_69 bw_iX3_refuse bw_sX3_refuse bw_zX3 bw_cX3_refuse bw_dX3_refuse (by decide) ⟨rfl, rfl⟩, fun _ h => absurd h List.not_mem_nil⟩⟩⟩⟩⟩⟩⟩⟩) rfl (by decide) ⟨by decide, rfl⟩ bw_nX3_tellLine
theorem bw_nX3_checkStretches : ∀ as M N Rt, sX3_checkStretches as M N Rt → bt_sum as ≤ 2 := by
  intro as M N Rt h
  unfold sX3_checkStretches at h
  split at h
  · exact Nat.le_of_ble_eq_true rfl
  · exact False.elim h
theorem bw_rX3_checkStretches : ∀ as M N Rt, sX3_checkStretches as M N Rt → ∃ c t n, as = .ref c :: t ∧ bt_sh c = (0, 3, n) := by
  intro as M N Rt h
  unfold sX3_checkStretches at h
  split at h
  · obtain ⟨x0, x1, x2, rfl, -⟩ := h <;> exact ⟨_, _, _, rfl, rfl⟩
  · exact False.elim h
theorem msX3_checkStretches (l : Launch) {y : bt_Y} (hy : bt_yo y) : bt_MS l y yX3_checkStretches cX3_checkStretches 2 none (bw_rm 1 22) sX3_checkStretches := bt_met hy mX3_checkStretches bt_okX3_checkStretches bw_fX3 (List.forall_mem_cons.mpr ⟨bt_CSV (na := 2) (ci := 3) (rc := (RX3, TX3, 14)) (msX3_refuse l hy) rfl rfl bw_rX3_refuse bw_lX3_69 bw_iX3_refuse bw_sX3_refuse bw_zX3 bw_cX3_refuse bw_dX3_refuse (by decide) ⟨rfl, rfl⟩, fun _ h => absurd h List.not_mem_nil⟩) rfl (by decide) ⟨by decide, rfl⟩ bw_nX3_checkStretches
theorem bw_nX3_tellAll : ∀ as M N Rt, sX3_tellAll as M N Rt → bt_sum as ≤ 2 := by
  intro as M N Rt h
  unfold sX3_tellAll at h
  split at h
  · exact Nat.le_of_ble_eq_true rfl
  · exact False.elim h
theorem bw_rX3_tellAll : ∀ as M N Rt, sX3_tellAll as M N Rt → ∃ c t n, as = .ref c :: t ∧ bt_sh c = (0, 3, n) := by
  intro as M N Rt h
  unfold sX3_tellAll at h
  split at h
  · obtain ⟨x0, x1, rfl, -⟩ := h <;> exact ⟨_, _, _, rfl, rfl⟩
  · exact False.elim h
theorem msX3_tellAll (l : Launch) {y : bt_Y} (hy : bt_yo y) : bt_MS l y yX3_tellAll cX3_tellAll 2 (some .int) (bw_rm 8 169) sX3_tellAll := bt_met hy mX3_tellAll bt_okX3_tellAll bw_fX3 (List.forall_mem_cons.mpr ⟨bt_CSV (na := 0) (ci := 4) (rc := (RX4, TX4, 18)) (msX4_clear l hy) rfl rfl bw_rX4_clear bw_lX3_26 bw_iX4_clear bw_sX4_clear bw_zX4 bw_cX4_clear bw_dX4_clear (by decide) ⟨rfl, rfl⟩, List.forall_mem_cons.mpr ⟨bt_CSV (na := 0) (ci := 3) (rc := (RX3, TX3, 14)) (msX3_advance l hy) rfl rfl bw_rX3_advance bw_lX3_53 bw_iX3_advance bw_sX3_advance bw_zX3 bw_cX3_advance bw_dX3_advance (by decide) ⟨rfl, rfl⟩, List.forall_mem_cons.mpr ⟨bt_CSV (na := 0) (ci := 3) (rc := (RX3, TX3, 14)) (msX3_tellLine l hy) rfl rfl bw_rX3_tellLine bw_lX3_60 bw_iX3_tellLine bw_sX3_tellLine bw_zX3 bw_cX3_tellLine bw_dX3_tellLine (by decide) ⟨rfl, rfl⟩, List.forall_mem_cons.mpr ⟨bt_CSV (na := 0) (ci := 3) (rc := (RX3, TX3, 14)) (msX3_checkStretches l hy) rfl rfl bw_rX3_checkStretches bw_lX3_63 bw_iX3_checkStretches bw_sX3_checkStretches bw_zX3 bw_cX3_checkStretches bw_dX3_checkStretches (by decide) ⟨rfl, rfl⟩, fun _ h => absurd h List.not_mem_nil⟩⟩⟩⟩) rfl (by decide) ⟨by decide, rfl⟩ bw_nX3_tellAll
theorem bw_nX4_takeFrom : ∀ as M N Rt, sX4_takeFrom as M N Rt → bt_sum as ≤ 2 := by
  intro as M N Rt h
  unfold sX4_takeFrom at h
  split at h
  · exact Nat.le_of_ble_eq_true rfl
  · exact False.elim h
theorem bw_rX4_takeFrom : ∀ as M N Rt, sX4_takeFrom as M N Rt → ∃ c t n, as = .ref c :: t ∧ bt_sh c = (0, 4, n) := by
  intro as M N Rt h
  unfold sX4_takeFrom at h
  split at h
  · obtain ⟨x0, (⟨rfl, rfl⟩ | ⟨rfl, rfl⟩ | ⟨rfl, rfl⟩ | ⟨rfl, rfl⟩ | ⟨rfl, rfl⟩ | ⟨rfl, rfl⟩ | ⟨rfl, rfl⟩), -⟩ := h <;> exact ⟨_, _, _, rfl, rfl⟩
  · exact False.elim h
theorem msX4_takeFrom (l : Launch) {y : bt_Y} (hy : bt_yo y) : bt_MS l y yX4_takeFrom cX4_takeFrom 2 none (bw_rm 1 26) sX4_takeFrom := bt_met hy mX4_takeFrom bt_okX4_takeFrom bw_fX4 (List.forall_mem_cons.mpr ⟨bt_CSaI bw_lX4_67 bw_an bw_as bw_az (by decide), fun _ h => absurd h List.not_mem_nil⟩) rfl (by decide) ⟨by decide, rfl⟩ bw_nX4_takeFrom
theorem bw_nX4_firstBehind : ∀ as M N Rt, sX4_firstBehind as M N Rt → bt_sum as ≤ 2 := by
  intro as M N Rt h
  unfold sX4_firstBehind at h
  split at h
  · exact Nat.le_of_ble_eq_true rfl
  · exact False.elim h
theorem bw_rX4_firstBehind : ∀ as M N Rt, sX4_firstBehind as M N Rt → ∃ c t n, as = .ref c :: t ∧ bt_sh c = (0, 4, n) := by
  intro as M N Rt h
  unfold sX4_firstBehind at h
  split at h
  · obtain ⟨x0, (rfl | rfl), -⟩ := h <;> exact ⟨_, _, _, rfl, rfl⟩
  · exact False.elim h
theorem msX4_firstBehind (l : Launch) {y : bt_Y} (hy : bt_yo y) : bt_MS l y yX4_firstBehind cX4_firstBehind 2 (some .int) (bw_rm 1 21) sX4_firstBehind := bt_met hy mX4_firstBehind bt_okX4_firstBehind bw_fX4 (List.forall_mem_cons.mpr ⟨bt_CSN (host := RX5) (na := 2) (msX5_bit l hy) bw_lX4_77 bw_iX5_bit bw_zX5 bw_cX5_bit bw_dX5_bit (by decide) ⟨rfl, rfl⟩, fun _ h => absurd h List.not_mem_nil⟩) rfl (by decide) ⟨by decide, rfl⟩ bw_nX4_firstBehind
theorem bw_nX4_behindAheadOf : ∀ as M N Rt, sX4_behindAheadOf as M N Rt → bt_sum as ≤ 2 := by
  intro as M N Rt h
  unfold sX4_behindAheadOf at h
  split at h
  · exact Nat.le_of_ble_eq_true rfl
  · exact False.elim h
theorem bw_rX4_behindAheadOf : ∀ as M N Rt, sX4_behindAheadOf as M N Rt → ∃ c t n, as = .ref c :: t ∧ bt_sh c = (0, 4, n) := by
  intro as M N Rt h
  unfold sX4_behindAheadOf at h
  split at h
  · obtain ⟨x0, x1, (rfl | rfl), -⟩ := h <;> exact ⟨_, _, _, rfl, rfl⟩
  · exact False.elim h
theorem msX4_behindAheadOf (l : Launch) {y : bt_Y} (hy : bt_yo y) : bt_MS l y yX4_behindAheadOf cX4_behindAheadOf 2 (some .int) (bw_rm 2 41) sX4_behindAheadOf := bt_met hy mX4_behindAheadOf bt_okX4_behindAheadOf bw_fX4 (List.forall_mem_cons.mpr ⟨bt_CSN (host := RX5) (na := 2) (msX5_bit l hy) bw_lX4_77 bw_iX5_bit bw_zX5 bw_cX5_bit bw_dX5_bit (by decide) ⟨rfl, rfl⟩, List.forall_mem_cons.mpr ⟨bt_CSV (na := 1) (ci := 4) (rc := (RX4, TX4, 18)) (msX4_behind l hy) rfl rfl bw_rX4_behind bw_lX4_81 bw_iX4_behind bw_sX4_behind bw_zX4 bw_cX4_behind bw_dX4_behind (by decide) ⟨rfl, rfl⟩, List.forall_mem_cons.mpr ⟨bt_CSS (na := 1) (msJ6_bitCount_0f7a4 l hy) bw_lX4_85 bw_iJ6_bitCount_0f7a4 bw_zJ6 bw_cJ6_bitCount_0f7a4 bw_dJ6_bitCount_0f7a4 (by decide) ⟨rfl, rfl⟩, fun _ h => absurd h List.not_mem_nil⟩⟩⟩) rfl (by decide) ⟨by decide, rfl⟩ bw_nX4_behindAheadOf
