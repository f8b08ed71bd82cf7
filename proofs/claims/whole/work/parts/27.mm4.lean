/-! THE MODEL: pages -/
def sX6_areLeft : bt_Sp := fun as M N K => match as with
  | [.ref c, .int p] => ∃ p' a n, c = 67 ∧ p = nI p' ∧ p' ≤ 450 ∧ M 68 (p' + 88) = nI a ∧ a ≤ 8 ∧ M 67 1 = nI n ∧ n ≤ 8 ∧ K (some (.int (if a < n then 1 else 0))) M N
  | _ => False
theorem mX6_areLeft : bt_MT bt_TX6_areLeft bt_FX6 [] 2 2 sX6_areLeft := by
  intro as M N Rt h P hP
  unfold sX6_areLeft at h
  split at h
  · obtain ⟨p, a, n, rfl, rfl, hp, ha, ha8, hn, hn8, h⟩ := h
    refine bt_go0 rfl hP 30 ?_
    refine ⟨_, rfl, p + 88, by simp only [bt_lit, nI_add], by omega, ?_⟩
    refine ⟨fun q => ⟨Or.inl rfl, ?_⟩, fun q => ⟨Or.inr rfl, ?_⟩⟩
    · rw [ha, hn, nI_leI (by omega) (by omega)] at q
      rw [if_neg (by omega)] at h
      exact h
    · rw [ha, hn, nI_leI (by omega) (by omega)] at q
      rw [if_pos (by omega)] at h
      exact h
  · exact False.elim h
def sX6_ownGap : bt_Sp := fun as M N K => match as with
  | [.ref c, .int p] => ∃ p' a g, c = 67 ∧ p = nI p' ∧ p' ≤ 450 ∧ M 68 (p' + 88) = nI a ∧ a < 8 ∧ M 68 (p' + 7 * a + 2) = nI g ∧ K (some (.int (nI g))) M N
  | _ => False
theorem mX6_ownGap : bt_MT bt_TX6_ownGap bt_FX6 [] 1 2 sX6_ownGap := by
  intro as M N Rt h P hP
  unfold sX6_ownGap at h
  split at h
  · obtain ⟨p, a, g, rfl, rfl, hp, ha, ha8, hg, h⟩ := h
    refine bt_go0 rfl hP 30 ?_
    refine ⟨_, rfl, p + 88, by simp only [bt_lit, nI_add], by omega, ?_⟩
    refine ⟨_, rfl, p + 7 * a + 2, by rw [ha]; simp only [bt_lit, pk_mul, nI_add], by omega, ?_⟩
    rw [← hg] at h
    exact h
  · exact False.elim h
theorem bt_mW_copy {M M' : bt_M} {p q : Nat} {w : bt_W} (hw : bt_mW M p w) (h1 : ∀ x : Nat, x ≠ 68 → M' x = M x) (h2 : ∀ j : Nat, j < 90 → M' 68 (q + j) = M 68 (p + j)) : bt_mW M' q w := by
  obtain ⟨hf, g1, g2, g3, g4, g5, g6, r0, r1, r2, r3, r4, r5, r6, c7, c8, c9, c10, c11⟩ := hw
  have hn := hf.1
  have hm := hf.2.1
  refine ⟨hf, ?_, ?_, ?_, ?_, ?_, ?_, ?_, ?_, ?_, ?_, ?_, ?_, ?_, ?_, ?_, ?_, ?_, ?_⟩
  · rw [h1 67 (by omega)]; exact g1
  · rw [h1 67 (by omega)]; exact g2
  · rw [h2 56 (by omega)]; exact g3
  · rw [h2 57 (by omega)]; exact g4
  · rw [h2 88 (by omega)]; exact g5
  · rw [h2 89 (by omega)]; exact g6
  · intro i hi; rw [h2 (7 * i) (by omega)]; exact r0 i hi
  · intro i hi; rw [show q + 7 * i + 1 = q + (7 * i + 1) by omega, h2 (7 * i + 1) (by omega)]; exact r1 i hi
  · intro i hi; rw [show q + 7 * i + 2 = q + (7 * i + 2) by omega, h2 (7 * i + 2) (by omega)]; exact r2 i hi
  · intro i hi; rw [show q + 7 * i + 3 = q + (7 * i + 3) by omega, h2 (7 * i + 3) (by omega)]; exact r3 i hi
  · intro i hi; rw [show q + 7 * i + 4 = q + (7 * i + 4) by omega, h2 (7 * i + 4) (by omega)]; exact r4 i hi
  · intro i hi; rw [show q + 7 * i + 5 = q + (7 * i + 5) by omega, h2 (7 * i + 5) (by omega)]; exact r5 i hi
  · intro i hi; rw [show q + 7 * i + 6 = q + (7 * i + 6) by omega, h2 (7 * i + 6) (by omega)]; exact r6 i hi
  · intro i hi; rw [show q + 58 + 5 * i = q + (58 + 5 * i) by omega, h2 (58 + 5 * i) (by omega), ← Nat.add_assoc]; exact c7 i hi
  · intro i hi; rw [show q + 58 + 5 * i + 1 = q + (58 + 5 * i + 1) by omega, h2 _ (by omega), show p + (58 + 5 * i + 1) = p + 58 + 5 * i + 1 by omega]; exact c8 i hi
  · intro i hi; rw [show q + 58 + 5 * i + 2 = q + (58 + 5 * i + 2) by omega, h2 _ (by omega), show p + (58 + 5 * i + 2) = p + 58 + 5 * i + 2 by omega]; exact c9 i hi
  · intro i hi; rw [show q + 58 + 5 * i + 3 = q + (58 + 5 * i + 3) by omega, h2 _ (by omega), show p + (58 + 5 * i + 3) = p + 58 + 5 * i + 3 by omega]; exact c10 i hi
  · intro i hi; rw [show q + 58 + 5 * i + 4 = q + (58 + 5 * i + 4) by omega, h2 _ (by omega), show p + (58 + 5 * i + 4) = p + 58 + 5 * i + 4 by omega]; exact c11 i hi
theorem bt_mW_kept {M M' : bt_M} {p : Nat} {w : bt_W} (hw : bt_mW M p w) (h1 : ∀ x : Nat, x ≠ 68 → M' x = M x) (h2 : ∀ j : Nat, p ≤ j → j < p + 90 → M' 68 j = M 68 j) : bt_mW M' p w := bt_mW_copy hw h1 (fun j hj => h2 _ (by omega) (by omega))
theorem bt_mW_fr {M M' : bt_M} {p q : Nat} {w : bt_W} (hw : bt_mW M p w) (h : bt_mfr q M M') (hpq : p + 90 ≤ q ∨ q + 90 ≤ p) : bt_mW M' p w := bt_mW_kept hw h.1 (fun j z1 z2 => h.2 j (by omega))
theorem bt_mfr_rf {p : Nat} {M : bt_M} : bt_mfr p M M := ⟨fun _ _ => rfl, fun _ _ => rfl⟩
theorem bt_mfr_tr {p : Nat} {M M' M2 : bt_M} (h1 : bt_mfr p M M') (h2 : bt_mfr p M' M2) : bt_mfr p M M2 := ⟨fun x z => (h2.1 x z).trans (h1.1 x z), fun j z => (h2.2 j z).trans (h1.2 j z)⟩
def sX6_copies : bt_Sp := fun as M N K => match as with
  | [.ref c, .int p, .int q] => ∃ p' q', c = 67 ∧ p = nI p' ∧ p' ≤ 450 ∧ q = nI q' ∧ q' ≤ 450 ∧ (p' + 90 ≤ q' ∨ q' + 90 ≤ p') ∧ ∀ M', bt_mfr q' M M' → (∀ j : Nat, j < 90 → M' 68 (q' + j) = M 68 (p' + j)) → K none M' N
  | _ => False
theorem mX6_copies : bt_MT bt_TX6_copies bt_FX6 [] 0 4 sX6_copies := by
  intro as M N Rt h P hP
  unfold sX6_copies at h
  split at h
  · obtain ⟨p, q, rfl, rfl, hp, rfl, hq, hpq, h⟩ := h
    have loop : ∀ v pc L st M' N', (pc = 2 ∧ st = [] ∧ N' = N ∧ ∃ k, k ≤ 90 ∧ v = 90 - k ∧ L = [some (.ref 67), some (.int (nI p)), some (.int (nI q)), some (.int (nI k))] ∧ bt_mfr q M M' ∧ ∀ j : Nat, j < k → M' 68 (q + j) = M 68 (p + j)) → P pc L st M' N' := by
      refine bt_loop rfl hP 60 [2] (fun v pc L st M' N' => (pc = 2 ∧ st = [] ∧ N' = N ∧ ∃ k, k ≤ 90 ∧ v = 90 - k ∧ L = [some (.ref 67), some (.int (nI p)), some (.int (nI q)), some (.int (nI k))] ∧ bt_mfr q M M' ∧ ∀ j : Nat, j < k → M' 68 (q + j) = M 68 (p + j))) ?_
      rintro v pc L st M' N' ⟨rfl, rfl, rfl, k, hk, rfl, rfl, hfr, q1⟩
      refine ⟨fun z => ?_, fun z => ?_⟩
      · rw [bt_lit, nI_leI (by omega) (by omega)] at z
        exact h M' hfr (fun j hj => q1 j (by omega))
      · rw [bt_lit, nI_leI (by omega) (by omega)] at z
        refine ⟨_, rfl, p + k, by rw [nI_add], by omega, ?_⟩
        refine ⟨_, rfl, q + k, by rw [nI_add], by omega, ?_⟩
        rintro _ rfl
        refine ⟨90 - (k + 1), by omega, rfl, rfl, rfl, k + 1, by omega, rfl, by rw [← nI_1], ⟨fun x z => ?_, fun j z => ?_⟩, fun j hj => ?_⟩
        · rw [bt_up_n z]; exact hfr.1 x z
        · rw [bt_up_s, pk_un (by omega)]; exact hfr.2 j z
        · rw [bt_up_s]
          by_cases hjk : j = k
          · rw [hjk, pk_us]
            exact hfr.2 _ (by omega)
          · rw [pk_un (by omega)]; exact q1 j (by omega)
    refine bt_go rfl hP 60 [2] P (fun _ _ _ _ _ h => h) ?_
    exact loop _ _ _ _ _ _ ⟨rfl, rfl, rfl, 0, by omega, rfl, rfl, bt_mfr_rf, fun j hj => by omega⟩
  · exact False.elim h
def bt_CX6_triesFrom : bt_C := [(199, 1, 3, sX6_copies), (187, 1, 2, sX6_areLeft), (196, 1, 2, sX6_ownGap), (190, 1, 3, sX6_driveOn)]
def sX6_triesFrom : bt_Sp := fun as M N K => match as with
  | [.ref c, .int p] => ∃ p' w, c = 67 ∧ p = nI p' ∧ (p' + 90 ≤ 360 ∨ p' = 450) ∧ bt_mW M p' w ∧ ∀ M', bt_mfr 360 M M' → bt_mW M' 360 (bt_de w) → K none M' N
  | _ => False
theorem mX6_triesFrom : bt_MT bt_TX6_triesFrom bt_FX6 bt_CX6_triesFrom 0 2 sX6_triesFrom := by
  intro as M N Rt h P hP
  unfold sX6_triesFrom at h
  split at h
  · obtain ⟨p, w, rfl, rfl, hp, hw, h⟩ := h
    have hf := hw.1
    have f1 := hf.1
    have f3 := hf.2.2.1
    have f9 := hf.2.2.2.2.2.2.2.2.1
    have loop : ∀ v pc L st M' N', (pc = 8 ∧ st = [] ∧ N' = N ∧ ∃ j, w 12 4 + j ≤ w 12 0 ∧ v = w 12 0 - (w 12 4 + j) ∧ L = [some (.ref 67), some (.int (nI p))] ∧ bt_mfr 360 M M' ∧ bt_mW M' 360 (bt_dn w (w 2) j)) → P pc L st M' N' := by
      refine bt_loop rfl hP 60 [8] (fun v pc L st M' N' => (pc = 8 ∧ st = [] ∧ N' = N ∧ ∃ j, w 12 4 + j ≤ w 12 0 ∧ v = w 12 0 - (w 12 4 + j) ∧ L = [some (.ref 67), some (.int (nI p))] ∧ bt_mfr 360 M M' ∧ bt_mW M' 360 (bt_dn w (w 2) j))) ?_
      rintro v pc L st M' N' ⟨rfl, rfl, rfl, j, hj, rfl, rfl, hfr, hw'⟩
      obtain ⟨d1, d2, d3⟩ := bt_dn_12 w (w 2) j
      have e1 := hw'.2.1
      rw [d2 0 (by omega) (by omega)] at e1
      have e88 := hw'.2.2.2.2.2.1
      rw [d1] at e88
      have eg := hw'.2.2.2.2.2.2.2.2.2.1
      rw [d2 0 (by omega) (by omega), d3 2 (by omega)] at eg
      refine ⟨360, w 12 4 + j, w 12 0, rfl, rfl, by omega, e88, by omega, e1, f1, ?_⟩
      by_cases hl : w 12 4 + j < w 12 0
      · rw [if_pos hl]
        refine ⟨fun z => absurd z (by decide), fun _ => ?_⟩
        refine ⟨360, w 12 4 + j, w 2 (w 12 4 + j), rfl, rfl, by omega, e88, by omega, eg _ hl, ?_⟩
        refine ⟨360, w 2 (w 12 4 + j), _, rfl, rfl, by omega, rfl, f9 _, hw', ?_, ?_⟩
        · rw [d1, d2 0 (by omega) (by omega)]; exact hl
        · intro M2 b1 b2
          exact ⟨w 12 0 - (w 12 4 + (j + 1)), by omega, rfl, rfl, rfl, j + 1, by omega, rfl, rfl, bt_mfr_tr hfr b2, b1⟩
      · rw [if_neg hl]
        refine ⟨fun _ => ?_, fun z => absurd rfl z⟩
        have hj2 : j = w 12 0 - w 12 4 := by omega
        subst hj2
        exact h M' hfr hw'
    refine bt_go rfl hP 60 [8] P (fun _ _ _ _ _ h => h) ?_
    refine ⟨p, 360, rfl, rfl, by omega, rfl, by omega, by omega, fun M' b1 b2 => ?_⟩
    exact loop _ _ _ _ _ _ ⟨rfl, rfl, rfl, 0, by omega, rfl, rfl, b1, bt_mW_copy hw b1.1 b2⟩
  · exact False.elim h
def sX6_timesOn : bt_Sp := fun as M N K => match as with
  | [.ref c, .int p] => ∃ p' w, c = 67 ∧ p = nI p' ∧ p' ≤ 450 ∧ bt_mW M p' w ∧ K (some (.int (nI (bt_st w)))) M N
  | _ => False
theorem mX6_timesOn : bt_MT bt_TX6_timesOn bt_FX6 [] 1 4 sX6_timesOn := by
  intro as M N Rt h P hP
  unfold sX6_timesOn at h
  split at h
  · obtain ⟨p, w, rfl, rfl, hp, hw, h⟩ := h
    obtain ⟨hf, g1, g2, g3, g4, g5, g6, r0, r1, r2, r3, r4, r5, r6, c7, c8, c9, c10, c11⟩ := id hw
    have f2 := hf.2.1
    have loop : ∀ v pc L st M' N', (pc = 4 ∧ st = [] ∧ M' = M ∧ N' = N ∧ ∃ k, k ≤ w 12 1 ∧ v = w 12 1 - k ∧ L = [some (.ref 67), some (.int (nI p)), some (.int (nI (bt_sumk w k))), some (.int (nI k))]) → P pc L st M' N' := by
      refine bt_loop rfl hP 60 [4] (fun v pc L st M' N' => (pc = 4 ∧ st = [] ∧ M' = M ∧ N' = N ∧ ∃ k, k ≤ w 12 1 ∧ v = w 12 1 - k ∧ L = [some (.ref 67), some (.int (nI p)), some (.int (nI (bt_sumk w k))), some (.int (nI k))])) ?_
      rintro v pc L st M' N' ⟨rfl, rfl, rfl, rfl, k, hk, rfl, rfl⟩
      refine ⟨fun q => ?_, fun q => ?_⟩
      · rw [g2, nI_leI (by omega) (by omega)] at q
        have : k = w 12 1 := by omega
        subst this
        exact h
      · rw [g2, nI_leI (by omega) (by omega)] at q
        refine ⟨_, rfl, p + 58 + 5 * k + 3, by simp only [bt_lit, pk_mul, nI_add], by omega, ?_⟩
        refine ⟨w 12 1 - (k + 1), by omega, rfl, rfl, rfl, rfl, k + 1, by omega, rfl, ?_⟩
        rw [c10 k (by omega), nI_add, ← nI_1 k]
        rfl
    refine bt_go rfl hP 60 [4] P (fun _ _ _ _ _ h => h) ?_
    exact loop _ _ _ _ _ _ ⟨rfl, rfl, rfl, rfl, 0, Nat.zero_le _, rfl, rfl⟩
  · exact False.elim h
def sX6_milesLeft : bt_Sp := fun as M N K => match as with
  | [.ref c] => ∃ w, c = 67 ∧ bt_mW M 0 w ∧ K (some (.int (nI (bt_ml w (w 12 4) (w 12 0 - w 12 4))))) M N
  | _ => False
theorem mX6_milesLeft : bt_MT bt_TX6_milesLeft bt_FX6 [] 1 3 sX6_milesLeft := by
  intro as M N Rt h P hP
  unfold sX6_milesLeft at h
  split at h
  · obtain ⟨w, rfl, hw, h⟩ := h
    obtain ⟨hf, g1, g2, g3, g4, g5, g6, r0, r1, r2, r3, r4, r5, r6, c7, c8, c9, c10, c11⟩ := id hw
    have f1 := hf.1
    have f3 := hf.2.2.1
    have loop : ∀ v pc L st M' N', (pc = 10 ∧ st = [] ∧ M' = M ∧ N' = N ∧ ∃ j, w 12 4 + j ≤ w 12 0 ∧ v = w 12 0 - (w 12 4 + j) ∧ L = [some (.ref 67), some (.int (nI (bt_ml w (w 12 4) j))), some (.int (nI (w 12 4 + j)))]) → P pc L st M' N' := by
      refine bt_loop rfl hP 60 [10] (fun v pc L st M' N' => (pc = 10 ∧ st = [] ∧ M' = M ∧ N' = N ∧ ∃ j, w 12 4 + j ≤ w 12 0 ∧ v = w 12 0 - (w 12 4 + j) ∧ L = [some (.ref 67), some (.int (nI (bt_ml w (w 12 4) j))), some (.int (nI (w 12 4 + j)))])) ?_
      rintro v pc L st M' N' ⟨rfl, rfl, rfl, rfl, j, hj, rfl, rfl⟩
      refine ⟨fun q => ?_, fun q => ?_⟩
      · rw [g1, nI_leI (by omega) (by omega)] at q
        have hj2 : j = w 12 0 - w 12 4 := by omega
        subst hj2
        exact h
      · rw [g1, nI_leI (by omega) (by omega)] at q
        refine ⟨_, rfl, 7 * (w 12 4 + j), by simp only [bt_lit, pk_mul], by omega, ?_⟩
        refine ⟨w 12 0 - (w 12 4 + (j + 1)), by omega, rfl, rfl, rfl, rfl, j + 1, by omega, rfl, ?_⟩
        have e := r0 (w 12 4 + j) (by omega)
        rw [Nat.zero_add] at e
        rw [e, nI_add, nI_1, Nat.add_assoc]
        rfl
    refine bt_go rfl hP 60 [10] P (fun _ _ _ _ _ h => h) ?_
    refine ⟨_, rfl, 88, rfl, by omega, ?_⟩
    refine loop _ _ _ _ _ _ ⟨rfl, rfl, rfl, rfl, 0, by omega, rfl, ?_⟩
    rw [Nat.zero_add] at g5
    rw [g5]
    rfl
  · exact False.elim h
