/-! THE CLASS: World, a stretch is driven -/
theorem bt_up_s {α : Type} {f : Nat → α} {a : Nat} {v : α} : va_up f a v a = v := by simp [va_up]
theorem bt_up_n {α : Type} {f : Nat → α} {a b : Nat} {v : α} (h : b ≠ a) : va_up f a v b = f b := by simp [va_up, h]
theorem bt_dv_cW {M M' : bt_M} {c g : Nat} {w : bt_W} (hw : bt_cW M c w) (hat : w 12 4 < w 12 0) (h1 : ∀ x, x ≠ c → x ≠ c + 8 → M' x = M x) (h2 : ∀ f, f ≠ 13 → f ≠ 16 → f ≠ 17 → M' c f = M c f)
    (h3 : M' c 13 = nI (bt_mk (fun k => w 11 k + bt_cm w (w 12 4) g (w 11) k) (w 12 1))) (h4 : M' c 16 = nI (w 12 4 + 1)) (h5 : M' c 17 = nI (w 12 5 + w 0 (w 12 4) * w 12 2)) (h6 : ∀ k, k < w 12 1 → M' (c + 8) k = nI (w 10 k + bt_mn w (w 12 4) k (w 11 k + bt_cm w (w 12 4) g (w 11) k))) : bt_cW M' c (bt_dv w g) := by
  obtain ⟨hf, h8, h9, h10, h11, h12, h13, h14, h15, h16, h17, r1, r2, r3, r4, r5, r6, r7, r8⟩ := hw
  refine ⟨bt_dv_wf hf hat, ?_, ?_, ?_, ?_, ?_, ?_, ?_, ?_, ?_, ?_, ?_, ?_, ?_, ?_, ?_, ?_, ?_, ?_⟩
  · rw [h2 8 (by omega) (by omega) (by omega), h8]; rfl
  · rw [h2 9 (by omega) (by omega) (by omega), h9]; rfl
  · rw [h2 10 (by omega) (by omega) (by omega), h10]; rfl
  · rw [h2 11 (by omega) (by omega) (by omega), h11]; rfl
  · rw [h2 12 (by omega) (by omega) (by omega), h12]; rfl
  · exact h3
  · rw [h2 14 (by omega) (by omega) (by omega), h14]; rfl
  · rw [h2 15 (by omega) (by omega) (by omega), h15]; rfl
  · exact h4
  · exact h5
  · intro i hi; rw [h1 (c + 1) (by omega) (by omega)]; exact r1 i hi
  · intro i hi; rw [h1 (c + 2) (by omega) (by omega)]; exact r2 i hi
  · intro i hi; rw [h1 (c + 3) (by omega) (by omega)]; exact r3 i hi
  · intro i hi; rw [h1 (c + 4) (by omega) (by omega)]; exact r4 i hi
  · intro i hi; rw [h1 (c + 5) (by omega) (by omega)]; exact r5 i hi
  · intro i hi; rw [h1 (c + 6) (by omega) (by omega)]; exact r6 i hi
  · intro i hi; rw [h1 (c + 7) (by omega) (by omega)]; exact r7 i hi
  · exact h6
abbrev bt_frm (c : Nat) (M M' : bt_M) : Prop := ∀ x : Nat, x ≠ c → x ≠ c + 8 → M' x = M x
def bt_CX4_driveOne : bt_C := [(105, 1, 4, sX4_comers), (109, 1, 4, sX4_minutes)]
def sX4_driveOne : bt_Sp := fun as M N K => match as with
  | [.ref c, .int g] => ∃ w g', bt_wc c ∧ bt_cW M c w ∧ w 12 4 < w 12 0 ∧ g = nI g' ∧ g' ≤ 9 ∧ ∀ M', bt_cW M' c (bt_dv w g') → bt_frm c M M' → K (some (.int (nI (bt_mk (bt_cm w (w 12 4) g' (w 11)) (w 12 1))))) M' N
  | _ => False
theorem mX4_driveOne : bt_MT bt_TX4_driveOne bt_FX4 bt_CX4_driveOne 1 4 sX4_driveOne := by
  intro as M N Rt h P hP
  unfold sX4_driveOne at h
  split at h
  · next c0 _ =>
    obtain ⟨c, rfl⟩ : ∃ c' : Nat, c' = c0 := ⟨c0, rfl⟩
    obtain ⟨w, g, hc, hw, hat, rfl, hg, h⟩ := h
    obtain ⟨hf, h8, h9, h10, h11, h12, h13, h14, h15, h16, h17, r1, r2, r3, r4, r5, r6, r7, r8⟩ := id hw
    obtain ⟨f1, f2, f3, f4, f5, f6, f7, f8, f9, f10, f11, f12, f13, f14, f15, f16, f17, f18⟩ := id hf
    have hcb := bt_cm_b1 w (w 12 4) g (w 11)
    have hsum := bt_cm_le w (w 12 4) g (w 11) f18
    have hp1 : bt_b1 (fun k => w 11 k + bt_cm w (w 12 4) g (w 11) k) := hsum
    have hmk : ∀ {f : Nat → Nat}, bt_b1 f → bt_mk f (w 12 1) < 2 ^ 31 := fun {f} hf => by
      have := bt_mk_lt hf (w 12 1)
      have h2 : 2 ^ (w 12 1) ≤ 2 ^ 6 := Nat.pow_le_pow_right (by omega) f2
      omega
    have hor : nI (bt_mk (w 11) (w 12 1)) ||| nI (bt_mk (bt_cm w (w 12 4) g (w 11)) (w 12 1)) = nI (bt_mk (fun k => w 11 k + bt_cm w (w 12 4) g (w 11) k) (w 12 1)) := by
      rw [bt_or (hmk f18) (hmk hcb), bt_mk_or f18 hcb hp1]
      intro k _
      have := hsum k
      have := hcb k
      have := f18 k
      omega
    have loop : ∀ v pc L st M' N', (pc = 26 ∧ st = [] ∧ N' = N ∧ ∃ k, k ≤ w 12 1 ∧ v = w 12 1 - k ∧ L = [some (.ref c), some (.int (nI g)), some (.int (nI (bt_mk (bt_cm w (w 12 4) g (w 11)) (w 12 1)))), some (.int (nI k))] ∧ (∀ x, x ≠ c → x ≠ c + 8 → M' x = M x) ∧ (∀ f, f ≠ 13 → M' c f = M c f) ∧ M' c 13 = nI (bt_mk (fun k => w 11 k + bt_cm w (w 12 4) g (w 11) k) (w 12 1)) ∧ ∀ j, j < w 12 1 → M' (c + 8) j = nI (w 10 j + if j < k then bt_mn w (w 12 4) j (w 11 j + bt_cm w (w 12 4) g (w 11) j) else 0)) → P pc L st M' N' := by
      refine bt_loop rfl hP 60 [26] (fun v pc L st M' N' => (pc = 26 ∧ st = [] ∧ N' = N ∧ ∃ k, k ≤ w 12 1 ∧ v = w 12 1 - k ∧ L = [some (.ref c), some (.int (nI g)), some (.int (nI (bt_mk (bt_cm w (w 12 4) g (w 11)) (w 12 1)))), some (.int (nI k))] ∧ (∀ x, x ≠ c → x ≠ c + 8 → M' x = M x) ∧ (∀ f, f ≠ 13 → M' c f = M c f) ∧ M' c 13 = nI (bt_mk (fun k => w 11 k + bt_cm w (w 12 4) g (w 11) k) (w 12 1)) ∧ ∀ j, j < w 12 1 → M' (c + 8) j = nI (w 10 j + if j < k then bt_mn w (w 12 4) j (w 11 j + bt_cm w (w 12 4) g (w 11) j) else 0))) ?_
      rintro v pc L st M' N' ⟨rfl, rfl, rfl, k, hk, rfl, rfl, q1, q2, q3, q4⟩
      have e12 := (q2 12 (by omega)).trans h12
      have e16 := (q2 16 (by omega)).trans h16
      have e14 := (q2 14 (by omega)).trans h14
      have e17 := (q2 17 (by omega)).trans h17
      have e1 : M' (c + 1) (w 12 4) = nI (w 0 (w 12 4)) := by rw [q1 (c + 1) (by omega) (by omega)]; exact r1 _ hat
      have e7 : ∀ k, k < w 12 1 → M' (c + 7) k = nI (w 9 k) := fun k hk => by rw [q1 (c + 7) (by omega) (by omega)]; exact r7 k hk
      rcases hc with rfl | rfl
      all_goals
        refine ⟨fun q => ?_, fun q => ?_⟩
        · rw [e12, nI_leI (by omega) (by omega)] at q
          refine ⟨_, rfl, w 12 4, e16, by omega, ?_⟩
          rintro _ rfl _ rfl
          refine h _ (bt_dv_cW hw hat ?_ ?_ ?_ ?_ ?_ ?_) ?_
          · intro x z1 z2
            rw [bt_up_n z1, bt_up_n z1]
            exact q1 x z1 z2
          · intro f z1 z2 z3
            rw [bt_up_s, pk_un z2, bt_up_s, pk_un z3]
            exact q2 f z1
          · rw [bt_up_s, pk_un (by omega), bt_up_s, pk_un (by omega)]
            exact q3
          · rw [bt_up_s, pk_us, bt_up_s, pk_un (by omega), e16]
            exact nI_1 _
          · rw [bt_up_s, pk_un (by omega), bt_up_s, pk_us, e17, e1, e14, pk_mul, nI_add]
          · intro j hj
            rw [bt_up_n (by omega), bt_up_n (by omega), q4 j hj, if_pos (by omega)]
          · intro x z1 z2
            rw [bt_up_n z1, bt_up_n z1]
            exact q1 x z1 z2
        · rw [e12, nI_leI (by omega) (by omega)] at q
          have hkm : k < w 12 1 := by omega
          refine ⟨_, rfl, k, rfl, by omega, ?_⟩
          refine ⟨w 12 4, k, w 12 1, (fun k => w 11 k + bt_cm w (w 12 4) g (w 11) k), w 0 (w 12 4), w 9 k, w 12 2, by first | exact Or.inl rfl | exact Or.inr rfl, e16, by omega, rfl, hkm, f2, hp1, q3, e1, e7 k hkm, e14, ?_⟩
          refine ⟨_, rfl, k, rfl, by omega, ?_⟩
          rintro _ rfl
          refine ⟨w 12 1 - (k + 1), by omega, rfl, rfl, rfl, k + 1, by omega, rfl, by rw [← nI_1], ?_, ?_, ?_, ?_⟩
          · intro x z1 z2
            rw [bt_up_n z2]
            exact q1 x z1 z2
          · intro f z1
            rw [bt_up_n (by omega)]
            exact q2 f z1
          · rw [bt_up_n (by omega)]
            exact q3
          · intro j hj
            rw [bt_up_s]
            by_cases hjk : j = k
            · subst hjk
              rw [pk_us, q4 j hj, if_neg (Nat.lt_irrefl j), Nat.add_zero, nI_add, if_pos (Nat.lt_succ_self j)]
              rfl
            · rw [pk_un hjk, q4 j hj]
              by_cases hl : j < k
              · rw [if_pos hl, if_pos (by omega)]
              · rw [if_neg hl, if_neg (by omega)]
    rcases hc with rfl | rfl
    all_goals
      refine bt_go rfl hP 60 [26] P (fun _ _ _ _ _ h => h) ?_
      refine ⟨w, w 12 4, g, w 11, by first | exact Or.inl rfl | exact Or.inr rfl, hw, h16, hat, rfl, hg, f18, h13, ?_⟩
      rintro _ rfl
      refine loop _ _ _ _ _ _ ⟨rfl, rfl, rfl, 0, Nat.zero_le _, rfl, rfl, ?_, ?_, ?_, ?_⟩
      · intro x z1 z2
        rw [bt_up_n z1]
      · intro f z1
        rw [bt_up_s, pk_un z1]
      · rw [bt_up_s, pk_us, h13, hor]
      · intro j hj
        rw [bt_up_n (by omega), if_neg (by omega), Nat.add_zero]
        exact r8 j hj
  · exact False.elim h
