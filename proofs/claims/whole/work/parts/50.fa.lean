/-! WHO HAD BEEN BEHIND WHOM: numbers -/
def bu_tz (t : Nat) : Nat := if t % 2 = 1 then 0 else if t / 2 % 2 = 1 then 1 else if t / 4 % 2 = 1 then 2 else if t / 8 % 2 = 1 then 3 else if t / 16 % 2 = 1 then 4 else if t / 32 % 2 = 1 then 5 else if t / 64 % 2 = 1 then 6 else 7
theorem bu_tz_ok : ∀ t, t < 256 → 0 < t → ((nI t ^^^ (-1)) &&& (nI t - 1) = nI (2 ^ bu_tz t - 1) ∧ bu_tz t ≤ 7 ∧ 2 ^ bu_tz t ≤ t) := by decide +kernel
theorem bu_tz_b : ∀ t, t < 256 → 0 < t → ∀ p, p < 8 → bu_tz t < p → t / 2 ^ p % 2 = (t - 1) / 2 ^ p % 2 := by decide +kernel
def sJ6_numberOfTrailingZeros_0f7a4 : bt_Sp := fun as M N K => match as with
  | [.int x] => ∃ t, x = nI t ∧ t < 256 ∧ 0 < t ∧ K (some (.int (nI (bu_tz t)))) M N
  | _ => False
theorem mJ6_numberOfTrailingZeros_0f7a4 : bt_MT bt_TJ6_numberOfTrailingZeros_0f7a4 [] [] 1 2 sJ6_numberOfTrailingZeros_0f7a4 := by
  intro as M N Rt h P hP
  unfold sJ6_numberOfTrailingZeros_0f7a4 at h
  split at h
  · obtain ⟨t, rfl, ht, h0, h⟩ := h
    obtain ⟨hX, h7, -⟩ := bu_tz_ok t ht h0
    generalize bu_tz t = c at hX h7 h
    refine bt_go rfl hP 60 [8] P (fun _ _ _ _ _ h => h) ?_
    show P 8 [some (.int ((nI t ^^^ (-1)) &&& (nI t - 1))), none] [] M N
    rw [hX]
    refine bt_go0 rfl hP 60 ?_
    rcases (show c = 0 ∨ c = 1 ∨ c = 2 ∨ c = 3 ∨ c = 4 ∨ c = 5 ∨ c = 6 ∨ c = 7 by omega) with rfl | rfl | rfl | rfl | rfl | rfl | rfl | rfl
    · exact ⟨fun z => absurd z (by decide), fun _ => h⟩
    · exact ⟨fun _ => ⟨fun _ => ⟨fun _ => ⟨fun _ => ⟨fun _ => h, fun z => absurd (by decide) z⟩, fun z => absurd (by decide) z⟩, fun z => absurd (by decide) z⟩, fun z => absurd (by decide) z⟩, fun z => absurd (by decide) z⟩
    · exact ⟨fun _ => ⟨fun _ => ⟨fun _ => ⟨fun _ => ⟨fun _ => h, fun z => absurd (by decide) z⟩, fun z => absurd (by decide) z⟩, fun z => absurd (by decide) z⟩, fun z => absurd (by decide) z⟩, fun z => absurd (by decide) z⟩
    · exact ⟨fun _ => ⟨fun _ => ⟨fun _ => ⟨fun _ => ⟨fun z => absurd z (by decide), fun _ => h⟩, fun z => absurd (by decide) z⟩, fun z => absurd (by decide) z⟩, fun z => absurd (by decide) z⟩, fun z => absurd (by decide) z⟩
    · exact ⟨fun _ => ⟨fun _ => ⟨fun _ => ⟨fun _ => ⟨fun z => absurd z (by decide), fun _ => h⟩, fun z => absurd (by decide) z⟩, fun z => absurd (by decide) z⟩, fun z => absurd (by decide) z⟩, fun z => absurd (by decide) z⟩
    · exact ⟨fun _ => ⟨fun _ => ⟨fun _ => ⟨fun z => absurd z (by decide), fun _ => ⟨fun _ => h, fun z => absurd (by decide) z⟩⟩, fun z => absurd (by decide) z⟩, fun z => absurd (by decide) z⟩, fun z => absurd (by decide) z⟩
    · exact ⟨fun _ => ⟨fun _ => ⟨fun _ => ⟨fun z => absurd z (by decide), fun _ => ⟨fun _ => h, fun z => absurd (by decide) z⟩⟩, fun z => absurd (by decide) z⟩, fun z => absurd (by decide) z⟩, fun z => absurd (by decide) z⟩
    · exact ⟨fun _ => ⟨fun _ => ⟨fun _ => ⟨fun z => absurd z (by decide), fun _ => ⟨fun z => absurd z (by decide), fun _ => h⟩⟩, fun z => absurd (by decide) z⟩, fun z => absurd (by decide) z⟩, fun z => absurd (by decide) z⟩
  · exact False.elim h
/-- all that was seen is so -/
def bu_ft (T z1 z2 : Nat → Nat) : Nat → Bool
  | 0 => true
  | n + 1 => bu_ft T z1 z2 n && (T (z1 n) == z2 n)
theorem bu_ft_no {T z1 z2 : Nat → Nat} {n : Nat} (h : bu_ft T z1 z2 n = false) : ∀ d, bu_ft T z1 z2 (n + d) = false
  | 0 => h
  | d + 1 => by
    rw [← Nat.add_assoc, bu_ft, bu_ft_no h d]
    rfl
abbrev bu_F : Type := Nat × Nat × Nat × Nat × Nat
def bu_cF (M : bt_M) (F : bu_F) : Prop := M 49 6 = nI F.1 ∧ M 49 7 = nI F.2.1 ∧ M 49 8 = nI F.2.2.1 ∧ M 49 9 = nI F.2.2.2.1 ∧ M 49 10 = nI F.2.2.2.2
def bu_bF (F : bu_F) : Prop := F.1 < 1000 ∧ F.2.1 < 256 ∧ F.2.2.1 < 256 ∧ F.2.2.2.1 < 256 ∧ F.2.2.2.2 < 256
def bu_ad (b : Bool) (s p : Nat) (F : bu_F) : bu_F := if b = true then (F.1 + 1, if F.1 = 0 then s else min F.2.1 s, F.2.2.1 &&& s, F.2.2.2.1 ||| s, F.2.2.2.2 ||| p) else F
theorem bu_sh55 : ∀ e, e < 9 → bt_sh (55 + e) = (1, 0, 6) := by decide
def bt_CX0_judge : bt_C := [(102, 0, 2, sJ9_min_7cf53)]
def sX0_judge : bt_Sp := fun as M N K => match as with
  | [.ref c, .int pv, .int sv, .ref e] => ∃ (l p s n m : Nat) (T z1 z2 : Nat → Nat) (F : bu_F), c = 49 ∧ pv = nI p ∧ p < 256 ∧ sv = nI s ∧ s < 256 ∧ e = 55 + l ∧ l < 9 ∧ M 49 5 = nI n ∧ n ≤ 6 ∧ m ≤ 6 ∧ (∀ j, j < n → M 50 j = nI (z1 j) ∧ M 51 j = nI (z2 j) ∧ z1 j < m ∧ z2 j ≤ 999) ∧ (∀ k, k < m → M (55 + l) k = nI (T k)) ∧ (∀ k, T k < 2 ^ 31) ∧ bu_cF M F ∧ bu_bF F ∧ ∀ M', (∀ x : Nat, x ≠ 49 → M' x = M x) → M' 49 5 = M 49 5 → bu_cF M' (bu_ad (bu_ft T z1 z2 n) s p F) → K none M' N
  | _ => False
set_option maxRecDepth 100000 in
theorem mX0_judge : bt_MT bt_TX0_judge bt_FX0 bt_CX0_judge 0 5 sX0_judge := by
  intro as M N Rt h P hP
  unfold sX0_judge at h
  split at h
  · obtain ⟨l, p, s, n, m, T, z1, z2, F, rfl, rfl, hp, rfl, hs, rfl, hl, h5, hn, hm, hz, hT, hTb, hF, hB, h⟩ := h
    obtain ⟨q6, q7, q8, q9, q10⟩ := id hF
    obtain ⟨b6, b7, b8, b9, b10⟩ := id hB
    have loop : ∀ v pc L st M' N', (pc = 3 ∧ st = [] ∧ M' = M ∧ N' = N ∧ ∃ j, j ≤ n ∧ v = n - j ∧ L = [some (.ref 49), some (.int (nI p)), some (.int (nI s)), some (.ref (55 + l)), some (.int (nI j))] ∧ bu_ft T z1 z2 j = true) → P pc L st M' N' := by
      refine bt_loop rfl hP 60 [3] (fun v pc L st M' N' => (pc = 3 ∧ st = [] ∧ M' = M ∧ N' = N ∧ ∃ j, j ≤ n ∧ v = n - j ∧ L = [some (.ref 49), some (.int (nI p)), some (.int (nI s)), some (.ref (55 + l)), some (.int (nI j))] ∧ bu_ft T z1 z2 j = true)) ?_
      rintro v pc L st M' N' ⟨rfl, rfl, hM, hN, j, hj, rfl, rfl, hft⟩
      subst hM
      subst hN
      refine ⟨fun y1 => ?_, fun y1 => ?_⟩
      · rw [h5, nI_leI (by omega) (by omega)] at y1
        have e : j = n := by omega
        rw [e] at hft
        rw [hft] at h
        unfold bu_ad at h
        rw [if_pos rfl] at h
        have fin : ∀ X : Int32, X = nI (if F.1 = 0 then s else min F.2.1 s) → ∀ M1, M1 = va_up M' 49 (upd (M' 49) 7 X) → ∀ M2, M2 = va_up M1 49 (upd (M1 49) 6 (M1 49 6 + 1)) → ∀ M3, M3 = va_up M2 49 (upd (M2 49) 8 (M2 49 8 &&& nI s)) → ∀ M4, M4 = va_up M3 49 (upd (M3 49) 9 (M3 49 9 ||| nI s)) → ∀ M5, M5 = va_up M4 49 (upd (M4 49) 10 (M4 49 10 ||| nI p)) → Rt none M5 N' := by
          intro X hX M1 e1 M2 e2 M3 e3 M4 e4 M5 e5
          have k1 : M1 49 = upd (M' 49) 7 X := by rw [e1, bt_up_s]
          have k2 : M2 49 = upd (M1 49) 6 (M1 49 6 + 1) := by rw [e2, bt_up_s]
          have k3 : M3 49 = upd (M2 49) 8 (M2 49 8 &&& nI s) := by rw [e3, bt_up_s]
          have k4 : M4 49 = upd (M3 49) 9 (M3 49 9 ||| nI s) := by rw [e4, bt_up_s]
          have k5 : M5 49 = upd (M4 49) 10 (M4 49 10 ||| nI p) := by rw [e5, bt_up_s]
          refine h M5 ?_ ?_ ⟨?_, ?_, ?_, ?_, ?_⟩
          · intro x hx
            rw [e5, bt_up_n hx, e4, bt_up_n hx, e3, bt_up_n hx, e2, bt_up_n hx, e1, bt_up_n hx]
          · rw [k5, pk_un (by omega), k4, pk_un (by omega), k3, pk_un (by omega), k2, pk_un (by omega), k1, pk_un (by omega)]
          · rw [k5, pk_un (by omega), k4, pk_un (by omega), k3, pk_un (by omega), k2, pk_us, k1, pk_un (by omega), q6, nI_1]
          · rw [k5, pk_un (by omega), k4, pk_un (by omega), k3, pk_un (by omega), k2, pk_un (by omega), k1, pk_us, hX]
          · rw [k5, pk_un (by omega), k4, pk_un (by omega), k3, pk_us, k2, pk_un (by omega), k1, pk_un (by omega), q8, bt_and (by omega) (by omega)]
          · rw [k5, pk_un (by omega), k4, pk_us, k3, pk_un (by omega), k2, pk_un (by omega), k1, pk_un (by omega), q9, bt_or (by omega) (by omega)]
          · rw [k5, pk_us, k4, pk_un (by omega), k3, pk_un (by omega), k2, pk_un (by omega), k1, pk_un (by omega), q10, bt_or (by omega) (by omega)]
        refine ⟨fun y2 => ?_, fun y2 => ?_⟩
        · rw [q6, bt_n0 (by omega)] at y2
          exact fin _ (by rw [if_neg y2, q7, bt_minN (by omega) (by omega)])
        · rw [q6, bt_n0 (by omega)] at y2
          exact fin _ (by rw [if_pos y2])
      · rw [h5, nI_leI (by omega) (by omega)] at y1
        obtain ⟨c1, c2, c3, c4⟩ := hz j (by omega)
        have c5 := hT _ c3
        have c6 := hTb (z1 j)
        refine ⟨_, rfl, j, rfl, by omega, ?_⟩
        refine ⟨6, bu_sh55 l hl, z1 j, c1, by omega, ?_⟩
        refine ⟨_, rfl, j, rfl, by omega, ?_⟩
        refine ⟨fun y2 => ?_, fun y2 => ?_⟩
        · rw [c5, c2, nI_eq (by omega) (by omega)] at y2
          exact ⟨n - (j + 1), by omega, rfl, rfl, rfl, rfl, j + 1, by omega, rfl, by rw [nI_1], by rw [bu_ft, hft, y2]; simp⟩
        · rw [c5, c2, nI_eq (by omega) (by omega)] at y2
          have g1 : bu_ft T z1 z2 (j + 1) = false := by
            rw [bu_ft, hft]
            simp [y2]
          have g2 := bu_ft_no g1 (n - (j + 1))
          rw [show j + 1 + (n - (j + 1)) = n by omega] at g2
          rw [g2] at h
          exact h M' (fun _ _ => rfl) rfl hF
    refine bt_go rfl hP 60 [3] P (fun _ _ _ _ _ h => h) ?_
    exact loop _ _ _ _ _ _ ⟨rfl, rfl, rfl, rfl, 0, by omega, rfl, rfl, rfl⟩
  · exact False.elim h
