/-! THE TEXT: the model's words and numbers -/
def bv_mL (M : bt_M) : Prop := (∀ j, j < 13 → M 72 j = nI (bt_at bt_cuts j 0)) ∧ ∀ j, j < 51 → M 73 j = nI (bt_at bt_lets j 0)
theorem bv_cut_ok : ∀ i, i < 12 → bt_at bt_cuts (i + 1) 0 = bt_at bt_cuts i 0 + (bt_at bv_ws i []).length ∧ (bt_at bv_ws i []).length ≤ 6 ∧ 0 < (bt_at bv_ws i []).length ∧ bt_at bt_cuts (i + 1) 0 ≤ 51 := by decide +kernel
theorem bv_let_ok : ∀ i, i < 12 → ∀ k, k < 6 → k < (bt_at bv_ws i []).length → bt_at bt_lets (bt_at bt_cuts i 0 + k) 0 = bt_at (bt_at bv_ws i []) k 0 ∧ bt_at (bt_at bv_ws i []) k 0 < 128 := by decide +kernel
def bt_CX6_nameHere : bt_C := [(69, 1, 2, sX6_byteAt)]
def sX6_nameHere : bt_Sp := fun as M N K => match as with
  | [.ref c] => ∃ z n a, c = 67 ∧ bv_mT M z n ∧ bv_mL M ∧ bv_mS M z n (.inr a) ∧ K (some (.int (if bv_ix (bv_wd z n a) < 12 then nI (bv_ix (bv_wd z n a)) else -4))) M N
  | _ => False
set_option maxRecDepth 100000 in
set_option maxHeartbeats 1000000 in
theorem mX6_nameHere : bt_MT bt_TX6_nameHere bt_FX6 bt_CX6_nameHere 1 4 sX6_nameHere := by
  intro as M N Rt h P hP
  unfold sX6_nameHere at h
  split at h
  · obtain ⟨z, n, a, rfl, hT, hL, hS, h⟩ := h
    obtain ⟨h12, han, hbd, h15, h16, h14, h17⟩ := hS
    have hn := hT.2.1
    have hk4 := bv_kd_4 z n a
    have hnx := bv_nx_b (z := z) han
    have hsub : M 67 14 - M 67 15 = nI (bv_nx z n a - a) := by rw [h14, h15, pk_sub hnx.1]
    have hwd : bv_kd z n a = 1 → bv_wd z n a = bv_tx z a (bv_nx z n a - a) := fun hk => if_pos hk
    have hno : (∀ i, i < 12 → ¬ bv_wd z n a = bt_at bv_ws i []) → Rt (some (.int (-4))) M N := fun hh => by
      rw [if_neg (fun c => hh _ c ((bv_ix_i c).mp rfl))] at h
      exact h
    have hyes : ∀ i, i < 12 → bv_wd z n a = bt_at bv_ws i [] → Rt (some (.int (nI i))) M N := fun i hi hh => by
      rw [(bv_ix_i hi).mpr hh, if_pos hi] at h
      exact h
    have loop : ∀ v pc L st M' N', (st = [] ∧ M' = M ∧ N' = N ∧ ∃ i, (∀ i', i' < i → ¬ bv_wd z n a = bt_at bv_ws i' []) ∧ ((pc = 2 ∧ i ≤ 12 ∧ v = (12 - i) * 20 + 10 ∧ ∃ y2 y3, L = [some (.ref 67), some (.int (nI i)), y2, y3]) ∨ (pc = 51 ∧ i < 12 ∧ bv_kd z n a = 1 ∧ ((∃ k, v = (12 - i) * 20 + (7 - k) ∧ bv_nx z n a - a = (bt_at bv_ws i []).length ∧ k ≤ (bt_at bv_ws i []).length ∧ (∀ k', k' < k → z (a + k') = bt_at (bt_at bv_ws i []) k' 0) ∧ L = [some (.ref 67), some (.int (nI i)), some (.int 1), some (.int (nI k))]) ∨ (v = (12 - i) * 20 ∧ ¬ bv_wd z n a = bt_at bv_ws i [] ∧ ∃ x3, L = [some (.ref 67), some (.int (nI i)), some (.int 0), some (.int x3)]))))) → P pc L st M' N' := by
      refine bt_loop rfl hP 80 [2, 51] (fun v pc L st M' N' => (st = [] ∧ M' = M ∧ N' = N ∧ ∃ i, (∀ i', i' < i → ¬ bv_wd z n a = bt_at bv_ws i' []) ∧ ((pc = 2 ∧ i ≤ 12 ∧ v = (12 - i) * 20 + 10 ∧ ∃ y2 y3, L = [some (.ref 67), some (.int (nI i)), y2, y3]) ∨ (pc = 51 ∧ i < 12 ∧ bv_kd z n a = 1 ∧ ((∃ k, v = (12 - i) * 20 + (7 - k) ∧ bv_nx z n a - a = (bt_at bv_ws i []).length ∧ k ≤ (bt_at bv_ws i []).length ∧ (∀ k', k' < k → z (a + k') = bt_at (bt_at bv_ws i []) k' 0) ∧ L = [some (.ref 67), some (.int (nI i)), some (.int 1), some (.int (nI k))]) ∨ (v = (12 - i) * 20 ∧ ¬ bv_wd z n a = bt_at bv_ws i [] ∧ ∃ x3, L = [some (.ref 67), some (.int (nI i)), some (.int 0), some (.int x3)])))))) ?_
      rintro v pc L st M' N' ⟨rfl, hM, hN, i, hprev, ⟨rfl, hi, rfl, y2, y3, rfl⟩ | ⟨rfl, hi, hk, ⟨k, rfl, hlen, hkl, hpre, rfl⟩ | ⟨rfl, hne, x3, rfl⟩⟩⟩
      · subst hM
        subst hN
        refine ⟨fun y1 => ?_, fun y1 => ?_⟩
        · rw [bt_lit, nI_leI (by omega) (by omega)] at y1
          exact hno (fun i' hi' => hprev i' (by omega))
        · rw [bt_lit, nI_leI (by omega) (by omega)] at y1
          obtain ⟨c1, c2, c3, c4⟩ := bv_cut_ok i (by omega)
          refine ⟨fun y4 => ?_, fun y4 => ?_⟩
          · rw [h16, bt_n1 (by omega)] at y4
            refine hno (fun i' hi' e => ?_)
            unfold bv_wd at e
            rw [if_neg y4] at e
            have := congrArg List.length e
            have := (bv_cut_ok i' hi').2.2.1
            simp at *
            omega
          · rw [h16, bt_n1 (by omega)] at y4
            have hcc : M' 72 (i + 1) - M' 72 i = nI (bt_at bv_ws i []).length := by
              rw [hL.1 (i + 1) (by omega), hL.1 i (by omega), c1, pk_sub (by omega), Nat.add_sub_cancel_left]
            refine ⟨_, rfl, i + 1, nI_1 i, by omega, ?_⟩
            refine ⟨_, rfl, i, rfl, by omega, ?_⟩
            refine ⟨fun y5 => ?_, fun y5 => ?_⟩
            · rw [hsub, hcc, nI_eq (by omega) (by omega)] at y5
              refine ⟨(12 - i) * 20, by omega, rfl, rfl, rfl, i, hprev, Or.inr ⟨rfl, by omega, y4, Or.inr ⟨rfl, fun e => ?_, _, rfl⟩⟩⟩
              rw [hwd y4, bv_tx_i] at e
              exact y5 e.1
            · rw [hsub, hcc, nI_eq (by omega) (by omega)] at y5
              exact ⟨(12 - i) * 20 + (7 - 0), by omega, rfl, rfl, rfl, i, hprev, Or.inr ⟨rfl, by omega, y4, Or.inl ⟨0, rfl, y5, by omega, fun k' hk' => by omega, rfl⟩⟩⟩
      · subst hM
        subst hN
        obtain ⟨c1, c2, c3, c4⟩ := bv_cut_ok i hi
        refine ⟨fun y1 => absurd y1 (by decide), fun _ => ?_⟩
        refine ⟨fun y1 => ?_, fun y1 => ?_⟩
        · rw [hsub, nI_leI (by omega) (by omega)] at y1
          refine ⟨fun y2 => absurd y2 (by decide), fun _ => ?_⟩
          refine hyes i hi ?_
          rw [hwd hk, bv_tx_i]
          exact ⟨hlen, fun k' hk' => hpre k' (by omega)⟩
        · rw [hsub, nI_leI (by omega) (by omega)] at y1
          obtain ⟨d1, d2⟩ := bv_let_ok i hi k (by omega) (by omega)
          have hza := hT.2.2.2 (a + k)
          refine ⟨z, n, a + k, rfl, hT, by rw [h15, nI_add], by omega, ?_⟩
          refine ⟨_, rfl, i, rfl, by omega, ?_⟩
          refine ⟨_, rfl, bt_at bt_cuts i 0 + k, by rw [hL.1 i (by omega), nI_add], by omega, ?_⟩
          have e1 : M' 73 (bt_at bt_cuts i 0 + k) = nI (bt_at (bt_at bv_ws i []) k 0) := by rw [hL.2 _ (by omega), d1]
          rw [if_pos (show a + k < n by omega)]
          refine ⟨fun y2 => ?_, fun y2 => ?_⟩
          · rw [e1, nI_eq (by omega) (by omega)] at y2
            refine ⟨(12 - i) * 20, by omega, rfl, rfl, rfl, i, hprev, Or.inr ⟨rfl, hi, hk, Or.inr ⟨rfl, fun e => ?_, _, rfl⟩⟩⟩
            rw [hwd hk, bv_tx_i] at e
            exact y2 (e.2 k (by omega))
          · rw [e1, nI_eq (by omega) (by omega)] at y2
            refine ⟨(12 - i) * 20 + (7 - (k + 1)), by omega, rfl, rfl, rfl, i, hprev, Or.inr ⟨rfl, hi, hk, Or.inl ⟨k + 1, rfl, hlen, by omega, fun k' hk' => ?_, by rw [nI_1]⟩⟩⟩
            by_cases c : k' = k
            · rw [c]; exact y2
            · exact hpre k' (by omega)
      · subst hM
        subst hN
        refine ⟨fun _ => ?_, fun y => absurd rfl y⟩
        refine ⟨fun _ => ?_, fun y => absurd rfl y⟩
        refine ⟨(12 - (i + 1)) * 20 + 10, by omega, rfl, rfl, rfl, i + 1, fun i' hi' => ?_, Or.inl ⟨rfl, by omega, rfl, _, _, by rw [nI_1]⟩⟩
        by_cases c : i' = i
        · rw [c]; exact hne
        · exact hprev i' (by omega)
    refine bt_go rfl hP 60 [2] P (fun _ _ _ _ _ h => h) ?_
    exact loop _ _ _ _ _ _ ⟨rfl, rfl, rfl, 0, fun i' hi' => by omega, Or.inl ⟨rfl, by omega, rfl, none, none, rfl⟩⟩
  · exact False.elim h
def bv_mn (z : Nat → Nat) (n lo hi : Nat) (X : (Nat × Nat) ⊕ Nat) : ((Nat × Nat) ⊕ Nat) × Nat := match X with
  | .inl e => (.inl e, lo)
  | .inr a => if bv_kd z n a = 2 then (if lo ≤ bv_vl z n a ∧ bv_vl z n a ≤ hi then (bv_tk z n (bv_nx z n a), bv_vl z n a) else (.inl (3, a), lo)) else (.inl (2, a), lo)
theorem bv_mS_P {M : bt_M} {z : Nat → Nat} {n : Nat} {e : Nat × Nat} (h : bv_mS M z n (.inl e)) : bv_mP M n (.inl e) := h
theorem bv_mS_N {M : bt_M} {z : Nat → Nat} {n a : Nat} (h : bv_mS M z n (.inr a)) : bv_mP M n (.inr (bv_nx z n a)) := ⟨h.1, h.2.2.2.2.2.1, (bv_nx_b h.2.1).2.1⟩
/-- a fault is told -/
theorem bv_mS_F {M M' : bt_M} {z : Nat → Nat} {n a f : Nat} (h : bv_mS M z n (.inr a)) (hf : 1 ≤ f ∧ f ≤ 6) (n3 : M 67 12 = 0 → M' 67 12 = nI f ∧ M' 67 13 = M 67 15) : bv_mS M' z n (.inl (f, a)) := by
  obtain ⟨n5, n6⟩ := n3 h.1
  exact ⟨n5, hf.1, hf.2, by rw [n6]; exact h.2.2.2.1⟩
def bt_CX6_number : bt_C := [(84, 1, 2, sX6_fails), (46, 0, 3, sX6_in), (88, 1, 1, sX6_step)]
def sX6_number : bt_Sp := fun as M N K => match as with
  | [.ref c, .int lo, .int hi] => ∃ z n X lo' hi', c = 67 ∧ lo = nI lo' ∧ hi = nI hi' ∧ lo' ≤ 99 ∧ hi' ≤ 99 ∧ bv_mT M z n ∧ bv_mS M z n X ∧ ∀ M', bv_gr M M' → bv_mS M' z n (bv_mn z n lo' hi' X).1 → K (some (.int (nI (bv_mn z n lo' hi' X).2))) M' N
  | _ => False
set_option maxRecDepth 100000 in
theorem mX6_number : bt_MT bt_TX6_number bt_FX6 bt_CX6_number 1 4 sX6_number := by
  intro as M N Rt h P hP
  unfold sX6_number at h
  split at h
  · obtain ⟨z, n, X, lo, hi, rfl, rfl, rfl, hlo, hhi, hT, hS, h⟩ := h
    have tail : ∀ M1 e, bv_gr M M1 → bv_mS M1 z n (.inl e) → bv_mn z n lo hi X = (.inl e, lo) → P 47 [some (.ref 67), some (.int (nI lo)), some (.int (nI hi)), none] [] M1 N := by
      intro M1 e g1 hS1 hX
      rw [hX] at h
      refine bt_go0 rfl hP 60 ?_
      refine ⟨fun _ => ?_, fun y => ?_⟩
      · refine ⟨z, n, .inl e, rfl, bv_mT_gr hT g1, hS1, fun M2 g2 hS2 => ?_⟩
        exact h M2 (bv_gr_tr g1 g2) hS2
      · have y2 : M1 67 12 = 0 := y
        rw [hS1.1, bt_n0 (by have := hS1.2.2.1; omega)] at y2
        have := hS1.2.1
        omega
    cases X with
    | inl e =>
      have hb : ¬ M 67 12 = 0 := fun y => by
        rw [hS.1, bt_n0 (by have := hS.2.2.1; omega)] at y
        have := hS.2.1
        omega
      refine bt_go rfl hP 60 [47] P (fun _ _ _ _ _ h => h) ?_
      refine ⟨fun _ => ⟨fun _ => ?_, fun y => absurd y hb⟩, fun y => absurd y hb⟩
      exact tail M e bv_gr_rf hS rfl
    | inr a =>
      have hv := bv_vl_lt (n := n) (a := a) hT.2.2.2
      have hk4 := bv_kd_4 z n a
      have h12 := hS.1
      have h16 := hS.2.2.2.2.1
      have h17 := hS.2.2.2.2.2.2
      refine bt_go rfl hP 60 [47] P (fun _ _ _ _ _ h => h) ?_
      refine ⟨fun y => absurd h12 y, fun _ => ⟨fun y1 => ?_, fun y1 => ?_⟩⟩
      · rw [h16, show (2 : Int32) = nI 2 from rfl, nI_eq (by omega) (by omega)] at y1
        have e17 := h17 y1
        have hw : ((nI lo).toInt64 ≤ (M 67 17).toInt64 ∧ (M 67 17).toInt64 ≤ (nI hi).toInt64) ↔ (lo ≤ bv_vl z n a ∧ bv_vl z n a ≤ hi) := by
          rw [e17, bt_l_le, bt_l_le, nI_leI (by omega) (by omega), nI_leI (by omega) (by omega)]
        refine ⟨fun y => absurd h12 y, fun _ => ⟨fun y2 => ?_, fun y2 => ?_⟩⟩
        · rw [bt_bi_n0, hw] at y2
          have hX : bv_mn z n lo hi (.inr a) = (bv_tk z n (bv_nx z n a), bv_vl z n a) := by
            show (if _ then _ else _) = _
            rw [if_pos y1, if_pos y2]
          rw [hX] at h
          refine bt_go0 rfl hP 60 ?_
          refine ⟨fun y => absurd h12 y, fun _ => ?_⟩
          refine ⟨z, n, .inr (bv_nx z n a), rfl, hT, bv_mS_N hS, fun M2 g2 hS2 => ?_⟩
          have key := h M2 g2 hS2
          rw [← e17] at key
          exact key
        · rw [bt_bi_0, hw] at y2
          refine ⟨rfl, fun M1 n1 n2 n3 n4 => ?_⟩
          refine tail M1 (3, a) ⟨n1, fun f hf => n2 f (by omega) (by omega)⟩ (bv_mS_F hS (by omega) n3) ?_
          show (if _ then _ else _) = _
          rw [if_pos y1, if_neg y2]
      · rw [h16, show (2 : Int32) = nI 2 from rfl, nI_eq (by omega) (by omega)] at y1
        refine ⟨rfl, fun M1 n1 n2 n3 n4 => ?_⟩
        have hS1 := bv_mS_F hS (f := 2) (by omega) n3
        refine ⟨fun _ => ?_, fun y => ?_⟩
        · refine tail M1 (2, a) ⟨n1, fun f hf => n2 f (by omega) (by omega)⟩ hS1 ?_
          show (if _ then _ else _) = _
          rw [if_neg y1]
        · have y2 : M1 67 12 = 0 := y
          rw [hS1.1] at y2
          exact absurd (show nI 2 = 0 from y2) (by decide)
  · exact False.elim h
def bv_mf (z : Nat → Nat) (n : Nat) (f : Nat → Nat) (X : (Nat × Nat) ⊕ Nat) : ((Nat × Nat) ⊕ Nat) × Nat := match X with
  | .inl e => (.inl e, 0)
  | .inr a => if bv_kd z n a = 2 ∧ bv_vl z n a ≤ 7 ∧ f (bv_vl z n a) = 1 then (.inl (4, a), 0) else bv_mn z n 0 7 (.inr a)
theorem bv_mn_7 (z : Nat → Nat) (n : Nat) (X : (Nat × Nat) ⊕ Nat) : (bv_mn z n 0 7 X).2 ≤ 7 := by
  cases X with
  | inl e => exact Nat.zero_le _
  | inr a =>
    unfold bv_mn
    dsimp only
    split
    · split
      · next h => exact h.2
      · exact Nat.zero_le _
    · exact Nat.zero_le _
/-- what fresh leaves alone -/
def bv_fsr (nm : Nat) (M M' : bt_M) : Prop := (∀ x : Nat, x ≠ 67 → x ≠ 70 → M' x = M x) ∧ (∀ g : Nat, (g < 12 ∨ 17 < g) → g ≠ 8 → M' 67 g = M 67 g) ∧ ∀ j : Nat, j ≠ nm → M' 70 j = M 70 j
def bt_CX6_fresh : bt_C := [(46, 0, 3, sX6_in), (84, 1, 2, sX6_fails), (93, 1, 3, sX6_number)]
def sX6_fresh : bt_Sp := fun as M N K => match as with
  | [.ref c, .int nm] => ∃ z n X f nm' hi, c = 67 ∧ nm = nI nm' ∧ nm' < 7 ∧ bt_b1 f ∧ M 70 nm' = nI (bt_mk f 8) ∧ M 67 8 = nI hi - 1 ∧ hi ≤ 8 ∧ bv_mT M z n ∧ bv_mS M z n X ∧ ∀ M', bv_fsr nm' M M' → bv_mS M' z n (bv_mf z n f X).1 → M' 70 nm' = nI (bt_mk (bv_u1 f (bv_mf z n f X).2) 8) → M' 67 8 = nI (max hi ((bv_mf z n f X).2 + 1)) - 1 → K (some (.int (nI (bv_mf z n f X).2))) M' N
  | _ => False
set_option maxRecDepth 100000 in
theorem mX6_fresh : bt_MT bt_TX6_fresh bt_FX6 bt_CX6_fresh 1 3 sX6_fresh := by
  intro as M N Rt h P hP
  unfold sX6_fresh at h
  split at h
  · obtain ⟨z, n, X, f, nm, hi, rfl, rfl, hnm, hfb, hm, h8, hhi, hT, hS, h⟩ := h
    have tail : ∀ M1 X1, bv_gr M M1 → bv_mS M1 z n X1 → bv_mn z n 0 7 X1 = bv_mf z n f X → P 52 [some (.ref 67), some (.int (nI nm)), none] [] M1 N := by
      intro M1 X1 g1 hS1 hX
      have h7 := bv_mn_7 z n X1
      rw [← hX] at h
      refine bt_go0 rfl hP 60 ?_
      refine ⟨z, n, X1, 0, 7, rfl, rfl, rfl, by omega, by omega, bv_mT_gr hT g1, hS1, fun M2 g2 hS2 => ?_⟩
      generalize bv_mn z n 0 7 X1 = R at h hS2 h7
      obtain ⟨R1, v⟩ := R
      dsimp only at h hS2 h7
      have gg := bv_gr_tr g1 g2
      have m70 : M2 70 nm = nI (bt_mk f 8) := by rw [gg.1 70 (by omega)]; exact hm
      refine ⟨_, rfl, nm, rfl, by omega, ?_⟩
      refine ⟨_, rfl, nm, rfl, by omega, ?_⟩
      intro M3 e3
      obtain ⟨u1, u2, u3⟩ := bv_up e3
      have e8 : M3 67 8 = nI hi - 1 := by rw [u1 67 (by omega), gg.2 8 (by omega)]; exact h8
      have es : M3 70 nm = nI (bt_mk (bv_u1 f v) 8) := by
        have e := bt_setb hfb (n := 8) (i := v) (by omega) (by omega) 1
        rw [if_neg (by decide)] at e
        rw [u2, m70, e]
        rfl
      have cmp : (nI v ≤ M3 67 8) ↔ v + 1 ≤ hi := by
        rw [e8, Int32.le_iff_toInt_le, nI_toInt (by omega), bt_nI_sub1 (by omega)]
        omega
      have fin : ∀ V : Int32, V = nI (max hi (v + 1)) - 1 → ∀ M4, M4 = va_up M3 67 (upd (M3 67) 8 V) → Rt (some (.int (nI v))) M4 N := by
        intro V hV M4 e4
        obtain ⟨w1, w2, w3⟩ := bv_up e4
        refine h M4 ⟨fun x x1 x2 => by rw [w1 x x1, u1 x x2, gg.1 x x1], fun g hg g8 => by rw [w3 g g8, u1 67 (by omega), gg.2 g hg], fun j hj => by rw [w1 70 (by omega), u3 j hj, gg.1 70 (by omega)]⟩ ?_ (by rw [w1 70 (by omega)]; exact es) (by rw [w2]; exact hV)
        have hc : ∀ g : Nat, 12 ≤ g → M4 67 g = M2 67 g := fun g hg => by rw [w3 g (by omega), u1 67 (by omega)]
        cases R1 with
        | inl e => exact ⟨by rw [hc 12 (by omega)]; exact hS2.1, hS2.2.1, hS2.2.2.1, by rw [hc 13 (by omega)]; exact hS2.2.2.2⟩
        | inr b => exact ⟨by rw [hc 12 (by omega)]; exact hS2.1, hS2.2.1, hS2.2.2.1, by rw [hc 15 (by omega)]; exact hS2.2.2.2.1, by rw [hc 16 (by omega)]; exact hS2.2.2.2.2.1, by rw [hc 14 (by omega)]; exact hS2.2.2.2.2.2.1, by rw [hc 17 (by omega)]; exact hS2.2.2.2.2.2.2⟩
      refine ⟨fun y1 => ?_, fun y1 => ?_⟩
      · rw [cmp] at y1
        refine fin _ ?_
        rw [e8, show max hi (v + 1) = hi by omega]
      · rw [cmp] at y1
        refine fin _ ?_
        rw [show max hi (v + 1) = v + 1 by omega, nI_pred]
    cases X with
    | inl e =>
      have hb : ¬ M 67 12 = 0 := fun y => by
        rw [hS.1, bt_n0 (by have := hS.2.2.1; omega)] at y
        have := hS.2.1
        omega
      refine bt_go rfl hP 60 [52] P (fun _ _ _ _ _ h => h) ?_
      refine ⟨fun _ => ?_, fun y => absurd y hb⟩
      exact tail M (.inl e) bv_gr_rf hS rfl
    | inr a =>
      have hv := bv_vl_lt (n := n) (a := a) hT.2.2.2
      have hk4 := bv_kd_4 z n a
      have h12 := hS.1
      have h16 := hS.2.2.2.2.1
      have h17 := hS.2.2.2.2.2.2
      refine bt_go rfl hP 60 [52] P (fun _ _ _ _ _ h => h) ?_
      refine ⟨fun y => absurd h12 y, fun _ => ⟨fun y1 => ?_, fun y1 => ?_⟩⟩
      · rw [h16, show (2 : Int32) = nI 2 from rfl, nI_eq (by omega) (by omega)] at y1
        refine tail M (.inr a) bv_gr_rf hS ?_
        show _ = (if _ then _ else _)
        rw [if_neg (fun c => y1 c.1)]
      · rw [h16, show (2 : Int32) = nI 2 from rfl, nI_eq (by omega) (by omega)] at y1
        have e17 := h17 y1
        have hw : ((0 : Int64) ≤ (M 67 17).toInt64 ∧ (M 67 17).toInt64 ≤ 7) ↔ bv_vl z n a ≤ 7 := by
          rw [e17, bt_inl_c (k := 7) (show (7 : Int64) = lN 7 from rfl) (by omega), bt_in_nI (by omega)]
          omega
        refine ⟨fun y2 => ?_, fun y2 => ?_⟩
        · rw [bt_bi_0, hw] at y2
          refine tail M (.inr a) bv_gr_rf hS ?_
          show _ = (if _ then _ else _)
          rw [if_neg (fun c => y2 c.2.1)]
        · rw [bt_bi_n0, hw] at y2
          have hb := bt_bitN hfb (n := 8) (k := bv_vl z n a) (by omega) (by omega)
          rw [if_pos (by omega)] at hb
          have f1 := hfb (bv_vl z n a)
          refine ⟨_, rfl, nm, rfl, by omega, ?_⟩
          refine ⟨fun y3 => ?_, fun y3 => ?_⟩
          · rw [hm, e17, hb, bt_n1 (by omega)] at y3
            refine tail M (.inr a) bv_gr_rf hS ?_
            show _ = (if _ then _ else _)
            rw [if_neg (fun c => y3 c.2.2)]
          · rw [hm, e17, hb, bt_n1 (by omega)] at y3
            refine ⟨rfl, fun M1 n1 n2 n3 n4 => ?_⟩
            refine tail M1 (.inl (4, a)) ⟨n1, fun f hf => n2 f (by omega) (by omega)⟩ (bv_mS_F hS (by omega) n3) ?_
            show _ = (if _ then _ else _)
            rw [if_pos ⟨y1, y2, y3⟩]
            rfl
  · exact False.elim h
