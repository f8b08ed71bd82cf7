/-! THE TEXT: the class's words and numbers -/
def sJ0_length_8abf5 : bt_Sp := fun as M N K => match as with
  | [.retAddr m] => ∃ j, m = j + 1 ∧ j < 12 ∧ K (some (.int (nI (bt_at bt_sl j 0)))) M N
  | _ => False
def sJ0_charAt_5068e : bt_Sp := fun as M N K => match as with
  | [.retAddr m, .int i] => ∃ j i', m = j + 1 ∧ j < 12 ∧ i = nI i' ∧ i' < bt_at bt_sl j 0 ∧ K (some (.int (bt_at (bt_at bt_sb j []) i' 0))) M N
  | _ => False
def bv_mo : List Nat := [0, 6, 7, 8, 9, 10, 11, 5, 2, 1, 3, 4]
theorem bv_sl_ok : ∀ j, j < 12 → bt_at bt_sl j 0 = (bt_at bv_ws (bt_at bv_mo j 0) []).length ∧ bt_at bv_mo j 0 < 12 ∧ bt_at bt_sl j 0 ≤ 6 ∧ 0 < bt_at bt_sl j 0 := by decide +kernel
theorem bv_sb_ok : ∀ j, j < 12 → ∀ i, i < 6 → i < bt_at bt_sl j 0 → bt_at (bt_at bt_sb j []) i 0 = nI (bt_at (bt_at bv_ws (bt_at bv_mo j 0) []) i 0) ∧ bt_at (bt_at bv_ws (bt_at bv_mo j 0) []) i 0 < 128 := by decide +kernel
theorem bv_tx_i {z : Nat → Nat} : ∀ (l : List Nat) (a m : Nat), bv_tx z a m = l ↔ m = l.length ∧ ∀ i, i < l.length → z (a + i) = bt_at l i 0
  | [], a, m => by
    cases m with
    | zero => exact ⟨fun _ => ⟨rfl, fun i hi => by cases hi⟩, fun _ => rfl⟩
    | succ m => exact ⟨fun h => (by cases h), fun h => (by cases h.1)⟩
  | x :: l, a, m => by
    cases m with
    | zero => exact ⟨fun h => (by cases h), fun h => (by cases h.1)⟩
    | succ m =>
      have ih := bv_tx_i (z := z) l (a + 1) m
      rw [bv_tx, List.cons.injEq, ih, List.length_cons]
      refine ⟨fun ⟨h1, h2, h3⟩ => ⟨by omega, fun i hi => ?_⟩, fun ⟨h1, h2⟩ => ⟨h2 0 (by omega), by omega, fun i hi => ?_⟩⟩
      · cases i with
        | zero => exact h1
        | succ i =>
          rw [show a + (i + 1) = a + 1 + i by omega]
          exact h3 i (by omega)
      · rw [show a + 1 + i = a + (i + 1) by omega]
        exact h2 (i + 1) (by omega)
def bt_CX3_says : bt_C := [(99, 1, 1, sJ0_length_8abf5), (104, 1, 2, sJ0_charAt_5068e)]
def sX3_says : bt_Sp := fun as M N K => match as with
  | [.ref c, .retAddr m] => ∃ z n a j, c = 20 ∧ m = j + 1 ∧ j < 12 ∧ bv_cT M z n ∧ bv_cS M z n a ∧ a ≤ n ∧ K (some (.int (bt_bi (bv_ix (bv_wd z n a) = bt_at bv_mo j 0)))) M N
  | _ => False
set_option maxRecDepth 100000 in
theorem mX3_says : bt_MT bt_TX3_says bt_FX3 bt_CX3_says 2 3 sX3_says := by
  intro as M N Rt h P hP
  unfold sX3_says at h
  split at h
  · obtain ⟨z, n, a, j, rfl, rfl, hj, hT, hS, ha, h⟩ := h
    obtain ⟨s1, s2, s3, s4⟩ := bv_sl_ok j hj
    have sb := bv_sb_ok j hj
    have hk4 := bv_kd_4 z n a
    have hnx := bv_nx_b (z := z) ha
    have hn := hT.2.1
    generalize hlen : bt_at bt_sl j 0 = len at *
    have hiff : (bv_ix (bv_wd z n a) = bt_at bv_mo j 0) ↔ (bv_kd z n a = 1 ∧ bv_nx z n a - a = len ∧ ∀ i, i < len → z (a + i) = bt_at (bt_at bv_ws (bt_at bv_mo j 0) []) i 0) := by
      rw [bv_ix_i s2]
      unfold bv_wd
      by_cases hk : bv_kd z n a = 1
      · rw [if_pos hk, bv_tx_i, ← s1]
        exact ⟨fun c => ⟨hk, c⟩, fun c => c.2⟩
      · rw [if_neg hk]
        refine ⟨fun c => ?_, fun c => absurd c.1 hk⟩
        have := congrArg List.length c
        rw [← s1] at this
        exact absurd this (by simp; omega)
    have hyes : (bv_kd z n a = 1 ∧ bv_nx z n a - a = len ∧ ∀ i, i < len → z (a + i) = bt_at (bt_at bv_ws (bt_at bv_mo j 0) []) i 0) → Rt (some (.int 1)) M N := fun c => by
      rw [bt_bi_t (hiff.mpr c)] at h
      exact h
    have hnot : ¬ (bv_kd z n a = 1 ∧ bv_nx z n a - a = len ∧ ∀ i, i < len → z (a + i) = bt_at (bt_at bv_ws (bt_at bv_mo j 0) []) i 0) → Rt (some (.int 0)) M N := fun c => by
      rw [bt_bi_f (fun y => c (hiff.mp y))] at h
      exact h
    have loop : bv_kd z n a = 1 → bv_nx z n a - a = len → ∀ v pc L st M' N', (pc = 28 ∧ st = [] ∧ M' = M ∧ N' = N ∧ ∃ i, i ≤ len ∧ v = len - i ∧ L = [some (.ref 20), some (.retAddr (j + 1)), some (.int (nI i))] ∧ ∀ i', i' < i → z (a + i') = bt_at (bt_at bv_ws (bt_at bv_mo j 0) []) i' 0) → P pc L st M' N' := by
      intro hk hl
      refine bt_loop rfl hP 60 [28] (fun v pc L st M' N' => (pc = 28 ∧ st = [] ∧ M' = M ∧ N' = N ∧ ∃ i, i ≤ len ∧ v = len - i ∧ L = [some (.ref 20), some (.retAddr (j + 1)), some (.int (nI i))] ∧ ∀ i', i' < i → z (a + i') = bt_at (bt_at bv_ws (bt_at bv_mo j 0) []) i' 0)) ?_
      rintro v pc L st M' N' ⟨rfl, rfl, hM, hN, i, hi, rfl, rfl, hp⟩
      subst hM
      subst hN
      refine ⟨j, rfl, hj, ?_⟩
      rw [hlen]
      refine ⟨fun y1 => ?_, fun y1 => ?_⟩
      · rw [nI_leI (by omega) (by omega)] at y1
        exact ⟨Or.inr rfl, hyes ⟨hk, hl, fun i' hi' => hp i' (by omega)⟩⟩
      · rw [nI_leI (by omega) (by omega)] at y1
        obtain ⟨b1, b2⟩ := sb i (by omega) (by omega)
        have hza := hT.2.2.2 (a + i)
        have hm : M' 1 (a + i) = nI (z (a + i)) := hT.2.2.1 _ (by omega)
        refine ⟨_, rfl, a + i, by rw [hS.2.1, nI_add], by omega, ?_⟩
        refine ⟨j, i, rfl, hj, rfl, by omega, ?_⟩
        refine ⟨fun y2 => ?_, fun y2 => ?_⟩
        · rw [hm, b1, nI_eq (by omega) (by omega)] at y2
          refine ⟨len - (i + 1), by omega, rfl, rfl, rfl, rfl, i + 1, by omega, rfl, by rw [nI_1], fun i' hi' => ?_⟩
          by_cases c : i' = i
          · rw [c]; exact y2
          · exact hp i' (by omega)
        · rw [hm, b1, nI_eq (by omega) (by omega)] at y2
          exact ⟨Or.inl rfl, hnot (fun c => y2 (c.2.2 i (by omega)))⟩
    refine bt_go rfl hP 60 [28] P (fun _ _ _ _ _ h => h) ?_
    refine ⟨fun y1 => ?_, fun y1 => ?_⟩
    · rw [hS.1, bt_n1 (by omega)] at y1
      exact ⟨Or.inl rfl, hnot (fun c => y1 c.1)⟩
    · rw [hS.1, bt_n1 (by omega)] at y1
      refine ⟨j, rfl, hj, ?_⟩
      rw [hlen]
      have e : M 20 5 - M 20 7 = nI (bv_nx z n a - a) := by rw [hS.2.2.1, hS.2.1, pk_sub hnx.1]
      refine ⟨fun y2 => ?_, fun y2 => ?_⟩
      · rw [e, nI_eq (by omega) (by omega)] at y2
        exact loop y1 y2 _ _ _ _ _ _ ⟨rfl, rfl, rfl, rfl, 0, by omega, rfl, rfl, fun i hi => by omega⟩
      · rw [e, nI_eq (by omega) (by omega)] at y2
        exact ⟨Or.inl rfl, hnot (fun c => y2 c.2.1)⟩
  · exact False.elim h
def bv_Sd (z : Nat → Nat) (n p : Nat) (M M' : bt_M) (r : Int32) : Prop := bv_fr M M' ∧ match bv_stp z n p with
  | .inl e => r = 0 ∧ M' 20 3 = nI e.1 ∧ M' 20 4 = nI e.2
  | .inr q => r = 1 ∧ M' 20 3 = M 20 3 ∧ M' 20 5 = nI q
def bt_CX3_stops : bt_C := [(53, 1, 1, sX3_advance), (69, 1, 3, sX3_refuse)]
def sX3_stops : bt_Sp := fun as M N K => match as with
  | [.ref c] => ∃ z n p, c = 20 ∧ bv_cT M z n ∧ M 20 5 = nI p ∧ p ≤ n ∧ ∀ M' r, bv_Sd z n p M M' r → K (some (.int r)) M' N
  | _ => False
theorem mX3_stops : bt_MT bt_TX3_stops bt_FX3 bt_CX3_stops 2 1 sX3_stops := by
  intro as M N Rt h P hP
  unfold sX3_stops at h
  split at h
  · obtain ⟨z, n, p, rfl, hT, h5, hp, h⟩ := h
    refine bt_go0 rfl hP 60 ?_
    refine ⟨z, n, p, rfl, hT, h5, hp, fun M1 r hA => ?_⟩
    obtain ⟨hf, hA⟩ := hA
    cases hk : bv_tk z n p with
    | inl e =>
      rw [hk] at hA
      obtain ⟨rfl, m3, m4⟩ := hA
      refine ⟨fun y => absurd rfl y, fun _ => ⟨Or.inl rfl, h M1 0 ⟨hf, ?_⟩⟩⟩
      rw [bv_stp, hk]
      exact ⟨rfl, m3, m4⟩
    | inr a =>
      rw [hk] at hA
      obtain ⟨rfl, m3, c6, c7, c5, c8⟩ := hA
      have hk4 := bv_kd_4 z n a
      refine ⟨fun _ => ?_, fun y => absurd y (by decide)⟩
      refine ⟨fun y1 => ?_, fun y1 => ?_⟩
      · rw [c6, show (3 : Int32) = nI 3 from rfl, nI_eq (by omega) (by omega)] at y1
        refine ⟨Or.inr rfl, h M1 1 ⟨hf, ?_⟩⟩
        rw [bv_stp, hk, bv_bn, if_pos y1]
        exact ⟨rfl, m3, c5⟩
      · rw [c6, show (3 : Int32) = nI 3 from rfl, nI_eq (by omega) (by omega)] at y1
        refine ⟨rfl, fun M2 n1 n2 n3 n4 => ?_⟩
        refine ⟨fun _ => ⟨Or.inl rfl, h M2 0 ⟨bv_fr_tr hf ⟨n1, fun g hg => n2 g (by omega) (by omega)⟩, ?_⟩⟩, fun y => absurd rfl y⟩
        rw [bv_stp, hk, bv_bn, if_neg y1]
        exact ⟨rfl, n3, by rw [n4, c7]⟩
  · exact False.elim h
def bv_Nd (z : Nat → Nat) (n lo hi p : Nat) (M M' : bt_M) (r : Int32) : Prop := bv_fr M M' ∧ match bv_num z n lo hi p with
  | .inl e => r = 0 ∧ M' 20 3 = nI e.1 ∧ M' 20 4 = nI e.2
  | .inr q => r = 1 ∧ M' 20 3 = M 20 3 ∧ M' 20 5 = nI q.1 ∧ M' 20 8 = nI q.2 ∧ M' 20 7 = nI (bv_r z n bv_c0 p)
theorem bv_vl_lt {z : Nat → Nat} {n a : Nat} (hz : ∀ j, z j < 128) : bv_vl z n a < 1000 := by
  have h1 := hz a
  have h2 := hz (a + 1)
  unfold bv_vl
  split <;> omega
def bt_CX3_numbered : bt_C := [(53, 1, 1, sX3_advance), (69, 1, 3, sX3_refuse), (95, 0, 3, sX5_within)]
def sX3_numbered : bt_Sp := fun as M N K => match as with
  | [.ref c, .int lo, .int hi] => ∃ z n p lo' hi', c = 20 ∧ lo = nI lo' ∧ hi = nI hi' ∧ lo' ≤ 99 ∧ hi' ≤ 99 ∧ bv_cT M z n ∧ M 20 5 = nI p ∧ p ≤ n ∧ ∀ M' r, bv_Nd z n lo' hi' p M M' r → K (some (.int r)) M' N
  | _ => False
theorem mX3_numbered : bt_MT bt_TX3_numbered bt_FX3 bt_CX3_numbered 2 3 sX3_numbered := by
  intro as M N Rt h P hP
  unfold sX3_numbered at h
  split at h
  · obtain ⟨z, n, p, lo, hi, rfl, rfl, rfl, hlo, hhi, hT, h5, hp, h⟩ := h
    refine bt_go0 rfl hP 60 ?_
    refine ⟨z, n, p, rfl, hT, h5, hp, fun M1 r hA => ?_⟩
    obtain ⟨hf, hA⟩ := hA
    cases hk : bv_tk z n p with
    | inl e =>
      rw [hk] at hA
      obtain ⟨rfl, m3, m4⟩ := hA
      refine ⟨fun y => absurd rfl y, fun _ => ⟨Or.inl rfl, h M1 0 ⟨hf, ?_⟩⟩⟩
      rw [bv_num, hk]
      exact ⟨rfl, m3, m4⟩
    | inr a =>
      rw [hk] at hA
      obtain ⟨rfl, m3, c6, c7, c5, c8⟩ := hA
      have hk4 := bv_kd_4 z n a
      have hv := bv_vl_lt (n := n) (a := a) hT.2.2.2
      refine ⟨fun _ => ?_, fun y => absurd y (by decide)⟩
      refine ⟨fun y1 => ?_, fun y1 => ?_⟩
      · rw [c6, show (2 : Int32) = nI 2 from rfl, nI_eq (by omega) (by omega)] at y1
        have e8 := c8 y1
        have hw : (nI lo ≤ M1 20 8 ∧ M1 20 8 ≤ nI hi) ↔ (lo ≤ bv_vl z n a ∧ bv_vl z n a ≤ hi) := by
          rw [e8, nI_leI (by omega) (by omega), nI_leI (by omega) (by omega)]
        refine ⟨fun y2 => ?_, fun y2 => ?_⟩
        · rw [bt_bi_n0, hw] at y2
          refine ⟨Or.inr rfl, h M1 1 ⟨hf, ?_⟩⟩
          rw [bv_num, hk, bv_bn, if_pos y1, if_pos y2]
          exact ⟨rfl, m3, c5, e8, by rw [c7, (bv_tk_r hk).1]⟩
        · rw [bt_bi_0, hw] at y2
          refine ⟨rfl, fun M2 n1 n2 n3 n4 => ?_⟩
          refine ⟨fun _ => ⟨Or.inl rfl, h M2 0 ⟨bv_fr_tr hf ⟨n1, fun g hg => n2 g (by omega) (by omega)⟩, ?_⟩⟩, fun y => absurd rfl y⟩
          rw [bv_num, hk, bv_bn, if_pos y1, if_neg y2]
          exact ⟨rfl, n3, by rw [n4, c7]⟩
      · rw [c6, show (2 : Int32) = nI 2 from rfl, nI_eq (by omega) (by omega)] at y1
        refine ⟨rfl, fun M2 n1 n2 n3 n4 => ?_⟩
        refine ⟨Or.inl rfl, h M2 0 ⟨bv_fr_tr hf ⟨n1, fun g hg => n2 g (by omega) (by omega)⟩, ?_⟩⟩
        rw [bv_num, hk, bv_bn, if_neg y1]
        exact ⟨rfl, n3, by rw [n4, c7]⟩
  · exact False.elim h
def bv_Fd (z : Nat → Nat) (n : Nat) (f : Nat → Nat) (p : Nat) (M M' : bt_M) (r : Int32) : Prop := bv_fr M M' ∧ match bv_frs z n f p with
  | .inl e => M' 20 3 = nI e.1 ∧ M' 20 4 = nI e.2
  | .inr q => r = nI (bt_mk (bv_u1 f q.2) 8) ∧ M' 20 3 = M 20 3 ∧ M' 20 5 = nI q.1 ∧ M' 20 8 = nI q.2
def bt_CX3_stretchMore : bt_C := [(145, 1, 3, sX3_numbered), (148, 0, 2, sX5_bit), (69, 1, 3, sX3_refuse)]
def sX3_stretchMore : bt_Sp := fun as M N K => match as with
  | [.ref c, .int b] => ∃ z n p f, c = 20 ∧ bt_b1 f ∧ b = nI (bt_mk f 8) ∧ bv_cT M z n ∧ M 20 5 = nI p ∧ p ≤ n ∧ ∀ M' r, bv_Fd z n f p M M' r → K (some (.int r)) M' N
  | _ => False
theorem mX3_stretchMore : bt_MT bt_TX3_stretchMore bt_FX3 bt_CX3_stretchMore 1 2 sX3_stretchMore := by
  intro as M N Rt h P hP
  unfold sX3_stretchMore at h
  split at h
  · obtain ⟨z, n, p, f, rfl, hfb, rfl, hT, h5, hp, h⟩ := h
    refine bt_go0 rfl hP 60 ?_
    refine ⟨z, n, p, 0, 7, rfl, rfl, rfl, by omega, by omega, hT, h5, hp, fun M1 r hA => ?_⟩
    obtain ⟨hf, hA⟩ := hA
    cases hk : bv_num z n 0 7 p with
    | inl e =>
      rw [hk] at hA
      obtain ⟨rfl, m3, m4⟩ := hA
      refine ⟨fun y => absurd rfl y, fun _ => h M1 _ ⟨hf, ?_⟩⟩
      rw [bv_frs, hk]
      exact ⟨m3, m4⟩
    | inr q =>
      rw [hk] at hA
      obtain ⟨rfl, m3, c5, c8, c7⟩ := hA
      have hq := bv_num_r hp hk
      have hb := bt_bitN hfb (n := 8) (k := q.2) (by omega) (by omega)
      rw [if_pos (by omega)] at hb
      have f1 := hfb q.2
      refine ⟨fun _ => ?_, fun y => absurd y (by decide)⟩
      refine ⟨fun y1 => ?_, fun y1 => ?_⟩
      · rw [c8, hb, bt_n1 (by omega)] at y1
        refine h M1 _ ⟨hf, ?_⟩
        rw [bv_frs, hk, bv_bn, if_neg y1]
        refine ⟨?_, m3, c5, c8⟩
        have e := bt_setb hfb (n := 8) (i := q.2) (by omega) (by omega) 1
        rw [if_neg (by decide)] at e
        rw [c8, e]
        rfl
      · rw [c8, hb, bt_n1 (by omega)] at y1
        refine ⟨rfl, fun M2 n1 n2 n3 n4 => ?_⟩
        refine h M2 _ ⟨bv_fr_tr hf ⟨n1, fun g hg => n2 g (by omega) (by omega)⟩, ?_⟩
        rw [bv_frs, hk, bv_bn, if_pos y1]
        exact ⟨n3, by rw [n4, c7]⟩
  · exact False.elim h
def bt_CX3_kindSaid : bt_C := [(110, 1, 2, sX3_says)]
def sX3_kindSaid : bt_Sp := fun as M N K => match as with
  | [.ref c] => ∃ z n a, c = 20 ∧ bv_cT M z n ∧ bv_cS M z n a ∧ a ≤ n ∧ K (some (.int (if 7 ≤ bv_ix (bv_wd z n a) ∧ bv_ix (bv_wd z n a) < 12 then nI (bv_ix (bv_wd z n a) - 7) else -1))) M N
  | _ => False
set_option maxRecDepth 100000 in
theorem mX3_kindSaid : bt_MT bt_TX3_kindSaid bt_FX3 bt_CX3_kindSaid 1 1 sX3_kindSaid := by
  intro as M N Rt h P hP
  unfold sX3_kindSaid at h
  split at h
  · obtain ⟨z, n, a, rfl, hT, hS, ha, h⟩ := h
    refine bt_go0 rfl hP 60 ?_
    refine ⟨z, n, a, 2, rfl, rfl, by omega, hT, hS, ha, ⟨fun y1 => ?_, fun y1 => ?_⟩⟩
    rotate_left
    · rw [bt_bi_n0] at y1
      have e : bv_ix (bv_wd z n a) = 7 := y1
      rw [e] at h
      exact h
    refine ⟨z, n, a, 3, rfl, rfl, by omega, hT, hS, ha, ⟨fun y2 => ?_, fun y2 => ?_⟩⟩
    rotate_left
    · rw [bt_bi_n0] at y2
      have e : bv_ix (bv_wd z n a) = 8 := y2
      rw [e] at h
      exact h
    refine ⟨z, n, a, 4, rfl, rfl, by omega, hT, hS, ha, ⟨fun y3 => ?_, fun y3 => ?_⟩⟩
    rotate_left
    · rw [bt_bi_n0] at y3
      have e : bv_ix (bv_wd z n a) = 9 := y3
      rw [e] at h
      exact h
    refine ⟨z, n, a, 5, rfl, rfl, by omega, hT, hS, ha, ⟨fun y4 => ?_, fun y4 => ?_⟩⟩
    rotate_left
    · rw [bt_bi_n0] at y4
      have e : bv_ix (bv_wd z n a) = 10 := y4
      rw [e] at h
      exact h
    refine ⟨z, n, a, 6, rfl, rfl, by omega, hT, hS, ha, ⟨fun y5 => ?_, fun y5 => ?_⟩⟩
    rotate_left
    · rw [bt_bi_n0] at y5
      have e : bv_ix (bv_wd z n a) = 11 := y5
      rw [e] at h
      exact h
    rw [bt_bi_0] at y1 y2 y3 y4 y5
    have e1 : ¬ bv_ix (bv_wd z n a) = 7 := y1
    have e2 : ¬ bv_ix (bv_wd z n a) = 8 := y2
    have e3 : ¬ bv_ix (bv_wd z n a) = 9 := y3
    have e4 : ¬ bv_ix (bv_wd z n a) = 10 := y4
    have e5 : ¬ bv_ix (bv_wd z n a) = 11 := y5
    rw [if_neg (by omega)] at h
    exact h
  · exact False.elim h
