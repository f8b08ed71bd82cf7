/-! THE TEXT: the model's lines -/
def bv_mO (M : bt_M) (sl : Nat) : Prop := ∃ t, M 67 6 = nI t ∧ t < 128 ∧ t / 32 % 2 = sl
theorem bv_told : ∀ t, t < 128 → ∀ x, x < 7 → nI t ||| ((1 : Int32) <<< (nI x &&& 31)) = nI (t ||| 2 ^ x) ∧ t ||| 2 ^ x < 128 ∧ (t ||| 2 ^ x) / 32 % 2 = if x = 5 then 1 else t / 32 % 2 := by decide +kernel
def bv_hl (M M' : bt_M) : Prop := (∀ x : Nat, x ≠ 67 → x ≠ 69 → x ≠ 70 → M' x = M x) ∧ ∀ g : Nat, g ≠ 4 → g ≠ 5 → g ≠ 6 → g ≠ 8 → (g < 12 ∨ 17 < g) → M' 67 g = M 67 g
theorem bv_hl_tr {M M1 M2 : bt_M} (h : bv_hl M M1) (h2 : bv_hl M1 M2) : bv_hl M M2 := ⟨fun x a b c => by rw [h2.1 x a b c, h.1 x a b c], fun g a b c d e => by rw [h2.2 g a b c d e, h.2 g a b c d e]⟩
theorem bv_hl_hr {M M1 : bt_M} (h : bv_hr M M1) : bv_hl M M1 := ⟨h.1, fun g a b _ d e => h.2 g a b d e⟩
theorem bv_hl_6 {M M1 : bt_M} {x : Int32} (e : M1 = va_up M 67 (upd (M 67) 6 x)) : bv_hl M M1 := ⟨fun y a _ _ => (bv_up e).1 y a, fun g _ _ c _ _ => (bv_up e).2.2 g c⟩
theorem bv_mT_hl {M M' : bt_M} {z : Nat → Nat} {n : Nat} (h : bv_mT M z n) (hf : bv_hl M M') : bv_mT M' z n := ⟨by rw [hf.2 10 (by omega) (by omega) (by omega) (by omega) (by omega)]; exact h.1, h.2.1, by rw [hf.1 71 (by omega) (by omega) (by omega)]; exact h.2.2.1, h.2.2.2⟩
theorem bv_mL_hl {M M' : bt_M} (h : bv_mL M) (hf : bv_hl M M') : bv_mL M' := ⟨by rw [hf.1 72 (by omega) (by omega) (by omega)]; exact h.1, by rw [hf.1 73 (by omega) (by omega) (by omega)]; exact h.2⟩
def bv_Kd (z : Nat → Nat) (n : Nat) (X : bv_X) (M' : bt_M) : Prop := match X with
  | .inl e => bv_mS M' z n (.inl e)
  | .inr q => bv_mS M' z n (bv_tk z n q.1) ∧ bv_mQ M' q.2 ∧ bv_mO M' q.2.2.2.1
theorem bv_body_tk {z : Nat → Nat} {n a x : Nat} {Q : bv_Q} {e : Nat × Nat} (hx : x ≤ 6) (c0 : x = 0 → Q.1 12 0 < 8) (c6 : x = 6 → Q.1 12 1 < 6) (c5 : x = 5 → Q.2.2.1 = 0) (h : bv_tk z n (bv_nx z n a) = .inl e) : bv_bodyI z n a x Q = .inl e := by
  have hnum : ∀ lo hi, bv_num z n lo hi (bv_nx z n a) = .inl e := fun lo hi => by
    unfold bv_num
    rw [h]
    rfl
  have hfrs : ∀ f, bv_frs z n f (bv_nx z n a) = .inl e := fun f => by
    unfold bv_frs
    rw [hnum]
    rfl
  rcases (show x = 0 ∨ x = 1 ∨ x = 2 ∨ x = 3 ∨ x = 4 ∨ x = 5 ∨ x = 6 by omega) with rfl | rfl | rfl | rfl | rfl | rfl | rfl
  · show bv_road z n a Q = _
    have := c0 rfl
    rw [bv_road, if_neg (by omega), hnum]
    rfl
  · show bv_mark z n a 4 Q = _
    rw [bv_mark, hfrs]
    rfl
  · show bv_odds z n a Q = _
    rw [bv_odds, hfrs]
    rfl
  · show bv_mark z n a 5 Q = _
    rw [bv_mark, hfrs]
    rfl
  · show bv_mark z n a 6 Q = _
    rw [bv_mark, hfrs]
    rfl
  · show bv_slow z n a Q = _
    have := c5 rfl
    rw [bv_slow, if_neg (by omega), hnum]
    rfl
  · show bv_car z n a Q = _
    have := c6 rfl
    rw [bv_car, if_neg (by omega), h]
    rfl
theorem bv_body_sl {z : Nat → Nat} {n a x : Nat} {Q : bv_Q} {q : Nat × bv_Q} (h : bv_bodyI z n a x Q = .inr q) : q.2.2.2.1 = if x = 5 then 1 else Q.2.2.1 := by
  have mk : ∀ f, bv_mark z n a f Q = .inr q → q.2.2.2.1 = Q.2.2.1 := by
    intro f h
    obtain ⟨q1, e1, h⟩ := bv_bn_r h
    cases h
    rfl
  unfold bv_bodyI at h
  split at h
  · next c =>
    rw [if_neg (by omega)]
    unfold bv_road at h
    split at h
    · cases h
    obtain ⟨q1, e1, h⟩ := bv_bn_r h
    obtain ⟨q2, e2, h⟩ := bv_bn_r h
    obtain ⟨q3, e3, h⟩ := bv_bn_r h
    cases h
    rfl
  split at h
  · next c =>
    rw [if_neg (by omega)]
    unfold bv_car at h
    split at h
    · cases h
    obtain ⟨q1, e1, h⟩ := bv_bn_r h
    split at h
    · obtain ⟨q2, e2, h⟩ := bv_bn_r h
      obtain ⟨q3, e3, h⟩ := bv_bn_r h
      cases h
      rfl
    · cases h
  split at h
  · next c =>
    rw [if_pos c]
    unfold bv_slow at h
    split at h
    · cases h
    obtain ⟨q1, e1, h⟩ := bv_bn_r h
    obtain ⟨q2, e2, h⟩ := bv_bn_r h
    cases h
    rfl
  next c5 =>
  rw [if_neg c5]
  split at h
  · obtain ⟨q1, e1, h⟩ := bv_bn_r h
    obtain ⟨q2, e2, h⟩ := bv_bn_r h
    cases h
    rfl
  split at h
  · exact mk 4 h
  split at h
  · exact mk 5 h
  split at h
  · exact mk 6 h
  · cases h
theorem bv_mQ_6 {M M' : bt_M} {Q : bv_Q} {x : Int32} (h : bv_mQ M Q) (e : M' = va_up M 67 (upd (M 67) 6 x)) : bv_mQ M' Q := by
  obtain ⟨u1, u2, u3⟩ := bv_up e
  unfold bv_mQ
  rw [u1 69 (by omega), u1 70 (by omega), u3 4 (by omega), u3 5 (by omega), u3 8 (by omega)]
  exact h
def bt_CX6_readLine : bt_C := [(103, 1, 1, sX6_nameHere), (46, 0, 3, sX6_in), (84, 1, 2, sX6_fails), (88, 1, 1, sX6_step), (121, 1, 2, sX6_readMore)]
def sX6_readLine : bt_Sp := fun as M N K => match as with
  | [.ref c] => ∃ z n a Q, c = 67 ∧ bv_mT M z n ∧ bv_mL M ∧ bv_mS M z n (.inr a) ∧ bv_ok Q ∧ bv_mQ M Q ∧ bv_mO M Q.2.2.1 ∧ ∀ M', bv_hl M M' → bv_Kd z n (bv_ln z n a Q) M' → K none M' N
  | _ => False
set_option maxRecDepth 100000 in
set_option maxHeartbeats 2000000 in
theorem mX6_readLine : bt_MT bt_TX6_readLine bt_FX6 bt_CX6_readLine 0 2 sX6_readLine := by
  intro as M N Rt h P hP
  unfold sX6_readLine at h
  split at h
  · obtain ⟨z, n, a, Q, rfl, hT, hL, hS, hok, hQ, ⟨tau, m6, htau, hsl⟩, h⟩ := h
    obtain ⟨q1, q2, q3, q4, q5, q6, q7, q8, q9, q10, q11, q12, q13, q14, q15⟩ := id hQ
    obtain ⟨o1, o2, o3, o4, o5, o6, o7, o8, o9, o10⟩ := id hok
    have hR8 := o1.1
    have hC6 := o1.2.1
    have h12 := hS.1
    have hnb : ∀ M1 e, bv_mS M1 z n (.inl e) → ¬ M1 67 12 = 0 := fun M1 e hh y => by
      rw [hh.1, bt_n0 (by have := hh.2.2.1; omega)] at y
      have := hh.2.1
      omega
    -- the last step
    have last : ∀ M4 X4 L, L.length = 2 → (∃ y1, L = [some (.ref 67), y1]) → bv_hl M M4 → bv_mS M4 z n X4 → (∀ M', bv_hl M4 M' → bv_mS M' z n (match X4 with | .inl e => .inl e | .inr d => bv_tk z n (bv_nx z n d)) → bv_gr M4 M' → Rt none M' N) → P 127 L [] M4 N := by
      rintro M4 X4 L _ ⟨y1, rfl⟩ r4 hS4 hfin
      refine bt_go0 rfl hP 40 ?_
      cases X4 with
      | inl e => exact ⟨z, n, .inl e, rfl, bv_mT_hl hT r4, hS4, fun M5 g5 hS5 => hfin M5 (bv_hl_hr (bv_hr_gr g5)) hS5 g5⟩
      | inr d => exact ⟨z, n, .inr (bv_nx z n d), rfl, bv_mT_hl hT r4, bv_mS_N hS4, fun M5 g5 hS5 => hfin M5 (bv_hl_hr (bv_hr_gr g5)) hS5 g5⟩
    by_cases hx : bv_ix (bv_wd z n a) ≤ 6
    · have hln : bv_ln z n a Q = bv_end z n (bv_bodyI z n a (bv_ix (bv_wd z n a)) Q) := rfl
      generalize hxx : bv_ix (bv_wd z n a) = x at *
      have from78 : ∀ M1 X1, bv_gr M M1 → bv_mS M1 z n X1 → ((X1 = .inr a ∧ (x = 0 → Q.1 12 0 < 8) ∧ (x = 6 → Q.1 12 1 < 6) ∧ (x = 5 → Q.2.2.1 = 0)) ∨ ∃ e, X1 = .inl e ∧ bv_bodyI z n a x Q = .inl e) → P 78 [some (.ref 67), some (.int (nI x))] [] M1 N := by
        intro M1 X1 g1 hS1 hcase
        refine bt_go rfl hP 80 [127] P (fun _ _ _ _ _ h => h) ?_
        intro M2 e2
        obtain ⟨u1, u2, u3⟩ := bv_up e2
        have r2 : bv_hl M M2 := bv_hl_tr (bv_hl_hr (bv_hr_gr g1)) (bv_hl_6 e2)
        obtain ⟨t1, t2, t3⟩ := bv_told tau htau x (by omega)
        have m62 : M2 67 6 = nI (tau ||| 2 ^ x) := by rw [u2, g1.2 6 (by omega), m6]; exact t1
        have hS2 := bv_mS_c (M' := M2) hS1 (fun g _ _ => by rw [u3 g (by omega)])
        have hQ2 : bv_mQ M2 Q := bv_mQ_6 (bv_mQ_gr hQ g1) e2
        rcases hcase with ⟨rfl, c0, c6, c5⟩ | ⟨e, rfl, hbd⟩
        · refine ⟨z, n, .inr (bv_nx z n a), rfl, bv_mT_hl hT r2, bv_mS_N hS2, fun M3 g3 hS3 => ?_⟩
          have hS3 : bv_mS M3 z n (bv_tk z n (bv_nx z n a)) := hS3
          have r3 := bv_hl_tr r2 (bv_hl_hr (bv_hr_gr g3))
          cases hk : bv_tk z n (bv_nx z n a) with
          | inl e =>
            rw [hk] at hS3
            refine ⟨fun y => ?_, fun _ => ?_⟩
            · rw [hS3.1, bt_le0 (by have := hS3.2.2.1; omega)] at y
              have := hS3.2.1
              omega
            · refine h M3 r3 ?_
              rw [hln, bv_body_tk hx c0 c6 c5 hk]
              exact hS3
          | inr b =>
            rw [hk] at hS3
            refine ⟨fun _ => ?_, fun y => ?_⟩
            rotate_left
            · rw [hS3.1] at y
              exact absurd (by decide) y
            refine ⟨z, n, a, b, Q, x, rfl, rfl, hx, bv_mT_hl hT r3, bv_mL_hl hL r3, hk, hS3, hok, bv_mQ_gr hQ2 g3, c0, c6, c5, fun M4 r4 hD => ?_⟩
            have rr4 := bv_hl_tr r3 (bv_hl_hr r4)
            have m64 : M4 67 6 = nI (tau ||| 2 ^ x) := by rw [r4.2 6 (by omega) (by omega) (by omega) (by omega), g3.2 6 (by omega)]; exact m62
            cases hbd : bv_bodyI z n a x Q with
            | inl e =>
              rw [hbd] at hD
              refine ⟨fun _ => ?_, fun y => absurd y (hnb M4 e hD)⟩
              refine last M4 (.inl e) _ rfl ⟨_, rfl⟩ rr4 hD (fun M5 r5 hS5 _ => h M5 (bv_hl_tr rr4 r5) ?_)
              rw [hln, hbd]
              exact hS5
            | inr q =>
              rw [hbd] at hD
              obtain ⟨hS4, hQ4⟩ := hD
              have hslq := bv_body_sl hbd
              have fin : ∀ M5 M6 : bt_M, (∀ g : Nat, g < 12 → M5 67 g = M4 67 g) → (∀ y : Nat, y ≠ 67 → M5 y = M4 y) → bv_gr M5 M6 → bv_mQ M6 q.2 ∧ bv_mO M6 q.2.2.2.1 := by
                intro M5 M6 m5 n5 g6
                refine ⟨bv_mQ_gr ?_ g6, ⟨tau ||| 2 ^ x, by rw [g6.2 6 (by omega), m5 6 (by omega)]; exact m64, t2, by rw [t3, hslq, hsl]⟩⟩
                unfold bv_mQ
                rw [n5 69 (by omega), n5 70 (by omega), m5 4 (by omega), m5 5 (by omega), m5 8 (by omega)]
                exact hQ4
              cases hk2 : bv_tk z n q.1 with
              | inl e =>
                rw [hk2] at hS4
                refine ⟨fun _ => ?_, fun y => absurd y (hnb M4 e hS4)⟩
                refine last M4 (.inl e) _ rfl ⟨_, rfl⟩ rr4 hS4 (fun M5 r5 hS5 _ => h M5 (bv_hl_tr rr4 r5) ?_)
                rw [hln, hbd]
                show bv_Kd z n (bv_bn (bv_stp z n q.1) _) M5
                unfold bv_stp
                rw [hk2]
                exact hS5
              | inr d =>
                rw [hk2] at hS4
                have hk4 := bv_kd_4 z n d
                refine ⟨fun y => absurd hS4.1 y, fun _ => ?_⟩
                refine ⟨fun y1 => ?_, fun y1 => ?_⟩
                · rw [hS4.2.2.2.2.1, show (3 : Int32) = nI 3 from rfl, nI_eq (by omega) (by omega)] at y1
                  refine last M4 (.inr d) _ rfl ⟨_, rfl⟩ rr4 hS4 (fun M5 r5 hS5 g5 => h M5 (bv_hl_tr rr4 r5) ?_)
                  rw [hln, hbd]
                  show bv_Kd z n (bv_bn (bv_stp z n q.1) _) M5
                  unfold bv_stp
                  rw [hk2, bv_bn, if_pos y1]
                  exact ⟨hS5, fin M4 M5 (fun _ _ => rfl) (fun _ _ => rfl) g5⟩
                · rw [hS4.2.2.2.2.1, show (3 : Int32) = nI 3 from rfl, nI_eq (by omega) (by omega)] at y1
                  refine ⟨rfl, fun M5 n1 n2 n3 n4 => ?_⟩
                  have g5 : bv_gr M4 M5 := ⟨n1, fun f hf => n2 f (by omega) (by omega)⟩
                  refine last M5 (.inl (2, d)) _ rfl ⟨_, rfl⟩ (bv_hl_tr rr4 (bv_hl_hr (bv_hr_gr g5))) (bv_mS_F hS4 (by omega) n3) (fun M6 r6 hS6 _ => h M6 (bv_hl_tr (bv_hl_tr rr4 (bv_hl_hr (bv_hr_gr g5))) r6) ?_)
                  rw [hln, hbd]
                  show bv_Kd z n (bv_bn (bv_stp z n q.1) _) M6
                  unfold bv_stp
                  rw [hk2, bv_bn, if_neg y1]
                  exact hS6
        · refine ⟨z, n, .inl e, rfl, bv_mT_hl hT r2, hS2, fun M3 g3 hS3 => ?_⟩
          have hS3 : bv_mS M3 z n (.inl e) := hS3
          refine ⟨fun y => ?_, fun _ => ?_⟩
          · rw [hS3.1, bt_le0 (by have := hS3.2.2.1; omega)] at y
            have := hS3.2.1
            omega
          · refine h M3 (bv_hl_tr r2 (bv_hl_hr (bv_hr_gr g3))) ?_
            rw [hln, hbd]
            exact hS3
      have hin : ((0 : Int64) ≤ ((if x < 12 then nI x else -4 : Int32)).toInt64 ∧ ((if x < 12 then nI x else -4 : Int32)).toInt64 ≤ 6) := by
        rw [if_pos (by omega), bt_inl_c (k := 6) (show (6 : Int64) = lN 6 from rfl) (by omega), bt_in_nI (by omega)]
        omega
      have hnm : (if x < 12 then nI x else (-4 : Int32)) = nI x := if_pos (by omega)
      -- from 56 on
      have from56 : ∀ M1 X1, bv_gr M M1 → bv_mS M1 z n X1 → ((X1 = .inr a ∧ (x = 0 → Q.1 12 0 < 8) ∧ (x = 6 → Q.1 12 1 < 6)) ∨ ∃ e, X1 = .inl e ∧ bv_bodyI z n a x Q = .inl e ∧ x ≠ 5) → P 56 [some (.ref 67), some (.int (nI x))] [] M1 N := by
        intro M1 X1 g1 hS1 hcase
        refine bt_go rfl hP 80 [78] P (fun _ _ _ _ _ h => h) ?_
        have e6 : M1 67 6 >>> (nI 5 &&& 31) &&& 1 = nI Q.2.2.1 := by
          rw [g1.2 6 (by omega), m6, bu_rbit (by omega) (by omega), show tau / 2 ^ 5 % 2 = tau / 32 % 2 from rfl, hsl]
        refine ⟨fun y1 => ?_, fun y1 => ?_⟩
        · have n5 : ¬ x = 5 := fun c => y1 (by rw [c]; rfl)
          refine from78 M1 X1 g1 hS1 ?_
          rcases hcase with ⟨c1, c2, c3⟩ | ⟨e, c1, c2, _⟩
          · exact Or.inl ⟨c1, c2, c3, fun c => absurd c n5⟩
          · exact Or.inr ⟨e, c1, c2⟩
        · have e5 : x = 5 := (nI_eq (b := 5) (by omega) (by omega)).mp y1
          rcases hcase with ⟨rfl, c2, c3⟩ | ⟨e, _, _, c4⟩
          rotate_left
          · exact absurd e5 c4
          refine ⟨fun y2 => ?_, fun y2 => ?_⟩
          · rw [e5, e6, bt_n1 (by omega)] at y2
            exact from78 M1 (.inr a) g1 hS1 (Or.inl ⟨rfl, c2, c3, fun _ => by omega⟩)
          · rw [e5, e6, bt_n1 (by omega)] at y2
            refine ⟨rfl, fun M2 n1 n2 n3 n4 => ?_⟩
            refine from78 M2 (.inl (4, a)) (bv_gr_tr g1 ⟨n1, fun f hf => n2 f (by omega) (by omega)⟩) (bv_mS_F hS1 (by omega) n3) (Or.inr ⟨(4, a), rfl, ?_⟩)
            rw [e5]
            show bv_slow z n a Q = _
            rw [bv_slow, if_pos (by omega)]
      refine bt_go rfl hP 80 [56] P (fun _ _ _ _ _ h => h) ?_
      refine ⟨z, n, a, rfl, hT, hL, hS, ?_⟩
      rw [hxx]
      refine ⟨fun _ => ?_, fun y => ?_⟩
      rotate_left
      · rw [bt_bi_0] at y
        exact absurd hin y
      have hbad5 : ∀ M1, (∀ x : Nat, x ≠ 67 → M1 x = M x) → (∀ g : Nat, g ≠ 12 → g ≠ 13 → M1 67 g = M 67 g) → (M 67 12 = 0 → M1 67 12 = nI 5 ∧ M1 67 13 = M 67 15) → bv_bodyI z n a x Q = .inl (5, a) → x ≠ 5 → P 56 [some (.ref 67), some (.int (nI x))] [] M1 N := fun M1 n1 n2 n3 hb h5 => from56 M1 (.inl (5, a)) ⟨n1, fun f hf => n2 f (by omega) (by omega)⟩ (bv_mS_F hS (by omega) n3) (Or.inr ⟨(5, a), rfl, hb, h5⟩)
      rw [hnm]
      refine ⟨fun y1 => ?_, fun y1 => ?_⟩
      · -- not a road
        rw [bt_n0 (by omega)] at y1
        refine ⟨fun y2 => ?_, fun y2 => ?_⟩
        · have n6 : ¬ x = 6 := fun c => y2 (by rw [c]; rfl)
          exact from56 M (.inr a) bv_gr_rf hS (Or.inl ⟨rfl, fun c => absurd c y1, fun c => absurd c n6⟩)
        · have e6 : x = 6 := (nI_eq (b := 6) (by omega) (by omega)).mp y2
          refine ⟨fun y3 => ?_, fun y3 => ?_⟩
          · rw [q2, show (6 : Int32) = nI 6 from rfl, nI_eq (by omega) (by omega)] at y3
            exact from56 M (.inr a) bv_gr_rf hS (Or.inl ⟨rfl, fun c => absurd c y1, fun _ => by omega⟩)
          · rw [q2, show (6 : Int32) = nI 6 from rfl, nI_eq (by omega) (by omega)] at y3
            refine ⟨rfl, fun M1 n1 n2 n3 n4 => hbad5 M1 n1 n2 n3 ?_ (by omega)⟩
            rw [e6]
            show bv_car z n a Q = _
            rw [bv_car, if_pos (by omega)]
      · rw [bt_n0 (by omega)] at y1
        refine ⟨fun y2 => ?_, fun y2 => ?_⟩
        · rw [q1, show (8 : Int32) = nI 8 from rfl, nI_eq (by omega) (by omega)] at y2
          refine ⟨rfl, fun M1 n1 n2 n3 n4 => hbad5 M1 n1 n2 n3 ?_ (by omega)⟩
          rw [y1]
          show bv_road z n a Q = _
          rw [bv_road, if_pos (by omega)]
        · rw [q1, show (8 : Int32) = nI 8 from rfl, nI_eq (by omega) (by omega)] at y2
          refine ⟨fun y3 => ?_, fun y3 => ?_⟩
          · exact from56 M (.inr a) bv_gr_rf hS (Or.inl ⟨rfl, fun _ => by omega, fun c => by omega⟩)
          · have e6 : x = 6 := (nI_eq (b := 6) (by omega) (by omega)).mp y3
            omega
    · have hbd : bv_bodyI z n a (bv_ix (bv_wd z n a)) Q = .inl (2, a) := by
        unfold bv_bodyI
        rw [if_neg (by omega), if_neg (by omega), if_neg (by omega), if_neg (by omega), if_neg (by omega), if_neg (by omega), if_neg (by omega)]
      have hln : bv_ln z n a Q = .inl (2, a) := by
        unfold bv_ln bv_body
        rw [hbd]
        rfl
      have hin : ¬ ((0 : Int64) ≤ ((if bv_ix (bv_wd z n a) < 12 then nI (bv_ix (bv_wd z n a)) else -4 : Int32)).toInt64 ∧ ((if bv_ix (bv_wd z n a) < 12 then nI (bv_ix (bv_wd z n a)) else -4 : Int32)).toInt64 ≤ 6) := by
        rw [bt_inl_c (k := 6) (show (6 : Int64) = lN 6 from rfl) (by omega)]
        by_cases c : bv_ix (bv_wd z n a) < 12
        · rw [if_pos c, bt_in_nI (by omega)]
          omega
        · rw [if_neg c]
          decide
      refine bt_go0 rfl hP 80 ?_
      refine ⟨z, n, a, rfl, hT, hL, hS, ?_⟩
      refine ⟨fun y => ?_, fun _ => ?_⟩
      · rw [bt_bi_n0] at y
        exact absurd y hin
      · refine ⟨rfl, fun M1 n1 n2 n3 n4 => ?_⟩
        have g1 : bv_gr M M1 := ⟨n1, fun f hf => n2 f (by omega) (by omega)⟩
        refine h M1 (bv_hl_hr (bv_hr_gr g1)) ?_
        rw [hln]
        exact bv_mS_F hS (by omega) n3
  · exact False.elim h
