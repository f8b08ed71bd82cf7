/-! THE TEXT: the class's tokens -/
theorem bv_up {M M1 : bt_M} {c f : Nat} {x : Int32} (e : M1 = va_up M c (upd (M c) f x)) : (∀ y : Nat, y ≠ c → M1 y = M y) ∧ M1 c f = x ∧ ∀ g : Nat, g ≠ f → M1 c g = M c g := by
  refine ⟨fun y hy => by rw [e, bt_up_n hy], by rw [e, bt_up_s, pk_us], fun g hg => by rw [e, bt_up_s, pk_un hg]⟩
def bv_fr (M M' : bt_M) : Prop := (∀ x : Nat, x ≠ 20 → M' x = M x) ∧ ∀ f : Nat, (f < 3 ∨ 8 < f) → M' 20 f = M 20 f
theorem bv_fr_rf {M : bt_M} : bv_fr M M := ⟨fun _ _ => rfl, fun _ _ => rfl⟩
theorem bv_fr_tr {M M1 M2 : bt_M} (h : bv_fr M M1) (h2 : bv_fr M1 M2) : bv_fr M M2 := ⟨fun x hx => by rw [h2.1 x hx, h.1 x hx], fun f hf => by rw [h2.2 f hf, h.2 f hf]⟩
theorem bv_fr_up {M M' M1 : bt_M} {f : Nat} {x : Int32} (h : bv_fr M M') (e : M1 = va_up M' 20 (upd (M' 20) f x)) (hf : 3 ≤ f ∧ f ≤ 8) : bv_fr M M1 := by
  obtain ⟨u1, u2, u3⟩ := bv_up e
  exact ⟨fun x hx => by rw [u1 x hx, h.1 x hx], fun g hg => by rw [u3 g (by omega), h.2 g hg]⟩
/-- the tape, as the class has it -/
def bv_cT (M : bt_M) (z : Nat → Nat) (n : Nat) : Prop := M 20 2 = nI n ∧ n ≤ 160 ∧ (∀ j, j < n → M 1 j = nI (z j)) ∧ ∀ j, z j < 128
theorem bv_cT_fr {M M' : bt_M} {z : Nat → Nat} {n : Nat} (h : bv_cT M z n) (hf : bv_fr M M') : bv_cT M' z n := ⟨by rw [hf.2 2 (by omega)]; exact h.1, h.2.1, by rw [hf.1 1 (by omega)]; exact h.2.2.1, h.2.2.2⟩
/-- the token, as the class has it -/
def bv_cS (M : bt_M) (z : Nat → Nat) (n a : Nat) : Prop := M 20 6 = nI (bv_kd z n a) ∧ M 20 7 = nI a ∧ M 20 5 = nI (bv_nx z n a) ∧ (bv_kd z n a = 2 → M 20 8 = nI (bv_vl z n a))
def sX3_isLetter : bt_Sp := fun as M N K => match as with
  | [.int x] => K (some (.int (bt_bi ((97 : Int32) ≤ x ∧ x ≤ 122)))) M N
  | _ => False
theorem mX3_isLetter : bt_MT bt_TX3_isLetter bt_FX3 [] 2 1 sX3_isLetter := by
  intro as M N Rt h P hP
  unfold sX3_isLetter at h
  split at h
  · refine bt_go0 rfl hP 20 ?_
    refine ⟨fun h1 => ?_, fun h1 => ⟨fun h2 => ?_, fun h2 => ?_⟩⟩
    · rw [bt_bi_f (fun q => Int32.not_le.mpr h1 q.1)] at h
      exact ⟨Or.inl rfl, h⟩
    · rw [bt_bi_f (fun q => Int32.not_le.mpr h2 q.2)] at h
      exact ⟨Or.inl rfl, h⟩
    · rw [bt_bi_t ⟨Int32.not_lt.mp h1, Int32.not_lt.mp h2⟩] at h
      exact ⟨Or.inr rfl, h⟩
  · exact False.elim h
def sX3_isFigure : bt_Sp := fun as M N K => match as with
  | [.int x] => K (some (.int (bt_bi ((48 : Int32) ≤ x ∧ x ≤ 57)))) M N
  | _ => False
theorem mX3_isFigure : bt_MT bt_TX3_isFigure bt_FX3 [] 2 1 sX3_isFigure := by
  intro as M N Rt h P hP
  unfold sX3_isFigure at h
  split at h
  · refine bt_go0 rfl hP 20 ?_
    refine ⟨fun h1 => ?_, fun h1 => ⟨fun h2 => ?_, fun h2 => ?_⟩⟩
    · rw [bt_bi_f (fun q => Int32.not_le.mpr h1 q.1)] at h
      exact ⟨Or.inl rfl, h⟩
    · rw [bt_bi_f (fun q => Int32.not_le.mpr h2 q.2)] at h
      exact ⟨Or.inl rfl, h⟩
    · rw [bt_bi_t ⟨Int32.not_lt.mp h1, Int32.not_lt.mp h2⟩] at h
      exact ⟨Or.inr rfl, h⟩
  · exact False.elim h
theorem bv_c1_b {v : Nat} (h : v < 128) : ((97 : Int32) ≤ nI v ∧ nI v ≤ 122) ↔ bv_c1 v = true := by
  rw [bv_c1_i, show (97 : Int32) = nI 97 from rfl, show (122 : Int32) = nI 122 from rfl, nI_leI (by omega) (by omega), nI_leI (by omega) (by omega)]
theorem bv_c2_b {v : Nat} (h : v < 128) : ((48 : Int32) ≤ nI v ∧ nI v ≤ 57) ↔ bv_c2 v = true := by
  rw [bv_c2_i, show (48 : Int32) = nI 48 from rfl, show (57 : Int32) = nI 57 from rfl, nI_leI (by omega) (by omega), nI_leI (by omega) (by omega)]
def sX3_refuse : bt_Sp := fun as M N K => match as with
  | [.ref c, .int f, .int p] => c = 20 ∧ ∀ M', (∀ x : Nat, x ≠ 20 → M' x = M x) → (∀ g : Nat, g ≠ 3 → g ≠ 4 → M' 20 g = M 20 g) → M' 20 3 = f → M' 20 4 = p → K (some (.int 0)) M' N
  | _ => False
theorem mX3_refuse : bt_MT bt_TX3_refuse bt_FX3 [] 2 3 sX3_refuse := by
  intro as M N Rt h P hP
  unfold sX3_refuse at h
  split at h
  · obtain ⟨rfl, h⟩ := h
    refine bt_go0 rfl hP 20 ?_
    intro M1 e1 M2 e2
    obtain ⟨u1, u2, u3⟩ := bv_up e1
    obtain ⟨v1, v2, v3⟩ := bv_up e2
    refine ⟨Or.inl rfl, h M2 ?_ ?_ ?_ v2⟩
    · intro x hx
      rw [v1 x hx, u1 x hx]
    · intro g g3 g4
      rw [v3 g g4, u3 g g3]
    · rw [v3 3 (by omega)]
      exact u2
  · exact False.elim h
def bv_V (z : Nat → Nat) (a : Nat) : Nat → Int32
  | 0 => 0
  | t + 1 => bv_V z a t * 10 + nI (z (a + t)) - 48
theorem bv_V1 {z : Nat → Nat} {a : Nat} (h : 48 ≤ z a) : bv_V z a 1 = nI (z a - 48) := by
  show (0 : Int32) * 10 + nI (z (a + 0)) - 48 = _
  rw [show (0 : Int32) * 10 = nI 0 from by decide, nI_add, show (48 : Int32) = nI 48 from rfl, Nat.add_zero, Nat.zero_add, pk_sub h]
theorem bv_V2 {z : Nat → Nat} {a : Nat} (h : 48 ≤ z a) (h2 : 48 ≤ z (a + 1)) : bv_V z a 2 = nI ((z a - 48) * 10 + (z (a + 1) - 48)) := by
  show bv_V z a 1 * 10 + nI (z (a + 1)) - 48 = _
  rw [bv_V1 h, show (10 : Int32) = nI 10 from rfl, show (48 : Int32) = nI 48 from rfl, pk_mul, nI_add, pk_sub (by omega)]
  congr 1
  omega
def bv_Ad (z : Nat → Nat) (n p : Nat) (M M' : bt_M) (r : Int32) : Prop := bv_fr M M' ∧ match bv_tk z n p with
  | .inl e => r = 0 ∧ M' 20 3 = nI e.1 ∧ M' 20 4 = nI e.2
  | .inr a => r = 1 ∧ M' 20 3 = M 20 3 ∧ bv_cS M' z n a
theorem bv_bd_kd {z : Nat → Nat} {n a : Nat} (h : bv_kd z n a ≠ 4) (h2 : bv_kd z n a ≠ 2) : ¬ bv_bd z n a = true := by
  rw [bv_bd_i]
  omega
theorem bv_Ad_ok {z : Nat → Nat} {n p : Nat} {M M' : bt_M} (hf : bv_fr M M') (h3 : M' 20 3 = M 20 3) (hb : ¬ bv_bd z n (bv_r z n bv_c0 p) = true) (h : bv_cS M' z n (bv_r z n bv_c0 p)) : bv_Ad z n p M M' 1 := by
  refine ⟨hf, ?_⟩
  rw [bv_tk, if_neg hb]
  exact ⟨rfl, h3, h⟩
def bt_CX3_advance : bt_C := [(85, 0, 1, sX3_isLetter), (92, 0, 1, sX3_isFigure), (95, 0, 3, sX5_within), (69, 1, 3, sX3_refuse)]
def sX3_advance : bt_Sp := fun as M N K => match as with
  | [.ref c] => ∃ z n p, c = 20 ∧ bv_cT M z n ∧ M 20 5 = nI p ∧ p ≤ n ∧ ∀ M' r, bv_Ad z n p M M' r → K (some (.int r)) M' N
  | _ => False
set_option maxHeartbeats 1000000 in
set_option maxRecDepth 100000 in
theorem mX3_advance : bt_MT bt_TX3_advance bt_FX3 bt_CX3_advance 2 2 sX3_advance := by
  intro as M N Rt h P hP
  unfold sX3_advance at h
  split at h
  · obtain ⟨z, n, p, rfl, hT, h5, hp, h⟩ := h
    have hn := hT.2.1
    have hz := hT.2.2.2
    have hr := bv_r_b (z := z) (c := bv_c0) hp
    have kT : ∀ M', bv_fr M M' → M' 20 2 = nI n ∧ ∀ j, j < n → M' 1 j = nI (z j) := fun M' hf => ⟨(bv_cT_fr hT hf).1, (bv_cT_fr hT hf).2.2.1⟩
    generalize hA : bv_r z n bv_c0 p = a at *
    -- letters
    have loopB : bv_kd z n a = 1 → ∀ v pc L st M' N', (pc = 115 ∧ st = [] ∧ N' = N ∧ L = [some (.ref 20), none] ∧ bv_fr M M' ∧ M' 20 3 = M 20 3 ∧ M' 20 6 = nI 1 ∧ M' 20 7 = nI a ∧ ∃ q, q ≤ n ∧ v = n - q ∧ M' 20 5 = nI q ∧ bv_r z n bv_c1 q = bv_nx z n a) → P pc L st M' N' := by
      intro hk
      refine bt_loop rfl hP 60 [115] (fun v pc L st M' N' => (pc = 115 ∧ st = [] ∧ N' = N ∧ L = [some (.ref 20), none] ∧ bv_fr M M' ∧ M' 20 3 = M 20 3 ∧ M' 20 6 = nI 1 ∧ M' 20 7 = nI a ∧ ∃ q, q ≤ n ∧ v = n - q ∧ M' 20 5 = nI q ∧ bv_r z n bv_c1 q = bv_nx z n a)) ?_
      rintro v pc L st M' N' ⟨rfl, rfl, hN, rfl, hf, k3, k6, k7, q, hq, rfl, k5, hrq⟩
      subst hN
      obtain ⟨t1, t2⟩ := kT M' hf
      have hend : bv_r z n bv_c1 q = q → Rt (some (.int 1)) M' N' := fun e => by
        refine h M' 1 (bv_Ad_ok hf k3 (by rw [hA]; exact bv_bd_kd (by omega) (by omega)) ?_)
        rw [hA]
        exact ⟨by rw [k6, hk], k7, by rw [k5, ← hrq, e], fun c => by omega⟩
      refine ⟨fun y1 => ?_, fun y1 => ?_⟩
      · rw [k5, t1, nI_leI (by omega) (by omega)] at y1
        exact ⟨Or.inr rfl, hend (bv_r_n (by omega))⟩
      · rw [k5, t1, nI_leI (by omega) (by omega)] at y1
        have hzq := hz q
        refine ⟨_, rfl, q, k5, by omega, ⟨fun y2 => ?_, fun y2 => ?_⟩⟩
        · rw [t2 q (by omega), bt_bi_0, bv_c1_b hzq] at y2
          exact ⟨Or.inr rfl, hend (bv_r_n (fun c => y2 c.2))⟩
        · rw [t2 q (by omega), bt_bi_n0, bv_c1_b hzq] at y2
          intro M1 e1
          obtain ⟨u1, u2, u3⟩ := bv_up e1
          refine ⟨n - (q + 1), by omega, rfl, rfl, rfl, rfl, bv_fr_up hf e1 (by omega), ?_, ?_, ?_, q + 1, by omega, rfl, ?_, ?_⟩
          · rw [u3 3 (by omega)]; exact k3
          · rw [u3 6 (by omega)]; exact k6
          · rw [u3 7 (by omega)]; exact k7
          · rw [u2, k5, nI_1]
          · rw [← bv_r_y (by omega) y2]; exact hrq
    -- figures
    have loopC : (bv_kd z n a = 2 ∨ bv_kd z n a = 4) → ∀ v pc L st M' N', (pc = 166 ∧ st = [] ∧ N' = N ∧ L = [some (.ref 20), none] ∧ bv_fr M M' ∧ M' 20 3 = M 20 3 ∧ M' 20 6 = nI 2 ∧ M' 20 7 = nI a ∧ ∃ q, a ≤ q ∧ q ≤ n ∧ v = n - q ∧ M' 20 5 = nI q ∧ bv_r z n bv_c2 q = bv_nx z n a ∧ M' 20 8 = bv_V z a (q - a) ∧ ∀ i, a ≤ i → i < q → bv_c2 (z i) = true) → P pc L st M' N' := by
      intro hk
      refine bt_loop rfl hP 80 [166] (fun v pc L st M' N' => (pc = 166 ∧ st = [] ∧ N' = N ∧ L = [some (.ref 20), none] ∧ bv_fr M M' ∧ M' 20 3 = M 20 3 ∧ M' 20 6 = nI 2 ∧ M' 20 7 = nI a ∧ ∃ q, a ≤ q ∧ q ≤ n ∧ v = n - q ∧ M' 20 5 = nI q ∧ bv_r z n bv_c2 q = bv_nx z n a ∧ M' 20 8 = bv_V z a (q - a) ∧ ∀ i, a ≤ i → i < q → bv_c2 (z i) = true)) ?_
      rintro v pc L st M' N' ⟨rfl, rfl, hN, rfl, hf, k3, k6, k7, q, hqa, hq, rfl, k5, hrq, k8, hfig⟩
      subst hN
      obtain ⟨t1, t2⟩ := kT M' hf
      have hfg : M' 20 5 - M' 20 7 = nI (q - a) := by rw [k5, k7, pk_sub hqa]
      have hin : ((1 : Int32) ≤ M' 20 5 - M' 20 7 ∧ M' 20 5 - M' 20 7 ≤ 2) ↔ (1 ≤ q - a ∧ q - a ≤ 2) := by
        rw [hfg, show (1 : Int32) = nI 1 from rfl, show (2 : Int32) = nI 2 from rfl, nI_leI (by omega) (by omega), nI_leI (by omega) (by omega)]
      have hok : bv_r z n bv_c2 q = q → (1 ≤ q - a ∧ q - a ≤ 2) → Rt (some (.int 1)) M' N' := fun e hc => by
        have hnx : bv_nx z n a = q := by rw [← hrq, e]
        have f1 := bv_c2_i.mp (hfig a (Nat.le_refl _) (by omega))
        have hk2 : bv_kd z n a = 2 := by
          rcases hk with hk | hk
          · exact hk
          · unfold bv_kd at hk
            rw [if_neg (by omega)] at hk
            split at hk
            · cases hk
            · split at hk
              · cases hk
              · rw [if_pos (hfig a (Nat.le_refl _) (by omega))] at hk
                exact absurd hk (by omega)
        refine h M' 1 (bv_Ad_ok hf k3 (by rw [hA, bv_bd_i, hnx]; omega) ?_)
        rw [hA]
        refine ⟨by rw [k6, hk2], k7, by rw [k5, hnx], fun _ => ?_⟩
        rw [k8]
        unfold bv_vl
        rcases (show q = a + 1 ∨ q = a + 2 by omega) with e1 | e1
        · rw [hnx, if_pos e1, e1, Nat.add_sub_cancel_left, bv_V1 f1.1]
        · have f2 := bv_c2_i.mp (hfig (a + 1) (by omega) (by omega))
          rw [hnx, if_neg (by omega), e1, Nat.add_sub_cancel_left, bv_V2 f1.1 f2.1]
      have hno : bv_r z n bv_c2 q = q → ¬ (1 ≤ q - a ∧ q - a ≤ 2) → ∀ M1, (∀ x : Nat, x ≠ 20 → M1 x = M' x) → (∀ g : Nat, g ≠ 3 → g ≠ 4 → M1 20 g = M' 20 g) → M1 20 3 = 1 → M1 20 4 = M' 20 7 → Rt (some (.int 0)) M1 N' := fun e hc M1 m1 m2 m3 m4 => by
        have hnx : bv_nx z n a = q := by rw [← hrq, e]
        refine h M1 0 ⟨bv_fr_tr hf ⟨m1, fun g hg => m2 g (by omega) (by omega)⟩, ?_⟩
        have hb : bv_bd z n a = true := by
          rw [bv_bd_i, hnx]
          rcases hk with hk | hk
          · have := (bv_nx_b (z := z) hr.2).2.2 (by omega) (by omega)
            omega
          · exact Or.inl hk
        rw [bv_tk, hA, if_pos hb]
        exact ⟨rfl, m3, by rw [m4, k7]⟩
      have tail : bv_r z n bv_c2 q = q → P 229 [some (.ref 20), none] [] M' N' := fun e => by
        refine bt_go0 rfl hP 60 ?_
        refine ⟨fun y3 => ?_, fun y3 => ?_⟩
        · rw [bt_bi_n0, hin] at y3
          exact ⟨Or.inr rfl, hok e y3⟩
        · rw [bt_bi_0, hin] at y3
          refine ⟨rfl, fun M1 m1 m2 m3 m4 => ?_⟩
          exact ⟨fun _ => ⟨Or.inl rfl, hno e y3 M1 m1 m2 m3 m4⟩, fun c => absurd rfl c⟩
      refine ⟨fun y1 => ?_, fun y1 => ?_⟩
      · rw [k5, t1, nI_leI (by omega) (by omega)] at y1
        have e := bv_r_n (z := z) (n := n) (p := q) (c := bv_c2) (by omega)
        refine ⟨fun y3 => ?_, fun y3 => ?_⟩
        · rw [bt_bi_n0, hin] at y3
          exact ⟨Or.inr rfl, hok e y3⟩
        · rw [bt_bi_0, hin] at y3
          refine ⟨rfl, fun M1 m1 m2 m3 m4 => ?_⟩
          exact ⟨fun _ => ⟨Or.inl rfl, hno e y3 M1 m1 m2 m3 m4⟩, fun c => absurd rfl c⟩
      · rw [k5, t1, nI_leI (by omega) (by omega)] at y1
        have hzq := hz q
        refine ⟨_, rfl, q, k5, by omega, ⟨fun y2 => ?_, fun y2 => ?_⟩⟩
        · rw [t2 q (by omega), bt_bi_0, bv_c2_b hzq] at y2
          have e := bv_r_n (z := z) (n := n) (p := q) (c := bv_c2) (fun c => y2 c.2)
          refine ⟨fun y3 => ?_, fun y3 => ?_⟩
          · rw [bt_bi_n0, hin] at y3
            exact ⟨Or.inr rfl, hok e y3⟩
          · rw [bt_bi_0, hin] at y3
            refine ⟨rfl, fun M1 m1 m2 m3 m4 => ?_⟩
            exact ⟨fun _ => ⟨Or.inl rfl, hno e y3 M1 m1 m2 m3 m4⟩, fun c => absurd rfl c⟩
        · rw [t2 q (by omega), bt_bi_n0, bv_c2_b hzq] at y2
          refine ⟨_, rfl, q, k5, by omega, ?_⟩
          intro M1 e1 M2 e2
          obtain ⟨u1, u2, u3⟩ := bv_up e1
          obtain ⟨v1, v2, v3⟩ := bv_up e2
          refine ⟨n - (q + 1), by omega, rfl, rfl, rfl, rfl, bv_fr_up (bv_fr_up hf e1 (by omega)) e2 (by omega), ?_, ?_, ?_, q + 1, by omega, by omega, rfl, ?_, ?_, ?_, ?_⟩
          · rw [v3 3 (by omega), u3 3 (by omega)]; exact k3
          · rw [v3 6 (by omega), u3 6 (by omega)]; exact k6
          · rw [v3 7 (by omega), u3 7 (by omega)]; exact k7
          · rw [v2, u3 5 (by omega), k5, nI_1]
          · rw [← bv_r_y (by omega) y2]; exact hrq
          · rw [v3 8 (by omega), u2, k8, t2 q (by omega), show q + 1 - a = (q - a) + 1 by omega, bv_V, show a + (q - a) = q by omega]
          · intro i i1 i2
            by_cases c : i = q
            · rw [c]; exact y2
            · exact hfig i i1 (by omega)
    -- behind the blanks
    have rest : ∀ M' N', N' = N → bv_fr M M' → M' 20 3 = M 20 3 → M' 20 5 = nI a → P 38 [some (.ref 20), none] [] M' N' := by
      intro M' N' hN hf k3 k5
      subst hN
      refine bt_go rfl hP 60 [115, 166] P (fun _ _ _ _ _ h => h) ?_
      intro M1 e1
      obtain ⟨u1, u2, u3⟩ := bv_up e1
      have hf1 := bv_fr_up hf e1 (by omega)
      obtain ⟨t1, t2⟩ := kT M1 hf1
      have j3 : M1 20 3 = M 20 3 := by rw [u3 3 (by omega)]; exact k3
      have j5 : M1 20 5 = nI a := by rw [u3 5 (by omega)]; exact k5
      have j7 : M1 20 7 = nI a := by rw [u2]; exact k5
      refine ⟨fun y1 => ?_, fun y1 => ?_⟩
      · rw [j5, t1, nI_ltI (by omega) (by omega)] at y1
        have hza := hz a
        refine ⟨_, rfl, a, j5, by omega, ⟨fun y2 => ?_, fun y2 => ?_⟩⟩
        · rw [t2 a y1, show (59 : Int32) = nI 59 from rfl, nI_eq (by omega) (by omega)] at y2
          refine ⟨_, rfl, a, j5, by omega, ⟨fun y3 => ?_, fun y3 => ?_⟩⟩
          · rw [t2 a y1, bt_bi_0, bv_c1_b hza] at y3
            intro M2 e2 M3 e3
            obtain ⟨v1, v2, v3⟩ := bv_up e2
            obtain ⟨w1, w2, w3⟩ := bv_up e3
            have hk : bv_kd z n a = 2 ∨ bv_kd z n a = 4 := by
              unfold bv_kd
              rw [if_neg (by omega), if_neg y2, if_neg y3]
              split
              · exact Or.inl rfl
              · exact Or.inr rfl
            refine loopC hk _ _ _ _ _ _ ⟨rfl, rfl, rfl, rfl, bv_fr_up (bv_fr_up hf1 e2 (by omega)) e3 (by omega), ?_, ?_, ?_, a, Nat.le_refl _, by omega, rfl, ?_, ?_, ?_, fun i i1 i2 => by omega⟩
            · rw [w3 3 (by omega), v3 3 (by omega)]; exact j3
            · rw [w3 6 (by omega), v2]; rfl
            · rw [w3 7 (by omega), v3 7 (by omega)]; exact j7
            · rw [w3 5 (by omega), v3 5 (by omega)]; exact j5
            · unfold bv_nx
              rw [if_neg (by omega), if_neg y2, if_neg y3]
            · rw [w2, Nat.sub_self]; rfl
          · rw [t2 a y1, bt_bi_n0, bv_c1_b hza] at y3
            intro M2 e2
            obtain ⟨v1, v2, v3⟩ := bv_up e2
            have hk : bv_kd z n a = 1 := by
              unfold bv_kd
              rw [if_neg (by omega), if_neg y2, if_pos y3]
            refine loopB hk _ _ _ _ _ _ ⟨rfl, rfl, rfl, rfl, bv_fr_up hf1 e2 (by omega), ?_, ?_, ?_, a, by omega, rfl, ?_, ?_⟩
            · rw [v3 3 (by omega)]; exact j3
            · rw [v2]; rfl
            · rw [v3 7 (by omega)]; exact j7
            · rw [v3 5 (by omega)]; exact j5
            · unfold bv_nx
              rw [if_neg (by omega), if_neg y2, if_pos y3]
        · rw [t2 a y1, show (59 : Int32) = nI 59 from rfl, nI_eq (by omega) (by omega)] at y2
          intro M2 e2 M3 e3
          obtain ⟨v1, v2, v3⟩ := bv_up e2
          obtain ⟨w1, w2, w3⟩ := bv_up e3
          have hk : bv_kd z n a = 3 := by
            unfold bv_kd
            rw [if_neg (by omega), if_pos y2]
          refine ⟨Or.inr rfl, h M3 1 (bv_Ad_ok (bv_fr_up (bv_fr_up hf1 e2 (by omega)) e3 (by omega)) (by rw [w3 3 (by omega), v3 3 (by omega)]; exact j3) (by rw [hA]; exact bv_bd_kd (by omega) (by omega)) ?_)⟩
          rw [hA]
          refine ⟨?_, ?_, ?_, fun c => by omega⟩
          · rw [w3 6 (by omega), v2, hk]; rfl
          · rw [w3 7 (by omega), v3 7 (by omega)]; exact j7
          · rw [w2, v3 5 (by omega), j5, nI_1]
            unfold bv_nx
            rw [if_neg (by omega), if_pos y2]
      · rw [j5, t1, nI_ltI (by omega) (by omega)] at y1
        intro M2 e2
        obtain ⟨v1, v2, v3⟩ := bv_up e2
        have hk : bv_kd z n a = 0 := by
          unfold bv_kd
          rw [if_pos (by omega)]
        refine ⟨Or.inr rfl, h M2 1 (bv_Ad_ok (bv_fr_up hf1 e2 (by omega)) (by rw [v3 3 (by omega)]; exact j3) (by rw [hA]; exact bv_bd_kd (by omega) (by omega)) ?_)⟩
        rw [hA]
        refine ⟨?_, ?_, ?_, fun c => by omega⟩
        · rw [v2, hk]; rfl
        · rw [v3 7 (by omega)]; exact j7
        · rw [v3 5 (by omega), j5]
          unfold bv_nx
          rw [if_pos (by omega)]
    have loopA : ∀ v pc L st M' N', (pc = 0 ∧ st = [] ∧ N' = N ∧ L = [some (.ref 20), none] ∧ bv_fr M M' ∧ M' 20 3 = M 20 3 ∧ ∃ q, q ≤ n ∧ v = n - q ∧ M' 20 5 = nI q ∧ bv_r z n bv_c0 q = a) → P pc L st M' N' := by
      refine bt_loopP rfl hP 60 [0, 38] (fun v pc L st M' N' => (pc = 0 ∧ st = [] ∧ N' = N ∧ L = [some (.ref 20), none] ∧ bv_fr M M' ∧ M' 20 3 = M 20 3 ∧ ∃ q, q ≤ n ∧ v = n - q ∧ M' 20 5 = nI q ∧ bv_r z n bv_c0 q = a)) ?_
      rintro v pc L st M' N' ⟨rfl, rfl, hN, rfl, hf, k3, q, hq, rfl, k5, hrq⟩
      subst hN
      obtain ⟨t1, t2⟩ := kT M' hf
      refine ⟨fun y1 => ?_, fun y1 => ?_⟩
      · rw [k5, t1, nI_leI (by omega) (by omega)] at y1
        exact Or.inr (rest M' N' rfl hf k3 (by rw [k5, ← hrq, bv_r_n (by omega)]))
      · rw [k5, t1, nI_leI (by omega) (by omega)] at y1
        have hzq := hz q
        refine ⟨_, rfl, q, k5, by omega, ⟨fun y2 => ?_, fun y2 => ?_⟩⟩
        · rw [t2 q (by omega), show (32 : Int32) = nI 32 from rfl, nI_eq (by omega) (by omega), ← bv_c0_i] at y2
          exact Or.inr (rest M' N' rfl hf k3 (by rw [k5, ← hrq, bv_r_n (fun c => y2 c.2)]))
        · rw [t2 q (by omega), show (32 : Int32) = nI 32 from rfl, nI_eq (by omega) (by omega), ← bv_c0_i] at y2
          intro M1 e1
          obtain ⟨u1, u2, u3⟩ := bv_up e1
          refine Or.inl ⟨n - (q + 1), by omega, rfl, rfl, rfl, rfl, bv_fr_up hf e1 (by omega), ?_, q + 1, by omega, rfl, ?_, ?_⟩
          · rw [u3 3 (by omega)]; exact k3
          · rw [u2, k5, nI_1]
          · rw [← bv_r_y (by omega) y2]; exact hrq
    exact loopA _ _ _ _ _ _ ⟨rfl, rfl, rfl, rfl, bv_fr_rf, rfl, p, hp, rfl, h5, hA⟩
  · exact False.elim h
