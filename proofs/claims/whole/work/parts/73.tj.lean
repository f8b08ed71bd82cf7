/-! THE TEXT: the model's tokens -/
def bv_mT (M : bt_M) (z : Nat → Nat) (n : Nat) : Prop := M 67 10 = nI n ∧ n ≤ 160 ∧ (∀ j, j < n → M 71 j = nI (z j)) ∧ ∀ j, z j < 128
def bv_gr (M M' : bt_M) : Prop := (∀ x : Nat, x ≠ 67 → M' x = M x) ∧ ∀ f : Nat, (f < 12 ∨ 17 < f) → M' 67 f = M 67 f
theorem bv_gr_rf {M : bt_M} : bv_gr M M := ⟨fun _ _ => rfl, fun _ _ => rfl⟩
theorem bv_gr_tr {M M1 M2 : bt_M} (h : bv_gr M M1) (h2 : bv_gr M1 M2) : bv_gr M M2 := ⟨fun x hx => by rw [h2.1 x hx, h.1 x hx], fun f hf => by rw [h2.2 f hf, h.2 f hf]⟩
theorem bv_gr_up {M M' M1 : bt_M} {f : Nat} {x : Int32} (h : bv_gr M M') (e : M1 = va_up M' 67 (upd (M' 67) f x)) (hf : 12 ≤ f ∧ f ≤ 17) : bv_gr M M1 := by
  obtain ⟨u1, u2, u3⟩ := bv_up e
  exact ⟨fun x hx => by rw [u1 x hx, h.1 x hx], fun g hg => by rw [u3 g (by omega), h.2 g hg]⟩
theorem bv_mT_gr {M M' : bt_M} {z : Nat → Nat} {n : Nat} (h : bv_mT M z n) (hf : bv_gr M M') : bv_mT M' z n := ⟨by rw [hf.2 10 (by omega)]; exact h.1, h.2.1, by rw [hf.1 71 (by omega)]; exact h.2.2.1, h.2.2.2⟩
/-- a fault, or the token that stands there -/
def bv_mS (M : bt_M) (z : Nat → Nat) (n : Nat) (X : (Nat × Nat) ⊕ Nat) : Prop := match X with
  | .inl e => M 67 12 = nI e.1 ∧ 1 ≤ e.1 ∧ e.1 ≤ 6 ∧ M 67 13 = nI e.2
  | .inr a => M 67 12 = 0 ∧ a ≤ n ∧ ¬ bv_bd z n a = true ∧ M 67 15 = nI a ∧ M 67 16 = nI (bv_kd z n a) ∧ M 67 14 = nI (bv_nx z n a) ∧ (bv_kd z n a = 2 → M 67 17 = nI (bv_vl z n a))
/-- a fault, or the place to go on from -/
def bv_mP (M : bt_M) (n : Nat) (Y : (Nat × Nat) ⊕ Nat) : Prop := match Y with
  | .inl e => M 67 12 = nI e.1 ∧ 1 ≤ e.1 ∧ e.1 ≤ 6 ∧ M 67 13 = nI e.2
  | .inr p => M 67 12 = 0 ∧ M 67 14 = nI p ∧ p ≤ n
def sX6_byteAt : bt_Sp := fun as M N K => match as with
  | [.ref c, .int k] => ∃ z n k', c = 67 ∧ bv_mT M z n ∧ k = nI k' ∧ k' ≤ 1000 ∧ K (some (.int (if k' < n then nI (z k') else -4))) M N
  | _ => False
theorem mX6_byteAt : bt_MT bt_TX6_byteAt bt_FX6 [] 1 2 sX6_byteAt := by
  intro as M N Rt h P hP
  unfold sX6_byteAt at h
  split at h
  · obtain ⟨z, n, k, rfl, hT, rfl, hk, h⟩ := h
    have hn := hT.2.1
    refine bt_go0 rfl hP 40 ?_
    refine ⟨fun y => ?_, fun y => ?_⟩
    · rw [hT.1, nI_leI (by omega) (by omega)] at y
      rw [if_neg (by omega)] at h
      exact h
    · rw [hT.1, nI_leI (by omega) (by omega)] at y
      rw [if_pos (by omega), ← hT.2.2.1 k (by omega)] at h
      exact ⟨_, rfl, k, rfl, by omega, h⟩
  · exact False.elim h
def sX6_fails : bt_Sp := fun as M N K => match as with
  | [.ref c, .int f] => c = 67 ∧ ∀ M', (∀ x : Nat, x ≠ 67 → M' x = M x) → (∀ g : Nat, g ≠ 12 → g ≠ 13 → M' 67 g = M 67 g) → (M 67 12 = 0 → M' 67 12 = f ∧ M' 67 13 = M 67 15) → (¬ M 67 12 = 0 → M' 67 12 = M 67 12 ∧ M' 67 13 = M 67 13) → K none M' N
  | _ => False
theorem mX6_fails : bt_MT bt_TX6_fails bt_FX6 [] 0 2 sX6_fails := by
  intro as M N Rt h P hP
  unfold sX6_fails at h
  split at h
  · obtain ⟨rfl, h⟩ := h
    refine bt_go0 rfl hP 40 ?_
    refine ⟨fun y => ?_, fun y => ?_⟩
    · exact h M (fun _ _ => rfl) (fun _ _ _ => rfl) (fun c => absurd c y) (fun _ => ⟨rfl, rfl⟩)
    · intro M1 e1 M2 e2
      obtain ⟨u1, u2, u3⟩ := bv_up e1
      obtain ⟨v1, v2, v3⟩ := bv_up e2
      refine h M2 (fun x hx => by rw [v1 x hx, u1 x hx]) (fun g g1 g2 => by rw [v3 g g2, u3 g g1]) (fun _ => ⟨by rw [v3 12 (by omega)]; exact u2, by rw [v2, u3 15 (by omega)]⟩) (fun c => absurd y c)
  · exact False.elim h
theorem bv_i4 : (-4 : Int32).toInt64 = -4 := by decide
theorem bv_cq {z : Nat → Nat} {n q lo hi : Nat} (hz : z q < 128) (hlo : lo < 128) (hhi : hi < 128) : (lN lo ≤ ((if q < n then nI (z q) else -4) : Int32).toInt64 ∧ ((if q < n then nI (z q) else -4) : Int32).toInt64 ≤ lN hi) ↔ (q < n ∧ lo ≤ z q ∧ z q ≤ hi) := by
  by_cases c : q < n
  · rw [if_pos c, nI_l (by omega), pk_lLE (by omega) (by omega), pk_lLE (by omega) (by omega)]
    exact ⟨fun h => ⟨c, h⟩, fun h => h.2⟩
  · rw [if_neg c]
    refine ⟨fun h => ?_, fun h => absurd h.1 c⟩
    have h1 := h.1
    rw [bv_i4, Int64.le_iff_toInt_le, pk_lT (by omega)] at h1
    have : (-4 : Int64).toInt = -4 := by decide
    omega
theorem bv_n4 {v : Nat} (h : v < 2 ^ 31) : ¬ nI v = -4 := fun z => by
  have := congrArg Int32.toInt z
  rw [nI_toInt h, show (-4 : Int32).toInt = -4 from by decide] at this
  omega
def bv_mv (z : Nat → Nat) (a t : Nat) : Nat := if t = 0 then 0 else if t = 1 then z a - 48 else (z a - 48) * 10 + (z (a + 1) - 48)
def bt_CX6_step : bt_C := [(69, 1, 2, sX6_byteAt), (46, 0, 3, sX6_in), (84, 1, 2, sX6_fails)]
def sX6_step : bt_Sp := fun as M N K => match as with
  | [.ref c] => ∃ z n Y, c = 67 ∧ bv_mT M z n ∧ bv_mP M n Y ∧ ∀ M', bv_gr M M' → bv_mS M' z n (bv_bn Y (bv_tk z n)) → K none M' N
  | _ => False
set_option maxHeartbeats 1000000 in
set_option maxRecDepth 100000 in
theorem mX6_step : bt_MT bt_TX6_step bt_FX6 bt_CX6_step 0 2 sX6_step := by
  intro as M N Rt h P hP
  unfold sX6_step at h
  split at h
  · obtain ⟨z, n, Y, rfl, hT, hY, h⟩ := h
    have hn := hT.2.1
    have hz := hT.2.2.2
    cases Y with
    | inl e =>
      obtain ⟨y1, y2, y3, y4⟩ := hY
      refine bt_go rfl hP 60 [8] P (fun _ _ _ _ _ h => h) ?_
      refine ⟨fun y => ?_, fun _ => h M bv_gr_rf ⟨y1, y2, y3, y4⟩⟩
      rw [y1, bt_le0 (by omega)] at y
      omega
    | inr p =>
      obtain ⟨h12, h14, hp⟩ := hY
      have hr := bv_r_b (z := z) (c := bv_c0) hp
      have h : ∀ M', bv_gr M M' → bv_mS M' z n (bv_tk z n p) → Rt none M' N := h
      unfold bv_tk at h
      generalize hA : bv_r z n bv_c0 p = a at *
      have hok : ¬ bv_bd z n a = true → ∀ M', bv_gr M M' → M' 67 12 = 0 → M' 67 15 = nI a → M' 67 16 = nI (bv_kd z n a) → M' 67 14 = nI (bv_nx z n a) → (bv_kd z n a = 2 → M' 67 17 = nI (bv_vl z n a)) → Rt none M' N := by
        intro hb M' g k12 k15 k16 k14 k17
        refine h M' g ?_
        rw [if_neg hb]
        exact ⟨k12, hr.2, hb, k15, k16, k14, k17⟩
      have hbad : bv_bd z n a = true → ∀ M', bv_gr M M' → M' 67 12 = 1 → M' 67 13 = nI a → Rt none M' N := by
        intro hb M' g k12 k13
        refine h M' g ?_
        rw [if_pos hb]
        exact ⟨k12, by show 1 ≤ 1; omega, by show 1 ≤ 6; omega, k13⟩
      -- letters
      have loopB : bv_kd z n a = 1 → ∀ v pc L st M' N', (pc = 84 ∧ st = [] ∧ N' = N ∧ (∃ y1, L = [some (.ref 67), y1]) ∧ bv_gr M M' ∧ M' 67 12 = 0 ∧ M' 67 15 = nI a ∧ ∃ q, q ≤ n ∧ v = n - q ∧ M' 67 14 = nI q ∧ bv_r z n bv_c1 q = bv_nx z n a) → P pc L st M' N' := by
        intro hk
        refine bt_loop rfl hP 60 [84] (fun v pc L st M' N' => (pc = 84 ∧ st = [] ∧ N' = N ∧ (∃ y1, L = [some (.ref 67), y1]) ∧ bv_gr M M' ∧ M' 67 12 = 0 ∧ M' 67 15 = nI a ∧ ∃ q, q ≤ n ∧ v = n - q ∧ M' 67 14 = nI q ∧ bv_r z n bv_c1 q = bv_nx z n a)) ?_
        rintro v pc L st M' N' ⟨rfl, rfl, hN, ⟨yy, rfl⟩, g, k12, k15, q, hq, rfl, k14, hrq⟩
        subst hN
        refine ⟨z, n, q, rfl, bv_mT_gr hT g, k14, by omega, ?_⟩
        have hc := bv_cq (n := n) (q := q) (lo := 97) (hi := 122) (hz q) (by omega) (by omega)
        rw [← bv_c1_i] at hc
        refine ⟨fun y1 => ?_, fun y1 => ?_⟩
        · rw [bt_bi_0] at y1
          have y1' := fun c => y1 (hc.mpr c)
          intro M1 e1
          obtain ⟨u1, u2, u3⟩ := bv_up e1
          refine hok (bv_bd_kd (by omega) (by omega)) M1 (bv_gr_up g e1 (by omega)) ?_ ?_ ?_ ?_ (fun c => by omega)
          · rw [u3 12 (by omega)]; exact k12
          · rw [u3 15 (by omega)]; exact k15
          · rw [u2, hk]; rfl
          · rw [u3 14 (by omega), k14, ← hrq, bv_r_n y1']
        · rw [bt_bi_n0] at y1
          have y1' := hc.mp y1
          intro M1 e1
          obtain ⟨u1, u2, u3⟩ := bv_up e1
          refine ⟨n - (q + 1), by omega, rfl, rfl, rfl, ⟨yy, rfl⟩, bv_gr_up g e1 (by omega), ?_, ?_, q + 1, by omega, rfl, ?_, ?_⟩
          · rw [u3 12 (by omega)]; exact k12
          · rw [u3 15 (by omega)]; exact k15
          · rw [u2, k14, nI_1]
          · rw [← bv_r_y y1'.1 y1'.2]; exact hrq
      -- figures
      have loopC : bv_kd z n a = 2 → ∀ v pc L st M' N', (pc = 140 ∧ st = [] ∧ N' = N ∧ (∃ y1, L = [some (.ref 67), y1]) ∧ bv_gr M M' ∧ M' 67 12 = 0 ∧ M' 67 15 = nI a ∧ ∃ q, a ≤ q ∧ q ≤ n ∧ v = n - q ∧ M' 67 14 = nI q ∧ bv_r z n bv_c2 q = bv_nx z n a ∧ M' 67 17 = nI (bv_mv z a (q - a)) ∧ ∀ i, a ≤ i → i < q → bv_c2 (z i) = true) → P pc L st M' N' := by
        intro hk
        have hnx := (bv_nx_b (z := z) hr.2).2.2 (by omega) (by omega)
        refine bt_loop rfl hP 80 [140] (fun v pc L st M' N' => (pc = 140 ∧ st = [] ∧ N' = N ∧ (∃ y1, L = [some (.ref 67), y1]) ∧ bv_gr M M' ∧ M' 67 12 = 0 ∧ M' 67 15 = nI a ∧ ∃ q, a ≤ q ∧ q ≤ n ∧ v = n - q ∧ M' 67 14 = nI q ∧ bv_r z n bv_c2 q = bv_nx z n a ∧ M' 67 17 = nI (bv_mv z a (q - a)) ∧ ∀ i, a ≤ i → i < q → bv_c2 (z i) = true)) ?_
        rintro v pc L st M' N' ⟨rfl, rfl, hN, ⟨yy, rfl⟩, g, k12, k15, q, hqa, hq, rfl, k14, hrq, k17, hfig⟩
        subst hN
        have mT' := bv_mT_gr hT g
        refine ⟨z, n, q, rfl, mT', k14, by omega, ?_⟩
        have hc := bv_cq (n := n) (q := q) (lo := 48) (hi := 57) (hz q) (by omega) (by omega)
        rw [← bv_c2_i] at hc
        have hsub : M' 67 14 - M' 67 15 = nI (q - a) := by rw [k14, k15, pk_sub hqa]
        refine ⟨fun y1 => ?_, fun y1 => ?_⟩
        · rw [bt_bi_0] at y1
          have y1' := fun c => y1 (hc.mpr c)
          have hend : bv_nx z n a = q := by rw [← hrq, bv_r_n y1']
          intro M1 e1
          obtain ⟨u1, u2, u3⟩ := bv_up e1
          have g1 := bv_gr_up g e1 (by omega)
          have hsub1 : M1 67 14 - M1 67 15 = nI (q - a) := by rw [u3 14 (by omega), u3 15 (by omega)]; exact hsub
          have j12 : M1 67 12 = 0 := by rw [u3 12 (by omega)]; exact k12
          have j15 : M1 67 15 = nI a := by rw [u3 15 (by omega)]; exact k15
          refine ⟨fun y2 => ?_, fun y2 => ?_⟩
          · rw [hsub1, bt_lit, nI_leI (by omega) (by omega)] at y2
            refine hok (by rw [bv_bd_i]; omega) M1 g1 j12 j15 (by rw [u2, hk]; rfl) (by rw [u3 14 (by omega), k14, hend]) (fun _ => ?_)
            rw [u3 17 (by omega), k17]
            unfold bv_mv bv_vl
            rw [if_neg (by omega), hend]
            by_cases c : q = a + 1
            · rw [if_pos c, if_pos (by omega)]
            · rw [if_neg c, if_neg (by omega)]
          · rw [hsub1, bt_lit, nI_leI (by omega) (by omega)] at y2
            refine ⟨rfl, fun M2 n1 n2 n3 n4 => ?_⟩
            obtain ⟨n5, n6⟩ := n3 j12
            refine hbad (by rw [bv_bd_i]; omega) M2 (bv_gr_tr g1 ⟨n1, fun f hf => n2 f (by omega) (by omega)⟩) n5 (by rw [n6]; exact j15)
        · rw [bt_bi_n0] at y1
          have y1' := hc.mp y1
          have hf := bv_c2_i.mp y1'.2
          have fin : ∀ V : Int32, V = nI (bv_mv z a (q + 1 - a)) → ∀ M1, M1 = va_up M' 67 (upd (M' 67) 17 V) → ∀ M2, M2 = va_up M1 67 (upd (M1 67) 14 (M1 67 14 + 1)) → ∃ u', u' < n - q ∧ (140 = 140 ∧ ([] : List Value) = [] ∧ N' = N' ∧ (∃ y1, [some (.ref 67), yy] = ([some (.ref 67), y1] : bt_L)) ∧ bv_gr M M2 ∧ M2 67 12 = 0 ∧ M2 67 15 = nI a ∧ ∃ q, a ≤ q ∧ q ≤ n ∧ u' = n - q ∧ M2 67 14 = nI q ∧ bv_r z n bv_c2 q = bv_nx z n a ∧ M2 67 17 = nI (bv_mv z a (q - a)) ∧ ∀ i, a ≤ i → i < q → bv_c2 (z i) = true) := by
            intro V hV M1 e1 M2 e2
            obtain ⟨u1, u2, u3⟩ := bv_up e1
            obtain ⟨v1, v2, v3⟩ := bv_up e2
            refine ⟨n - (q + 1), by omega, rfl, rfl, rfl, ⟨yy, rfl⟩, bv_gr_up (bv_gr_up g e1 (by omega)) e2 (by omega), ?_, ?_, q + 1, by omega, by omega, rfl, ?_, ?_, ?_, ?_⟩
            · rw [v3 12 (by omega), u3 12 (by omega)]; exact k12
            · rw [v3 15 (by omega), u3 15 (by omega)]; exact k15
            · rw [v2, u3 14 (by omega), k14, nI_1]
            · rw [← bv_r_y y1'.1 y1'.2]; exact hrq
            · rw [v3 17 (by omega), u2]; exact hV
            · intro i i1 i2
              by_cases c : i = q
              · rw [c]; exact y1'.2
              · exact hfig i i1 (by omega)
          refine ⟨fun y2 => ?_, fun y2 => ?_⟩
          · rw [hsub, bt_lit, nI_leI (by omega) (by omega)] at y2
            refine fin _ ?_
            rw [k17]
            congr 1
            unfold bv_mv
            rw [if_neg (by omega), if_neg (by omega), if_neg (by omega), if_neg (by omega)]
          · rw [hsub, bt_lit, nI_leI (by omega) (by omega)] at y2
            refine ⟨z, n, q, rfl, mT', k14, by omega, ?_⟩
            refine fin _ ?_
            rw [k17, if_pos y1'.1, show (10 : Int32) = nI 10 from rfl, show (48 : Int32) = nI 48 from rfl, pk_mul, nI_add, pk_sub (by omega)]
            congr 1
            unfold bv_mv
            rcases (show q = a ∨ q = a + 1 by omega) with c | c
            · rw [c, Nat.sub_self, if_pos rfl, if_neg (by omega), if_pos (by omega)]
              omega
            · have := bv_c2_i.mp (hfig a (Nat.le_refl _) (by omega))
              rw [c, if_neg (by omega), if_pos (by omega), if_neg (by omega), if_neg (by omega)]
              rw [c] at hf
              omega
      -- behind the blanks
      have rest : ∀ M' N' y1, N' = N → bv_gr M M' → M' 67 12 = 0 → M' 67 14 = nI a → P 34 [some (.ref 67), y1] [] M' N' := by
        intro M' N' yy hN g k12 k14
        subst hN
        refine bt_go rfl hP 80 [84, 140] P (fun _ _ _ _ _ h => h) ?_
        intro M1 e1
        obtain ⟨u1, u2, u3⟩ := bv_up e1
        have g1 := bv_gr_up g e1 (by omega)
        have j14 : M1 67 14 = nI a := by rw [u3 14 (by omega)]; exact k14
        have hza := hz a
        refine ⟨z, n, a, rfl, bv_mT_gr hT g1, j14, by omega, ?_⟩
        intro M2 e2
        obtain ⟨v1, v2, v3⟩ := bv_up e2
        have g2 := bv_gr_up g1 e2 (by omega)
        have i12 : M2 67 12 = 0 := by rw [v3 12 (by omega), u3 12 (by omega)]; exact k12
        have i14 : M2 67 14 = nI a := by rw [v3 14 (by omega)]; exact j14
        have i15 : M2 67 15 = nI a := by rw [v3 15 (by omega), u2]; exact k14
        by_cases han : a < n
        · have hC : (if a < n then nI (z a) else (-4 : Int32)) = nI (z a) := if_pos han
          have hc1 := bv_cq (n := n) (q := a) (lo := 97) (hi := 122) hza (by omega) (by omega)
          rw [← bv_c1_i] at hc1
          have hc2 := bv_cq (n := n) (q := a) (lo := 48) (hi := 57) hza (by omega) (by omega)
          rw [← bv_c2_i] at hc2
          refine ⟨fun _ => ?_, fun y1 => absurd (hC.symm.trans y1) (bv_n4 (by omega))⟩
          refine ⟨fun y2 => ?_, fun y2 => ?_⟩
          · rw [bt_bi_0] at y2
            have y2' : ¬ bv_c1 (z a) = true := fun c => y2 (hc1.mpr ⟨han, c⟩)
            refine ⟨fun y3 => ?_, fun y3 => ?_⟩
            · rw [bt_bi_0] at y3
              have y3' : ¬ bv_c2 (z a) = true := fun c => y3 (hc2.mpr ⟨han, c⟩)
              intro M3 e3 M4 e4
              obtain ⟨w1, w2, w3⟩ := bv_up e3
              obtain ⟨x1, x2, x3⟩ := bv_up e4
              have g4 := bv_gr_up (bv_gr_up g2 e3 (by omega)) e4 (by omega)
              have l12 : M4 67 12 = 0 := by rw [x3 12 (by omega), w3 12 (by omega)]; exact i12
              have l15 : M4 67 15 = nI a := by rw [x3 15 (by omega), w3 15 (by omega)]; exact i15
              refine ⟨fun y4 => ?_, fun y4 => ?_⟩
              · rw [hC, show (59 : Int32) = nI 59 from rfl, nI_eq (by omega) (by omega)] at y4
                have hk : bv_kd z n a = 3 := by
                  unfold bv_kd
                  rw [if_neg (by omega), if_pos y4]
                refine hok (bv_bd_kd (by omega) (by omega)) M4 g4 l12 l15 ?_ ?_ (fun c => by omega)
                · rw [x3 16 (by omega), w2, hk]; rfl
                · rw [x2, w3 14 (by omega), i14, nI_1]
                  unfold bv_nx
                  rw [if_neg (by omega), if_pos y4]
              · rw [hC, show (59 : Int32) = nI 59 from rfl, nI_eq (by omega) (by omega)] at y4
                have hk : bv_kd z n a = 4 := by
                  unfold bv_kd
                  rw [if_neg (by omega), if_neg y4, if_neg y2', if_neg y3']
                refine ⟨rfl, fun M5 n1 n2 n3 n4 => ?_⟩
                obtain ⟨n5, n6⟩ := n3 l12
                exact hbad (by rw [bv_bd_i]; exact Or.inl hk) M5 (bv_gr_tr g4 ⟨n1, fun f hf => n2 f (by omega) (by omega)⟩) n5 (by rw [n6]; exact l15)
            · rw [bt_bi_n0] at y3
              have y3' := (hc2.mp y3).2
              have y3'' := bv_c2_i.mp y3'
              have n59 : ¬ z a = 59 := by omega
              have hk : bv_kd z n a = 2 := by
                unfold bv_kd
                rw [if_neg (by omega), if_neg n59, if_neg y2', if_pos y3']
              refine loopC hk _ _ _ _ _ _ ⟨rfl, rfl, rfl, ⟨_, rfl⟩, g2, i12, i15, a, Nat.le_refl _, hr.2, rfl, i14, ?_, ?_, fun i i1 i2 => by omega⟩
              · unfold bv_nx
                rw [if_neg (by omega), if_neg n59, if_neg y2']
              · rw [v2, Nat.sub_self]; rfl
          · rw [bt_bi_n0] at y2
            have y2' := (hc1.mp y2).2
            have y2'' := bv_c1_i.mp y2'
            have n59 : ¬ z a = 59 := by omega
            have hk : bv_kd z n a = 1 := by
              unfold bv_kd
              rw [if_neg (by omega), if_neg n59, if_pos y2']
            refine loopB hk _ _ _ _ _ _ ⟨rfl, rfl, rfl, ⟨_, rfl⟩, g2, i12, i15, a, hr.2, rfl, i14, ?_⟩
            unfold bv_nx
            rw [if_neg (by omega), if_neg n59, if_pos y2']
        · have hC : (if a < n then nI (z a) else (-4 : Int32)) = -4 := if_neg han
          refine ⟨fun y1 => absurd hC y1, fun _ => ?_⟩
          intro M3 e3
          obtain ⟨w1, w2, w3⟩ := bv_up e3
          have hk : bv_kd z n a = 0 := by
            unfold bv_kd
            rw [if_pos (by omega)]
          refine hok (bv_bd_kd (by omega) (by omega)) M3 (bv_gr_up g2 e3 (by omega)) ?_ ?_ ?_ ?_ (fun c => by omega)
          · rw [w3 12 (by omega)]; exact i12
          · rw [w3 15 (by omega)]; exact i15
          · rw [w2, hk]; rfl
          · rw [w3 14 (by omega), i14]
            unfold bv_nx
            rw [if_pos (by omega)]
      have loopA : ∀ v pc L st M' N', (pc = 8 ∧ st = [] ∧ N' = N ∧ L = [some (.ref 67), none] ∧ bv_gr M M' ∧ M' 67 12 = 0 ∧ ∃ q, q ≤ n ∧ v = n - q ∧ M' 67 14 = nI q ∧ bv_r z n bv_c0 q = a) → P pc L st M' N' := by
        refine bt_loopP rfl hP 60 [8, 34] (fun v pc L st M' N' => (pc = 8 ∧ st = [] ∧ N' = N ∧ L = [some (.ref 67), none] ∧ bv_gr M M' ∧ M' 67 12 = 0 ∧ ∃ q, q ≤ n ∧ v = n - q ∧ M' 67 14 = nI q ∧ bv_r z n bv_c0 q = a)) ?_
        rintro v pc L st M' N' ⟨rfl, rfl, hN, rfl, g, k12, q, hq, rfl, k14, hrq⟩
        subst hN
        refine ⟨z, n, q, rfl, bv_mT_gr hT g, k14, by omega, ?_⟩
        have hzq := hz q
        have hC : ((if q < n then nI (z q) else (-4 : Int32)) = 32) ↔ (q < n ∧ bv_c0 (z q) = true) := by
          rw [bv_c0_i]
          by_cases c : q < n
          · rw [if_pos c, show (32 : Int32) = nI 32 from rfl, nI_eq (by omega) (by omega)]
            exact ⟨fun h => ⟨c, h⟩, fun h => h.2⟩
          · rw [if_neg c]
            exact ⟨fun h => absurd h (by decide), fun h => absurd h.1 c⟩
        refine ⟨fun y1 => ?_, fun y1 => ?_⟩
        · rw [hC] at y1
          exact Or.inr (rest M' N' none rfl g k12 (by rw [k14, ← hrq, bv_r_n y1]))
        · rw [hC] at y1
          intro M1 e1
          obtain ⟨u1, u2, u3⟩ := bv_up e1
          refine Or.inl ⟨n - (q + 1), by omega, rfl, rfl, rfl, rfl, bv_gr_up g e1 (by omega), ?_, q + 1, by omega, rfl, ?_, ?_⟩
          · rw [u3 12 (by omega)]; exact k12
          · rw [u2, k14, nI_1]
          · rw [← bv_r_y y1.1 y1.2]; exact hrq
      refine bt_go rfl hP 60 [8] P (fun _ _ _ _ _ h => h) ?_
      refine ⟨fun _ => ?_, fun y => ?_⟩
      · exact loopA _ _ _ _ _ _ ⟨rfl, rfl, rfl, rfl, bv_gr_rf, h12, p, hp, rfl, h14, hA⟩
      · rw [h12] at y
        exact absurd (by decide) y
  · exact False.elim h
