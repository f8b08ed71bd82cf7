/-! THE LAW'S ENTRY: what is known -/
def bw_tm (i : Nat) : Term := .string (bt_at bt_strs i ("", 0, "")).1 (bt_at bt_strs i ("", 0, "")).2.1
theorem bw_at_g {α : Type} : ∀ (l : List α) (j : Nat) (x d : α), l[j]? = some x → bt_at l j d = x ∧ j < l.length
  | [], _, _, _, h => by cases h
  | a :: t, 0, x, d, h => by
    cases h
    exact ⟨rfl, Nat.zero_lt_succ _⟩
  | a :: t, j + 1, x, d, h => by
    obtain ⟨h1, h2⟩ := bw_at_g t j x d h
    exact ⟨h1, Nat.succ_lt_succ h2⟩
theorem bw_OF_u {o n d : String} {v w : Value} {t : Nat} {A : Nat → Prop} {U : State} {H : Heap} (h1 : va_OF o n d v t A U H) (h2 : va_OF o n d w t A U H) : v = w := by
  obtain ⟨cf, k, i, f, cell, a1, a2, a3, a4, a5, a6⟩ := h1
  obtain ⟨cf', k', i', f', cell', b1, b2, b3, b4, b5, b6⟩ := h2
  have e1 := Option.some.inj (a1.symm.trans b1)
  obtain ⟨rfl, rfl, rfl, rfl⟩ : cf = cf' ∧ k = k' ∧ i = i' ∧ f = f' := by simpa using e1
  have e2 := Option.some.inj (a3.symm.trans b3)
  subst e2
  exact Option.some.inj (a5.symm.trans b5)
theorem bw_T_u {ty : FieldType} {t N N' : Nat} {f g : Nat → Int32} {A : Nat → Prop} {U : State} {H : Heap} (h1 : va_T ty t N (fun j => .int (f j)) A U H) (h2 : va_T ty t N' (fun j => .int (g j)) A U H) (hN : N < 2 ^ 31) (hN' : N' < 2 ^ 31) : N = N' ∧ ∀ j, j < N → f j = g j := by
  obtain ⟨cell, a1, a2, a3, a4, a5, a6, a7⟩ := h1
  obtain ⟨cell', b1, b2, b3, b4, b5, b6, b7⟩ := h2
  have e2 := Option.some.inj (a1.symm.trans b1)
  subst e2
  have e3 : N = N' := by
    have h := congrArg Int32.toNatClampNeg (show nI N = nI N' from a5.symm.trans b5)
    rwa [nI_clamp hN, nI_clamp hN'] at h
  subst e3
  refine ⟨rfl, fun j hj => ?_⟩
  have e4 := Option.some.inj ((a6 j hj).symm.trans (b6 j hj))
  injection e4
theorem bw_sdis : ∀ i, i < 12 → ∀ j, j < 12 → bt_sl.getD i 0 = bt_sl.getD j 0 → (∀ k, k < bt_sl.getD i 0 → (bt_sb.getD i []).getD k 0 = (bt_sb.getD j []).getD k 0) → i = j := by decide +kernel
theorem bw_smal : ∀ i, i < 12 → bt_sl.getD i 0 < 2 ^ 31 := by decide +kernel
set_option maxRecDepth 100000 in
theorem bw_fl1 : ∀ i, i < 12 → (Cond.exactly (bw_tm i) "java/lang/String") ∈ flatC (Jvm.Cond.and given_1 narrow_1) := by decide +kernel
set_option maxRecDepth 100000 in
theorem bw_fl2 : ∀ i, i < 12 → (Cond.eq (.field (bw_tm i) "java/lang/String" "coder" "B") (.int 0)) ∈ flatC (Jvm.Cond.and given_1 narrow_1) := by decide +kernel
set_option maxRecDepth 100000 in
theorem bw_fl3 : ∀ i, i < 12 → (Cond.arrayOf (.field (bw_tm i) "java/lang/String" "value" "[B") .byte) ∈ flatC (Jvm.Cond.and given_1 narrow_1) := by decide +kernel
set_option maxRecDepth 100000 in
theorem bw_fl4 : ∀ i, i < 12 → (Cond.eq (.length (.field (bw_tm i) "java/lang/String" "value" "[B")) (.int (Int32.ofNat (bt_sl.getD i 0)))) ∈ flatC (Jvm.Cond.and given_1 narrow_1) := by decide +kernel
set_option maxRecDepth 100000 in
theorem bw_fl5 : ∀ i, i < 12 → ∀ j, j < bt_sl.getD i 0 → (Cond.eq (.elem (.field (bw_tm i) "java/lang/String" "value" "[B") (.int (Int32.ofNat j))) (.int ((bt_sb.getD i []).getD j 0))) ∈ flatC (Jvm.Cond.and given_1 narrow_1) := by decide +kernel
theorem bw_strs {args : Array Value} {s : State} {A : Nat → Prop} (hgv : (Jvm.Cond.and given_1 narrow_1).before args s = true) (hA : ∀ a : Nat, a < s.heap.size → ¬ A a) : ∃ adK adV : Nat → Nat, vk_S 12 bt_sl bt_sb adK adV A s s.heap ∧ ∀ i : Nat, i < 12 → (bw_tm i).eval args s none [] s = some (.ref (adK i)) := by
  have hs := flat_of_before _ hgv
  have h1 : ∀ i : Nat, ∃ q : Nat × Nat, i < 12 → (bw_tm i).eval args s none [] s = some (.ref q.1) ∧ va_O "java/lang/String" q.1 A s s.heap ∧ va_OF "java/lang/String" "coder" "B" (.int 0) q.1 A s s.heap ∧ va_OF "java/lang/String" "value" "[B" (.ref q.2) q.1 A s s.heap ∧ va_T .byte q.2 (bt_sl.getD i 0) (fun j => .int ((bt_sb.getD i []).getD j 0)) A s s.heap := by
    intro i
    by_cases hi : i < 12
    · obtain ⟨adK, adV, hv, he⟩ := vk_Sof (N := 1) (tm := fun _ => bw_tm i) (len := [bt_sl.getD i 0]) (byt := [bt_sb.getD i []]) (fun k hk => by rw [show k = 0 by omega]; exact bw_smal i hi) (fun k hk => hs _ (bw_fl1 i hi)) (fun k hk => hs _ (bw_fl2 i hi)) (fun k hk => hs _ (bw_fl3 i hi)) (fun k hk => hs _ (by rw [show k = 0 by omega]; exact bw_fl4 i hi)) (fun k hk j hj => hs _ (by
        obtain rfl : k = 0 := by omega
        exact bw_fl5 i hi j hj)) (fun a b ha hb hab => absurd (show a = b by omega) hab) hA
      obtain ⟨g1, g2, g3, g4⟩ := hv.1 0 (by omega)
      exact ⟨(adK 0, adV 0), fun _ => ⟨he 0 (by omega), g1, g2, g3, g4⟩⟩
    · exact ⟨(0, 0), fun h => absurd h hi⟩
  obtain ⟨f, hf⟩ := Classical.skolem.mp h1
  refine ⟨fun i => (f i).1, fun i => (f i).2, ⟨fun i hi => (hf i hi).2, fun i j hi hj he => ?_⟩, fun i hi => (hf i hi).1⟩
  obtain ⟨-, -, -, a1, a2⟩ := hf i hi
  obtain ⟨-, -, -, b1, b2⟩ := hf j hj
  dsimp only at he
  rw [← he] at b1
  have e1 := bw_OF_u a1 b1
  injection e1 with e1
  rw [← e1] at b2
  obtain ⟨e2, e3⟩ := bw_T_u a2 b2 (bw_smal i hi) (bw_smal j hj)
  exact bw_sdis i hi j hj e2 e3
theorem bw_arrK {args : Array Value} {s : State} {ty : FieldType} (h : (Cond.arrayClass ty).before args s = true) (hty : ∀ C, ty ≠ .object C) : ∃ cA, ArrOfT s cA ty ∧ va_RA s cA ty := by
  obtain ⟨cA, kA, comp, h1, h2, h3⟩ := Cond.arrayClass_spec h
  refine ⟨cA, fun n z => ⟨fun k h => (by cases h), kA, h2, comp, h3⟩, ?_⟩
  cases ty with
  | object C => exact absurd rfl (hty C)
  | _ => exact h1
theorem bw_ovrK {args : Array Value} {s : State} {C : String} (h : (Cond.arrayOver (.object C)).before args s = true) : ∃ cA, ArrOfT s cA (.object C) ∧ va_RA s cA (.object C) := by
  obtain ⟨comp, cA, kA, h1, h2, h3, h4, h5⟩ := Cond.arrayOver_spec h
  exact ⟨cA, fun n z => ⟨fun k h => (by cases h), kA, h3, comp, h4⟩, kA, comp, h3, h4, h1, h5⟩
theorem bw_tW {w : Cond} (i : Nat) (h : tables_1[i]? = some w) : w ∈ lw_tbl := List.mem_append_right _ (List.mem_of_getElem? h)
