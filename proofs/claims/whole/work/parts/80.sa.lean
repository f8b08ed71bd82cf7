/-! THE JDK'S TEXTS: length and charAt of the class's words -/
theorem bw_T {w : Cond} (i : Nat) (h : tables_1[i]? = some w) (hg : goodWord w = true) : w ∈ bt_big := bt_bigM (List.mem_append_right _ (List.mem_of_getElem? h)) hg
abbrev bw_rm (f k : Nat) : Room := { frames := f, cells := 0, slots := 0, locals := k }
def bw_Pc (y : bt_Y) (As : List Value) (t n : Nat) (f : Nat → Int32) (M : bt_M) (N : bt_N) : Array Value → State → Prop := match y with
  | (dC, dI, ca, ad, fa, base) => va_Pc As (fun U => (bt_Kn (dC, dI, ca, ad, fa, base) U U.heap ∧ va_T .byte t n (fun j => .int (f j)) (fun q => base ≤ q) U U.heap) ∧ base ≤ U.heap.size ∧ va_P (dC, dI) bt_cl (bt_ws ca ad M N) U.heap)
theorem bw_blind (y : bt_Y) (As : List Value) (t n : Nat) (f : Nat → Int32) (M : bt_M) (N : bt_N) : FrameBlind (bw_Pc y As t n f M N) := by
  obtain ⟨dC, dI, ca, ad, fa, base⟩ := y
  intro a U g mk h
  obtain ⟨h1, ⟨h2, h5⟩, h3, h4⟩ := h
  exact ⟨h1, ⟨bt_Kn_same (s := U) rfl h2, va_T.moved (u := U) (Vm.Alike.refl U.vm) h5⟩, h3, h4⟩
theorem bw_prec {dC : Nat → ClassId} {dI : Nat → Nat → Nat} {ca : Nat → ClassId} {ad fa : Nat → Nat} {base : Nat} {s U : State} {H : Heap} {locs : List Loc} {As : List Value} {t n : Nat} {f : Nat → Int32} {M : bt_M} {N : bt_N} (hKn : bt_Kn (dC, dI, ca, ad, fa, base) s s.heap) (hT : va_T .byte t n (fun j => .int (f j)) (fun q => base ≤ q) s s.heap) (hbs : base ≤ s.heap.size) (hP : va_P (dC, dI) bt_cl (bt_ws ca ad M N) H) (hS : va_S (fun q => base ≤ q) s.heap H locs) (hU : U.heap = H) (hW : s.WarmedH U.vm) : bw_Pc (dC, dI, ca, ad, fa, base) As t n f M N As.toArray U := by
  refine ⟨rfl, ⟨bt_Kn_warm hW (bt_Kn_kept hKn ?_), va_T.moved hW.alike (hT.kept ?_)⟩, ?_, ?_⟩
  · intro a h1 h2
    rw [hU]
    exact hS.2.1 a h1 h2
  · intro a h1 h2
    rw [hU]
    exact hS.2.1 a h1 h2
  · rw [hU]
    exact Nat.le_trans hbs hS.1
  · rw [hU]
    exact hP
/-- behind a call, with any locals -/
theorem bw_back {p : Program} {l : Launch} {e : Env} {R : Room} {s : State} {m : MethodId} {args : Array Value} {below : List Frame} {meth : Method} {c : Code} {cells slots : Nat} {Q : State → Prop} {dC : Nat → ClassId} {dI : Nat → Nat → Nat} {ca : Nat → ClassId} {ad fa : Nat → Nat} {base pc : Nat} {Rt : bt_R} {H : Heap} {locs : List Loc} {ls : Array Slot} {st0 rest : List Value} {a : Array Value}
    (hk : ∀ v M' N' H1 locs1, Rt v M' N' → va_P (dC, dI) bt_cl (bt_ws ca ad M' N') H1 → va_S (fun q => base ≤ q) s.heap H1 locs1 → W p l e R s m args below meth c H1 locs1 cells slots Q (F0 m (pc + 3) ls (match v with | none => rest | some v => bt_tr ad fa v :: rest))) (hS : va_S (fun q => base ≤ q) s.heap H locs)
    (run : va_Run p l e R s m args below meth c H locs cells slots 0 0 (F0 m pc ls st0) rest (bt_Qc (dC, dI, ca, ad, fa, base) Rt a) (fun q => base ≤ q)) : W p l e R s m args below meth c H locs cells slots Q (F0 m pc ls st0) := by
  intro T hT X
  obtain ⟨v, st₀, t, T', L', h0, X', hL, e1, e2, ⟨⟨v', M', N', hv, hk', hP'⟩, hz, hkk⟩, st⟩ := run T hT X
  cases hv
  rw [h0] at hz hkk
  have hS' : va_S (fun q => base ≤ q) s.heap T'.heap (locs ++ L') := ⟨Nat.le_trans hS.1 (by rw [e1]; exact hz), fun q h1 h2 => by rw [e1, hkk q (Nat.lt_of_lt_of_le h1 hS.1) h2]; exact hS.2.1 q h1 h2, fun q hq => by
      rcases List.mem_append.mp hq with h | h
      · exact hS.2.2 q h
      · exact hL q h⟩
  have hP2 : va_P (dC, dI) bt_cl (bt_ws ca ad M' N') T'.heap := by rw [e1]; exact hP'
  cases v' with
  | none =>
    obtain ⟨t2, a1, b1⟩ := hk none M' N' T'.heap (locs ++ L') hk' hP2 hS' T' rfl X'
    exact ⟨t2, st t2 a1, b1⟩
  | some v =>
    obtain ⟨t2, a1, b1⟩ := hk (some v) M' N' T'.heap (locs ++ L') hk' hP2 hS' T' rfl X'
    exact ⟨t2, st t2 a1, b1⟩
abbrev bw_at (M : bt_M) (N : bt_N) (r : Option Value) : bt_R := fun v M' N' => v = r ∧ M' = M ∧ N' = N
/-- Preconditions.checkIndex, an index that is good -/
theorem bw_ci3 (l : Launch) (y : bt_Y) (i n : Nat) (q t tn : Nat) (f : Nat → Int32) (M : bt_M) (N : bt_N) (hin : i < n) (hn : n < 2 ^ 31) : Met l yJ3_checkIndex_8e157 (.code yJ3_checkIndex_8e157 cJ3_checkIndex_8e157 3 (some .int) :: bt_big) (bw_rm 0 0) (bw_Pc y [.int (nI i), .int (nI n), .ref q] t tn f M N) (bt_Qc y (bw_at M N (some (.int (nI i))))) 0 0 (bt_yA y) := by
  refine Met.ofW (cc := cJ3_checkIndex_8e157) (maxL := 3) (ret := some .int) (by decide) rfl ?_
  intro p e s m args below meth c s₁ B hml hv
  obtain ⟨dC, dI, ca, ad, fa, base⟩ := y
  obtain ⟨rfl, ⟨hKn, hTb⟩, hbs, hP⟩ := hv
  have hx := B.exec
  have hb := B.bytes
  have hr := B.returns
  have hlocks := B.notSynchronized
  have hl := lv_entry ([.int (nI i), .int (nI n), .ref q] : List Value) (n := 3) (Nat.le_of_ble_eq_true rfl)
  rw [lg_entry_eq]
  generalize (lg_sl ([.int (nI i), .int (nI n), .ref q] : List Value) ++ List.replicate (3 - (lg_sl ([.int (nI i), .int (nI n), .ref q] : List Value)).length) Slot.unset).toArray = ls at hl ⊢
  have hl : lv_has ls 3 [(0, .int (nI i)), (1, .int (nI n)), (2, .ref q)] := hl
  have hS : va_S (fun q => base ≤ q) s.heap s.heap [] := va_S.rf
  refine lv_iload_n hx hb (show decode cJ3_checkIndex_8e157 0 = .ok (.iload_n 0, 1) by decide +kernel) rfl (lv_at hl 0 rfl) ?_
  refine lv_if_lt (tgt := 9) hx hb (show decode cJ3_checkIndex_8e157 1 = .ok (.ifCond .lt 8, 3) by decide +kernel) (by decide) (fun c1 => absurd c1 (nI_pos (by omega))) (fun _ => ?_)
  refine lv_iload_n hx hb (show decode cJ3_checkIndex_8e157 4 = .ok (.iload_n 0, 1) by decide +kernel) rfl (lv_at hl 0 rfl) ?_
  refine lv_iload_n hx hb (show decode cJ3_checkIndex_8e157 5 = .ok (.iload_n 1, 1) by decide +kernel) rfl (lv_at hl 1 rfl) ?_
  refine lv_icmp_lt (tgt := 16) hx hb (show decode cJ3_checkIndex_8e157 6 = .ok (.if_icmp .lt 10, 3) by decide +kernel) (by decide) (fun _ => ?_) (fun c1 => absurd ((nI_ltI (by omega) hn).mpr hin) c1)
  refine lv_iload_n hx hb (show decode cJ3_checkIndex_8e157 16 = .ok (.iload_n 0, 1) by decide +kernel) rfl (lv_at hl 0 rfl) ?_
  exact W.iret hx hb hr (fun t ht hw => ⟨⟨some (.int (nI i)), M, N, rfl, ⟨rfl, rfl, rfl⟩, by rw [ht]; exact hP⟩, hS.F ht⟩) (fun q hq => hS.2.2 q hq) (show decode cJ3_checkIndex_8e157 17 = .ok (.ireturn, 1) by decide +kernel) hlocks
/-- the same, with no formatter -/
theorem bw_ci3n (l : Launch) (y : bt_Y) (i n : Nat) (t tn : Nat) (f : Nat → Int32) (M : bt_M) (N : bt_N) (hin : i < n) (hn : n < 2 ^ 31) : Met l yJ3_checkIndex_8e157 (.code yJ3_checkIndex_8e157 cJ3_checkIndex_8e157 3 (some .int) :: bt_big) (bw_rm 0 0) (bw_Pc y [.int (nI i), .int (nI n), .null] t tn f M N) (bt_Qc y (bw_at M N (some (.int (nI i))))) 0 0 (bt_yA y) := by
  refine Met.ofW (cc := cJ3_checkIndex_8e157) (maxL := 3) (ret := some .int) (by decide) rfl ?_
  intro p e s m args below meth c s₁ B hml hv
  obtain ⟨dC, dI, ca, ad, fa, base⟩ := y
  obtain ⟨rfl, ⟨hKn, hTb⟩, hbs, hP⟩ := hv
  have hx := B.exec
  have hb := B.bytes
  have hr := B.returns
  have hlocks := B.notSynchronized
  have hl := lv_entry ([.int (nI i), .int (nI n), .null] : List Value) (n := 3) (Nat.le_of_ble_eq_true rfl)
  rw [lg_entry_eq]
  generalize (lg_sl ([.int (nI i), .int (nI n), .null] : List Value) ++ List.replicate (3 - (lg_sl ([.int (nI i), .int (nI n), .null] : List Value)).length) Slot.unset).toArray = ls at hl ⊢
  have hl : lv_has ls 3 [(0, .int (nI i)), (1, .int (nI n)), (2, .null)] := hl
  have hS : va_S (fun q => base ≤ q) s.heap s.heap [] := va_S.rf
  refine lv_iload_n hx hb (show decode cJ3_checkIndex_8e157 0 = .ok (.iload_n 0, 1) by decide +kernel) rfl (lv_at hl 0 rfl) ?_
  refine lv_if_lt (tgt := 9) hx hb (show decode cJ3_checkIndex_8e157 1 = .ok (.ifCond .lt 8, 3) by decide +kernel) (by decide) (fun c1 => absurd c1 (nI_pos (by omega))) (fun _ => ?_)
  refine lv_iload_n hx hb (show decode cJ3_checkIndex_8e157 4 = .ok (.iload_n 0, 1) by decide +kernel) rfl (lv_at hl 0 rfl) ?_
  refine lv_iload_n hx hb (show decode cJ3_checkIndex_8e157 5 = .ok (.iload_n 1, 1) by decide +kernel) rfl (lv_at hl 1 rfl) ?_
  refine lv_icmp_lt (tgt := 16) hx hb (show decode cJ3_checkIndex_8e157 6 = .ok (.if_icmp .lt 10, 3) by decide +kernel) (by decide) (fun _ => ?_) (fun c1 => absurd ((nI_ltI (by omega) hn).mpr hin) c1)
  refine lv_iload_n hx hb (show decode cJ3_checkIndex_8e157 16 = .ok (.iload_n 0, 1) by decide +kernel) rfl (lv_at hl 0 rfl) ?_
  exact W.iret hx hb hr (fun t ht hw => ⟨⟨some (.int (nI i)), M, N, rfl, ⟨rfl, rfl, rfl⟩, by rw [ht]; exact hP⟩, hS.F ht⟩) (fun q hq => hS.2.2 q hq) (show decode cJ3_checkIndex_8e157 17 = .ok (.ireturn, 1) by decide +kernel) hlocks
/-- String.checkIndex -/
theorem bw_ci2 (l : Launch) (y : bt_Y) (i n : Nat) (t tn : Nat) (f : Nat → Int32) (M : bt_M) (N : bt_N) (hin : i < n) (hn : n < 2 ^ 31) : Met l yJ0_checkIndex_df160 (.code yJ0_checkIndex_df160 cJ0_checkIndex_df160 2 none :: bt_big) (bw_rm 1 22) (bw_Pc y [.int (nI i), .int (nI n)] t tn f M N) (bt_Qc y (bw_at M N none)) 0 0 (bt_yA y) := by
  refine Met.ofW (cc := cJ0_checkIndex_df160) (maxL := 2) (ret := none) (by decide) rfl ?_
  intro p e s m args below meth c s₁ B hml hv
  obtain ⟨dC, dI, ca, ad, fa, base⟩ := y
  obtain ⟨rfl, ⟨hKn, hTb⟩, hbs, hP⟩ := hv
  obtain ⟨hK, hnst, hstr, hvk, hvz, fq, hfq⟩ := id hKn
  have hx := B.exec
  have hb := B.bytes
  have hr := B.returns
  have hlocks := B.notSynchronized
  have hts0 := atoms_spec (ws := Cond.code yJ0_checkIndex_df160 cJ0_checkIndex_df160 2 none :: bt_big) B.pre
  have hts : ∀ w ∈ bt_big, w.before _ s = true := fun w hw => hts0 w (List.mem_cons_of_mem _ hw)
  have hown : s.vm.findClass RJ0 = some m.cls := findClass_of_methodNamed B.named
  have hl := lv_entry ([.int (nI i), .int (nI n)] : List Value) (n := 2) (Nat.le_of_ble_eq_true rfl)
  rw [lg_entry_eq]
  generalize (lg_sl ([.int (nI i), .int (nI n)] : List Value) ++ List.replicate (2 - (lg_sl ([.int (nI i), .int (nI n)] : List Value)).length) Slot.unset).toArray = ls at hl ⊢
  have hl : lv_has ls 2 [(0, .int (nI i)), (1, .int (nI n))] := hl
  have hS : va_S (fun q => base ≤ q) s.heap s.heap [] := va_S.rf
  refine lv_iload_n hx hb (show decode cJ0_checkIndex_df160 0 = .ok (.iload_n 0, 1) by decide +kernel) rfl (lv_at hl 0 rfl) ?_
  refine lv_iload_n hx hb (show decode cJ0_checkIndex_df160 1 = .ok (.iload_n 1, 1) by decide +kernel) rfl (lv_at hl 1 rfl) ?_
  refine va_gets hx hb hfq hS hown (hts _ (bw_T 383 (by decide +kernel) (by decide +kernel))) (fun _ h => h) (show decode cJ0_checkIndex_df160 2 = .ok (.getstatic 1053, 3) by decide +kernel) ?_
  cases fq with
  | none =>
    refine bw_back (Rt := bw_at M N (some (.int (nI i)))) (rest := []) ?_ hS (va_runS (As := [.int (nI i), .int (nI n), .null]) ⟨hx, hb, hml, hown, hts⟩ (bw_ci3n l (dC, dI, ca, ad, fa, base) i n t tn f M N hin hn) ⟨callB_of 3 hts (bt_good (bw_T 387 (by decide +kernel) (by decide +kernel))) rfl rfl rfl (hts _ (bw_T 10 (by decide +kernel) (by decide +kernel))) (hts _ (bw_T 385 (by decide +kernel) (by decide +kernel))) (by decide +kernel) (by decide), hts _ (bw_T 386 (by decide +kernel) (by decide +kernel))⟩ ⟨bw_blind _ _ _ _ _ _ _, fun U hU hW => bw_prec hKn hTb hbs hP hS hU hW⟩ rfl rfl hl.1 rfl (lv_room (Nat.le_of_ble_eq_true rfl)) (show decode cJ0_checkIndex_df160 5 = .ok (.invokestatic 1059, 3) by decide +kernel) ⟨Nat.zero_le _, Nat.zero_le _⟩)
    rintro v M' N' H1 locs1 ⟨rfl, rfl, rfl⟩ hP1 hS1
    refine lv_pop hx hb (show decode cJ0_checkIndex_df160 8 = .ok (.pop, 1) by decide +kernel) rfl ?_
    exact W.vret hx hb hr (fun t ht hw => ⟨⟨none, M', N', rfl, ⟨rfl, rfl, rfl⟩, by rw [ht]; exact hP1⟩, hS1.F ht⟩) (fun q hq => hS1.2.2 q hq) (show decode cJ0_checkIndex_df160 9 = .ok (.return_, 1) by decide +kernel) hlocks
  | some fq =>
    refine bw_back (Rt := bw_at M N (some (.int (nI i)))) (rest := []) ?_ hS (va_runS (As := [.int (nI i), .int (nI n), .ref fq]) ⟨hx, hb, hml, hown, hts⟩ (bw_ci3 l (dC, dI, ca, ad, fa, base) i n fq t tn f M N hin hn) ⟨callB_of 3 hts (bt_good (bw_T 387 (by decide +kernel) (by decide +kernel))) rfl rfl rfl (hts _ (bw_T 10 (by decide +kernel) (by decide +kernel))) (hts _ (bw_T 385 (by decide +kernel) (by decide +kernel))) (by decide +kernel) (by decide), hts _ (bw_T 386 (by decide +kernel) (by decide +kernel))⟩ ⟨bw_blind _ _ _ _ _ _ _, fun U hU hW => bw_prec hKn hTb hbs hP hS hU hW⟩ rfl rfl hl.1 rfl (lv_room (Nat.le_of_ble_eq_true rfl)) (show decode cJ0_checkIndex_df160 5 = .ok (.invokestatic 1059, 3) by decide +kernel) ⟨Nat.zero_le _, Nat.zero_le _⟩)
    rintro v M' N' H1 locs1 ⟨rfl, rfl, rfl⟩ hP1 hS1
    refine lv_pop hx hb (show decode cJ0_checkIndex_df160 8 = .ok (.pop, 1) by decide +kernel) rfl ?_
    exact W.vret hx hb hr (fun t ht hw => ⟨⟨none, M', N', rfl, ⟨rfl, rfl, rfl⟩, by rw [ht]; exact hP1⟩, hS1.F ht⟩) (fun q hq => hS1.2.2 q hq) (show decode cJ0_checkIndex_df160 9 = .ok (.return_, 1) by decide +kernel) hlocks
