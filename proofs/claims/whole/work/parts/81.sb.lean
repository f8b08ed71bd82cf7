/-! THE JDK'S TEXTS: the rest -/
theorem bw_and : ∀ v, v < 128 → (((nI v &&& 255 : Int32)).toUInt32 % 65536).toInt32 = nI v := by decide +kernel
theorem bw_nar : ∀ v, v < 128 → narrow .char (.int (nI v)) = .int (nI v) := by decide +kernel
/-- StringLatin1.charAt -/
theorem bw_lc (l : Launch) (y : bt_Y) (i n : Nat) (t v : Nat) (f : Nat → Int32) (M : bt_M) (N : bt_N) (hin : i < n) (hn : n < 2 ^ 31) (hv : v < 128) (hf : f i = nI v) : Met l yJ1_charAt_3b067 (.code yJ1_charAt_3b067 cJ1_charAt_3b067 2 (some .char) :: bt_big) (bw_rm 2 43) (bw_Pc y [.ref t, .int (nI i)] t n f M N) (bt_Qc y (bw_at M N (some (.int (nI v))))) 0 0 (bt_yA y) := by
  refine Met.ofW (cc := cJ1_charAt_3b067) (maxL := 2) (ret := some .char) (by decide) rfl ?_
  intro p e s m args below meth c s₁ B hml hv0
  obtain ⟨dC, dI, ca, ad, fa, base⟩ := y
  obtain ⟨rfl, ⟨hKn, hTb⟩, hbs, hP⟩ := hv0
  have hx := B.exec
  have hb := B.bytes
  have hr := B.returns
  have hlocks := B.notSynchronized
  have hts0 := atoms_spec (ws := Cond.code yJ1_charAt_3b067 cJ1_charAt_3b067 2 (some .char) :: bt_big) B.pre
  have hts : ∀ w ∈ bt_big, w.before _ s = true := fun w hw => hts0 w (List.mem_cons_of_mem _ hw)
  have hown : s.vm.findClass RJ1 = some m.cls := findClass_of_methodNamed B.named
  have hl := lv_entry ([.ref t, .int (nI i)] : List Value) (n := 2) (Nat.le_of_ble_eq_true rfl)
  rw [lg_entry_eq]
  generalize (lg_sl ([.ref t, .int (nI i)] : List Value) ++ List.replicate (2 - (lg_sl ([.ref t, .int (nI i)] : List Value)).length) Slot.unset).toArray = ls at hl ⊢
  have hl : lv_has ls 2 [(0, .ref t), (1, .int (nI i))] := hl
  have hS : va_S (fun q => base ≤ q) s.heap s.heap [] := va_S.rf
  refine lv_iload_n hx hb (show decode cJ1_charAt_3b067 0 = .ok (.iload_n 1, 1) by decide +kernel) rfl (lv_at hl 1 rfl) ?_
  refine lv_aload_n hx hb (show decode cJ1_charAt_3b067 1 = .ok (.aload_n 0, 1) by decide +kernel) rfl (lv_at hl 0 rfl) ?_
  refine va_tlen hx hb hTb hS (v := nI n) rfl (show decode cJ1_charAt_3b067 2 = .ok (.arraylength, 1) by decide +kernel) ?_
  refine bw_back (Rt := bw_at M N none) (rest := []) ?_ hS (va_runS (As := [.int (nI i), .int (nI n)]) ⟨hx, hb, hml, hown, hts⟩ (bw_ci2 l (dC, dI, ca, ad, fa, base) i n t n f M N hin hn) ⟨callB_of 2 hts (bt_good (bw_T 382 (by decide +kernel) (by decide +kernel))) rfl rfl rfl (hts _ (bw_T 8 (by decide +kernel) (by decide +kernel))) (hts _ (bw_T 380 (by decide +kernel) (by decide +kernel))) (by decide +kernel) (by decide), hts _ (bw_T 381 (by decide +kernel) (by decide +kernel))⟩ ⟨bw_blind _ _ _ _ _ _ _, fun U hU hW => bw_prec hKn hTb hbs hP hS hU hW⟩ rfl rfl hl.1 rfl (lv_room (Nat.le_of_ble_eq_true rfl)) (show decode cJ1_charAt_3b067 3 = .ok (.invokestatic 9, 3) by decide +kernel) ⟨Nat.zero_le _, Nat.zero_le _⟩)
  rintro v' M' N' H1 locs1 ⟨rfl, rfl, rfl⟩ hP1 hS1
  have hix := bt_nIix (i := nI i) rfl hin hn
  refine lv_aload_n hx hb (show decode cJ1_charAt_3b067 6 = .ok (.aload_n 0, 1) by decide +kernel) rfl (lv_at hl 0 rfl) ?_
  refine lv_iload_n hx hb (show decode cJ1_charAt_3b067 7 = .ok (.iload_n 1, 1) by decide +kernel) rfl (lv_at hl 1 rfl) ?_
  refine va_tb hx hb hTb hS1 hix.1 (v := .int (nI v)) (by rw [hix.2, hf]) (show decode cJ1_charAt_3b067 8 = .ok (.baload, 1) by decide +kernel) ?_
  refine lv_sipush (v := 255) hx hb (show decode cJ1_charAt_3b067 9 = .ok (.sipush 255, 3) by decide +kernel) (by decide) ?_
  refine lv_iand hx hb (show decode cJ1_charAt_3b067 12 = .ok (.iand, 1) by decide +kernel) ?_
  refine lv_i2c (v := nI v) hx hb (show decode cJ1_charAt_3b067 13 = .ok (.i2c, 1) by decide +kernel) (bw_and v hv) ?_
  exact W.zret (ty := .char) hx hb hr (bw_nar v hv) (fun t ht hw => ⟨⟨some (.int (nI v)), M', N', rfl, ⟨rfl, rfl, rfl⟩, by rw [ht]; exact hP1⟩, hS1.F ht⟩) (fun q hq => hS1.2.2 q hq) (show decode cJ1_charAt_3b067 14 = .ok (.ireturn, 1) by decide +kernel) hlocks
/-- isLatin1 of a word -/
theorem bw_il (l : Launch) (y : bt_Y) (j t tn : Nat) (f : Nat → Int32) (M : bt_M) (N : bt_N) (hj : j < 12) : Met l yJ0_isLatin1_aae02 (.code yJ0_isLatin1_aae02 cJ0_isLatin1_aae02 1 (some .boolean) :: bt_big) (bw_rm 0 0) (bw_Pc y [.ref (y.2.2.2.2.1 (j + 1))] t tn f M N) (bt_Qc y (bw_at M N (some (.int 1)))) 0 0 (bt_yA y) := by
  refine Met.ofW (cc := cJ0_isLatin1_aae02) (maxL := 1) (ret := some .boolean) (by decide) rfl ?_
  intro p e s m args below meth c s₁ B hml hv0
  obtain ⟨dC, dI, ca, ad, fa, base⟩ := y
  obtain ⟨rfl, ⟨hKn, hTb⟩, hbs, hP⟩ := hv0
  obtain ⟨hK, hnst, hstr, ⟨adV, hvk⟩, hvz, fq, hfq⟩ := id hKn
  have hx := B.exec
  have hb := B.bytes
  have hr := B.returns
  have hlocks := B.notSynchronized
  have hts0 := atoms_spec (ws := Cond.code yJ0_isLatin1_aae02 cJ0_isLatin1_aae02 1 (some .boolean) :: bt_big) B.pre
  have hts : ∀ w ∈ bt_big, w.before _ s = true := fun w hw => hts0 w (List.mem_cons_of_mem _ hw)
  have hown : s.vm.findClass RJ0 = some m.cls := findClass_of_methodNamed B.named
  have hl := lv_entry ([.ref (fa (j + 1))] : List Value) (n := 1) (Nat.le_of_ble_eq_true rfl)
  rw [lg_entry_eq]
  dsimp only
  generalize (lg_sl ([.ref (fa (j + 1))] : List Value) ++ List.replicate (1 - (lg_sl ([.ref (fa (j + 1))] : List Value)).length) Slot.unset).toArray = ls at hl ⊢
  have hl : lv_has ls 1 [(0, .ref (fa (j + 1)))] := hl
  have hS : va_S (fun q => base ≤ q) s.heap s.heap [] := va_S.rf
  refine va_gets hx hb hvz hS hown (hts _ (bw_T 367 (by decide +kernel) (by decide +kernel))) (fun _ h => h) (show decode cJ0_isLatin1_aae02 0 = .ok (.getstatic 38, 3) by decide +kernel) ?_
  refine lv_if_eq (tgt := 17) hx hb (show decode cJ0_isLatin1_aae02 3 = .ok (.ifCond .eq 14, 3) by decide +kernel) (by decide) (fun c1 => absurd c1 (by decide)) (fun _ => ?_)
  refine lv_aload_n hx hb (show decode cJ0_isLatin1_aae02 6 = .ok (.aload_n 0, 1) by decide +kernel) rfl (lv_at hl 0 rfl) ?_
  refine vk_getf hx hb (hvk.1 j hj).2.1 hS hown (hts _ (bw_T 1232 (by decide +kernel) (by decide +kernel))) (fun _ h => h) (show decode cJ0_isLatin1_aae02 7 = .ok (.getfield 15, 3) by decide +kernel) ?_
  refine lv_if_ne (tgt := 17) hx hb (show decode cJ0_isLatin1_aae02 10 = .ok (.ifCond .ne 7, 3) by decide +kernel) (by decide) (fun c1 => absurd rfl c1) (fun _ => ?_)
  refine lv_iconst (v := 1) hx hb (show decode cJ0_isLatin1_aae02 13 = .ok (.iconst 1, 1) by decide +kernel) (by decide) ?_
  refine lv_goto (tgt := 18) hx hb (show decode cJ0_isLatin1_aae02 14 = .ok (.goto 4, 3) by decide +kernel) (by decide) ?_
  exact W.zret (ty := .boolean) hx hb hr (by rfl) (fun t ht hw => ⟨⟨some (.int 1), M, N, rfl, ⟨rfl, rfl, rfl⟩, by rw [ht]; exact hP⟩, hS.F ht⟩) (fun q hq => hS.2.2 q hq) (show decode cJ0_isLatin1_aae02 18 = .ok (.ireturn, 1) by decide +kernel) hlocks
/-- coder of a word -/
theorem bw_co (l : Launch) (y : bt_Y) (j t tn : Nat) (f : Nat → Int32) (M : bt_M) (N : bt_N) (hj : j < 12) : Met l yJ0_coder_7d493 (.code yJ0_coder_7d493 cJ0_coder_7d493 1 (some .byte) :: bt_big) (bw_rm 0 0) (bw_Pc y [.ref (y.2.2.2.2.1 (j + 1))] t tn f M N) (bt_Qc y (bw_at M N (some (.int 0)))) 0 0 (bt_yA y) := by
  refine Met.ofW (cc := cJ0_coder_7d493) (maxL := 1) (ret := some .byte) (by decide) rfl ?_
  intro p e s m args below meth c s₁ B hml hv0
  obtain ⟨dC, dI, ca, ad, fa, base⟩ := y
  obtain ⟨rfl, ⟨hKn, hTb⟩, hbs, hP⟩ := hv0
  obtain ⟨hK, hnst, hstr, ⟨adV, hvk⟩, hvz, fq, hfq⟩ := id hKn
  have hx := B.exec
  have hb := B.bytes
  have hr := B.returns
  have hlocks := B.notSynchronized
  have hts0 := atoms_spec (ws := Cond.code yJ0_coder_7d493 cJ0_coder_7d493 1 (some .byte) :: bt_big) B.pre
  have hts : ∀ w ∈ bt_big, w.before _ s = true := fun w hw => hts0 w (List.mem_cons_of_mem _ hw)
  have hown : s.vm.findClass RJ0 = some m.cls := findClass_of_methodNamed B.named
  have hl := lv_entry ([.ref (fa (j + 1))] : List Value) (n := 1) (Nat.le_of_ble_eq_true rfl)
  rw [lg_entry_eq]
  dsimp only
  generalize (lg_sl ([.ref (fa (j + 1))] : List Value) ++ List.replicate (1 - (lg_sl ([.ref (fa (j + 1))] : List Value)).length) Slot.unset).toArray = ls at hl ⊢
  have hl : lv_has ls 1 [(0, .ref (fa (j + 1)))] := hl
  have hS : va_S (fun q => base ≤ q) s.heap s.heap [] := va_S.rf
  refine va_gets hx hb hvz hS hown (hts _ (bw_T 367 (by decide +kernel) (by decide +kernel))) (fun _ h => h) (show decode cJ0_coder_7d493 0 = .ok (.getstatic 38, 3) by decide +kernel) ?_
  refine lv_if_eq (tgt := 13) hx hb (show decode cJ0_coder_7d493 3 = .ok (.ifCond .eq 10, 3) by decide +kernel) (by decide) (fun c1 => absurd c1 (by decide)) (fun _ => ?_)
  refine lv_aload_n hx hb (show decode cJ0_coder_7d493 6 = .ok (.aload_n 0, 1) by decide +kernel) rfl (lv_at hl 0 rfl) ?_
  refine vk_getf hx hb (hvk.1 j hj).2.1 hS hown (hts _ (bw_T 1232 (by decide +kernel) (by decide +kernel))) (fun _ h => h) (show decode cJ0_coder_7d493 7 = .ok (.getfield 15, 3) by decide +kernel) ?_
  refine lv_goto (tgt := 14) hx hb (show decode cJ0_coder_7d493 10 = .ok (.goto 4, 3) by decide +kernel) (by decide) ?_
  exact W.zret (ty := .byte) hx hb hr (by rfl) (fun t ht hw => ⟨⟨some (.int 0), M, N, rfl, ⟨rfl, rfl, rfl⟩, by rw [ht]; exact hP⟩, hS.F ht⟩) (fun q hq => hS.2.2 q hq) (show decode cJ0_coder_7d493 14 = .ok (.ireturn, 1) by decide +kernel) hlocks
