/-! THE JDK'S TEXTS: length, charAt, and their calls -/
theorem bw_sl : ∀ j, j < 12 → bt_sl.getD j 0 = bt_at bt_sl j 0 ∧ bt_at bt_sl j 0 ≤ 6 ∧ (nI (bt_at bt_sl j 0)) >>> ((0 : Int32) &&& 31) = nI (bt_at bt_sl j 0) := by decide +kernel
theorem bw_sb : ∀ j, j < 12 → ∀ i, i < 6 → i < bt_at bt_sl j 0 → (bt_sb.getD j []).getD i 0 = bt_at (bt_at bt_sb j []) i 0 ∧ bt_at (bt_at bt_sb j []) i 0 = nI (bt_at (bt_at bt_sb j []) i 0).toUInt32.toNat ∧ (bt_at (bt_at bt_sb j []) i 0).toUInt32.toNat < 128 := by decide +kernel
set_option maxHeartbeats 1000000 in
theorem bw_len (l : Launch) (y : bt_Y) : bt_MS l y yJ0_length_8abf5 cJ0_length_8abf5 1 (some .int) (bw_rm 1 20) sJ0_length_8abf5 := by
  intro as M N Rt hsp
  unfold sJ0_length_8abf5 at hsp
  split at hsp
  case h_2 => exact False.elim hsp
  case h_1 m0 =>
  obtain ⟨j, rfl, hj, hRt⟩ := hsp
  refine Met.ofW (cc := cJ0_length_8abf5) (maxL := 1) (ret := some .int) (by decide) rfl ?_
  intro p e s m args below meth c s₁ B hml hv0
  obtain ⟨dC, dI, ca, ad, fa, base⟩ := y
  obtain ⟨rfl, hKn, hbs, hP⟩ := hv0
  obtain ⟨hK, hnst, hstr, ⟨adV, hvk⟩, hvz, fq, hfq⟩ := id hKn
  have hx := B.exec
  have hb := B.bytes
  have hr := B.returns
  have hlocks := B.notSynchronized
  have hts0 := atoms_spec (ws := Cond.code yJ0_length_8abf5 cJ0_length_8abf5 1 (some .int) :: bt_big) B.pre
  have hts : ∀ w ∈ bt_big, w.before _ s = true := fun w hw => hts0 w (List.mem_cons_of_mem _ hw)
  have hown : s.vm.findClass RJ0 = some m.cls := findClass_of_methodNamed B.named
  have hl := lv_entry ([.ref (fa (j + 1))] : List Value) (n := 1) (Nat.le_of_ble_eq_true rfl)
  rw [lg_entry_eq]
  have ee : (List.map (bt_tr ad fa) [.retAddr (j + 1)]) = [.ref (fa (j + 1))] := rfl
  rw [ee] at *
  generalize (lg_sl ([.ref (fa (j + 1))] : List Value) ++ List.replicate (1 - (lg_sl ([.ref (fa (j + 1))] : List Value)).length) Slot.unset).toArray = ls at hl ⊢
  have hl : lv_has ls 1 [(0, .ref (fa (j + 1)))] := hl
  have hS : va_S (fun q => base ≤ q) s.heap s.heap [] := va_S.rf
  obtain ⟨g1, g2, g3⟩ := bw_sl j hj
  obtain ⟨e1, e2, e3, e4⟩ := hvk.1 j hj
  rw [g1] at e4
  refine lv_aload_n hx hb (show decode cJ0_length_8abf5 0 = .ok (.aload_n 0, 1) by decide +kernel) rfl (lv_at hl 0 rfl) ?_
  refine vk_getf hx hb e3 hS hown (hts _ (bw_T 1231 (by decide +kernel) (by decide +kernel))) (fun _ h => h) (show decode cJ0_length_8abf5 1 = .ok (.getfield 9, 3) by decide +kernel) ?_
  refine va_tlen hx hb e4 hS (v := nI (bt_at bt_sl j 0)) rfl (show decode cJ0_length_8abf5 4 = .ok (.arraylength, 1) by decide +kernel) ?_
  refine lv_aload_n hx hb (show decode cJ0_length_8abf5 5 = .ok (.aload_n 0, 1) by decide +kernel) rfl (lv_at hl 0 rfl) ?_
  refine bw_back (Rt := bw_at M N (some (.int 0))) (rest := [.int (nI (bt_at bt_sl j 0))]) ?_ hS (va_runV (b := fa (j + 1)) (As := []) (C := RJ0) ⟨hx, hb, hml, hown, hts⟩ (bw_co l (dC, dI, ca, ad, fa, base) j (adV j) (bt_at bt_sl j 0) (fun i => (bt_sb.getD j []).getD i 0) M N hj) ⟨callB_of 0 hts (bt_good (bw_T 366 (by decide +kernel) (by decide +kernel))) rfl rfl rfl (hts _ (bw_T 8 (by decide +kernel) (by decide +kernel))) (hts _ (bw_T 363 (by decide +kernel) (by decide +kernel))) (by decide +kernel) (by decide), hts _ (bw_T 364 (by decide +kernel) (by decide +kernel)), hts _ (bw_T 365 (by decide +kernel) (by decide +kernel))⟩ ⟨bw_blind _ _ _ _ _ _ _, vk_recv (i := j) hvk hj hS, fun U hU hW => bw_prec hKn e4 hbs hP hS hU hW⟩ rfl rfl hl.1 rfl (lv_room (Nat.le_of_ble_eq_true rfl)) (show decode cJ0_length_8abf5 6 = .ok (.invokevirtual 335, 3) by decide +kernel) ⟨Nat.zero_le _, Nat.zero_le _⟩)
  rintro v M' N' H1 locs1 ⟨rfl, rfl, rfl⟩ hP1 hS1
  refine lv_ishr hx hb (show decode cJ0_length_8abf5 9 = .ok (.ishr, 1) by decide +kernel) ?_
  rw [g3]
  exact W.iret hx hb hr (fun t ht hw => ⟨⟨some (.int (nI (bt_at bt_sl j 0))), M', N', rfl, hRt, by rw [ht]; exact hP1⟩, hS1.F ht⟩) (fun q hq => hS1.2.2 q hq) (show decode cJ0_length_8abf5 10 = .ok (.ireturn, 1) by decide +kernel) hlocks
set_option maxHeartbeats 1000000 in
theorem bw_chr (l : Launch) (y : bt_Y) : bt_MS l y yJ0_charAt_5068e cJ0_charAt_5068e 2 (some .char) (bw_rm 3 64) sJ0_charAt_5068e := by
  intro as M N Rt hsp
  unfold sJ0_charAt_5068e at hsp
  split at hsp
  case h_2 => exact False.elim hsp
  case h_1 m0 i0 =>
  obtain ⟨j, i, rfl, hj, rfl, hi, hRt⟩ := hsp
  refine Met.ofW (cc := cJ0_charAt_5068e) (maxL := 2) (ret := some .char) (by decide) rfl ?_
  intro p e s m args below meth c s₁ B hml hv0
  obtain ⟨dC, dI, ca, ad, fa, base⟩ := y
  obtain ⟨rfl, hKn, hbs, hP⟩ := hv0
  obtain ⟨hK, hnst, hstr, ⟨adV, hvk⟩, hvz, fq, hfq⟩ := id hKn
  have hx := B.exec
  have hb := B.bytes
  have hr := B.returns
  have hlocks := B.notSynchronized
  have hts0 := atoms_spec (ws := Cond.code yJ0_charAt_5068e cJ0_charAt_5068e 2 (some .char) :: bt_big) B.pre
  have hts : ∀ w ∈ bt_big, w.before _ s = true := fun w hw => hts0 w (List.mem_cons_of_mem _ hw)
  have hown : s.vm.findClass RJ0 = some m.cls := findClass_of_methodNamed B.named
  have hl := lv_entry ([.ref (fa (j + 1)), .int (nI i)] : List Value) (n := 2) (Nat.le_of_ble_eq_true rfl)
  rw [lg_entry_eq]
  have ee : (List.map (bt_tr ad fa) [.retAddr (j + 1), .int (nI i)]) = [.ref (fa (j + 1)), .int (nI i)] := rfl
  rw [ee] at *
  generalize (lg_sl ([.ref (fa (j + 1)), .int (nI i)] : List Value) ++ List.replicate (2 - (lg_sl ([.ref (fa (j + 1)), .int (nI i)] : List Value)).length) Slot.unset).toArray = ls at hl ⊢
  have hl : lv_has ls 2 [(0, .ref (fa (j + 1))), (1, .int (nI i))] := hl
  have hS : va_S (fun q => base ≤ q) s.heap s.heap [] := va_S.rf
  obtain ⟨g1, g2, g3⟩ := bw_sl j hj
  obtain ⟨k1, k2, k3⟩ := bw_sb j hj i (by omega) hi
  obtain ⟨e1, e2, e3, e4⟩ := hvk.1 j hj
  rw [g1] at e4
  rw [k2] at hRt
  refine lv_aload_n hx hb (show decode cJ0_charAt_5068e 0 = .ok (.aload_n 0, 1) by decide +kernel) rfl (lv_at hl 0 rfl) ?_
  refine bw_back (Rt := bw_at M N (some (.int 1))) (rest := []) ?_ hS (va_runV (b := fa (j + 1)) (As := []) (C := RJ0) ⟨hx, hb, hml, hown, hts⟩ (bw_il l (dC, dI, ca, ad, fa, base) j (adV j) (bt_at bt_sl j 0) (fun i => (bt_sb.getD j []).getD i 0) M N hj) ⟨callB_of 0 hts (bt_good (bw_T 376 (by decide +kernel) (by decide +kernel))) rfl rfl rfl (hts _ (bw_T 8 (by decide +kernel) (by decide +kernel))) (hts _ (bw_T 373 (by decide +kernel) (by decide +kernel))) (by decide +kernel) (by decide), hts _ (bw_T 374 (by decide +kernel) (by decide +kernel)), hts _ (bw_T 375 (by decide +kernel) (by decide +kernel))⟩ ⟨bw_blind _ _ _ _ _ _ _, vk_recv (i := j) hvk hj hS, fun U hU hW => bw_prec hKn e4 hbs hP hS hU hW⟩ rfl rfl hl.1 rfl (lv_room (Nat.le_of_ble_eq_true rfl)) (show decode cJ0_charAt_5068e 1 = .ok (.invokevirtual 492, 3) by decide +kernel) ⟨Nat.zero_le _, Nat.zero_le _⟩)
  rintro v M' N' H1 locs1 ⟨rfl, rfl, rfl⟩ hP1 hS1
  refine lv_if_eq (tgt := 16) hx hb (show decode cJ0_charAt_5068e 4 = .ok (.ifCond .eq 12, 3) by decide +kernel) (by decide) (fun c1 => absurd c1 (by decide)) (fun _ => ?_)
  refine lv_aload_n hx hb (show decode cJ0_charAt_5068e 7 = .ok (.aload_n 0, 1) by decide +kernel) rfl (lv_at hl 0 rfl) ?_
  refine vk_getf hx hb e3 hS1 hown (hts _ (bw_T 1231 (by decide +kernel) (by decide +kernel))) (fun _ h => h) (show decode cJ0_charAt_5068e 8 = .ok (.getfield 9, 3) by decide +kernel) ?_
  refine lv_iload_n hx hb (show decode cJ0_charAt_5068e 11 = .ok (.iload_n 1, 1) by decide +kernel) rfl (lv_at hl 1 rfl) ?_
  refine bw_back (Rt := bw_at M' N' (some (.int (nI (bt_at (bt_at bt_sb j []) i 0).toUInt32.toNat)))) (rest := []) ?_ hS1 (va_runS (As := [.ref (adV j), .int (nI i)]) ⟨hx, hb, hml, hown, hts⟩ (bw_lc l (dC, dI, ca, ad, fa, base) i (bt_at bt_sl j 0) (adV j) (bt_at (bt_at bt_sb j []) i 0).toUInt32.toNat (fun i => (bt_sb.getD j []).getD i 0) M' N' hi (by omega) k3 (k1.trans k2)) ⟨callB_of 2 hts (bt_good (bw_T 379 (by decide +kernel) (by decide +kernel))) rfl rfl rfl (hts _ (bw_T 9 (by decide +kernel) (by decide +kernel))) (hts _ (bw_T 377 (by decide +kernel) (by decide +kernel))) (by decide +kernel) (by decide), hts _ (bw_T 378 (by decide +kernel) (by decide +kernel))⟩ ⟨bw_blind _ _ _ _ _ _ _, fun U hU hW => bw_prec hKn e4 hbs hP1 hS1 hU hW⟩ rfl rfl hl.1 rfl (lv_room (Nat.le_of_ble_eq_true rfl)) (show decode cJ0_charAt_5068e 12 = .ok (.invokestatic 495, 3) by decide +kernel) ⟨Nat.zero_le _, Nat.zero_le _⟩)
  rintro v M2 N2 H2 locs2 ⟨rfl, rfl, rfl⟩ hP2 hS2
  exact W.zret (ty := .char) hx hb hr (bw_nar _ k3) (fun t ht hw => ⟨⟨some (.int (nI (bt_at (bt_at bt_sb j []) i 0).toUInt32.toNat)), M2, N2, rfl, hRt, by rw [ht]; exact hP2⟩, hS2.F ht⟩) (fun q hq => hS2.2.2 q hq) (show decode cJ0_charAt_5068e 15 = .ok (.ireturn, 1) by decide +kernel) hlocks
/-- a call of a word's method -/
theorem bt_CSJ {l : Launch} {y : bt_Y} {own : String} {cc : ByteArray} {nL : Nat} {rm : Room} {idx na : Nat} {sp : bt_Sp} {mn : MethodName} {cc' : ByteArray} {nL' : Nat} {ret' : Option FieldType} {rm' : Room} (hM : bt_MS l y mn cc' nL' ret' rm' sp) (hrc : mn.cls = RJ0) (hsr : ∀ as M N Rt, sp as M N Rt → ∃ j t, as = .retAddr (j + 1) :: t ∧ j < 12) (h1 : Cond.methodLink own idx mn ∈ bt_big) (h2 : Cond.instanceMethod mn ∈ bt_big) (h5 : Cond.selects mn.cls mn mn ∈ bt_big) (h3 : Cond.initialized mn.cls ∈ bt_big) (h4 : Cond.code mn cc' nL' ret' ∈ bt_big)
    (hd : mn.cls ≠ "java/lang/invoke/MethodHandle" ∧ mn.cls ≠ "java/lang/invoke/VarHandle" ∧ (parseMethodDescriptor mn.desc).map (fun d => d.parameters.length) = some na) (hR : rm'.frames + 1 ≤ rm.frames ∧ 8 + (nL' + 11) + rm'.locals ≤ rm.locals) (hc : rm'.cells = 0 ∧ rm'.slots = 0) : bt_CS l y own cc nL rm (idx, 1, na + 1, sp) := by
  intro g SL xs cx hl1 hrm q hq
  rw [List.mem_singleton.mp hq]
  intro pc L st M N k hdec hdo hk
  obtain ⟨p, l0, e, R, s, m, args, below, meth, c, cells, slots, Q⟩ := g
  obtain ⟨dC, dI, ca, ad, fa, base⟩ := y
  dsimp only at hl1 hrm
  subst hl1; subst hrm
  obtain ⟨hx, hb, hml, hown, hts, hKn, hai, hab, hbs, hsc, hcl, hsl⟩ := id cx
  obtain ⟨as, r, hlen, rfl, hsum, hsp⟩ := bt_do_s hdo
  obtain ⟨j, t, rfl, hj⟩ := hsr as M N _ hsp
  obtain ⟨hK, hnst, hstr, ⟨adV, hvk⟩, hvz, fq, hfq⟩ := id hKn
  rcases hdec with ⟨h, -⟩ | ⟨-, hd0⟩
  · cases h
  · intro H locs ls hP hS hl
    refine bt_back hk hS hl (va_runV (b := fa (j + 1)) (As := t.map (bt_tr ad fa)) (C := mn.cls) ⟨hx, hb, hml, hown, hts⟩ (hM (.retAddr (j + 1) :: t) M N _ hsp) ⟨callB_of na hts (bt_good h4) rfl hc.1 hc.2 (hts _ h3) (hts _ h1) hd hR, hts _ h2, hts _ h5⟩ ⟨bt_blind _ _ _ _, ?_, fun U hU hW => bt_prec (as := .retAddr (j + 1) :: t) hKn hbs hP hS hU hW⟩ rfl (by simpa using hlen) hl.2.1 (by simp [bt_tr]) (lv_room (by rw [bt_sum_s]; exact hsum)) hd0 ⟨hcl, hsl⟩)
    rw [hrc]
    exact vk_recv (i := j) hvk hj hS
theorem bw_rl : ∀ as M N Rt, sJ0_length_8abf5 as M N Rt → ∃ j t, as = .retAddr (j + 1) :: t ∧ j < 12 := by
  intro as M N Rt h
  unfold sJ0_length_8abf5 at h
  split at h
  · obtain ⟨j, rfl, hj, -⟩ := h
    exact ⟨j, _, rfl, hj⟩
  · exact False.elim h
theorem bw_rc : ∀ as M N Rt, sJ0_charAt_5068e as M N Rt → ∃ j t, as = .retAddr (j + 1) :: t ∧ j < 12 := by
  intro as M N Rt h
  unfold sJ0_charAt_5068e at h
  split at h
  · obtain ⟨j, i, rfl, hj, -⟩ := h
    exact ⟨j, _, rfl, hj⟩
  · exact False.elim h
theorem bw_kl {l : Launch} {y : bt_Y} {cc : ByteArray} {nL : Nat} {rm : Room} (hR : 2 ≤ rm.frames ∧ 40 ≤ rm.locals) : bt_CS l y RX3 cc nL rm (99, 1, 1, sJ0_length_8abf5) :=
  bt_CSJ (na := 0) (bw_len l y) rfl bw_rl (bw_T 359 (by decide +kernel) (by decide +kernel)) (bw_T 360 (by decide +kernel) (by decide +kernel)) (bw_T 361 (by decide +kernel) (by decide +kernel)) (bw_T 8 (by decide +kernel) (by decide +kernel)) (bw_T 362 (by decide +kernel) (by decide +kernel)) (by decide +kernel) ⟨hR.1, hR.2⟩ ⟨rfl, rfl⟩
theorem bw_kc {l : Launch} {y : bt_Y} {cc : ByteArray} {nL : Nat} {rm : Room} (hR : 4 ≤ rm.frames ∧ 85 ≤ rm.locals) : bt_CS l y RX3 cc nL rm (104, 1, 2, sJ0_charAt_5068e) :=
  bt_CSJ (na := 1) (bw_chr l y) rfl bw_rc (bw_T 369 (by decide +kernel) (by decide +kernel)) (bw_T 370 (by decide +kernel) (by decide +kernel)) (bw_T 371 (by decide +kernel) (by decide +kernel)) (bw_T 8 (by decide +kernel) (by decide +kernel)) (bw_T 372 (by decide +kernel) (by decide +kernel)) (by decide +kernel) ⟨hR.1, hR.2⟩ ⟨rfl, rfl⟩
