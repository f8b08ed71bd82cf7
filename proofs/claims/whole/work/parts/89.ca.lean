/-! THE CONSTRUCTORS -/
def bw_nst : List Cond := [.methodLinkNest RX5 15 yX4_init RX5, .methodLinkNest RX5 38 yX2_init RX5, .methodLinkNest RX5 45 yX0_init RX5, .methodLinkNest RX5 52 yX1_init RX5]
def bw_Kc (dC : Nat → ClassId) (dI : Nat → Nat → Nat) (ca : Nat → ClassId) (U : State) : Prop := va_K (dC, dI) bt_cl (bt_tys ca) U ∧ bw_A2 (ca 6) (ca 0) U ∧ va_AO RX4 U ∧ va_AO RX2 U ∧ ∀ w ∈ bw_nst, va_Nw w U
theorem bw_Kc.warm {dC : Nat → ClassId} {dI : Nat → Nat → Nat} {ca : Nat → ClassId} {s U : State} (hW : s.WarmedH U.vm) (h : bw_Kc dC dI ca s) : bw_Kc dC dI ca U := by
  obtain ⟨h1, h2, h3, h4, h5⟩ := h
  refine ⟨va_K.moved hW.alike h1, h2.moved hW.alike, h3.moved hW.alike, h4.moved hW.alike, fun w hw => ?_⟩
  have hw2 := h5 w hw
  simp only [bw_nst, List.mem_cons, List.not_mem_nil, or_false] at hw
  rcases hw with rfl | rfl | rfl | rfl <;> exact va_Nw.warmM hW hw2
theorem bw_Kc.same {dC : Nat → ClassId} {dI : Nat → Nat → Nat} {ca : Nat → ClassId} {s U : State} (hv : U.vm = s.vm) (h : bw_Kc dC dI ca s) : bw_Kc dC dI ca U := by
  obtain ⟨h1, h2, h3, h4, h5⟩ := h
  have ha : s.vm.Alike U.vm := by rw [hv]; exact Vm.Alike.refl _
  refine ⟨va_K.moved ha h1, h2.moved ha, h3.moved ha, h4.moved ha, fun w hw => ?_⟩
  have hw2 := h5 w hw
  simp only [bw_nst, List.mem_cons, List.not_mem_nil, or_false] at hw
  rcases hw with rfl | rfl | rfl | rfl <;> exact va_Nw.same rfl hv.symm hw2
theorem bw_cblind {dC : Nat → ClassId} {dI : Nat → Nat → Nat} {ca : Nat → ClassId} {av : List Value} {sz : Nat} {ws : va_W} : FrameBlind (va_Pc av (fun U => U.heap.size = sz ∧ va_P (dC, dI) bt_cl ws U.heap ∧ bw_Kc dC dI ca U ∧ va_D (fun _ => True) ws)) := by
  intro a U g mk h
  obtain ⟨h1, h2, h3, h4, h5⟩ := h
  exact ⟨h1, h2, h3, bw_Kc.same (s := U) rfl h4, h5⟩
def bw_uc (L : List Int32) : Nat → Nat → Int32
  | 0 => fun _ => 0
  | i + 1 => upd (bw_uc L i) i (bt_at L i 0)
set_option maxHeartbeats 8000000 in
set_option maxRecDepth 100000 in
theorem ciX1 (l : Launch) (dC : Nat → ClassId) (dI : Nat → Nat → Nat) (ca : Nat → ClassId) (h0 sz : Nat) : Met l yX1_init (.code yX1_init cX1_init 1 none :: bt_big) ({ frames := 1, cells := 2, slots := 128, locals := 20 }) (va_Pc [.ref h0] (fun U => U.heap.size = sz ∧ va_P (dC, dI) bt_cl [(h0, .inr (1, [.null, .null, .long 0, .int 0]))] U.heap ∧ bw_Kc dC dI ca U ∧ va_D (fun _ => True) [(h0, .inr (1, [.null, .null, .long 0, .int 0]))])) (va_Qv (fun _ : Unit => True) (fun _ U => ∃ q7 q15 : Nat, va_P (dC, dI) bt_cl [(h0, .inr (1, [.ref q7, .ref q15, .long 0, .int 0])), (q7, .inl (ca 1, 64, .inr (.inl (fun _ => 0)))), (q15, .inl (ca 1, 64, .inr (.inl (fun _ => 0))))] U.heap ∧ va_D (va_A [(h0, .inr (1, [.null, .null, .long 0, .int 0]))] sz) [(h0, .inr (1, [.ref q7, .ref q15, .long 0, .int 0])), (q7, .inl (ca 1, 64, .inr (.inl (fun _ => 0)))), (q15, .inl (ca 1, 64, .inr (.inl (fun _ => 0))))]) (va_A [(h0, .inr (1, [.null, .null, .long 0, .int 0]))] sz)) 2 128 (va_A [(h0, .inr (1, [.null, .null, .long 0, .int 0]))] sz) := by
  refine Met.ofW (cc := cX1_init) (maxL := 1) (ret := none) (by decide) rfl ?_
  intro p e s m args below meth c s₁ B hml hv
  obtain ⟨rfl, hsz, hP, hK, hD0⟩ := hv
  have hx := B.exec
  have hb := B.bytes
  have hr := B.returns
  have hts0 := atoms_spec (ws := Cond.code yX1_init cX1_init 1 none :: bt_big) B.pre
  have hts : ∀ w ∈ bt_big, w.before _ s = true := fun w hw => hts0 w (List.mem_cons_of_mem _ hw)
  have hown : s.vm.findClass RX1 = some m.cls := findClass_of_methodNamed B.named
  have hlocks := B.notSynchronized
  have hin : meth.name = "<init>" := (name_of_methodNamed B.named B.method).1
  subst hsz
  have hD := hD0.self (sz := s.heap.size)
  generalize hAe : va_A [(h0, .inr (1, [.null, .null, .long 0, .int 0]))] s.heap.size = A at hD ⊢
  have hA : ∀ q : Nat, s.heap.size ≤ q → A q := fun q h => by rw [← hAe]; exact Or.inr h
  have hS : va_S A s.heap s.heap [] := va_S.rf
  have hl := lv_entry ([.ref h0] : List Value) (n := 1) (Nat.le_of_ble_eq_true rfl)
  rw [lg_entry_eq]
  generalize (lg_sl ([.ref h0] : List Value) ++ List.replicate (1 - (lg_sl ([.ref h0] : List Value)).length) Slot.unset).toArray = ls at hl ⊢
  have hl : lv_has ls 1 [(0, .ref h0)] := hl
  refine lv_aload_n hx hb (show decode cX1_init 0 = .ok (.aload_n 0, 1) by decide +kernel) rfl (lv_at hl 0 rfl) ?_
  refine W.objInit hx hb hown (hts _ (bw_T 259 (by decide +kernel) (by decide +kernel))) (hts _ (bw_T 21 (by decide +kernel) (by decide +kernel))) (hts _ (bw_T 22 (by decide +kernel) (by decide +kernel))) rfl (by rw [hml]; exact hl.1) rfl (show decode cX1_init 1 = .ok (.invokespecial 3, 3) by decide +kernel) (Nat.le_of_ble_eq_true rfl) (Nat.le_of_ble_eq_true rfl) ?_
  refine W.eq (g2 := F0 m 4 ls []) rfl ?_
  refine lv_aload_n hx hb (show decode cX1_init 4 = .ok (.aload_n 0, 1) by decide +kernel) rfl (lv_at hl 0 rfl) ?_
  refine lv_bipush (v := 64) hx hb (show decode cX1_init 5 = .ok (.bipush 64, 2) by decide +kernel) (by decide) ?_
  refine bw_na (a0 := (64, .inr (.inl (fun _ => 0)))) hx hb (hts _ (bw_T 275 (by decide +kernel) (by decide +kernel))) rfl hK.1 hP hD hS hA 1 rfl (fun cA => rfl) (by decide) rfl (by decide) (show 1 ≤ 2 from Nat.le_of_ble_eq_true rfl) (show 64 ≤ 128 from Nat.le_of_ble_eq_true rfl) (show decode cX1_init 7 = .ok (.newarray .long, 2) by decide +kernel) (fun q7 H hP hD hS => ?_)
  have hP : va_P (dC, dI) bt_cl [(h0, .inr (1, [.null, .null, .long 0, .int 0])), (q7, .inl (ca 1, 64, .inr (.inl (fun _ => 0))))] H := hP
  have hD : va_D A [(h0, .inr (1, [.null, .null, .long 0, .int 0])), (q7, .inl (ca 1, 64, .inr (.inl (fun _ => 0))))] := hD
  refine W.widen (k := 1) (n := 64) (Nat.le_of_ble_eq_true rfl) (Nat.le_of_ble_eq_true rfl) ?_
  refine va_putF (D := (dC, dI)) (ci := 1) (v := .ref q7) (ty := (.array .long)) (C := RX1) (T := TX1) (N := 4) hx hb hts (bt_clW 1 _ rfl) tyX1 tyX1_ok nmX1 hown hK.1 hP hD hS 0 rfl rfl 0 (by decide) (hts _ (bw_T 260 (by decide +kernel) (by decide +kernel))) (fun _ h9 => h9) rfl hin rfl (by decide +kernel) rfl rfl (Nat.le_of_ble_eq_true rfl) (show decode cX1_init 9 = .ok (.putfield 11, 3) by decide +kernel) (fun H locs hP hD hS => ?_)
  have hP : va_P (dC, dI) bt_cl [(h0, .inr (1, [.ref q7, .null, .long 0, .int 0])), (q7, .inl (ca 1, 64, .inr (.inl (fun _ => 0))))] H := hP
  have hD : va_D A [(h0, .inr (1, [.ref q7, .null, .long 0, .int 0])), (q7, .inl (ca 1, 64, .inr (.inl (fun _ => 0))))] := hD
  refine lv_aload_n hx hb (show decode cX1_init 12 = .ok (.aload_n 0, 1) by decide +kernel) rfl (lv_at hl 0 rfl) ?_
  refine lv_bipush (v := 64) hx hb (show decode cX1_init 13 = .ok (.bipush 64, 2) by decide +kernel) (by decide) ?_
  refine bw_na (a0 := (64, .inr (.inl (fun _ => 0)))) hx hb (hts _ (bw_T 275 (by decide +kernel) (by decide +kernel))) rfl hK.1 hP hD hS hA 1 rfl (fun cA => rfl) (by decide) rfl (by decide) (show 2 ≤ 2 from Nat.le_of_ble_eq_true rfl) (show 128 ≤ 128 from Nat.le_of_ble_eq_true rfl) (show decode cX1_init 15 = .ok (.newarray .long, 2) by decide +kernel) (fun q15 H hP hD hS => ?_)
  have hP : va_P (dC, dI) bt_cl [(h0, .inr (1, [.ref q7, .null, .long 0, .int 0])), (q7, .inl (ca 1, 64, .inr (.inl (fun _ => 0)))), (q15, .inl (ca 1, 64, .inr (.inl (fun _ => 0))))] H := hP
  have hD : va_D A [(h0, .inr (1, [.ref q7, .null, .long 0, .int 0])), (q7, .inl (ca 1, 64, .inr (.inl (fun _ => 0)))), (q15, .inl (ca 1, 64, .inr (.inl (fun _ => 0))))] := hD
  refine W.widen (k := 2) (n := 128) (Nat.le_of_ble_eq_true rfl) (Nat.le_of_ble_eq_true rfl) ?_
  refine va_putF (D := (dC, dI)) (ci := 1) (v := .ref q15) (ty := (.array .long)) (C := RX1) (T := TX1) (N := 4) hx hb hts (bt_clW 1 _ rfl) tyX1 tyX1_ok nmX1 hown hK.1 hP hD hS 0 rfl rfl 1 (by decide) (hts _ (bw_T 261 (by decide +kernel) (by decide +kernel))) (fun _ h9 => h9) rfl hin rfl (by decide +kernel) rfl rfl (Nat.le_of_ble_eq_true rfl) (show decode cX1_init 17 = .ok (.putfield 15, 3) by decide +kernel) (fun H locs hP hD hS => ?_)
  have hP : va_P (dC, dI) bt_cl [(h0, .inr (1, [.ref q7, .ref q15, .long 0, .int 0])), (q7, .inl (ca 1, 64, .inr (.inl (fun _ => 0)))), (q15, .inl (ca 1, 64, .inr (.inl (fun _ => 0))))] H := hP
  have hD : va_D A [(h0, .inr (1, [.ref q7, .ref q15, .long 0, .int 0])), (q7, .inl (ca 1, 64, .inr (.inl (fun _ => 0)))), (q15, .inl (ca 1, 64, .inr (.inl (fun _ => 0))))] := hD
  exact W.vret hx hb hr (fun t ht hW => ⟨⟨(), rfl, trivial, q7, q15, by rw [ht]; exact hP, hD⟩, hS.F ht⟩) hS.2.2 (show decode cX1_init 20 = .ok (.return_, 1) by decide +kernel) hlocks
set_option maxHeartbeats 8000000 in
set_option maxRecDepth 100000 in
theorem ciX2 (l : Launch) (dC : Nat → ClassId) (dI : Nat → Nat → Nat) (ca : Nat → ClassId) (h0 sz : Nat) : Met l yX2_init (.code yX2_init cX2_init 1 none :: bt_big) ({ frames := 1, cells := 1, slots := 40, locals := 20 }) (va_Pc [.ref h0] (fun U => U.heap.size = sz ∧ va_P (dC, dI) bt_cl [(h0, .inr (2, [.null, .int 0, .int 0]))] U.heap ∧ bw_Kc dC dI ca U ∧ va_D (fun _ => True) [(h0, .inr (2, [.null, .int 0, .int 0]))])) (va_Qv (fun _ : Unit => True) (fun _ U => ∃ q7 : Nat, va_P (dC, dI) bt_cl [(h0, .inr (2, [.ref q7, .int 0, .int (-1)])), (q7, .inl (ca 0, 40, .inl (fun _ => 0)))] U.heap ∧ va_D (va_A [(h0, .inr (2, [.null, .int 0, .int 0]))] sz) [(h0, .inr (2, [.ref q7, .int 0, .int (-1)])), (q7, .inl (ca 0, 40, .inl (fun _ => 0)))]) (va_A [(h0, .inr (2, [.null, .int 0, .int 0]))] sz)) 1 40 (va_A [(h0, .inr (2, [.null, .int 0, .int 0]))] sz) := by
  refine Met.ofW (cc := cX2_init) (maxL := 1) (ret := none) (by decide) rfl ?_
  intro p e s m args below meth c s₁ B hml hv
  obtain ⟨rfl, hsz, hP, hK, hD0⟩ := hv
  have hx := B.exec
  have hb := B.bytes
  have hr := B.returns
  have hts0 := atoms_spec (ws := Cond.code yX2_init cX2_init 1 none :: bt_big) B.pre
  have hts : ∀ w ∈ bt_big, w.before _ s = true := fun w hw => hts0 w (List.mem_cons_of_mem _ hw)
  have hown : s.vm.findClass RX2 = some m.cls := findClass_of_methodNamed B.named
  have hlocks := B.notSynchronized
  have hin : meth.name = "<init>" := (name_of_methodNamed B.named B.method).1
  subst hsz
  have hD := hD0.self (sz := s.heap.size)
  generalize hAe : va_A [(h0, .inr (2, [.null, .int 0, .int 0]))] s.heap.size = A at hD ⊢
  have hA : ∀ q : Nat, s.heap.size ≤ q → A q := fun q h => by rw [← hAe]; exact Or.inr h
  have hS : va_S A s.heap s.heap [] := va_S.rf
  have hl := lv_entry ([.ref h0] : List Value) (n := 1) (Nat.le_of_ble_eq_true rfl)
  rw [lg_entry_eq]
  generalize (lg_sl ([.ref h0] : List Value) ++ List.replicate (1 - (lg_sl ([.ref h0] : List Value)).length) Slot.unset).toArray = ls at hl ⊢
  have hl : lv_has ls 1 [(0, .ref h0)] := hl
  refine lv_aload_n hx hb (show decode cX2_init 0 = .ok (.aload_n 0, 1) by decide +kernel) rfl (lv_at hl 0 rfl) ?_
  refine W.objInit hx hb hown (hts _ (bw_T 192 (by decide +kernel) (by decide +kernel))) (hts _ (bw_T 21 (by decide +kernel) (by decide +kernel))) (hts _ (bw_T 22 (by decide +kernel) (by decide +kernel))) rfl (by rw [hml]; exact hl.1) rfl (show decode cX2_init 1 = .ok (.invokespecial 3, 3) by decide +kernel) (Nat.le_of_ble_eq_true rfl) (Nat.le_of_ble_eq_true rfl) ?_
  refine W.eq (g2 := F0 m 4 ls []) rfl ?_
  refine lv_aload_n hx hb (show decode cX2_init 4 = .ok (.aload_n 0, 1) by decide +kernel) rfl (lv_at hl 0 rfl) ?_
  refine lv_bipush (v := 40) hx hb (show decode cX2_init 5 = .ok (.bipush 40, 2) by decide +kernel) (by decide) ?_
  refine bw_na (a0 := (40, .inl (fun _ => 0))) hx hb (hts _ (bw_T 133 (by decide +kernel) (by decide +kernel))) rfl hK.1 hP hD hS hA 0 rfl (fun cA => rfl) (by decide) rfl (by decide) (show 1 ≤ 1 from Nat.le_of_ble_eq_true rfl) (show 40 ≤ 40 from Nat.le_of_ble_eq_true rfl) (show decode cX2_init 7 = .ok (.newarray .int, 2) by decide +kernel) (fun q7 H hP hD hS => ?_)
  have hP : va_P (dC, dI) bt_cl [(h0, .inr (2, [.null, .int 0, .int 0])), (q7, .inl (ca 0, 40, .inl (fun _ => 0)))] H := hP
  have hD : va_D A [(h0, .inr (2, [.null, .int 0, .int 0])), (q7, .inl (ca 0, 40, .inl (fun _ => 0)))] := hD
  refine W.widen (k := 1) (n := 40) (Nat.le_of_ble_eq_true rfl) (Nat.le_of_ble_eq_true rfl) ?_
  refine va_putF (D := (dC, dI)) (ci := 2) (v := .ref q7) (ty := (.array .int)) (C := RX2) (T := TX2) (N := 3) hx hb hts (bt_clW 2 _ rfl) tyX2 tyX2_ok nmX2 hown hK.1 hP hD hS 0 rfl rfl 0 (by decide) (hts _ (bw_T 193 (by decide +kernel) (by decide +kernel))) (fun _ h9 => h9) rfl hin rfl (by decide +kernel) rfl rfl (Nat.le_of_ble_eq_true rfl) (show decode cX2_init 9 = .ok (.putfield 9, 3) by decide +kernel) (fun H locs hP hD hS => ?_)
  have hP : va_P (dC, dI) bt_cl [(h0, .inr (2, [.ref q7, .int 0, .int 0])), (q7, .inl (ca 0, 40, .inl (fun _ => 0)))] H := hP
  have hD : va_D A [(h0, .inr (2, [.ref q7, .int 0, .int 0])), (q7, .inl (ca 0, 40, .inl (fun _ => 0)))] := hD
  refine lv_aload_n hx hb (show decode cX2_init 12 = .ok (.aload_n 0, 1) by decide +kernel) rfl (lv_at hl 0 rfl) ?_
  refine lv_iconst (v := (-1)) hx hb (show decode cX2_init 13 = .ok (.iconst (-1), 1) by decide +kernel) (by decide) ?_
  refine va_put (D := (dC, dI)) (ci := 2) (v := .int (-1)) (ty := .int) (C := RX2) (T := TX2) (N := 3) hx hb hts (bt_clW 2 _ rfl) tyX2 tyX2_ok nmX2 hown hK.1 hP hD hS 0 rfl rfl 2 (by decide) (hts _ (bw_T 197 (by decide +kernel) (by decide +kernel))) (fun _ h9 => h9) rfl (by decide +kernel) rfl rfl (Nat.le_of_ble_eq_true rfl) (show decode cX2_init 14 = .ok (.putfield 15, 3) by decide +kernel) (fun H locs hP hD hS => ?_)
  have hP : va_P (dC, dI) bt_cl [(h0, .inr (2, [.ref q7, .int 0, .int (-1)])), (q7, .inl (ca 0, 40, .inl (fun _ => 0)))] H := hP
  have hD : va_D A [(h0, .inr (2, [.ref q7, .int 0, .int (-1)])), (q7, .inl (ca 0, 40, .inl (fun _ => 0)))] := hD
  exact W.vret hx hb hr (fun t ht hW => ⟨⟨(), rfl, trivial, q7, by rw [ht]; exact hP, hD⟩, hS.F ht⟩) hS.2.2 (show decode cX2_init 17 = .ok (.return_, 1) by decide +kernel) hlocks
set_option maxHeartbeats 8000000 in
set_option maxRecDepth 100000 in
theorem ciX4 (l : Launch) (dC : Nat → ClassId) (dI : Nat → Nat → Nat) (ca : Nat → ClassId) (h0 sz : Nat) : Met l yX4_init (.code yX4_init cX4_init 1 none :: bt_big) ({ frames := 1, cells := 8, slots := 56, locals := 20 }) (va_Pc [.ref h0] (fun U => U.heap.size = sz ∧ va_P (dC, dI) bt_cl [(h0, .inr (4, [.null, .null, .null, .null, .null, .null, .null, .null, .int 0, .int 0, .int 0, .int 0, .int 0, .int 0, .int 0, .int 0, .int 0, .int 0]))] U.heap ∧ bw_Kc dC dI ca U ∧ va_D (fun _ => True) [(h0, .inr (4, [.null, .null, .null, .null, .null, .null, .null, .null, .int 0, .int 0, .int 0, .int 0, .int 0, .int 0, .int 0, .int 0, .int 0, .int 0]))])) (va_Qv (fun _ : Unit => True) (fun _ U => ∃ q7 q15 q23 q31 q39 q47 q55 q63 : Nat, va_P (dC, dI) bt_cl [(h0, .inr (4, [.ref q7, .ref q15, .ref q23, .ref q31, .ref q39, .ref q47, .ref q55, .ref q63, .int 0, .int 0, .int 0, .int 0, .int 0, .int 0, .int 5, .int 0, .int 0, .int 0])), (q7, .inl (ca 0, 8, .inl (fun _ => 0))), (q15, .inl (ca 0, 8, .inl (fun _ => 0))), (q23, .inl (ca 0, 8, .inl (fun _ => 0))), (q31, .inl (ca 0, 8, .inl (fun _ => 0))), (q39, .inl (ca 0, 6, .inl (fun _ => 0))), (q47, .inl (ca 0, 6, .inl (fun _ => 0))), (q55, .inl (ca 0, 6, .inl (fun _ => 0))), (q63, .inl (ca 0, 6, .inl (fun _ => 0)))] U.heap ∧ va_D (va_A [(h0, .inr (4, [.null, .null, .null, .null, .null, .null, .null, .null, .int 0, .int 0, .int 0, .int 0, .int 0, .int 0, .int 0, .int 0, .int 0, .int 0]))] sz) [(h0, .inr (4, [.ref q7, .ref q15, .ref q23, .ref q31, .ref q39, .ref q47, .ref q55, .ref q63, .int 0, .int 0, .int 0, .int 0, .int 0, .int 0, .int 5, .int 0, .int 0, .int 0])), (q7, .inl (ca 0, 8, .inl (fun _ => 0))), (q15, .inl (ca 0, 8, .inl (fun _ => 0))), (q23, .inl (ca 0, 8, .inl (fun _ => 0))), (q31, .inl (ca 0, 8, .inl (fun _ => 0))), (q39, .inl (ca 0, 6, .inl (fun _ => 0))), (q47, .inl (ca 0, 6, .inl (fun _ => 0))), (q55, .inl (ca 0, 6, .inl (fun _ => 0))), (q63, .inl (ca 0, 6, .inl (fun _ => 0)))]) (va_A [(h0, .inr (4, [.null, .null, .null, .null, .null, .null, .null, .null, .int 0, .int 0, .int 0, .int 0, .int 0, .int 0, .int 0, .int 0, .int 0, .int 0]))] sz)) 8 56 (va_A [(h0, .inr (4, [.null, .null, .null, .null, .null, .null, .null, .null, .int 0, .int 0, .int 0, .int 0, .int 0, .int 0, .int 0, .int 0, .int 0, .int 0]))] sz) := by
  refine Met.ofW (cc := cX4_init) (maxL := 1) (ret := none) (by decide) rfl ?_
  intro p e s m args below meth c s₁ B hml hv
  obtain ⟨rfl, hsz, hP, hK, hD0⟩ := hv
  have hx := B.exec
  have hb := B.bytes
  have hr := B.returns
  have hts0 := atoms_spec (ws := Cond.code yX4_init cX4_init 1 none :: bt_big) B.pre
  have hts : ∀ w ∈ bt_big, w.before _ s = true := fun w hw => hts0 w (List.mem_cons_of_mem _ hw)
  have hown : s.vm.findClass RX4 = some m.cls := findClass_of_methodNamed B.named
  have hlocks := B.notSynchronized
  have hin : meth.name = "<init>" := (name_of_methodNamed B.named B.method).1
  subst hsz
  have hD := hD0.self (sz := s.heap.size)
  generalize hAe : va_A [(h0, .inr (4, [.null, .null, .null, .null, .null, .null, .null, .null, .int 0, .int 0, .int 0, .int 0, .int 0, .int 0, .int 0, .int 0, .int 0, .int 0]))] s.heap.size = A at hD ⊢
  have hA : ∀ q : Nat, s.heap.size ≤ q → A q := fun q h => by rw [← hAe]; exact Or.inr h
  have hS : va_S A s.heap s.heap [] := va_S.rf
  have hl := lv_entry ([.ref h0] : List Value) (n := 1) (Nat.le_of_ble_eq_true rfl)
  rw [lg_entry_eq]
  generalize (lg_sl ([.ref h0] : List Value) ++ List.replicate (1 - (lg_sl ([.ref h0] : List Value)).length) Slot.unset).toArray = ls at hl ⊢
  have hl : lv_has ls 1 [(0, .ref h0)] := hl
  refine lv_aload_n hx hb (show decode cX4_init 0 = .ok (.aload_n 0, 1) by decide +kernel) rfl (lv_at hl 0 rfl) ?_
  refine W.objInit hx hb hown (hts _ (bw_T 28 (by decide +kernel) (by decide +kernel))) (hts _ (bw_T 21 (by decide +kernel) (by decide +kernel))) (hts _ (bw_T 22 (by decide +kernel) (by decide +kernel))) rfl (by rw [hml]; exact hl.1) rfl (show decode cX4_init 1 = .ok (.invokespecial 3, 3) by decide +kernel) (Nat.le_of_ble_eq_true rfl) (Nat.le_of_ble_eq_true rfl) ?_
  refine W.eq (g2 := F0 m 4 ls []) rfl ?_
  refine lv_aload_n hx hb (show decode cX4_init 4 = .ok (.aload_n 0, 1) by decide +kernel) rfl (lv_at hl 0 rfl) ?_
  refine lv_bipush (v := 8) hx hb (show decode cX4_init 5 = .ok (.bipush 8, 2) by decide +kernel) (by decide) ?_
  refine bw_na (a0 := (8, .inl (fun _ => 0))) hx hb (hts _ (bw_T 133 (by decide +kernel) (by decide +kernel))) rfl hK.1 hP hD hS hA 0 rfl (fun cA => rfl) (by decide) rfl (by decide) (show 1 ≤ 8 from Nat.le_of_ble_eq_true rfl) (show 8 ≤ 56 from Nat.le_of_ble_eq_true rfl) (show decode cX4_init 7 = .ok (.newarray .int, 2) by decide +kernel) (fun q7 H hP hD hS => ?_)
  have hP : va_P (dC, dI) bt_cl [(h0, .inr (4, [.null, .null, .null, .null, .null, .null, .null, .null, .int 0, .int 0, .int 0, .int 0, .int 0, .int 0, .int 0, .int 0, .int 0, .int 0])), (q7, .inl (ca 0, 8, .inl (fun _ => 0)))] H := hP
  have hD : va_D A [(h0, .inr (4, [.null, .null, .null, .null, .null, .null, .null, .null, .int 0, .int 0, .int 0, .int 0, .int 0, .int 0, .int 0, .int 0, .int 0, .int 0])), (q7, .inl (ca 0, 8, .inl (fun _ => 0)))] := hD
  refine W.widen (k := 1) (n := 8) (Nat.le_of_ble_eq_true rfl) (Nat.le_of_ble_eq_true rfl) ?_
  refine va_putF (D := (dC, dI)) (ci := 4) (v := .ref q7) (ty := (.array .int)) (C := RX4) (T := TX4) (N := 18) hx hb hts (bt_clW 4 _ rfl) tyX4 tyX4_ok nmX4 hown hK.1 hP hD hS 0 rfl rfl 0 (by decide) (hts _ (bw_T 29 (by decide +kernel) (by decide +kernel))) (fun _ h9 => h9) rfl hin rfl (by decide +kernel) rfl rfl (Nat.le_of_ble_eq_true rfl) (show decode cX4_init 9 = .ok (.putfield 9, 3) by decide +kernel) (fun H locs hP hD hS => ?_)
  have hP : va_P (dC, dI) bt_cl [(h0, .inr (4, [.ref q7, .null, .null, .null, .null, .null, .null, .null, .int 0, .int 0, .int 0, .int 0, .int 0, .int 0, .int 0, .int 0, .int 0, .int 0])), (q7, .inl (ca 0, 8, .inl (fun _ => 0)))] H := hP
  have hD : va_D A [(h0, .inr (4, [.ref q7, .null, .null, .null, .null, .null, .null, .null, .int 0, .int 0, .int 0, .int 0, .int 0, .int 0, .int 0, .int 0, .int 0, .int 0])), (q7, .inl (ca 0, 8, .inl (fun _ => 0)))] := hD
  refine lv_aload_n hx hb (show decode cX4_init 12 = .ok (.aload_n 0, 1) by decide +kernel) rfl (lv_at hl 0 rfl) ?_
  refine lv_bipush (v := 8) hx hb (show decode cX4_init 13 = .ok (.bipush 8, 2) by decide +kernel) (by decide) ?_
  refine bw_na (a0 := (8, .inl (fun _ => 0))) hx hb (hts _ (bw_T 133 (by decide +kernel) (by decide +kernel))) rfl hK.1 hP hD hS hA 0 rfl (fun cA => rfl) (by decide) rfl (by decide) (show 2 ≤ 8 from Nat.le_of_ble_eq_true rfl) (show 16 ≤ 56 from Nat.le_of_ble_eq_true rfl) (show decode cX4_init 15 = .ok (.newarray .int, 2) by decide +kernel) (fun q15 H hP hD hS => ?_)
  have hP : va_P (dC, dI) bt_cl [(h0, .inr (4, [.ref q7, .null, .null, .null, .null, .null, .null, .null, .int 0, .int 0, .int 0, .int 0, .int 0, .int 0, .int 0, .int 0, .int 0, .int 0])), (q7, .inl (ca 0, 8, .inl (fun _ => 0))), (q15, .inl (ca 0, 8, .inl (fun _ => 0)))] H := hP
  have hD : va_D A [(h0, .inr (4, [.ref q7, .null, .null, .null, .null, .null, .null, .null, .int 0, .int 0, .int 0, .int 0, .int 0, .int 0, .int 0, .int 0, .int 0, .int 0])), (q7, .inl (ca 0, 8, .inl (fun _ => 0))), (q15, .inl (ca 0, 8, .inl (fun _ => 0)))] := hD
  refine W.widen (k := 2) (n := 16) (Nat.le_of_ble_eq_true rfl) (Nat.le_of_ble_eq_true rfl) ?_
  refine va_putF (D := (dC, dI)) (ci := 4) (v := .ref q15) (ty := (.array .int)) (C := RX4) (T := TX4) (N := 18) hx hb hts (bt_clW 4 _ rfl) tyX4 tyX4_ok nmX4 hown hK.1 hP hD hS 0 rfl rfl 1 (by decide) (hts _ (bw_T 33 (by decide +kernel) (by decide +kernel))) (fun _ h9 => h9) rfl hin rfl (by decide +kernel) rfl rfl (Nat.le_of_ble_eq_true rfl) (show decode cX4_init 17 = .ok (.putfield 15, 3) by decide +kernel) (fun H locs hP hD hS => ?_)
  have hP : va_P (dC, dI) bt_cl [(h0, .inr (4, [.ref q7, .ref q15, .null, .null, .null, .null, .null, .null, .int 0, .int 0, .int 0, .int 0, .int 0, .int 0, .int 0, .int 0, .int 0, .int 0])), (q7, .inl (ca 0, 8, .inl (fun _ => 0))), (q15, .inl (ca 0, 8, .inl (fun _ => 0)))] H := hP
  have hD : va_D A [(h0, .inr (4, [.ref q7, .ref q15, .null, .null, .null, .null, .null, .null, .int 0, .int 0, .int 0, .int 0, .int 0, .int 0, .int 0, .int 0, .int 0, .int 0])), (q7, .inl (ca 0, 8, .inl (fun _ => 0))), (q15, .inl (ca 0, 8, .inl (fun _ => 0)))] := hD
  refine lv_aload_n hx hb (show decode cX4_init 20 = .ok (.aload_n 0, 1) by decide +kernel) rfl (lv_at hl 0 rfl) ?_
  refine lv_bipush (v := 8) hx hb (show decode cX4_init 21 = .ok (.bipush 8, 2) by decide +kernel) (by decide) ?_
  refine bw_na (a0 := (8, .inl (fun _ => 0))) hx hb (hts _ (bw_T 133 (by decide +kernel) (by decide +kernel))) rfl hK.1 hP hD hS hA 0 rfl (fun cA => rfl) (by decide) rfl (by decide) (show 3 ≤ 8 from Nat.le_of_ble_eq_true rfl) (show 24 ≤ 56 from Nat.le_of_ble_eq_true rfl) (show decode cX4_init 23 = .ok (.newarray .int, 2) by decide +kernel) (fun q23 H hP hD hS => ?_)
  have hP : va_P (dC, dI) bt_cl [(h0, .inr (4, [.ref q7, .ref q15, .null, .null, .null, .null, .null, .null, .int 0, .int 0, .int 0, .int 0, .int 0, .int 0, .int 0, .int 0, .int 0, .int 0])), (q7, .inl (ca 0, 8, .inl (fun _ => 0))), (q15, .inl (ca 0, 8, .inl (fun _ => 0))), (q23, .inl (ca 0, 8, .inl (fun _ => 0)))] H := hP
  have hD : va_D A [(h0, .inr (4, [.ref q7, .ref q15, .null, .null, .null, .null, .null, .null, .int 0, .int 0, .int 0, .int 0, .int 0, .int 0, .int 0, .int 0, .int 0, .int 0])), (q7, .inl (ca 0, 8, .inl (fun _ => 0))), (q15, .inl (ca 0, 8, .inl (fun _ => 0))), (q23, .inl (ca 0, 8, .inl (fun _ => 0)))] := hD
  refine W.widen (k := 3) (n := 24) (Nat.le_of_ble_eq_true rfl) (Nat.le_of_ble_eq_true rfl) ?_
  refine va_putF (D := (dC, dI)) (ci := 4) (v := .ref q23) (ty := (.array .int)) (C := RX4) (T := TX4) (N := 18) hx hb hts (bt_clW 4 _ rfl) tyX4 tyX4_ok nmX4 hown hK.1 hP hD hS 0 rfl rfl 2 (by decide) (hts _ (bw_T 36 (by decide +kernel) (by decide +kernel))) (fun _ h9 => h9) rfl hin rfl (by decide +kernel) rfl rfl (Nat.le_of_ble_eq_true rfl) (show decode cX4_init 25 = .ok (.putfield 18, 3) by decide +kernel) (fun H locs hP hD hS => ?_)
  have hP : va_P (dC, dI) bt_cl [(h0, .inr (4, [.ref q7, .ref q15, .ref q23, .null, .null, .null, .null, .null, .int 0, .int 0, .int 0, .int 0, .int 0, .int 0, .int 0, .int 0, .int 0, .int 0])), (q7, .inl (ca 0, 8, .inl (fun _ => 0))), (q15, .inl (ca 0, 8, .inl (fun _ => 0))), (q23, .inl (ca 0, 8, .inl (fun _ => 0)))] H := hP
  have hD : va_D A [(h0, .inr (4, [.ref q7, .ref q15, .ref q23, .null, .null, .null, .null, .null, .int 0, .int 0, .int 0, .int 0, .int 0, .int 0, .int 0, .int 0, .int 0, .int 0])), (q7, .inl (ca 0, 8, .inl (fun _ => 0))), (q15, .inl (ca 0, 8, .inl (fun _ => 0))), (q23, .inl (ca 0, 8, .inl (fun _ => 0)))] := hD
  refine lv_aload_n hx hb (show decode cX4_init 28 = .ok (.aload_n 0, 1) by decide +kernel) rfl (lv_at hl 0 rfl) ?_
  refine lv_bipush (v := 8) hx hb (show decode cX4_init 29 = .ok (.bipush 8, 2) by decide +kernel) (by decide) ?_
  refine bw_na (a0 := (8, .inl (fun _ => 0))) hx hb (hts _ (bw_T 133 (by decide +kernel) (by decide +kernel))) rfl hK.1 hP hD hS hA 0 rfl (fun cA => rfl) (by decide) rfl (by decide) (show 4 ≤ 8 from Nat.le_of_ble_eq_true rfl) (show 32 ≤ 56 from Nat.le_of_ble_eq_true rfl) (show decode cX4_init 31 = .ok (.newarray .int, 2) by decide +kernel) (fun q31 H hP hD hS => ?_)
  have hP : va_P (dC, dI) bt_cl [(h0, .inr (4, [.ref q7, .ref q15, .ref q23, .null, .null, .null, .null, .null, .int 0, .int 0, .int 0, .int 0, .int 0, .int 0, .int 0, .int 0, .int 0, .int 0])), (q7, .inl (ca 0, 8, .inl (fun _ => 0))), (q15, .inl (ca 0, 8, .inl (fun _ => 0))), (q23, .inl (ca 0, 8, .inl (fun _ => 0))), (q31, .inl (ca 0, 8, .inl (fun _ => 0)))] H := hP
  have hD : va_D A [(h0, .inr (4, [.ref q7, .ref q15, .ref q23, .null, .null, .null, .null, .null, .int 0, .int 0, .int 0, .int 0, .int 0, .int 0, .int 0, .int 0, .int 0, .int 0])), (q7, .inl (ca 0, 8, .inl (fun _ => 0))), (q15, .inl (ca 0, 8, .inl (fun _ => 0))), (q23, .inl (ca 0, 8, .inl (fun _ => 0))), (q31, .inl (ca 0, 8, .inl (fun _ => 0)))] := hD
  refine W.widen (k := 4) (n := 32) (Nat.le_of_ble_eq_true rfl) (Nat.le_of_ble_eq_true rfl) ?_
  refine va_putF (D := (dC, dI)) (ci := 4) (v := .ref q31) (ty := (.array .int)) (C := RX4) (T := TX4) (N := 18) hx hb hts (bt_clW 4 _ rfl) tyX4 tyX4_ok nmX4 hown hK.1 hP hD hS 0 rfl rfl 3 (by decide) (hts _ (bw_T 41 (by decide +kernel) (by decide +kernel))) (fun _ h9 => h9) rfl hin rfl (by decide +kernel) rfl rfl (Nat.le_of_ble_eq_true rfl) (show decode cX4_init 33 = .ok (.putfield 21, 3) by decide +kernel) (fun H locs hP hD hS => ?_)
  have hP : va_P (dC, dI) bt_cl [(h0, .inr (4, [.ref q7, .ref q15, .ref q23, .ref q31, .null, .null, .null, .null, .int 0, .int 0, .int 0, .int 0, .int 0, .int 0, .int 0, .int 0, .int 0, .int 0])), (q7, .inl (ca 0, 8, .inl (fun _ => 0))), (q15, .inl (ca 0, 8, .inl (fun _ => 0))), (q23, .inl (ca 0, 8, .inl (fun _ => 0))), (q31, .inl (ca 0, 8, .inl (fun _ => 0)))] H := hP
  have hD : va_D A [(h0, .inr (4, [.ref q7, .ref q15, .ref q23, .ref q31, .null, .null, .null, .null, .int 0, .int 0, .int 0, .int 0, .int 0, .int 0, .int 0, .int 0, .int 0, .int 0])), (q7, .inl (ca 0, 8, .inl (fun _ => 0))), (q15, .inl (ca 0, 8, .inl (fun _ => 0))), (q23, .inl (ca 0, 8, .inl (fun _ => 0))), (q31, .inl (ca 0, 8, .inl (fun _ => 0)))] := hD
  refine lv_aload_n hx hb (show decode cX4_init 36 = .ok (.aload_n 0, 1) by decide +kernel) rfl (lv_at hl 0 rfl) ?_
  refine lv_bipush (v := 6) hx hb (show decode cX4_init 37 = .ok (.bipush 6, 2) by decide +kernel) (by decide) ?_
  refine bw_na (a0 := (6, .inl (fun _ => 0))) hx hb (hts _ (bw_T 133 (by decide +kernel) (by decide +kernel))) rfl hK.1 hP hD hS hA 0 rfl (fun cA => rfl) (by decide) rfl (by decide) (show 5 ≤ 8 from Nat.le_of_ble_eq_true rfl) (show 38 ≤ 56 from Nat.le_of_ble_eq_true rfl) (show decode cX4_init 39 = .ok (.newarray .int, 2) by decide +kernel) (fun q39 H hP hD hS => ?_)
  have hP : va_P (dC, dI) bt_cl [(h0, .inr (4, [.ref q7, .ref q15, .ref q23, .ref q31, .null, .null, .null, .null, .int 0, .int 0, .int 0, .int 0, .int 0, .int 0, .int 0, .int 0, .int 0, .int 0])), (q7, .inl (ca 0, 8, .inl (fun _ => 0))), (q15, .inl (ca 0, 8, .inl (fun _ => 0))), (q23, .inl (ca 0, 8, .inl (fun _ => 0))), (q31, .inl (ca 0, 8, .inl (fun _ => 0))), (q39, .inl (ca 0, 6, .inl (fun _ => 0)))] H := hP
  have hD : va_D A [(h0, .inr (4, [.ref q7, .ref q15, .ref q23, .ref q31, .null, .null, .null, .null, .int 0, .int 0, .int 0, .int 0, .int 0, .int 0, .int 0, .int 0, .int 0, .int 0])), (q7, .inl (ca 0, 8, .inl (fun _ => 0))), (q15, .inl (ca 0, 8, .inl (fun _ => 0))), (q23, .inl (ca 0, 8, .inl (fun _ => 0))), (q31, .inl (ca 0, 8, .inl (fun _ => 0))), (q39, .inl (ca 0, 6, .inl (fun _ => 0)))] := hD
  refine W.widen (k := 5) (n := 38) (Nat.le_of_ble_eq_true rfl) (Nat.le_of_ble_eq_true rfl) ?_
  refine va_putF (D := (dC, dI)) (ci := 4) (v := .ref q39) (ty := (.array .int)) (C := RX4) (T := TX4) (N := 18) hx hb hts (bt_clW 4 _ rfl) tyX4 tyX4_ok nmX4 hown hK.1 hP hD hS 0 rfl rfl 4 (by decide) (hts _ (bw_T 45 (by decide +kernel) (by decide +kernel))) (fun _ h9 => h9) rfl hin rfl (by decide +kernel) rfl rfl (Nat.le_of_ble_eq_true rfl) (show decode cX4_init 41 = .ok (.putfield 24, 3) by decide +kernel) (fun H locs hP hD hS => ?_)
  have hP : va_P (dC, dI) bt_cl [(h0, .inr (4, [.ref q7, .ref q15, .ref q23, .ref q31, .ref q39, .null, .null, .null, .int 0, .int 0, .int 0, .int 0, .int 0, .int 0, .int 0, .int 0, .int 0, .int 0])), (q7, .inl (ca 0, 8, .inl (fun _ => 0))), (q15, .inl (ca 0, 8, .inl (fun _ => 0))), (q23, .inl (ca 0, 8, .inl (fun _ => 0))), (q31, .inl (ca 0, 8, .inl (fun _ => 0))), (q39, .inl (ca 0, 6, .inl (fun _ => 0)))] H := hP
  have hD : va_D A [(h0, .inr (4, [.ref q7, .ref q15, .ref q23, .ref q31, .ref q39, .null, .null, .null, .int 0, .int 0, .int 0, .int 0, .int 0, .int 0, .int 0, .int 0, .int 0, .int 0])), (q7, .inl (ca 0, 8, .inl (fun _ => 0))), (q15, .inl (ca 0, 8, .inl (fun _ => 0))), (q23, .inl (ca 0, 8, .inl (fun _ => 0))), (q31, .inl (ca 0, 8, .inl (fun _ => 0))), (q39, .inl (ca 0, 6, .inl (fun _ => 0)))] := hD
  refine lv_aload_n hx hb (show decode cX4_init 44 = .ok (.aload_n 0, 1) by decide +kernel) rfl (lv_at hl 0 rfl) ?_
  refine lv_bipush (v := 6) hx hb (show decode cX4_init 45 = .ok (.bipush 6, 2) by decide +kernel) (by decide) ?_
  refine bw_na (a0 := (6, .inl (fun _ => 0))) hx hb (hts _ (bw_T 133 (by decide +kernel) (by decide +kernel))) rfl hK.1 hP hD hS hA 0 rfl (fun cA => rfl) (by decide) rfl (by decide) (show 6 ≤ 8 from Nat.le_of_ble_eq_true rfl) (show 44 ≤ 56 from Nat.le_of_ble_eq_true rfl) (show decode cX4_init 47 = .ok (.newarray .int, 2) by decide +kernel) (fun q47 H hP hD hS => ?_)
  have hP : va_P (dC, dI) bt_cl [(h0, .inr (4, [.ref q7, .ref q15, .ref q23, .ref q31, .ref q39, .null, .null, .null, .int 0, .int 0, .int 0, .int 0, .int 0, .int 0, .int 0, .int 0, .int 0, .int 0])), (q7, .inl (ca 0, 8, .inl (fun _ => 0))), (q15, .inl (ca 0, 8, .inl (fun _ => 0))), (q23, .inl (ca 0, 8, .inl (fun _ => 0))), (q31, .inl (ca 0, 8, .inl (fun _ => 0))), (q39, .inl (ca 0, 6, .inl (fun _ => 0))), (q47, .inl (ca 0, 6, .inl (fun _ => 0)))] H := hP
  have hD : va_D A [(h0, .inr (4, [.ref q7, .ref q15, .ref q23, .ref q31, .ref q39, .null, .null, .null, .int 0, .int 0, .int 0, .int 0, .int 0, .int 0, .int 0, .int 0, .int 0, .int 0])), (q7, .inl (ca 0, 8, .inl (fun _ => 0))), (q15, .inl (ca 0, 8, .inl (fun _ => 0))), (q23, .inl (ca 0, 8, .inl (fun _ => 0))), (q31, .inl (ca 0, 8, .inl (fun _ => 0))), (q39, .inl (ca 0, 6, .inl (fun _ => 0))), (q47, .inl (ca 0, 6, .inl (fun _ => 0)))] := hD
  refine W.widen (k := 6) (n := 44) (Nat.le_of_ble_eq_true rfl) (Nat.le_of_ble_eq_true rfl) ?_
  refine va_putF (D := (dC, dI)) (ci := 4) (v := .ref q47) (ty := (.array .int)) (C := RX4) (T := TX4) (N := 18) hx hb hts (bt_clW 4 _ rfl) tyX4 tyX4_ok nmX4 hown hK.1 hP hD hS 0 rfl rfl 5 (by decide) (hts _ (bw_T 48 (by decide +kernel) (by decide +kernel))) (fun _ h9 => h9) rfl hin rfl (by decide +kernel) rfl rfl (Nat.le_of_ble_eq_true rfl) (show decode cX4_init 49 = .ok (.putfield 27, 3) by decide +kernel) (fun H locs hP hD hS => ?_)
  have hP : va_P (dC, dI) bt_cl [(h0, .inr (4, [.ref q7, .ref q15, .ref q23, .ref q31, .ref q39, .ref q47, .null, .null, .int 0, .int 0, .int 0, .int 0, .int 0, .int 0, .int 0, .int 0, .int 0, .int 0])), (q7, .inl (ca 0, 8, .inl (fun _ => 0))), (q15, .inl (ca 0, 8, .inl (fun _ => 0))), (q23, .inl (ca 0, 8, .inl (fun _ => 0))), (q31, .inl (ca 0, 8, .inl (fun _ => 0))), (q39, .inl (ca 0, 6, .inl (fun _ => 0))), (q47, .inl (ca 0, 6, .inl (fun _ => 0)))] H := hP
  have hD : va_D A [(h0, .inr (4, [.ref q7, .ref q15, .ref q23, .ref q31, .ref q39, .ref q47, .null, .null, .int 0, .int 0, .int 0, .int 0, .int 0, .int 0, .int 0, .int 0, .int 0, .int 0])), (q7, .inl (ca 0, 8, .inl (fun _ => 0))), (q15, .inl (ca 0, 8, .inl (fun _ => 0))), (q23, .inl (ca 0, 8, .inl (fun _ => 0))), (q31, .inl (ca 0, 8, .inl (fun _ => 0))), (q39, .inl (ca 0, 6, .inl (fun _ => 0))), (q47, .inl (ca 0, 6, .inl (fun _ => 0)))] := hD
  refine lv_aload_n hx hb (show decode cX4_init 52 = .ok (.aload_n 0, 1) by decide +kernel) rfl (lv_at hl 0 rfl) ?_
  refine lv_bipush (v := 6) hx hb (show decode cX4_init 53 = .ok (.bipush 6, 2) by decide +kernel) (by decide) ?_
  refine bw_na (a0 := (6, .inl (fun _ => 0))) hx hb (hts _ (bw_T 133 (by decide +kernel) (by decide +kernel))) rfl hK.1 hP hD hS hA 0 rfl (fun cA => rfl) (by decide) rfl (by decide) (show 7 ≤ 8 from Nat.le_of_ble_eq_true rfl) (show 50 ≤ 56 from Nat.le_of_ble_eq_true rfl) (show decode cX4_init 55 = .ok (.newarray .int, 2) by decide +kernel) (fun q55 H hP hD hS => ?_)
  have hP : va_P (dC, dI) bt_cl [(h0, .inr (4, [.ref q7, .ref q15, .ref q23, .ref q31, .ref q39, .ref q47, .null, .null, .int 0, .int 0, .int 0, .int 0, .int 0, .int 0, .int 0, .int 0, .int 0, .int 0])), (q7, .inl (ca 0, 8, .inl (fun _ => 0))), (q15, .inl (ca 0, 8, .inl (fun _ => 0))), (q23, .inl (ca 0, 8, .inl (fun _ => 0))), (q31, .inl (ca 0, 8, .inl (fun _ => 0))), (q39, .inl (ca 0, 6, .inl (fun _ => 0))), (q47, .inl (ca 0, 6, .inl (fun _ => 0))), (q55, .inl (ca 0, 6, .inl (fun _ => 0)))] H := hP
  have hD : va_D A [(h0, .inr (4, [.ref q7, .ref q15, .ref q23, .ref q31, .ref q39, .ref q47, .null, .null, .int 0, .int 0, .int 0, .int 0, .int 0, .int 0, .int 0, .int 0, .int 0, .int 0])), (q7, .inl (ca 0, 8, .inl (fun _ => 0))), (q15, .inl (ca 0, 8, .inl (fun _ => 0))), (q23, .inl (ca 0, 8, .inl (fun _ => 0))), (q31, .inl (ca 0, 8, .inl (fun _ => 0))), (q39, .inl (ca 0, 6, .inl (fun _ => 0))), (q47, .inl (ca 0, 6, .inl (fun _ => 0))), (q55, .inl (ca 0, 6, .inl (fun _ => 0)))] := hD
  refine W.widen (k := 7) (n := 50) (Nat.le_of_ble_eq_true rfl) (Nat.le_of_ble_eq_true rfl) ?_
  refine va_putF (D := (dC, dI)) (ci := 4) (v := .ref q55) (ty := (.array .int)) (C := RX4) (T := TX4) (N := 18) hx hb hts (bt_clW 4 _ rfl) tyX4 tyX4_ok nmX4 hown hK.1 hP hD hS 0 rfl rfl 6 (by decide) (hts _ (bw_T 51 (by decide +kernel) (by decide +kernel))) (fun _ h9 => h9) rfl hin rfl (by decide +kernel) rfl rfl (Nat.le_of_ble_eq_true rfl) (show decode cX4_init 57 = .ok (.putfield 30, 3) by decide +kernel) (fun H locs hP hD hS => ?_)
  have hP : va_P (dC, dI) bt_cl [(h0, .inr (4, [.ref q7, .ref q15, .ref q23, .ref q31, .ref q39, .ref q47, .ref q55, .null, .int 0, .int 0, .int 0, .int 0, .int 0, .int 0, .int 0, .int 0, .int 0, .int 0])), (q7, .inl (ca 0, 8, .inl (fun _ => 0))), (q15, .inl (ca 0, 8, .inl (fun _ => 0))), (q23, .inl (ca 0, 8, .inl (fun _ => 0))), (q31, .inl (ca 0, 8, .inl (fun _ => 0))), (q39, .inl (ca 0, 6, .inl (fun _ => 0))), (q47, .inl (ca 0, 6, .inl (fun _ => 0))), (q55, .inl (ca 0, 6, .inl (fun _ => 0)))] H := hP
  have hD : va_D A [(h0, .inr (4, [.ref q7, .ref q15, .ref q23, .ref q31, .ref q39, .ref q47, .ref q55, .null, .int 0, .int 0, .int 0, .int 0, .int 0, .int 0, .int 0, .int 0, .int 0, .int 0])), (q7, .inl (ca 0, 8, .inl (fun _ => 0))), (q15, .inl (ca 0, 8, .inl (fun _ => 0))), (q23, .inl (ca 0, 8, .inl (fun _ => 0))), (q31, .inl (ca 0, 8, .inl (fun _ => 0))), (q39, .inl (ca 0, 6, .inl (fun _ => 0))), (q47, .inl (ca 0, 6, .inl (fun _ => 0))), (q55, .inl (ca 0, 6, .inl (fun _ => 0)))] := hD
  refine lv_aload_n hx hb (show decode cX4_init 60 = .ok (.aload_n 0, 1) by decide +kernel) rfl (lv_at hl 0 rfl) ?_
  refine lv_bipush (v := 6) hx hb (show decode cX4_init 61 = .ok (.bipush 6, 2) by decide +kernel) (by decide) ?_
  refine bw_na (a0 := (6, .inl (fun _ => 0))) hx hb (hts _ (bw_T 133 (by decide +kernel) (by decide +kernel))) rfl hK.1 hP hD hS hA 0 rfl (fun cA => rfl) (by decide) rfl (by decide) (show 8 ≤ 8 from Nat.le_of_ble_eq_true rfl) (show 56 ≤ 56 from Nat.le_of_ble_eq_true rfl) (show decode cX4_init 63 = .ok (.newarray .int, 2) by decide +kernel) (fun q63 H hP hD hS => ?_)
  have hP : va_P (dC, dI) bt_cl [(h0, .inr (4, [.ref q7, .ref q15, .ref q23, .ref q31, .ref q39, .ref q47, .ref q55, .null, .int 0, .int 0, .int 0, .int 0, .int 0, .int 0, .int 0, .int 0, .int 0, .int 0])), (q7, .inl (ca 0, 8, .inl (fun _ => 0))), (q15, .inl (ca 0, 8, .inl (fun _ => 0))), (q23, .inl (ca 0, 8, .inl (fun _ => 0))), (q31, .inl (ca 0, 8, .inl (fun _ => 0))), (q39, .inl (ca 0, 6, .inl (fun _ => 0))), (q47, .inl (ca 0, 6, .inl (fun _ => 0))), (q55, .inl (ca 0, 6, .inl (fun _ => 0))), (q63, .inl (ca 0, 6, .inl (fun _ => 0)))] H := hP
  have hD : va_D A [(h0, .inr (4, [.ref q7, .ref q15, .ref q23, .ref q31, .ref q39, .ref q47, .ref q55, .null, .int 0, .int 0, .int 0, .int 0, .int 0, .int 0, .int 0, .int 0, .int 0, .int 0])), (q7, .inl (ca 0, 8, .inl (fun _ => 0))), (q15, .inl (ca 0, 8, .inl (fun _ => 0))), (q23, .inl (ca 0, 8, .inl (fun _ => 0))), (q31, .inl (ca 0, 8, .inl (fun _ => 0))), (q39, .inl (ca 0, 6, .inl (fun _ => 0))), (q47, .inl (ca 0, 6, .inl (fun _ => 0))), (q55, .inl (ca 0, 6, .inl (fun _ => 0))), (q63, .inl (ca 0, 6, .inl (fun _ => 0)))] := hD
  refine W.widen (k := 8) (n := 56) (Nat.le_of_ble_eq_true rfl) (Nat.le_of_ble_eq_true rfl) ?_
  refine va_putF (D := (dC, dI)) (ci := 4) (v := .ref q63) (ty := (.array .int)) (C := RX4) (T := TX4) (N := 18) hx hb hts (bt_clW 4 _ rfl) tyX4 tyX4_ok nmX4 hown hK.1 hP hD hS 0 rfl rfl 7 (by decide) (hts _ (bw_T 55 (by decide +kernel) (by decide +kernel))) (fun _ h9 => h9) rfl hin rfl (by decide +kernel) rfl rfl (Nat.le_of_ble_eq_true rfl) (show decode cX4_init 65 = .ok (.putfield 33, 3) by decide +kernel) (fun H locs hP hD hS => ?_)
  have hP : va_P (dC, dI) bt_cl [(h0, .inr (4, [.ref q7, .ref q15, .ref q23, .ref q31, .ref q39, .ref q47, .ref q55, .ref q63, .int 0, .int 0, .int 0, .int 0, .int 0, .int 0, .int 0, .int 0, .int 0, .int 0])), (q7, .inl (ca 0, 8, .inl (fun _ => 0))), (q15, .inl (ca 0, 8, .inl (fun _ => 0))), (q23, .inl (ca 0, 8, .inl (fun _ => 0))), (q31, .inl (ca 0, 8, .inl (fun _ => 0))), (q39, .inl (ca 0, 6, .inl (fun _ => 0))), (q47, .inl (ca 0, 6, .inl (fun _ => 0))), (q55, .inl (ca 0, 6, .inl (fun _ => 0))), (q63, .inl (ca 0, 6, .inl (fun _ => 0)))] H := hP
  have hD : va_D A [(h0, .inr (4, [.ref q7, .ref q15, .ref q23, .ref q31, .ref q39, .ref q47, .ref q55, .ref q63, .int 0, .int 0, .int 0, .int 0, .int 0, .int 0, .int 0, .int 0, .int 0, .int 0])), (q7, .inl (ca 0, 8, .inl (fun _ => 0))), (q15, .inl (ca 0, 8, .inl (fun _ => 0))), (q23, .inl (ca 0, 8, .inl (fun _ => 0))), (q31, .inl (ca 0, 8, .inl (fun _ => 0))), (q39, .inl (ca 0, 6, .inl (fun _ => 0))), (q47, .inl (ca 0, 6, .inl (fun _ => 0))), (q55, .inl (ca 0, 6, .inl (fun _ => 0))), (q63, .inl (ca 0, 6, .inl (fun _ => 0)))] := hD
  refine lv_aload_n hx hb (show decode cX4_init 68 = .ok (.aload_n 0, 1) by decide +kernel) rfl (lv_at hl 0 rfl) ?_
  refine lv_iconst (v := 5) hx hb (show decode cX4_init 69 = .ok (.iconst 5, 1) by decide +kernel) (by decide) ?_
  refine va_put (D := (dC, dI)) (ci := 4) (v := .int 5) (ty := .int) (C := RX4) (T := TX4) (N := 18) hx hb hts (bt_clW 4 _ rfl) tyX4 tyX4_ok nmX4 hown hK.1 hP hD hS 0 rfl rfl 14 (by decide) (hts _ (bw_T 82 (by decide +kernel) (by decide +kernel))) (fun _ h9 => h9) rfl (by decide +kernel) rfl rfl (Nat.le_of_ble_eq_true rfl) (show decode cX4_init 70 = .ok (.putfield 36, 3) by decide +kernel) (fun H locs hP hD hS => ?_)
  have hP : va_P (dC, dI) bt_cl [(h0, .inr (4, [.ref q7, .ref q15, .ref q23, .ref q31, .ref q39, .ref q47, .ref q55, .ref q63, .int 0, .int 0, .int 0, .int 0, .int 0, .int 0, .int 5, .int 0, .int 0, .int 0])), (q7, .inl (ca 0, 8, .inl (fun _ => 0))), (q15, .inl (ca 0, 8, .inl (fun _ => 0))), (q23, .inl (ca 0, 8, .inl (fun _ => 0))), (q31, .inl (ca 0, 8, .inl (fun _ => 0))), (q39, .inl (ca 0, 6, .inl (fun _ => 0))), (q47, .inl (ca 0, 6, .inl (fun _ => 0))), (q55, .inl (ca 0, 6, .inl (fun _ => 0))), (q63, .inl (ca 0, 6, .inl (fun _ => 0)))] H := hP
  have hD : va_D A [(h0, .inr (4, [.ref q7, .ref q15, .ref q23, .ref q31, .ref q39, .ref q47, .ref q55, .ref q63, .int 0, .int 0, .int 0, .int 0, .int 0, .int 0, .int 5, .int 0, .int 0, .int 0])), (q7, .inl (ca 0, 8, .inl (fun _ => 0))), (q15, .inl (ca 0, 8, .inl (fun _ => 0))), (q23, .inl (ca 0, 8, .inl (fun _ => 0))), (q31, .inl (ca 0, 8, .inl (fun _ => 0))), (q39, .inl (ca 0, 6, .inl (fun _ => 0))), (q47, .inl (ca 0, 6, .inl (fun _ => 0))), (q55, .inl (ca 0, 6, .inl (fun _ => 0))), (q63, .inl (ca 0, 6, .inl (fun _ => 0)))] := hD
  exact W.vret hx hb hr (fun t ht hW => ⟨⟨(), rfl, trivial, q7, q15, q23, q31, q39, q47, q55, q63, by rw [ht]; exact hP, hD⟩, hS.F ht⟩) hS.2.2 (show decode cX4_init 73 = .ok (.return_, 1) by decide +kernel) hlocks
set_option maxHeartbeats 8000000 in
set_option maxRecDepth 100000 in
theorem ciX3 (l : Launch) (dC : Nat → ClassId) (dI : Nat → Nat → Nat) (ca : Nat → ClassId) (h0 b1 b2 sz : Nat) : Met l yX3_init (.code yX3_init cX3_init 3 none :: bt_big) ({ frames := 1, cells := 0, slots := 0, locals := 20 }) (va_Pc [.ref h0, .ref b1, .ref b2] (fun U => U.heap.size = sz ∧ va_P (dC, dI) bt_cl [(h0, .inr (3, [.null, .null, .int 0, .int 0, .int 0, .int 0, .int 0, .int 0, .int 0, .int 0, .int 0, .int 0, .int 0, .int 0]))] U.heap ∧ bw_Kc dC dI ca U ∧ va_D (fun _ => True) [(h0, .inr (3, [.null, .null, .int 0, .int 0, .int 0, .int 0, .int 0, .int 0, .int 0, .int 0, .int 0, .int 0, .int 0, .int 0]))])) (va_Qv (fun _ : Unit => True) (fun _ U => va_P (dC, dI) bt_cl [(h0, .inr (3, [.ref b1, .ref b2, .int 0, .int 0, .int 0, .int 0, .int 0, .int 0, .int 0, .int 0, .int 0, .int 0, .int 0, .int 0]))] U.heap ∧ va_D (va_A [(h0, .inr (3, [.null, .null, .int 0, .int 0, .int 0, .int 0, .int 0, .int 0, .int 0, .int 0, .int 0, .int 0, .int 0, .int 0]))] sz) [(h0, .inr (3, [.ref b1, .ref b2, .int 0, .int 0, .int 0, .int 0, .int 0, .int 0, .int 0, .int 0, .int 0, .int 0, .int 0, .int 0]))]) (va_A [(h0, .inr (3, [.null, .null, .int 0, .int 0, .int 0, .int 0, .int 0, .int 0, .int 0, .int 0, .int 0, .int 0, .int 0, .int 0]))] sz)) 0 0 (va_A [(h0, .inr (3, [.null, .null, .int 0, .int 0, .int 0, .int 0, .int 0, .int 0, .int 0, .int 0, .int 0, .int 0, .int 0, .int 0]))] sz) := by
  refine Met.ofW (cc := cX3_init) (maxL := 3) (ret := none) (by decide) rfl ?_
  intro p e s m args below meth c s₁ B hml hv
  obtain ⟨rfl, hsz, hP, hK, hD0⟩ := hv
  have hx := B.exec
  have hb := B.bytes
  have hr := B.returns
  have hts0 := atoms_spec (ws := Cond.code yX3_init cX3_init 3 none :: bt_big) B.pre
  have hts : ∀ w ∈ bt_big, w.before _ s = true := fun w hw => hts0 w (List.mem_cons_of_mem _ hw)
  have hown : s.vm.findClass RX3 = some m.cls := findClass_of_methodNamed B.named
  have hlocks := B.notSynchronized
  have hin : meth.name = "<init>" := (name_of_methodNamed B.named B.method).1
  subst hsz
  have hD := hD0.self (sz := s.heap.size)
  generalize hAe : va_A [(h0, .inr (3, [.null, .null, .int 0, .int 0, .int 0, .int 0, .int 0, .int 0, .int 0, .int 0, .int 0, .int 0, .int 0, .int 0]))] s.heap.size = A at hD ⊢
  have hA : ∀ q : Nat, s.heap.size ≤ q → A q := fun q h => by rw [← hAe]; exact Or.inr h
  have hS : va_S A s.heap s.heap [] := va_S.rf
  have hl := lv_entry ([.ref h0, .ref b1, .ref b2] : List Value) (n := 3) (Nat.le_of_ble_eq_true rfl)
  rw [lg_entry_eq]
  generalize (lg_sl ([.ref h0, .ref b1, .ref b2] : List Value) ++ List.replicate (3 - (lg_sl ([.ref h0, .ref b1, .ref b2] : List Value)).length) Slot.unset).toArray = ls at hl ⊢
  have hl : lv_has ls 3 [(0, .ref h0), (1, .ref b1), (2, .ref b2)] := hl
  refine lv_aload_n hx hb (show decode cX3_init 0 = .ok (.aload_n 0, 1) by decide +kernel) rfl (lv_at hl 0 rfl) ?_
  refine W.objInit hx hb hown (hts _ (bw_T 139 (by decide +kernel) (by decide +kernel))) (hts _ (bw_T 21 (by decide +kernel) (by decide +kernel))) (hts _ (bw_T 22 (by decide +kernel) (by decide +kernel))) rfl (by rw [hml]; exact hl.1) rfl (show decode cX3_init 1 = .ok (.invokespecial 3, 3) by decide +kernel) (Nat.le_of_ble_eq_true rfl) (Nat.le_of_ble_eq_true rfl) ?_
  refine W.eq (g2 := F0 m 4 ls []) rfl ?_
  refine lv_aload_n hx hb (show decode cX3_init 4 = .ok (.aload_n 0, 1) by decide +kernel) rfl (lv_at hl 0 rfl) ?_
  refine lv_aload_n hx hb (show decode cX3_init 5 = .ok (.aload_n 1, 1) by decide +kernel) rfl (lv_at hl 1 rfl) ?_
  refine va_putF (D := (dC, dI)) (ci := 3) (v := .ref b1) (ty := (.array .byte)) (C := RX3) (T := TX3) (N := 14) hx hb hts (bt_clW 3 _ rfl) tyX3 tyX3_ok nmX3 hown hK.1 hP hD hS 0 rfl rfl 0 (by decide) (hts _ (bw_T 140 (by decide +kernel) (by decide +kernel))) (fun _ h9 => h9) rfl hin rfl (by decide +kernel) rfl rfl (Nat.le_of_ble_eq_true rfl) (show decode cX3_init 6 = .ok (.putfield 9, 3) by decide +kernel) (fun H locs hP hD hS => ?_)
  have hP : va_P (dC, dI) bt_cl [(h0, .inr (3, [.ref b1, .null, .int 0, .int 0, .int 0, .int 0, .int 0, .int 0, .int 0, .int 0, .int 0, .int 0, .int 0, .int 0]))] H := hP
  have hD : va_D A [(h0, .inr (3, [.ref b1, .null, .int 0, .int 0, .int 0, .int 0, .int 0, .int 0, .int 0, .int 0, .int 0, .int 0, .int 0, .int 0]))] := hD
  refine lv_aload_n hx hb (show decode cX3_init 9 = .ok (.aload_n 0, 1) by decide +kernel) rfl (lv_at hl 0 rfl) ?_
  refine lv_aload_n hx hb (show decode cX3_init 10 = .ok (.aload_n 2, 1) by decide +kernel) rfl (lv_at hl 2 rfl) ?_
  refine va_putF (D := (dC, dI)) (ci := 3) (v := .ref b2) (ty := (.object "BehindTractor$World")) (C := RX3) (T := TX3) (N := 14) hx hb hts (bt_clW 3 _ rfl) tyX3 tyX3_ok nmX3 hown hK.1 hP hD hS 0 rfl rfl 1 (by decide) (hts _ (bw_T 141 (by decide +kernel) (by decide +kernel))) (fun _ h9 => h9) rfl hin rfl (by decide +kernel) rfl rfl (Nat.le_of_ble_eq_true rfl) (show decode cX3_init 11 = .ok (.putfield 15, 3) by decide +kernel) (fun H locs hP hD hS => ?_)
  have hP : va_P (dC, dI) bt_cl [(h0, .inr (3, [.ref b1, .ref b2, .int 0, .int 0, .int 0, .int 0, .int 0, .int 0, .int 0, .int 0, .int 0, .int 0, .int 0, .int 0]))] H := hP
  have hD : va_D A [(h0, .inr (3, [.ref b1, .ref b2, .int 0, .int 0, .int 0, .int 0, .int 0, .int 0, .int 0, .int 0, .int 0, .int 0, .int 0, .int 0]))] := hD
  exact W.vret hx hb hr (fun t ht hW => ⟨⟨(), rfl, trivial, by rw [ht]; exact hP, hD⟩, hS.F ht⟩) hS.2.2 (show decode cX3_init 14 = .ok (.return_, 1) by decide +kernel) hlocks
