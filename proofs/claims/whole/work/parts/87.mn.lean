/-! AN ARRAY OF ARRAYS, 9 OF 6: one instruction -/
def bw_oc (c : ClassId) (h i : Nat) : Cell := arrV c 9 (fun j => if j < i then .ref (h + 1 + j) else .null)
def bw_ic (d : ClassId) : Cell := arrV d 6 (fun _ => .int 0)
def bw_fl (s : State) (c d : ClassId) : Nat → State
  | 0 => s.pushCell (bw_oc c s.heap.size 0)
  | i + 1 => ((bw_fl s c d i).pushCell (bw_ic d)).setCell s.heap.size (bw_oc c s.heap.size (i + 1))
theorem bw_oc_z (c : ClassId) (h i : Nat) : (bw_oc c h i).slots.size = 9 := arrV_size _ _ _
theorem bw_ic_z (d : ClassId) : (bw_ic d).slots.size = 6 := arrV_size _ _ _
theorem bw_oc_0 (c : ClassId) (h : Nat) : bw_oc c h 0 = { cls := c, slots := Array.replicate 9 .null, vm := .none } := by
  rw [arrV_new]
  unfold bw_oc
  congr 1
theorem bw_ic_0 (d : ClassId) : bw_ic d = { cls := d, slots := Array.replicate 6 (.int 0), vm := .none } := by
  rw [arrV_new]
  rfl
theorem bw_oc_s (c : ClassId) (h i : Nat) : (bw_oc c h i).setSlot i (.ref (h + 1 + i)) = bw_oc c h (i + 1) := by
  unfold bw_oc
  rw [arrV_store]
  congr 1
  funext j
  unfold updV
  by_cases h1 : j = i
  · rw [if_pos h1, if_pos (by omega), h1]
  · rw [if_neg h1]
    dsimp only
    by_cases h2 : j < i
    · rw [if_pos h2, if_pos (by omega)]
    · rw [if_neg h2, if_neg (by omega)]
theorem bw_fl_f (s : State) (c d : ClassId) : ∀ i, (bw_fl s c d i).heap.size = s.heap.size + 1 + i ∧ (bw_fl s c d i).heap[s.heap.size]? = some (bw_oc c s.heap.size i) ∧ (bw_fl s c d i).vm = s.vm ∧ (bw_fl s c d i).slotsUsed = s.slotsUsed + 9 + 6 * i ∧ (∀ a : Nat, a < s.heap.size → (bw_fl s c d i).heap[a]? = s.heap[a]?) ∧ ∀ j, j < i → (bw_fl s c d i).heap[s.heap.size + 1 + j]? = some (bw_ic d)
  | 0 => by
    refine ⟨by show (s.heap.push _).size = _; rw [Array.size_push], by show (s.heap.push _)[s.heap.size]? = _; rw [Array.getElem?_push_size], rfl, ?_, fun a ha => ?_, fun j hj => absurd hj (Nat.not_lt_zero _)⟩
    · show s.slotsUsed + (bw_oc c s.heap.size 0).slots.size = _
      rw [bw_oc_z]
    · show (s.heap.push _)[a]? = _
      rw [Array.getElem?_push, if_neg (Nat.ne_of_lt ha)]
  | i + 1 => by
    obtain ⟨f1, f2, f3, f4, f5, f6⟩ := bw_fl_f s c d i
    have hz : (bw_fl s c d (i + 1)).heap = ((bw_fl s c d i).heap.push (bw_ic d)).setIfInBounds s.heap.size (bw_oc c s.heap.size (i + 1)) := rfl
    refine ⟨?_, ?_, f3, ?_, fun a ha => ?_, fun j hj => ?_⟩
    · rw [hz, Array.size_setIfInBounds, Array.size_push, f1]
      omega
    · rw [hz, Array.getElem?_setIfInBounds_self_of_lt (by rw [Array.size_push, f1]; omega)]
    · show (bw_fl s c d i).slotsUsed + (bw_ic d).slots.size = _
      rw [bw_ic_z, f4]
      omega
    · rw [hz, Array.getElem?_setIfInBounds_ne (by omega), Array.getElem?_push, if_neg (by omega)]
      exact f5 a ha
    · rw [hz, Array.getElem?_setIfInBounds_ne (by omega), Array.getElem?_push]
      by_cases h1 : s.heap.size + 1 + j = (bw_fl s c d i).heap.size
      · rw [if_pos h1]
      · rw [if_neg h1]
        exact f6 j (by omega)
theorem bw_fl_t (s : State) (f : JFrame) (c d : ClassId) : ∀ i, bw_fl (s.setTop f) c d i = (bw_fl s c d i).setTop f
  | 0 => rfl
  | i + 1 => by
    unfold bw_fl
    rw [bw_fl_t s f c d i]
    rfl
theorem bw_wp1 {E : CtlPost} {e : Env} {a : Bool} {acts : List Action} {s : State} {d dd : ClassId} {kd : Class} (hk : s.vm.classes[d]? = some kd) (hkd : kd.kind = .array dd .int) (hl : ¬ 9 > e.platform.arrayLengthLimit) (hh : ¬ 36 > e.platform.maxHeapBytes) (hc : s.heap.size < e.platform.maxCells) (hs : s.slotsUsed + 6 ≤ e.platform.maxSlots) {Q : Addr → Pre} (hq : ∀ acts', Q s.heap.size a acts' (s.pushCell (bw_ic d))) : wp (Op.multianewarray.make d [6]) Q E e a acts s := by
  rw [Op.multianewarray.make]
  simp only [wp_bind', W.ite, show ¬ (6 : Int32) < 0 by decide, if_false, wp_pure', W.theClass, hk, hkd, Option.some.injEq, exists_eq_left']
  refine W.newArray_of hk hkd (by show ¬ 6 > _; omega) (by show ¬ 6 * 4 > _; omega) hc (by show _ + 6 ≤ _; exact hs) rfl (fun acts' => ?_)
  have := hq acts'
  rw [bw_ic_0] at this
  exact this
theorem bw_wp2 {E : CtlPost} {e : Env} {a : Bool} {acts : List Action} {s : State} {c d dd : ClassId} {kc kd : Class} (hk : s.vm.classes[c]? = some kc) (hkc : kc.kind = .array d (.array .int)) (hkk : s.vm.classes[d]? = some kd) (hkd : kd.kind = .array dd .int) (hl : ¬ 9 > e.platform.arrayLengthLimit) (hh : ¬ 36 > e.platform.maxHeapBytes) (hc : s.heap.size + 10 ≤ e.platform.maxCells) (hs : s.slotsUsed + 63 ≤ e.platform.maxSlots) {Q : Addr → Pre} (hq : ∀ a' acts', Q s.heap.size a' acts' (bw_fl s c d 9)) : wp (Op.multianewarray.make c [9, 6]) Q E e a acts s := by
  rw [Op.multianewarray.make]
  simp only [wp_bind', W.ite, show ¬ (9 : Int32) < 0 by decide, if_false, wp_pure', W.theClass, hk, hkc, Option.some.injEq, exists_eq_left']
  refine W.newArray_of hk hkc (by show ¬ 9 > _; omega) (by show ¬ 9 * 4 > _; omega) (by omega) (by show _ + 9 ≤ _; omega) rfl (fun acts' => ?_)
  rw [if_neg (by decide), wp_bind', Std.Legacy.Range.forIn_eq_forIn_range']
  show wp (forIn (List.range' 0 9 1) PUnit.unit _) _ E e a acts' _
  refine wp_forIn_inv (fun rest s' => ∃ i, i ≤ 9 ∧ rest = List.range' i (9 - i) ∧ s' = bw_fl s c d i) _ _ ⟨0, Nat.zero_le _, rfl, ?_⟩ ?_ ?_
  · show _ = s.pushCell (bw_oc c s.heap.size 0)
    rw [bw_oc_0]
    rfl
  · rintro x rest s' d' acts2 Q' ⟨i, hi, hl2, rfl⟩ hnext
    have hlt : i < 9 := by
      rcases Nat.lt_or_ge i 9 with h | h
      · exact h
      · rw [show 9 - i = 0 by omega] at hl2
        cases hl2
    rw [show 9 - i = (9 - (i + 1)) + 1 by omega, List.range'_succ] at hl2
    obtain ⟨rfl, hrest⟩ := List.cons.inj hl2
    obtain ⟨f1, f2, f3, f4, f5, f6⟩ := bw_fl_f s c d x
    simp only [wp_bind']
    refine bw_wp1 (by rw [f3]; exact hkk) hkd hl hh (by rw [f1]; omega) (by rw [f4]; omega) (fun acts3 => ?_)
    simp only [wp_bind', W.writeLoc, wp_pure']
    have hlt0 : s.heap.size < (bw_fl s c d x).heap.size := by rw [f1]; omega
    refine ⟨bw_oc c s.heap.size x, by rw [State.heap_pushCell_of_lt (h := hlt0)]; exact f2, (by intro h; cases h), by rw [bw_oc_z]; exact hlt, ?_, hnext _ _ _ ⟨x + 1, hlt, hrest, ?_⟩⟩
    · show State.fitsSlot _ c .none x _ = true
      simp [State.fitsSlot, State.slotType?, f3, hk, hkc]
      rfl
    · rw [f1, bw_oc_s]
      rfl
  · rintro s' d' acts2 ⟨i, hi, hl2, rfl⟩
    have h9 : i = 9 := by
      rcases Nat.lt_or_ge i 9 with h | h
      · rw [show 9 - i = (9 - (i + 1)) + 1 by omega, List.range'_succ] at hl2
        cases hl2
      · omega
    subst h9
    exact hq _ _
theorem bw_Xf {p : Program} {l : Launch} {e : Env} {R : Room} {s : State} {m : MethodId} {args : Array Value} {below : List Frame} {meth : Method} {cd : Code} {T : State} {locs : List Loc} {cells slots : Nat} (X : Stand p l e R s m args below meth cd T locs cells slots) (c d : ClassId) : ∀ i, ∃ locs', (∀ q ∈ locs', q ∈ locs ∨ q.base = T.heap.size) ∧ Stand p l e R s m args below meth cd (bw_fl T c d i) locs' (cells + 1 + i) (slots + 9 + 6 * i)
  | 0 => by
    have h := X.pushed (bw_oc c T.heap.size 0)
    rw [bw_oc_z] at h
    exact ⟨locs, fun q hq => Or.inl hq, h⟩
  | i + 1 => by
    obtain ⟨locs', hl, Xi⟩ := bw_Xf X c d i
    obtain ⟨f1, f2, f3, f4, f5, f6⟩ := bw_fl_f T c d i
    have hlt0 : T.heap.size < (bw_fl T c d i).heap.size := by rw [f1]; omega
    have h := (Xi.pushed (bw_ic d)).stored (a := T.heap.size) (cell := bw_oc c T.heap.size i) (by rw [State.heap_pushCell_of_lt (h := hlt0)]; exact f2) i (.ref (T.heap.size + 1 + i))
    rw [bw_ic_z, bw_oc_s] at h
    refine ⟨_, fun q hq => ?_, h⟩
    rcases List.mem_append.mp hq with h1 | h1
    · exact hl q h1
    · exact Or.inr (by rw [List.mem_singleton.mp h1])
def bw_A2 (c6 c0 : ClassId) (U : State) : Prop := ∃ (kA kC : Class) (dd : ClassId), U.vm.classes[c6]? = some kA ∧ kA.kind = .array c0 (.array .int) ∧ U.vm.classes[c0]? = some kC ∧ kC.kind = .array dd .int ∧ U.vm.findClass "[[I" = some c6 ∧ U.vm.findClass "[I" = some c0
theorem bw_A2.of {A : Array Value} {U : State} (hover : (Cond.arrayOver (.array .int)).before A U = true) (harr : (Cond.arrayClass .int).before A U = true) : ∃ c6 c0, bw_A2 c6 c0 U := by
  obtain ⟨comp, cA, kA, hcomp, hidx, hkA, hkindA, hnameA⟩ := arrayOverA_spec hover
  obtain ⟨comp', kC, dd, hcomp', hkC, hkindC⟩ := Cond.arrayClass_spec harr
  have ecomp : comp' = comp := Option.some.inj (hcomp'.symm.trans hcomp)
  subst ecomp
  exact ⟨cA, comp', kA, kC, dd, hkA, hkindA, hkC, hkindC, hnameA, hcomp⟩
theorem bw_A2.moved {c6 c0 : ClassId} {u U : State} (hvm : u.vm.Alike U.vm) (h : bw_A2 c6 c0 u) : bw_A2 c6 c0 U := by
  obtain ⟨kA, kC, dd, h1, h2, h3, h4, h5, h6⟩ := h
  obtain ⟨kA1, g1, e1⟩ := hvm.2.2 _ _ h1
  obtain ⟨kC1, g3, e3⟩ := hvm.2.2 _ _ h3
  exact ⟨kA1, kC1, dd, g1, by rw [e1]; exact h2, g3, by rw [e3]; exact h4, by rw [hvm.findClass]; exact h5, by rw [hvm.findClass]; exact h6⟩
theorem bw_mnew {p : Program} {l : Launch} {e : Env} {R : Room} {s : State} {m : MethodId} {args : Array Value} {below : List Frame} {meth : Method} {c : Code} {H : Heap} {locs : List Loc} {cells slots : Nat} {Q : State → Prop} {cc : ByteArray} {pc : Nat} {ls : Array Slot} {rest : List Value} (hexec : p.tables.exec = Jvm.exec) (hb : c.code = cc) {own : String} {index : Nat} (hown : s.vm.findClass own = some m.cls) (hclink : (Cond.classLink own index "[[I").before args s = true) {c0 comp' : ClassId} (h2 : bw_A2 c0 comp' s) (hcells : cells + 10 ≤ R.cells) (hslots : slots + 63 ≤ R.slots) (hdg : decode cc pc = .ok (.multianewarray index 2, 4))
    (kk : ∀ (H1 : Heap) (locs1 : List Loc), H1.size = H.size + 10 → H1[H.size]? = some (bw_oc c0 H.size 9) → (∀ a : Nat, a < H.size → H1[a]? = H[a]?) → (∀ j, j < 9 → H1[H.size + 1 + j]? = some (bw_ic comp')) → (∀ q ∈ locs1, q ∈ locs ∨ q.base = H.size) → W p l e R s m args below meth c H1 locs1 (cells + 10) (slots + 63) Q (F0 m (pc + 4) ls (.ref H.size :: rest))) : W p l e R s m args below meth c H locs cells slots Q (F0 m pc ls (.int 6 :: .int 9 :: rest)) := by
  intro T hT X
  subst hT; subst hb
  have hpl : e.platform.magicAccessors = ({} : Platform).magicAccessors := by rw [X.admits.platform]
  obtain ⟨kA, kC, dd, hkA, hkindA, hkC, hkindC, hnameA, hcomp⟩ := h2
  obtain ⟨c9, hfc0, hcl⟩ := Cond.classLink_spec hown hclink e.platform hpl
  have ec0 : c9 = c0 := Option.some.inj (hfc0.symm.trans hnameA)
  subst ec0
  obtain ⟨hg₁, hwarm₁, hready₁⟩ := State.classEntry (e := e) X.warmed hcl
  generalize T.vm.noted m.cls index (.cls c9) = vm₁ at hg₁ hwarm₁ hready₁
  have hal : s.vm.Alike vm₁ := hwarm₁.alike
  obtain ⟨kA₁, hkA₁, heA⟩ := hal.2.2 _ _ hkA
  obtain ⟨kC₁, hkC₁, heC⟩ := hal.2.2 _ _ hkC
  have X₁ := X.noted hwarm₁
  obtain ⟨hr1, hr2⟩ := X.roomAbove hcells hslots
  obtain ⟨locs', hl', XF⟩ := bw_Xf X₁ c9 comp' 9
  obtain ⟨f1, f2, f3, f4, f5, f6⟩ := bw_fl_f (T.setVm vm₁) c9 comp' 9
  obtain ⟨t', a1, b1⟩ := kk _ locs' f1 f2 f5 f6 hl' (bw_fl (T.setVm vm₁) c9 comp' 9) rfl XF
  refine ⟨t', ?_, b1⟩
  have hl1 : ¬ 9 > e.platform.arrayLengthLimit := by rw [Launch.admits_arrayLengthLimit X.admits]; decide
  have hh1 : ¬ 36 > e.platform.maxHeapBytes := by rw [Launch.admits_maxHeapBytes X.admits]; decide
  jvm_step X.here [hexec, hdg]
  simp only [multianewarray.sem, wp_bind', W.resolveClassAt_links (State.method?_setTop (F0 m pc ls (.int 6 :: .int 9 :: rest)) X.here.top) hg₁]
  rw [W.popN, if_neg (by decide)]
  refine ⟨F0 m pc ls (.int 6 :: .int 9 :: rest), State.topJava?_setTop' (s := T.setVm vm₁) _ X.here.top, [.int 9, .int 6], rest, rfl, rfl, ?_⟩
  simp only [List.mapM_cons, List.mapM_nil, wp_bind', wp_pure']
  refine bw_wp2 (kc := kA₁) (kd := kC₁) (d := comp') (dd := dd) hkA₁ (by rw [heA]; exact hkindA) hkC₁ (by rw [heC]; exact hkindC) hl1 hh1 (by show T.heap.size + 10 ≤ _; omega) (by show T.slotsUsed + 63 ≤ _; omega) (fun a' acts' => ?_)
  have eS : ((T.setTop (F0 m pc ls (.int 6 :: .int 9 :: rest))).setVm vm₁).setTop { F0 m pc ls (.int 6 :: .int 9 :: rest) with stack := rest } = (T.setVm vm₁).setTop { F0 m pc ls (.int 6 :: .int 9 :: rest) with stack := rest } := by
    show ((T.setVm vm₁).setTop _).setTop _ = _
    rw [State.setTop_setTop]
  rw [eS, bw_fl_t]
  simp only [wp_bind', W.mark, W.pushRef, State.topJava?_setTop' _ XF.here.top, Option.some.injEq, exists_eq_left', State.setTop_setTop, State.heap_setTop]
  intro acts
  simp [jvm, XF.here.top]
  exact a1
