/-! THE CLAIM: the law's end, its entry -/
def R_law : String := "BehindTractorLaw"
def lw_P (b : Addr) (xs : List Int32) (args : Array Value) (s : State) : Prop := args = #[.ref b] ∧ s.IntsAt b xs ∧ xs.length ≤ 320 ∧ (Jvm.Cond.and given_1 narrow_1).before args s = true
def lw_Q (_ : Array Value) (s : State) (o : Outcome) (t : State) : Prop := o = .returned (some (.int 1)) ∧ Framed s o t [] 600000 7302250
def lw_Z (below : List Frame) (a : Array Value) (s : State) : State → Prop := fun t => ∃ o, t.status = .running ∧ Ended t below o ∧ lw_Q a s o t
/-- the law's own end, with 1 on the stack, nothing written that was there before, its room as the claim has it -/
theorem lw_ret {p : Program} {l : Launch} {e : Env} {s : State} {m : MethodId} {below : List Frame} {meth : Method} {c : Code} {b : Nat} (hx : p.tables.exec = Jvm.exec) (hb : c.code = code) (hr : meth.sig.returnType = ret) (hlocks : meth.locks = false) {pc : Nat} {H : Heap} {ls : Array Slot} (hdg : decode code pc = .ok (.ireturn, 1)) : W p l e room_1 s m #[Value.ref b] below meth c H [] 600000 7302250 (lw_Z below #[Value.ref b] s) (F0 m pc ls [.int 1]) := by
  intro T hT X
  obtain ⟨fs, hret, hrun, hended, hW, hframe⟩ := X.leave (v := some (.int 1)) (hlocks := hlocks) (fun h => by rw [hr] at h; cases h)
  have hmeth' : T.vm.method? m = some meth := X.method'
  refine ⟨T.setFrames fs, ?_, .returned (some (.int 1)), hrun, hended, rfl, ⟨_, rfl⟩, hW, hframe⟩
  jvm_step X.here [X.here.top, hx, hb, hdg, hmeth', hr, ret, narrow_b1]
  (try refine ⟨rfl, ?_⟩); (try refine ⟨rfl, ?_⟩)
  first | (intro acts; rw [hret _ acts rfl rfl rfl]) | rw [hret _ _ rfl rfl rfl]
  exact Steps.refl _
/-- what holds at the law's entry: the machine, the code, the tables' words (any of lw_tbl by 'hts w (by decide +kernel)'), the script of L ints xs at the cell b, what the Statement gives of the start (any of its parts by flat_of_before) -/
def lw_At (p : Program) (s : State) (m : MethodId) (meth : Method) (c : Code) (b L : Nat) (xs : Nat → Int32) : Prop :=
  p.tables.exec = Jvm.exec ∧ c.code = code ∧ meth.sig.returnType = ret ∧ c.maxLocals = 4 ∧ s.vm.findClass R_law = some m.cls ∧ (∀ w ∈ lw_tbl, w.before #[Value.ref b] s = true) ∧ va_X b L xs s s.heap ∧ b < s.heap.size ∧ meth.locks = false ∧ (Jvm.Cond.and given_1 narrow_1).before #[Value.ref b] s = true
/-- the loop on the machine, from its first instruction to the law's end -/
theorem bw_run {p : Program} {l : Launch} {e : Env} {s : State} {m : MethodId} {below : List Frame} {meth : Method} {c : Code} {b Sz cells slots : Nat} {xs : Nat → Int32} {y : bt_Y} (hy : bt_yo y) (hbase : ∀ q, bt_yA y q → s.heap.size ≤ q) (hr : meth.sig.returnType = ret) (hlocks : meth.locks = false) (hSz : Sz < 2 ^ 31)
    (cx : bt_Cx (p, l, e, room_1, s, m, #[Value.ref b], below, meth, c, cells, slots, lw_Z below #[Value.ref b] s) y RL cL_law 4 (Sz + 1) xs) {M : bt_M} {N : bt_N} {S : bt_S} (hc : bt_cI M S) (hm : bt_mI M S) : bt_V (p, l, e, room_1, s, m, #[Value.ref b], below, meth, c, cells, slots, lw_Z below #[Value.ref b] s) y 4 18 (bw_L 0) [] M N := by
  have hF : bt_okF RL [] := fun _ h => absurd h List.not_mem_nil
  have hCC := bt_CS_all (bt_lawC l hy) cx rfl rfl
  obtain ⟨dC, dI, ca, ad, fa, base⟩ := y
  obtain ⟨hx, hb, hml, hown, hts, hKn, hai, hab, hbs, hsc, hcl, hsl⟩ := id cx
  have hRR : bt_okR (p, l, e, room_1, s, m, #[Value.ref b], below, meth, c, cells, slots, lw_Z below #[Value.ref b] s) (dC, dI, ca, ad, fa, base) cL_law 4 2 (fun v _ _ => v = some (.int 1)) := by
    refine ⟨fun h0 => absurd h0 (by decide), fun h0 => absurd h0 (by decide), fun _ pc L M N x hd hx2 h => ?_, fun h0 => absurd h0 (by decide)⟩
    intro H locs ls hP hS hl
    obtain rfl : x = 1 := by
      have h := Option.some.inj h
      injection h
    refine va_forget (fun q hq => hbase _ (hS.2.2 q hq)) ?_
    refine W.widen (k := 600000) (n := 7302250) hcl hsl ?_
    exact lw_ret hx hb hr hlocks hd
  obtain ⟨hT1, hT2⟩ : bt_TL.all (bt_okE RL cL_law) = true ∧ bt_adj bt_TL = true := Bool.and_eq_true_iff.mp bt_okL
  exact bw_loop hSz (fun en is hs L st M N ks kj h h1 h2 => bt_step cx hF hCC hRR (List.all_eq_true.mp hT1 en (hs.subset List.mem_cons_self)) h h1 h2) (fun _ _ => rfl) _ _ _ _ _ _ ⟨0, S, rfl, rfl, Nat.zero_le _, hc, hm, Or.inl ⟨rfl, rfl⟩⟩
