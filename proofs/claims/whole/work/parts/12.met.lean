/-! FROM A METHOD'S STATEMENT TO ITS CONTRACT, AND TO ITS CALLS -/
theorem bt_en_len : ∀ (as : List Value) (n : Nat), bt_sum as ≤ n → (bt_en n as).length = n
  | [], n, _ => by simp [bt_en]
  | v :: t, n, h => by
    cases hv : bt_c1 v with
    | true =>
      have h1 : bt_sum t + 1 ≤ n := by simpa [bt_sum, hv] using h
      have := bt_en_len t (n - 1) (by omega)
      simp only [bt_en, hv, List.length_cons, this]
      omega
    | false =>
      have h1 : bt_sum t + 2 ≤ n := by simpa [bt_sum, hv] using h
      have := bt_en_len t (n - 2) (by omega)
      simp only [bt_en, hv, List.length_cons, this]
      omega
theorem bt_lp_rep (f : Value → Value) : ∀ (n o : Nat), bt_lp f o (List.replicate n none) = []
  | 0, _ => rfl
  | n + 1, o => by
    rw [List.replicate_succ]
    exact bt_lp_rep f n (o + 1)
theorem bt_en_lp (f : Value → Value) (hf : ∀ v, (f v).category = v.category) : ∀ (as : List Value) (n o : Nat), ∀ q ∈ bt_lp f o (bt_en n as), q ∈ lv_args o (as.map f)
  | [], n, o, q, h => by
    simp only [bt_en, bt_lp_rep] at h
    cases h
  | v :: t, n, o, q, h => by
    cases hv : bt_c1 v with
    | true =>
      simp only [bt_en, hv] at h
      have hc : ¬ (f v).category = 2 := by rw [hf, bt_c1_cat hv]; omega
      simp only [List.map_cons, lv_args, hc, if_false]
      rcases List.mem_cons.mp (show q ∈ (o, f v) :: bt_lp f (o + 1) (bt_en (n - 1) t) from h) with rfl | h
      · exact List.mem_cons_self
      · exact List.mem_cons_of_mem _ (bt_en_lp f hf t _ _ q h)
    | false =>
      simp only [bt_en, hv] at h
      have hc : (f v).category = 2 := by rw [hf, bt_c1_cat2 hv]
      simp only [List.map_cons, lv_args, hc, if_true]
      rcases List.mem_cons.mp (show q ∈ (o, f v) :: bt_lp f (o + 1 + 1) (bt_en (n - 2) t) from h) with rfl | h
      · exact List.mem_cons_self
      · exact List.mem_cons_of_mem _ (bt_en_lp f hf t _ _ q h)
theorem bt_sl_len (f : Value → Value) (hf : ∀ v, (f v).category = v.category) : ∀ (as : List Value), (lg_sl (as.map f)).length = bt_sum as
  | [] => rfl
  | v :: t => by
    have ih := bt_sl_len f hf t
    cases hv : bt_c1 v with
    | true =>
      have hc : ¬ (f v).category = 2 := by rw [hf, bt_c1_cat hv]; omega
      simp only [lg_sl, List.map_cons, List.flatMap_cons, hc, if_false, List.length_append, bt_sum, hv] at ih ⊢
      rw [ih]; simp; omega
    | false =>
      have hc : (f v).category = 2 := by rw [hf, bt_c1_cat2 hv]
      simp only [lg_sl, List.map_cons, List.flatMap_cons, hc, if_true, List.length_append, bt_sum, hv] at ih ⊢
      rw [ih]; simp; omega
theorem bt_entry (ad fa : Nat → Nat) (as : List Value) (nL : Nat) (h : bt_sum as ≤ nL) : bt_lr ad fa ((lg_sl (as.map (bt_tr ad fa)) ++ List.replicate (nL - (lg_sl (as.map (bt_tr ad fa))).length) Slot.unset).toArray) nL (bt_en nL as) := by
  have h1 := lv_entry (as.map (bt_tr ad fa)) (n := nL) (by rw [bt_sl_len _ (bt_tr_cat ad fa)]; exact h)
  exact ⟨bt_en_len as nL h, h1.1, h1.2.1, fun q hq => h1.2.2 q (bt_en_lp _ (bt_tr_cat ad fa) as nL 0 q hq)⟩
def bt_rets : Nat → Option FieldType
  | 0 => none
  | 1 => some .int
  | 2 => some .boolean
  | _ => some .long
set_option maxHeartbeats 1000000 in
theorem bt_met {l : Launch} {y : bt_Y} {own : String} {mn : MethodName} {cc : ByteArray} {T : List bt_E} {FL : bt_F} {CT : bt_C} {rt nL : Nat} {ret : Option FieldType} {rm : Room} {sp : bt_Sp} (hy : bt_yo y) (hMT : bt_MT T FL CT rt nL sp) (hT : bt_okT own cc T = true) (hF : bt_okF own FL) (hC : ∀ q ∈ CT, bt_CS l y own cc nL rm q) (hmn : mn.cls = own) (hpl : plainName mn.cls = true) (hrt : rt < 4 ∧ ret = bt_rets rt) (hnL : ∀ as M N Rt, sp as M N Rt → bt_sum as ≤ nL) : bt_MS l y mn cc nL ret rm sp := by
  intro as M N Rt hsp
  refine Met.ofW (cc := cc) (maxL := nL) (ret := ret) hpl rfl ?_
  intro p e s m args below meth c s₁ B hml hv
  obtain ⟨dC, dI, ca, ad, fa, base⟩ := y
  obtain ⟨rfl, hKn, hbs, hP⟩ := hv
  have hx := B.exec
  have hb := B.bytes
  have hr := B.returns
  have hlocks := B.notSynchronized
  have hts := atoms_spec (ws := Cond.code mn cc nL ret :: bt_big) B.pre
  have cx : bt_Cx (p, l, e, (headSpec (Cond.code mn cc nL ret :: bt_big) rm).room, s, m, (as.map (bt_tr ad fa)).toArray, below, meth, c, 0, 0, MQ below (bt_Qc (dC, dI, ca, ad, fa, base) Rt) (as.map (bt_tr ad fa)).toArray s 0 0 (bt_yA (dC, dI, ca, ad, fa, base))) (dC, dI, ca, ad, fa, base) own cc nL 0 (fun _ => 0) :=
    ⟨hx, hb, hml, by rw [← hmn]; exact findClass_of_methodNamed B.named, fun w hw => hts w (List.mem_cons_of_mem _ hw), hKn, hy.1, hy.2, hbs, fun S h => by omega, Nat.zero_le _, Nat.zero_le _⟩
  have hRR : bt_okR (p, l, e, (headSpec (Cond.code mn cc nL ret :: bt_big) rm).room, s, m, (as.map (bt_tr ad fa)).toArray, below, meth, c, 0, 0, MQ below (bt_Qc (dC, dI, ca, ad, fa, base) Rt) (as.map (bt_tr ad fa)).toArray s 0 0 (bt_yA (dC, dI, ca, ad, fa, base))) (dC, dI, ca, ad, fa, base) cc nL rt Rt := by
    refine ⟨fun h0 pc L M N hd h => ?_, fun h0 pc L M N x hd h => ?_, fun h0 pc L M N x hd hx2 h => ?_, fun h0 pc L M N x hd h => ?_⟩
    · intro H locs ls hP hS hl
      exact W.vret hx hb (by rw [hr, hrt.2, h0]; rfl) (fun t ht hw => ⟨⟨none, M, N, rfl, h, by rw [ht]; exact hP⟩, hS.F ht⟩) (fun q hq => hS.2.2 q hq) hd hlocks
    · intro H locs ls hP hS hl
      exact W.iret hx hb (by rw [hr, hrt.2, h0]; rfl) (fun t ht hw => ⟨⟨some (.int x), M, N, rfl, h, by rw [ht]; exact hP⟩, hS.F ht⟩) (fun q hq => hS.2.2 q hq) hd hlocks
    · intro H locs ls hP hS hl
      exact W.zret (ty := .boolean) hx hb (by rw [hr, hrt.2, h0]; rfl) (by rcases hx2 with rfl | rfl <;> rfl) (fun t ht hw => ⟨⟨some (.int x), M, N, rfl, h, by rw [ht]; exact hP⟩, hS.F ht⟩) (fun q hq => hS.2.2 q hq) hd hlocks
    · intro H locs ls hP hS hl
      exact W.lret hx hb (by rw [hr, hrt.2, h0]; rfl) (fun t ht hw => ⟨⟨some (.long x), M, N, rfl, h, by rw [ht]; exact hP⟩, hS.F ht⟩) (fun q hq => hS.2.2 q hq) hd hlocks
  obtain ⟨hT1, hT2⟩ : T.all (bt_okE own cc) = true ∧ bt_adj T = true := Bool.and_eq_true_iff.mp hT
  have hCC := bt_CS_all hC cx rfl rfl
  have key := hMT as M N Rt hsp _ (fun en is hs L st M N ks kj h h1 h2 => bt_step cx hF hCC hRR (List.all_eq_true.mp hT1 en (hs.subset List.mem_cons_self)) h h1 h2)
  rw [lg_entry_eq]
  exact key s.heap [] _ hP va_S.rf (bt_entry ad fa as nL (hnL as M N Rt hsp))
/-- behind a call -/
theorem bt_back {p : Program} {l : Launch} {e : Env} {R : Room} {s : State} {m : MethodId} {args : Array Value} {below : List Frame} {meth : Method} {c : Code} {cells slots : Nat} {Q : State → Prop} {dC : Nat → ClassId} {dI : Nat → Nat → Nat} {ca : Nat → ClassId} {ad fa : Nat → Nat} {base nL pc : Nat} {L : bt_L} {r : List Value} {k : List Value → bt_M → bt_N → Prop} {H : Heap} {locs : List Loc} {ls : Array Slot} {st0 : List Value} {a : Array Value}
    (hk : ∀ st' M' N', k st' M' N' → bt_V (p, l, e, R, s, m, args, below, meth, c, cells, slots, Q) (dC, dI, ca, ad, fa, base) nL (pc + 3) L st' M' N') (hS : va_S (fun q => base ≤ q) s.heap H locs) (hl : bt_lr ad fa ls nL L)
    (run : va_Run p l e R s m args below meth c H locs cells slots 0 0 (F0 m pc ls st0) (r.map (bt_tr ad fa)) (bt_Qc (dC, dI, ca, ad, fa, base) (fun v M' N' => bt_res v r (fun st' => k st' M' N')) a) (fun q => base ≤ q)) : W p l e R s m args below meth c H locs cells slots Q (F0 m pc ls st0) := by
  intro T hT X
  obtain ⟨v, st₀, t, T', L', h0, X', hL, e1, e2, ⟨⟨v', M', N', hv, hk', hP'⟩, hz, hkk⟩, st⟩ := run T hT X
  cases hv
  rw [h0] at hz hkk
  have hS' : va_S (fun q => base ≤ q) s.heap T'.heap (locs ++ L') := ⟨Nat.le_trans hS.1 (by rw [e1]; exact hz), fun q h1 h2 => by rw [e1, hkk q (Nat.lt_of_lt_of_le h1 hS.1) h2]; exact hS.2.1 q h1 h2, fun q hq => by
      rcases List.mem_append.mp hq with h | h
      · exact hS.2.2 q h
      · exact hL q h⟩
  have hP2 : va_P (dC, dI) bt_cl (bt_ws ca ad M' N') T'.heap := by rw [e1]; exact hP'
  cases v' with
  | none =>
    obtain ⟨t2, a1, b1⟩ := hk r M' N' hk' T'.heap (locs ++ L') ls hP2 hS' hl T' rfl X'
    exact ⟨t2, st t2 a1, b1⟩
  | some v =>
    obtain ⟨t2, a1, b1⟩ := hk (v :: r) M' N' hk' T'.heap (locs ++ L') ls hP2 hS' hl T' rfl X'
    exact ⟨t2, st t2 a1, b1⟩
theorem bt_do_s {na : Nat} {sp : bt_Sp} {st : List Value} {M : bt_M} {N : bt_N} {k : List Value → bt_M → bt_N → Prop} (h : bt_do na sp st M N k) : ∃ as r, as.length = na ∧ st = as.reverse ++ r ∧ bt_sum r ≤ 8 ∧ sp as M N (fun v M' N' => bt_res v r (fun st' => k st' M' N')) := by
  obtain ⟨as, r, h1, h2, h3⟩ := bt_pop_s h
  rw [List.append_nil] at h3
  split at h3
  · next hb => exact ⟨as, r, h1, h2, Nat.le_of_ble_eq_true hb, h3⟩
  · exact False.elim h3
theorem bt_good {w : Cond} (h : w ∈ bt_big) : GoodIn bt_big (w :: bt_big) := fun v hv => by
  rcases List.mem_cons.mp hv with rfl | hv
  · exact ⟨h, good_of_word (bt_bigG _ h)⟩
  · exact ⟨hv, good_of_word (bt_bigG _ hv)⟩
theorem bt_prec {dC : Nat → ClassId} {dI : Nat → Nat → Nat} {ca : Nat → ClassId} {ad fa : Nat → Nat} {base : Nat} {s U : State} {H : Heap} {locs : List Loc} {as : List Value} {M : bt_M} {N : bt_N} (hKn : bt_Kn (dC, dI, ca, ad, fa, base) s s.heap) (hbs : base ≤ s.heap.size) (hP : va_P (dC, dI) bt_cl (bt_ws ca ad M N) H) (hS : va_S (fun q => base ≤ q) s.heap H locs) (hU : U.heap = H) (hW : s.WarmedH U.vm) : bt_Pc (dC, dI, ca, ad, fa, base) as M N (as.map (bt_tr ad fa)).toArray U := by
  refine ⟨rfl, bt_Kn_warm hW (bt_Kn_kept hKn ?_), ?_, ?_⟩
  · intro a h1 h2
    rw [hU]
    exact hS.2.1 a h1 h2
  · rw [hU]
    exact Nat.le_trans hbs hS.1
  · rw [hU]
    exact hP
/-- a static call, of a method that is linked in the ordinary way -/
theorem bt_CSS {l : Launch} {y : bt_Y} {own : String} {cc : ByteArray} {nL : Nat} {rm : Room} {idx na : Nat} {sp : bt_Sp} {mn : MethodName} {cc' : ByteArray} {nL' : Nat} {ret' : Option FieldType} {rm' : Room} (hM : bt_MS l y mn cc' nL' ret' rm' sp) (h1 : Cond.methodLink own idx mn ∈ bt_big) (h2 : Cond.static mn ∈ bt_big) (h3 : Cond.initialized mn.cls ∈ bt_big) (h4 : Cond.code mn cc' nL' ret' ∈ bt_big)
    (hd : mn.cls ≠ "java/lang/invoke/MethodHandle" ∧ mn.cls ≠ "java/lang/invoke/VarHandle" ∧ (parseMethodDescriptor mn.desc).map (fun d => d.parameters.length) = some na) (hR : rm'.frames + 1 ≤ rm.frames ∧ 8 + (nL' + 11) + rm'.locals ≤ rm.locals) (hc : rm'.cells = 0 ∧ rm'.slots = 0) : bt_CS l y own cc nL rm (idx, 0, na, sp) := by
  intro g SL xs cx hl1 hrm q hq
  rw [List.mem_singleton.mp hq]
  intro pc L st M N k hdec hdo hk
  obtain ⟨p, l0, e, R, s, m, args, below, meth, c, cells, slots, Q⟩ := g
  obtain ⟨dC, dI, ca, ad, fa, base⟩ := y
  dsimp only at hl1 hrm
  subst hl1; subst hrm
  obtain ⟨hx, hb, hml, hown, hts, hKn, hai, hab, hbs, hsc, hcl, hsl⟩ := id cx
  obtain ⟨as, r, hlen, rfl, hsum, hsp⟩ := bt_do_s hdo
  rcases hdec with ⟨-, hd0⟩ | ⟨h, -⟩
  · intro H locs ls hP hS hl
    refine bt_back hk hS hl (va_runS (As := as.map (bt_tr ad fa)) ⟨hx, hb, hml, hown, hts⟩ (hM as M N _ hsp) ⟨callB_of na hts (bt_good h4) rfl hc.1 hc.2 (hts _ h3) (hts _ h1) hd hR, hts _ h2⟩ ⟨bt_blind _ _ _ _, fun U hU hW => bt_prec hKn hbs hP hS hU hW⟩ rfl (by simpa using hlen) hl.2.1 (by simp) (lv_room (by rw [bt_sum_s]; exact hsum)) hd0 ⟨hcl, hsl⟩)
  · cases h
/-- a static call of a nest mate's private method -/
theorem bt_CSN {l : Launch} {y : bt_Y} {own host : String} {cc : ByteArray} {nL : Nat} {rm : Room} {idx na : Nat} {sp : bt_Sp} {mn : MethodName} {cc' : ByteArray} {nL' : Nat} {ret' : Option FieldType} {rm' : Room} (hM : bt_MS l y mn cc' nL' ret' rm' sp) (h1 : Cond.methodLinkNest own idx mn host ∈ bt_nst) (h2 : Cond.static mn ∈ bt_big) (h3 : Cond.initialized mn.cls ∈ bt_big) (h4 : Cond.code mn cc' nL' ret' ∈ bt_big)
    (hd : mn.cls ≠ "java/lang/invoke/MethodHandle" ∧ mn.cls ≠ "java/lang/invoke/VarHandle" ∧ (parseMethodDescriptor mn.desc).map (fun d => d.parameters.length) = some na) (hR : rm'.frames + 1 ≤ rm.frames ∧ 8 + (nL' + 11) + rm'.locals ≤ rm.locals) (hc : rm'.cells = 0 ∧ rm'.slots = 0) : bt_CS l y own cc nL rm (idx, 0, na, sp) := by
  intro g SL xs cx hl1 hrm q hq
  rw [List.mem_singleton.mp hq]
  intro pc L st M N k hdec hdo hk
  obtain ⟨p, l0, e, R, s, m, args, below, meth, c, cells, slots, Q⟩ := g
  obtain ⟨dC, dI, ca, ad, fa, base⟩ := y
  dsimp only at hl1 hrm
  subst hl1; subst hrm
  obtain ⟨hx, hb, hml, hown, hts, hKn, hai, hab, hbs, hsc, hcl, hsl⟩ := id cx
  obtain ⟨as, r, hlen, rfl, hsum, hsp⟩ := bt_do_s hdo
  rcases hdec with ⟨-, hd0⟩ | ⟨h, -⟩
  · intro H locs ls hP hS hl
    refine bt_back hk hS hl (va_runSN (As := as.map (bt_tr ad fa)) ⟨hx, hb, hml, hown, hts⟩ (hM as M N _ hsp) ⟨va_cnB na hts (bt_good h4) rfl hc.1 hc.2 (hKn.2.1 _ h1) (hts _ h3) hd hR, hts _ h2, trivial⟩ ⟨bt_blind _ _ _ _, fun U hU hW => bt_prec hKn hbs hP hS hU hW⟩ rfl (by simpa using hlen) hl.2.1 (by simp) (lv_room (by rw [bt_sum_s]; exact hsum)) hd0 ⟨hcl, hsl⟩)
  · cases h
/-- a call of a method of an object of ours -/
theorem bt_CSV {l : Launch} {y : bt_Y} {own : String} {cc : ByteArray} {nL : Nat} {rm : Room} {idx na ci : Nat} {rc : vw_C} {sp : bt_Sp} {mn : MethodName} {cc' : ByteArray} {nL' : Nat} {ret' : Option FieldType} {rm' : Room} (hM : bt_MS l y mn cc' nL' ret' rm' sp) (hci : bt_cl[ci]? = some rc) (hrc : mn.cls = rc.1) (hsr : ∀ as M N Rt, sp as M N Rt → ∃ c t n, as = .ref c :: t ∧ bt_sh c = (0, ci, n)) (h1 : Cond.methodLink own idx mn ∈ bt_big) (h2 : Cond.instanceMethod mn ∈ bt_big) (h5 : Cond.selects mn.cls mn mn ∈ bt_big) (h3 : Cond.initialized mn.cls ∈ bt_big) (h4 : Cond.code mn cc' nL' ret' ∈ bt_big)
    (hd : mn.cls ≠ "java/lang/invoke/MethodHandle" ∧ mn.cls ≠ "java/lang/invoke/VarHandle" ∧ (parseMethodDescriptor mn.desc).map (fun d => d.parameters.length) = some na) (hR : rm'.frames + 1 ≤ rm.frames ∧ 8 + (nL' + 11) + rm'.locals ≤ rm.locals) (hc : rm'.cells = 0 ∧ rm'.slots = 0) : bt_CS l y own cc nL rm (idx, 1, na + 1, sp) := by
  intro g SL xs cx hl1 hrm q hq
  rw [List.mem_singleton.mp hq]
  intro pc L st M N k hdec hdo hk
  obtain ⟨p, l0, e, R, s, m, args, below, meth, c, cells, slots, Q⟩ := g
  obtain ⟨dC, dI, ca, ad, fa, base⟩ := y
  dsimp only at hl1 hrm
  subst hl1; subst hrm
  obtain ⟨hx, hb, hml, hown, hts, hKn, hai, hab, hbs, hsc, hcl, hsl⟩ := id cx
  obtain ⟨as, r, hlen, rfl, hsum, hsp⟩ := bt_do_s hdo
  obtain ⟨a, t, n, rfl, hsh⟩ := hsr as M N _ hsp
  rcases hdec with ⟨h, -⟩ | ⟨-, hd0⟩
  · cases h
  · intro H locs ls hP hS hl
    have hw : (bt_ws ca ad M N)[a]? = some (ad a, .inr (ci, (List.range (bt_nf ci)).map (bt_fv ad M N a ci))) := by
      rw [bt_ws_get (bt_sh_lt hsh (by omega)), bt_ct_o hsh]
    refine bt_back hk hS hl (va_runV (b := ad a) (As := t.map (bt_tr ad fa)) (C := mn.cls) ⟨hx, hb, hml, hown, hts⟩ (hM (.ref a :: t) M N _ hsp) ⟨callB_of na hts (bt_good h4) rfl hc.1 hc.2 (hts _ h3) (hts _ h1) hd hR, hts _ h2, hts _ h5⟩ ⟨bt_blind _ _ _ _, ?_, fun U hU hW => bt_prec (as := .ref a :: t) hKn hbs hP hS hU hW⟩ rfl (by simpa using hlen) hl.2.1 (by simp [bt_tr]) (lv_room (by rw [bt_sum_s]; exact hsum)) hd0 ⟨hcl, hsl⟩)
    rw [hrc]
    exact va_recv hKn.1 hP hci hw
