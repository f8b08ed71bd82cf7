/-! RUNS: from one instruction to a method -/
abbrev bt_P : Type := Nat → bt_L → List Value → bt_M → bt_N → Prop
/-- P is closed backwards under the code -/
def bt_cls (T : List bt_E) (FL : bt_F) (CT : bt_C) (rt SL : Nat) (xs : Nat → Int32) (Rt : bt_R) (P : bt_P) : Prop := ∀ (en : bt_E) (is : List bt_E), (en :: is) <:+ T → ∀ L st M N ks kj, bt_wp1 FL CT rt SL xs Rt en L st M N ks kj →
  (∀ L' st' M' N', ks L' st' M' N' → P (en.1 + en.2.2.1) L' st' M' N') → (∀ t L' st' M' N', kj t L' st' M' N' → P t L' st' M' N') → P en.1 L st M N
theorem bt_adj_tl {a b : bt_E} {t : List bt_E} (h : bt_adj (a :: b :: t) = true) : a.1 + a.2.2.1 = b.1 ∧ bt_adj (b :: t) = true := by
  simp only [bt_adj, Bool.and_eq_true, beq_iff_eq] at h
  exact h
theorem bt_adj_suf {T is : List bt_E} (h : bt_adj T = true) (hs : is <:+ T) : bt_adj is = true := by
  obtain ⟨pre, rfl⟩ := hs
  induction pre with
  | nil => exact h
  | cons a pre ih =>
    apply ih
    cases hp : pre ++ is with
    | nil => rfl
    | cons b t =>
      rw [List.cons_append, hp] at h
      exact (bt_adj_tl h).2
theorem bt_suf_s : ∀ {T : List bt_E} {t : Nat} {e : bt_E} {is : List bt_E}, bt_suf T t = e :: is → e.1 = t ∧ (e :: is) <:+ T
  | [], _, _, _, h => by cases h
  | a :: r, t, e, is, h => by
    unfold bt_suf at h
    split at h
    · next hb =>
      cases h
      exact ⟨Nat.eq_of_beq_eq_true hb, List.suffix_refl _⟩
    · obtain ⟨h1, h2⟩ := bt_suf_s h
      exact ⟨h1, h2.trans (List.suffix_cons _ _)⟩
section BTR
variable {T : List bt_E} {FL : bt_F} {CT : bt_C} {rt SL : Nat} {xs : Nat → Int32} {Rt : bt_R} {P : bt_P} {S : List Nat} {K : bt_P}
theorem bt_run0 (hT : bt_adj T = true) (hP : bt_cls T FL CT rt SL xs Rt P) (hK : ∀ pc L st M N, K pc L st M N → P pc L st M N) : ∀ (n : Nat) (en : bt_E) (is : List bt_E) (L : bt_L) (st : List Value) (M : bt_M) (N : bt_N), (en :: is) <:+ T → bt_wp T FL CT rt SL xs Rt S K n (en :: is) L st M N → P en.1 L st M N := by
  intro n
  induction n with
  | zero => intro en is L st M N _ h; exact False.elim h
  | succ n ih =>
    intro en is L st M N hs h
    refine hP en is hs L st M N _ _ h (fun L' st' M' N' h' => ?_) (fun t L' st' M' N' h' => ?_)
    · cases is with
      | nil => exact False.elim h'
      | cons e' is =>
        have ha := (bt_adj_tl (bt_adj_suf hT hs)).1
        rw [ha]
        have h' : (match bt_el S e'.1 with
          | true => K e'.1 L' st' M' N'
          | false => bt_wp T FL CT rt SL xs Rt S K n (e' :: is) L' st' M' N') := h'
        split at h'
        · exact hK _ _ _ _ _ h'
        · exact ih e' is L' st' M' N' ((List.suffix_cons _ _).trans hs) h'
    · have h' : (match bt_el S t with
          | true => K t L' st' M' N'
          | false => bt_wp T FL CT rt SL xs Rt S K n (bt_suf T t) L' st' M' N') := h'
      split at h'
      · exact hK _ _ _ _ _ h'
      · cases hq : bt_suf T t with
        | nil =>
          rw [hq] at h'
          cases n <;> exact False.elim h'
        | cons e' is' =>
          rw [hq] at h'
          obtain ⟨g1, g2⟩ := bt_suf_s hq
          rw [← g1]
          exact ih e' is' L' st' M' N' g2 h'
/-- from a place on, up to the stops -/
theorem bt_go (hT : bt_adj T = true) (hP : bt_cls T FL CT rt SL xs Rt P) (n : Nat) (S : List Nat) (K : bt_P) (hK : ∀ pc L st M N, K pc L st M N → P pc L st M N) {pc : Nat} {L : bt_L} {st : List Value} {M : bt_M} {N : bt_N} (h : bt_wp T FL CT rt SL xs Rt S K n (bt_suf T pc) L st M N) : P pc L st M N := by
  cases hq : bt_suf T pc with
  | nil =>
    rw [hq] at h
    cases n <;> exact False.elim h
  | cons e' is' =>
    rw [hq] at h
    obtain ⟨g1, g2⟩ := bt_suf_s hq
    rw [← g1]
    exact bt_run0 hT hP hK n e' is' L st M N g2 h
/-- no stop -/
theorem bt_go0 (hT : bt_adj T = true) (hP : bt_cls T FL CT rt SL xs Rt P) (n : Nat) {pc : Nat} {L : bt_L} {st : List Value} {M : bt_M} {N : bt_N} (h : bt_wp T FL CT rt SL xs Rt [] P n (bt_suf T pc) L st M N) : P pc L st M N := bt_go hT hP n [] P (fun _ _ _ _ _ h => h) h
/-- loops: a measure, an invariant at the stops -/
theorem bt_loop (hT : bt_adj T = true) (hP : bt_cls T FL CT rt SL xs Rt P) (n : Nat) (S : List Nat) (I : Nat → bt_P) (h : ∀ u pc L st M N, I u pc L st M N → bt_wp T FL CT rt SL xs Rt S (fun pc' L' st' M' N' => ∃ u', u' < u ∧ I u' pc' L' st' M' N') n (bt_suf T pc) L st M N) : ∀ u pc L st M N, I u pc L st M N → P pc L st M N := by
  intro u
  induction u using Nat.strongRecOn with
  | _ u ih =>
    intro pc L st M N hI
    exact bt_go hT hP n S _ (fun pc' L' st' M' N' ⟨u', h1, h2⟩ => ih u' h1 pc' L' st' M' N' h2) (h u pc L st M N hI)
end BTR
def bt_en : Nat → List Value → bt_L
  | n, [] => List.replicate n none
  | n, v :: t => (match bt_c1 v with
    | true => some v :: bt_en (n - 1) t
    | false => some v :: none :: bt_en (n - 2) t)
/-- a method does what its spec says -/
def bt_MT (T : List bt_E) (FL : bt_F) (CT : bt_C) (rt nL : Nat) (sp : bt_Sp) : Prop := ∀ as M N Rt, sp as M N Rt → ∀ P, bt_cls T FL CT rt 0 (fun _ => 0) Rt P → P 0 (bt_en nL as) [] M N
def bt_Pc (y : bt_Y) (as : List Value) (M : bt_M) (N : bt_N) : Array Value → State → Prop := match y with
  | (dC, dI, ca, ad, fa, base) => va_Pc (as.map (bt_tr ad fa)) (fun U => bt_Kn (dC, dI, ca, ad, fa, base) U U.heap ∧ base ≤ U.heap.size ∧ va_P (dC, dI) bt_cl (bt_ws ca ad M N) U.heap)
def bt_Qc (y : bt_Y) (Rt : bt_R) : Array Value → State → Outcome → State → Prop := match y with
  | (dC, dI, ca, ad, fa, base) => fun _ st oc t => (∃ r M' N', oc = .returned (r.map (bt_tr ad fa)) ∧ Rt r M' N' ∧ va_P (dC, dI) bt_cl (bt_ws ca ad M' N') t.heap) ∧ va_F (fun q => base ≤ q) st t
def bt_yo (y : bt_Y) : Prop := match y with
  | (_, _, _, ad, _, base) => (∀ i j, i < 88 → j < 88 → ad i = ad j → i = j) ∧ ∀ i, i < 88 → base ≤ ad i
def bt_yA (y : bt_Y) : Nat → Prop := match y with
  | (_, _, _, _, _, base) => fun q => base ≤ q
/-- a method meets its spec on the machine -/
def bt_MS (l : Launch) (y : bt_Y) (mn : MethodName) (cc : ByteArray) (nL : Nat) (ret : Option FieldType) (rm : Room) (sp : bt_Sp) : Prop := ∀ as M N Rt, sp as M N Rt → Met l mn (.code mn cc nL ret :: bt_big) rm (bt_Pc y as M N) (bt_Qc y Rt) 0 0 (bt_yA y)
/-- a call of a method -/
def bt_CS (l : Launch) (y : bt_Y) (own : String) (cc : ByteArray) (nL : Nat) (rm : Room) (q : Nat × Nat × Nat × bt_Sp) : Prop := ∀ (g : bt_G) (SL : Nat) (xs : Nat → Int32), bt_Cx g y own cc nL SL xs → g.2.1 = l → g.2.2.2.1 = rm → bt_okC g y cc nL [q]
theorem bt_CS_all {l : Launch} {y : bt_Y} {own : String} {cc : ByteArray} {nL : Nat} {rm : Room} {CT : bt_C} {g : bt_G} {SL : Nat} {xs : Nat → Int32} (h : ∀ q ∈ CT, bt_CS l y own cc nL rm q) (cx : bt_Cx g y own cc nL SL xs) (h1 : g.2.1 = l) (h2 : g.2.2.2.1 = rm) : bt_okC g y cc nL CT := fun q hq => h q hq g SL xs cx h1 h2 q List.mem_cons_self
theorem bt_Kn_warm {y : bt_Y} {s U : State} {H : Heap} (hW : s.WarmedH U.vm) (h : bt_Kn y s H) : bt_Kn y U H := by
  obtain ⟨dC, dI, ca, ad, fa, base⟩ := y
  obtain ⟨h1, h2, h3, ⟨adV, h4⟩, h5, fq, h6⟩ := h
  refine ⟨va_K.moved hW.alike h1, fun w hw => ?_, fun j q hq => (h3 j q hq).warm hW, ⟨adV, h4.moved hW.alike⟩, h5.moved hW.alike, fq, h6.moved hW.alike⟩
  have hw2 := h2 w hw
  simp only [bt_nst, List.mem_cons, List.not_mem_nil, or_false] at hw
  rcases hw with rfl | rfl | rfl | rfl | rfl | rfl <;> exact va_Nw.warmM hW hw2
theorem bt_Kn_kept {y : bt_Y} {s : State} {H H1 : Heap} (h : bt_Kn y s H) (hq : ∀ a : Nat, a < H.size → ¬ bt_yA y a → H1[a]? = H[a]?) : bt_Kn y s H1 := by
  obtain ⟨dC, dI, ca, ad, fa, base⟩ := y
  obtain ⟨h1, h2, h3, ⟨adV, h4⟩, h5, fq, h6⟩ := h
  exact ⟨h1, h2, h3, ⟨adV, h4.kept hq⟩, h5.kept hq, fq, h6.kept hq⟩
theorem bt_Kn_same {y : bt_Y} {s U : State} {H : Heap} (hv : U.vm = s.vm) (h : bt_Kn y s H) : bt_Kn y U H := by
  obtain ⟨dC, dI, ca, ad, fa, base⟩ := y
  obtain ⟨h1, h2, h3, ⟨adV, h4⟩, h5, fq, h6⟩ := h
  have ha : s.vm.Alike U.vm := by rw [hv]; exact Vm.Alike.refl _
  refine ⟨va_K.moved ha h1, fun w hw => ?_, fun j q hq => (h3 j q hq).same hv, ⟨adV, h4.moved ha⟩, h5.moved ha, fq, h6.moved ha⟩
  have hw2 := h2 w hw
  simp only [bt_nst, List.mem_cons, List.not_mem_nil, or_false] at hw
  rcases hw with rfl | rfl | rfl | rfl | rfl | rfl <;> exact va_Nw.same rfl hv.symm hw2
theorem bt_blind (y : bt_Y) (as : List Value) (M : bt_M) (N : bt_N) : FrameBlind (bt_Pc y as M N) := by
  obtain ⟨dC, dI, ca, ad, fa, base⟩ := y
  intro a U g mk h
  obtain ⟨h1, h2, h3, h4⟩ := h
  exact ⟨h1, bt_Kn_same (s := U) rfl h2, h3, h4⟩
