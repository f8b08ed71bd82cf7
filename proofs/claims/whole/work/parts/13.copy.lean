/-- loops, out of which a place may be reached where P is known already -/
theorem bt_loopP {T : List bt_E} {FL : bt_F} {CT : bt_C} {rt SL : Nat} {xs : Nat → Int32} {Rt : bt_R} {P : bt_P} (hT : bt_adj T = true) (hP : bt_cls T FL CT rt SL xs Rt P) (n : Nat) (S : List Nat) (I : Nat → bt_P) (h : ∀ u pc L st M N, I u pc L st M N → bt_wp T FL CT rt SL xs Rt S (fun pc' L' st' M' N' => (∃ u', u' < u ∧ I u' pc' L' st' M' N') ∨ P pc' L' st' M' N') n (bt_suf T pc) L st M N) : ∀ u pc L st M N, I u pc L st M N → P pc L st M N := by
  intro u
  induction u using Nat.strongRecOn with
  | _ u ih =>
    intro pc L st M N hI
    refine bt_go hT hP n S _ (fun pc' L' st' M' N' hk => ?_) (h u pc L st M N hI)
    rcases hk with ⟨u', h1, h2⟩ | hk
    · exact ih u' h1 pc' L' st' M' N' h2
    · exact hk
/-! System.arraycopy -/
def sArrcopyI : bt_Sp := fun as M N K => match as with
  | [.ref a, .int p, .ref b, .int q, .int n] => ∃ na nb k, p = 0 ∧ q = 0 ∧ bt_sh a = (1, 0, na) ∧ bt_sh b = (1, 0, nb) ∧ n = nI k ∧ k ≤ na ∧ k ≤ nb ∧ ∀ M', M' = va_up M b (va_cpy (M a) (M b) 0 0 k) → K none M' N
  | _ => False
def sArrcopyL : bt_Sp := fun as M N K => match as with
  | [.ref a, .int p, .ref b, .int q, .int n] => ∃ na nb k, p = 0 ∧ q = 0 ∧ bt_sh a = (1, 1, na) ∧ bt_sh b = (1, 1, nb) ∧ n = nI k ∧ k ≤ na ∧ k ≤ nb ∧ ∀ N', N' = va_up N b (va_cpy (N a) (N b) 0 0 k) → K none M N'
  | _ => False
theorem bt_arrcopyI_s {as : List Value} {M : bt_M} {N : bt_N} {K : bt_R} (h : sArrcopyI as M N K) : ∃ a b na nb k, as = [.ref a, .int 0, .ref b, .int 0, .int (nI k)] ∧ bt_sh a = (1, 0, na) ∧ bt_sh b = (1, 0, nb) ∧ k ≤ na ∧ k ≤ nb ∧ K none (va_up M b (va_cpy (M a) (M b) 0 0 k)) N := by
  unfold sArrcopyI at h
  split at h
  · obtain ⟨na, nb, k, rfl, rfl, h1, h2, rfl, h3, h4, h5⟩ := h
    exact ⟨_, _, na, nb, k, rfl, h1, h2, h3, h4, h5 _ rfl⟩
  · exact False.elim h
theorem bt_arrcopyL_s {as : List Value} {M : bt_M} {N : bt_N} {K : bt_R} (h : sArrcopyL as M N K) : ∃ a b na nb k, as = [.ref a, .int 0, .ref b, .int 0, .int (nI k)] ∧ bt_sh a = (1, 1, na) ∧ bt_sh b = (1, 1, nb) ∧ k ≤ na ∧ k ≤ nb ∧ K none M (va_up N b (va_cpy (N a) (N b) 0 0 k)) := by
  unfold sArrcopyL at h
  split at h
  · obtain ⟨na, nb, k, rfl, rfl, h1, h2, rfl, h3, h4, h5⟩ := h
    exact ⟨_, _, na, nb, k, rfl, h1, h2, h3, h4, h5 _ rfl⟩
  · exact False.elim h
theorem bt_CSaI {l : Launch} {y : bt_Y} {own : String} {cc : ByteArray} {nL : Nat} {rm : Room} {idx : Nat} (h1 : Cond.methodLink own idx arraycopyName ∈ bt_big) (h2 : Cond.native arraycopyName ∈ bt_big) (h3 : Cond.static arraycopyName ∈ bt_big) (h4 : Cond.initialized "java/lang/System" ∈ bt_big) (hR : 1 ≤ rm.frames ∧ 8 + (nativeFrameWords "java/lang/System" "arraycopy" 5 + 11) ≤ rm.locals) : bt_CS l y own cc nL rm (idx, 0, 5, sArrcopyI) := by
  intro g SL xs cx hl1 hrm q hq
  rw [List.mem_singleton.mp hq]
  intro pc L st M N k hdec hdo hk
  obtain ⟨p, l0, e, R, s, m, args, below, meth, c, cells, slots, Q⟩ := g
  obtain ⟨dC, dI, ca, ad, fa, base⟩ := y
  dsimp only at hl1 hrm
  subst hl1; subst hrm
  obtain ⟨hx, hb, hml, hown, hts, hKn, hai, hab, hbs, hsc, hcl, hsl⟩ := id cx
  obtain ⟨as, r, hlen, rfl, hsum, hsp⟩ := bt_do_s hdo
  dsimp only at hsp hk
  obtain ⟨a, b, na, nb, n, rfl, s1, s2, n1, n2, hK⟩ := bt_arrcopyI_s hsp
  rcases hdec with ⟨-, hd0⟩ | ⟨h, -⟩
  · intro H locs ls hP hS hl
    have hn1 := bt_sh_n s1
    have ha : (bt_ws ca ad M N)[a]? = some (ad a, .inl (ca 0, na, .inl (M a))) := by
      rw [bt_ws_get (bt_sh_lt s1 (by omega)), bt_ct_a s1]; rfl
    have hbb : (bt_ws ca ad M N)[b]? = some (ad b, .inl (ca 0, nb, .inl (M b))) := by
      rw [bt_ws_get (bt_sh_lt s2 (by omega)), bt_ct_a s2]; rfl
    have hc : (nI n).toNatClampNeg = n := nI_clamp (by omega)
    refine va_copyi (sp := 0) (dp := 0) (n := nI n) (rest := r.map (bt_tr ad fa)) hx hb (hml.trans hl.2.1.symm) hown (hts _ h1) (hts _ h2) (hts _ h3) (hts _ h4) hKn.1 hP (bt_wsD hai hab M N) hS a b 0 0 ha hbb rfl rfl rfl (by decide) (by decide) (nI_pos (by omega)) (by rw [hc]; simpa using n1) (by rw [hc]; simpa using n2) (fun _ _ => rfl) hR.1 (by rw [bt_sum_s]; omega) hd0 (fun H1 locs1 hP1 hD1 hS1 => ?_)
    rw [hc, bt_ws_aI s2 (Or.inl rfl)] at hP1
    exact hk _ _ _ hK H1 locs1 ls hP1 hS1 hl
  · cases h
theorem bt_CSaL {l : Launch} {y : bt_Y} {own : String} {cc : ByteArray} {nL : Nat} {rm : Room} {idx : Nat} (h1 : Cond.methodLink own idx arraycopyName ∈ bt_big) (h2 : Cond.native arraycopyName ∈ bt_big) (h3 : Cond.static arraycopyName ∈ bt_big) (h4 : Cond.initialized "java/lang/System" ∈ bt_big) (hR : 1 ≤ rm.frames ∧ 8 + (nativeFrameWords "java/lang/System" "arraycopy" 5 + 11) ≤ rm.locals) : bt_CS l y own cc nL rm (idx, 0, 5, sArrcopyL) := by
  intro g SL xs cx hl1 hrm q hq
  rw [List.mem_singleton.mp hq]
  intro pc L st M N k hdec hdo hk
  obtain ⟨p, l0, e, R, s, m, args, below, meth, c, cells, slots, Q⟩ := g
  obtain ⟨dC, dI, ca, ad, fa, base⟩ := y
  dsimp only at hl1 hrm
  subst hl1; subst hrm
  obtain ⟨hx, hb, hml, hown, hts, hKn, hai, hab, hbs, hsc, hcl, hsl⟩ := id cx
  obtain ⟨as, r, hlen, rfl, hsum, hsp⟩ := bt_do_s hdo
  dsimp only at hsp hk
  obtain ⟨a, b, na, nb, n, rfl, s1, s2, n1, n2, hK⟩ := bt_arrcopyL_s hsp
  rcases hdec with ⟨-, hd0⟩ | ⟨h, -⟩
  · intro H locs ls hP hS hl
    have hn1 := bt_sh_n s1
    have ha : (bt_ws ca ad M N)[a]? = some (ad a, .inl (ca 1, na, .inr (.inl (N a)))) := by
      rw [bt_ws_get (bt_sh_lt s1 (by omega)), bt_ct_a s1]; rfl
    have hbb : (bt_ws ca ad M N)[b]? = some (ad b, .inl (ca 1, nb, .inr (.inl (N b)))) := by
      rw [bt_ws_get (bt_sh_lt s2 (by omega)), bt_ct_a s2]; rfl
    have hc : (nI n).toNatClampNeg = n := nI_clamp (by omega)
    refine va_copyl (sp := 0) (dp := 0) (n := nI n) (rest := r.map (bt_tr ad fa)) hx hb (hml.trans hl.2.1.symm) hown (hts _ h1) (hts _ h2) (hts _ h3) (hts _ h4) hKn.1 hP (bt_wsD hai hab M N) hS a b 1 1 ha hbb rfl rfl rfl (by decide) (by decide) (nI_pos (by omega)) (by rw [hc]; simpa using n1) (by rw [hc]; simpa using n2) (fun _ _ => rfl) hR.1 (by rw [bt_sum_s]; omega) hd0 (fun H1 locs1 hP1 hD1 hS1 => ?_)
    rw [hc, bt_ws_aL s2] at hP1
    exact hk _ _ _ hK H1 locs1 ls hP1 hS1 hl
  · cases h
