/-! MATH, BY THE LIBRARY'S CONTRACTS -/
theorem bw_mx {l : Launch} {y : bt_Y} {own : String} {cc : ByteArray} {nL : Nat} {rm : Room} {idx : Nat} (h1 : Cond.methodLink own idx yJ9_max_7cf53 ∈ bt_big) (hR : 1 ≤ rm.frames ∧ 21 ≤ rm.locals) : bt_CS l y own cc nL rm (idx, 0, 2, sJ9_max_7cf53) := by
  intro g SL xs cx hl1 hrm q hq
  rw [List.mem_singleton.mp hq]
  intro pc L st M N k hdec hdo hk
  obtain ⟨p, l0, e, R, s, m, args, below, meth, c, cells, slots, Q⟩ := g
  obtain ⟨dC, dI, ca, ad, fa, base⟩ := y
  dsimp only at hl1 hrm
  subst hl1; subst hrm
  obtain ⟨hx, hb, hml, hown, hts, hKn, hai, hab, hbs, hsc, hcl, hsl⟩ := id cx
  obtain ⟨as, r, hlen, rfl, hsum, hsp⟩ := bt_do_s hdo
  dsimp only at hsp hk
  unfold sJ9_max_7cf53 at hsp
  split at hsp
  case h_2 => exact False.elim hsp
  case h_1 a b =>
  rcases hdec with ⟨-, hd0⟩ | ⟨h, -⟩
  · intro H locs ls hP hS hl
    have hk2 := hk _ _ _ hsp H locs ls hP hS hl
    exact va_mmax (x := a) (y := b) (rest := r.map (bt_tr ad fa)) hx hb (hml.trans hl.2.1.symm) hown (hts _ h1) (hts _ bw_iJ9_max_7cf53) (hts _ bw_zJ9) (hts _ (bw_T 518 (by decide +kernel) (by decide +kernel))) hR.1 (by rw [bt_sum_s]; have := hR.2; omega) hcl hsl hd0 hk2
  · cases h
theorem bw_mn {l : Launch} {y : bt_Y} {own : String} {cc : ByteArray} {nL : Nat} {rm : Room} {idx : Nat} (h1 : Cond.methodLink own idx yJ9_min_7cf53 ∈ bt_big) (hR : 1 ≤ rm.frames ∧ 21 ≤ rm.locals) : bt_CS l y own cc nL rm (idx, 0, 2, sJ9_min_7cf53) := by
  intro g SL xs cx hl1 hrm q hq
  rw [List.mem_singleton.mp hq]
  intro pc L st M N k hdec hdo hk
  obtain ⟨p, l0, e, R, s, m, args, below, meth, c, cells, slots, Q⟩ := g
  obtain ⟨dC, dI, ca, ad, fa, base⟩ := y
  dsimp only at hl1 hrm
  subst hl1; subst hrm
  obtain ⟨hx, hb, hml, hown, hts, hKn, hai, hab, hbs, hsc, hcl, hsl⟩ := id cx
  obtain ⟨as, r, hlen, rfl, hsum, hsp⟩ := bt_do_s hdo
  dsimp only at hsp hk
  unfold sJ9_min_7cf53 at hsp
  split at hsp
  case h_2 => exact False.elim hsp
  case h_1 a b =>
  rcases hdec with ⟨-, hd0⟩ | ⟨h, -⟩
  · intro H locs ls hP hS hl
    have hk2 := hk _ _ _ hsp H locs ls hP hS hl
    exact va_mmin (x := a) (y := b) (rest := r.map (bt_tr ad fa)) hx hb (hml.trans hl.2.1.symm) hown (hts _ h1) (hts _ bw_iJ9_min_7cf53) (hts _ bw_zJ9) (hts _ (bw_T 521 (by decide +kernel) (by decide +kernel))) hR.1 (by rw [bt_sum_s]; have := hR.2; omega) hcl hsl hd0 hk2
  · cases h
theorem bw_ml {l : Launch} {y : bt_Y} {own : String} {cc : ByteArray} {nL : Nat} {rm : Room} {idx : Nat} (h1 : Cond.methodLink own idx yJ9_max_f86c9 ∈ bt_big) (hR : 1 ≤ rm.frames ∧ 23 ≤ rm.locals) : bt_CS l y own cc nL rm (idx, 0, 2, sJ9_max_f86c9) := by
  intro g SL xs cx hl1 hrm q hq
  rw [List.mem_singleton.mp hq]
  intro pc L st M N k hdec hdo hk
  obtain ⟨p, l0, e, R, s, m, args, below, meth, c, cells, slots, Q⟩ := g
  obtain ⟨dC, dI, ca, ad, fa, base⟩ := y
  dsimp only at hl1 hrm
  subst hl1; subst hrm
  obtain ⟨hx, hb, hml, hown, hts, hKn, hai, hab, hbs, hsc, hcl, hsl⟩ := id cx
  obtain ⟨as, r, hlen, rfl, hsum, hsp⟩ := bt_do_s hdo
  dsimp only at hsp hk
  unfold sJ9_max_f86c9 at hsp
  split at hsp
  case h_2 => exact False.elim hsp
  case h_1 a b =>
  rcases hdec with ⟨-, hd0⟩ | ⟨h, -⟩
  · intro H locs ls hP hS hl
    have hk2 := hk _ _ _ hsp H locs ls hP hS hl
    have hm : (if a < b then b else a) = (if b < a then a else b) := by
      by_cases c1 : a < b
      · rw [if_pos c1, if_neg (by intro c2; exact Int64.lt_irrefl (Int64.lt_trans c1 c2))]
      · by_cases c2 : b < a
        · rw [if_neg c1, if_pos c2]
        · rw [if_neg c1, if_neg c2]
          exact Int64.le_antisymm (Int64.not_lt.mp c2) (Int64.not_lt.mp c1)
    rw [hm] at hk2
    exact va_mmax_long (x := a) (y := b) (rest := r.map (bt_tr ad fa)) hx hb (hml.trans hl.2.1.symm) hown (hts _ h1) (hts _ bw_iJ9_max_f86c9) (hts _ bw_zJ9) (hts _ (bw_T 696 (by decide +kernel) (by decide +kernel))) hR.1 (by rw [bt_sum_s]; have := hR.2; omega) hcl hsl hd0 hk2
  · cases h
