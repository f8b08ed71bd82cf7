/-! CHANGES OF A WORLD -/
def bt_w1 (w : bt_W) (f k v : Nat) : bt_W := fun f' k' => if f' = f ∧ k' = k then v else w f' k'
theorem bt_w1_n {w : bt_W} {f k v f' : Nat} (h : f' ≠ f) : bt_w1 w f k v f' = w f' := by
  funext k'
  simp [bt_w1, h]
theorem bt_w1_s {w : bt_W} {f k v k' : Nat} : bt_w1 w f k v f k' = if k' = k then v else w f k' := by
  simp [bt_w1]
def bt_bnd : List Nat := [9, 9, 9, 10, 1, 1, 1, 4, 9, 5]
theorem bt_w1_le {w : bt_W} {f k v B : Nat} (h : ∀ i, w f i ≤ B) (hv : v ≤ B) : ∀ i, bt_w1 w f k v f i ≤ B := fun i => by
  rw [bt_w1_s]
  split
  · exact hv
  · exact h i
theorem bt_wf_w1 {w : bt_W} {f k v : Nat} (h : bt_wf w) (hf : f < 10) (hv : v ≤ bt_at bt_bnd f 0) : bt_wf (bt_w1 w f k v) := by
  obtain ⟨f1, f2, f3, f4, f5, f6, f7, f8, f9, f10, f11, f12, f13, f14, f15, f16, f17, f18⟩ := h
  have e12 : bt_w1 w f k v 12 = w 12 := bt_w1_n (by omega)
  have e10 : bt_w1 w f k v 10 = w 10 := bt_w1_n (by omega)
  have e11 : bt_w1 w f k v 11 = w 11 := bt_w1_n (by omega)
  unfold bt_wf
  rw [e12, e10, e11]
  have key : ∀ g B, (∀ i, w g i ≤ B) → (g = f → v ≤ B) → ∀ i, bt_w1 w f k v g i ≤ B := by
    intro g B h1 h2
    by_cases e : g = f
    · subst e
      exact bt_w1_le h1 (h2 rfl)
    · rw [bt_w1_n e]; exact h1
  refine ⟨f1, f2, f3, f4, f5, f6, key 0 9 f7 ?_, key 1 9 f8 ?_, key 2 9 f9 ?_, key 3 10 f10 ?_, key 4 1 f11 ?_, key 5 1 f12 ?_, key 6 1 f13 ?_, key 7 4 f14 ?_, key 8 9 f15 ?_, key 9 5 f16 ?_, f17, f18⟩ <;> (rintro rfl; exact hv)
/-- a row of the class's world is written -/
theorem bt_cW_row {M M' : bt_M} {c f r k v : Nat} {w : bt_W} (hw : bt_cW M c w) (hv : v ≤ bt_at bt_bnd f 0) (hfr : (f = 0 ∧ r = 1) ∨ (f = 1 ∧ r = 2) ∨ (f = 2 ∧ r = 3) ∨ (f = 3 ∧ r = 4) ∨ (f = 7 ∧ r = 5) ∨ (f = 8 ∧ r = 6) ∨ (f = 9 ∧ r = 7)) (h1 : ∀ x : Nat, x ≠ c + r → M' x = M x) (h2 : ∀ i, M' (c + r) i = if i = k then nI v else M (c + r) i) : bt_cW M' c (bt_w1 w f k v) := by
  obtain ⟨hf, g8, g9, g10, g11, g12, g13, g14, g15, g16, g17, r1, r2, r3, r4, r5, r6, r7, r8⟩ := hw
  have hwf := bt_wf_w1 (k := k) hf (by omega) hv
  have hc := h1 c (by omega)
  have e12 : bt_w1 w f k v 12 = w 12 := bt_w1_n (by omega)
  have e4 : bt_w1 w f k v 4 = w 4 := bt_w1_n (by omega)
  have e5 : bt_w1 w f k v 5 = w 5 := bt_w1_n (by omega)
  have e6 : bt_w1 w f k v 6 = w 6 := bt_w1_n (by omega)
  have e11 : bt_w1 w f k v 11 = w 11 := bt_w1_n (by omega)
  have key : ∀ g s, (g = f ↔ s = r) → ∀ n, (∀ i, i < n → M (c + s) i = nI (w g i)) → ∀ i, i < n → M' (c + s) i = nI (bt_w1 w f k v g i) := by
    intro g s hgs n hr i hi
    by_cases e : g = f
    · have e2 := hgs.mp e
      subst e2
      subst e
      rw [h2 i, bt_w1_s]
      split
      · rfl
      · exact hr i hi
    · rw [h1 _ (fun z => e (hgs.mpr (by omega))), bt_w1_n e]
      exact hr i hi
  refine ⟨hwf, ?_, ?_, ?_, ?_, ?_, ?_, ?_, ?_, ?_, ?_, ?_, ?_, ?_, ?_, ?_, ?_, ?_, ?_⟩
  · rw [hc, e12]; exact g8
  · rw [hc, e12, e4]; exact g9
  · rw [hc, e12, e5]; exact g10
  · rw [hc, e12, e6]; exact g11
  · rw [hc, e12]; exact g12
  · rw [hc, e12, e11]; exact g13
  · rw [hc, e12]; exact g14
  · rw [hc, e12]; exact g15
  · rw [hc, e12]; exact g16
  · rw [hc, e12]; exact g17
  · rw [e12]; exact key 0 1 (by omega) _ r1
  · rw [e12]; exact key 1 2 (by omega) _ r2
  · rw [e12]; exact key 2 3 (by omega) _ r3
  · rw [e12]; exact key 3 4 (by omega) _ r4
  · rw [e12]; exact key 7 5 (by omega) _ r5
  · rw [e12]; exact key 8 6 (by omega) _ r6
  · rw [e12]; exact key 9 7 (by omega) _ r7
  · rw [e12]; exact key 10 8 (by omega) _ r8
theorem bt_mk_upd (f : Nat → Nat) (i v : Nat) : ∀ n, i < n → bt_mk (fun k => if k = i then v else f k) n + f i * 2 ^ i = bt_mk f n + v * 2 ^ i
  | 0, h => by omega
  | n + 1, h => by
    simp only [bt_mk]
    by_cases e : n = i
    · subst e
      rw [if_pos rfl, bt_mk_c (f := fun k => if k = n then v else f k) (g := f) (fun k hk => if_neg (by omega))]
      omega
    · have := bt_mk_upd f i v n (by omega)
      rw [if_neg e]
      omega
theorem bt_setb1 : ∀ i, i < 8 → ∀ a, a < 256 → nI a ||| ((1 : Int32) <<< (nI i &&& 31)) = nI (if a / 2 ^ i % 2 = 1 then a else a + 2 ^ i) := by decide +kernel
theorem bt_setb0 : ∀ i, i < 8 → ∀ a, a < 256 → nI a &&& (((1 : Int32) <<< (nI i &&& 31)) ^^^ (-1)) = nI (if a / 2 ^ i % 2 = 1 then a - 2 ^ i else a) := by decide +kernel
/-- a bit of a mask is set or taken away -/
theorem bt_setb {f : Nat → Nat} (h : bt_b1 f) {n i : Nat} (hn : n ≤ 8) (hi : i < n) (b : Int32) : (if b = 0 then nI (bt_mk f n) &&& (((1 : Int32) <<< (nI i &&& 31)) ^^^ (-1)) else nI (bt_mk f n) ||| ((1 : Int32) <<< (nI i &&& 31))) = nI (bt_mk (fun k => if k = i then (if b = 0 then 0 else 1) else f k) n) := by
  have h1 := bt_mk_lt h n
  have h2 : 2 ^ n ≤ 2 ^ 8 := Nat.pow_le_pow_right (by omega) hn
  have hb := bt_mk_bit h n i
  rw [if_pos hi] at hb
  have hf := h i
  by_cases e : b = 0
  · have hu := bt_mk_upd f i 0 n hi
    simp only [if_pos e]
    rw [bt_setb0 i (by omega) _ (by omega), hb]
    congr 1
    by_cases hf1 : f i = 1
    · rw [if_pos hf1]
      rw [hf1] at hu
      omega
    · have hf0 : f i = 0 := by omega
      rw [if_neg hf1]
      rw [hf0] at hu
      omega
  · have hu := bt_mk_upd f i 1 n hi
    simp only [if_neg e]
    rw [bt_setb1 i (by omega) _ (by omega), hb]
    congr 1
    by_cases hf1 : f i = 1
    · rw [if_pos hf1]
      rw [hf1] at hu
      omega
    · have hf0 : f i = 0 := by omega
      rw [if_neg hf1]
      rw [hf0] at hu
      omega
/-- a mask of the class's world is written -/
theorem bt_cW_mask {M M' : bt_M} {c f s k v : Nat} {w : bt_W} (hw : bt_cW M c w) (hv : v ≤ 1) (hfs : (f = 4 ∧ s = 9) ∨ (f = 5 ∧ s = 10) ∨ (f = 6 ∧ s = 11)) (h1 : ∀ x : Nat, x ≠ c → M' x = M x) (h2 : ∀ i, i ≠ s → M' c i = M c i) (h3 : M' c s = nI (bt_mk (fun j => if j = k then v else w f j) (w 12 0))) : bt_cW M' c (bt_w1 w f k v) := by
  obtain ⟨hf, g8, g9, g10, g11, g12, g13, g14, g15, g16, g17, r1, r2, r3, r4, r5, r6, r7, r8⟩ := hw
  have hwf := bt_wf_w1 (k := k) (v := v) hf (show f < 10 by omega) (by rcases hfs with ⟨rfl, _⟩ | ⟨rfl, _⟩ | ⟨rfl, _⟩ <;> exact hv)
  have en : ∀ g, g ≠ f → bt_w1 w f k v g = w g := fun g hg => bt_w1_n hg
  have e12 := en 12 (by omega)
  have hm : M' c s = nI (bt_mk (bt_w1 w f k v f) (w 12 0)) := by
    rw [h3]
    congr 1
    exact bt_mk_c (fun j _ => bt_w1_s.symm)
  have key : ∀ g t, (g = f ↔ t = s) → M c t = nI (bt_mk (w g) (w 12 0)) → M' c t = nI (bt_mk (bt_w1 w f k v g) (w 12 0)) := by
    intro g t hgt h
    by_cases e : g = f
    · have e2 := hgt.mp e
      subst e2
      subst e
      exact hm
    · rw [h2 t (fun z => e (hgt.mpr z)), en g e]
      exact h
  refine ⟨hwf, ?_, ?_, ?_, ?_, ?_, ?_, ?_, ?_, ?_, ?_, ?_, ?_, ?_, ?_, ?_, ?_, ?_, ?_⟩
  · rw [h2 8 (by omega), e12]; exact g8
  · rw [e12]; exact key 4 9 (by omega) g9
  · rw [e12]; exact key 5 10 (by omega) g10
  · rw [e12]; exact key 6 11 (by omega) g11
  · rw [h2 12 (by omega), e12]; exact g12
  · rw [h2 13 (by omega), e12, en 11 (by omega)]; exact g13
  · rw [h2 14 (by omega), e12]; exact g14
  · rw [h2 15 (by omega), e12]; exact g15
  · rw [h2 16 (by omega), e12]; exact g16
  · rw [h2 17 (by omega), e12]; exact g17
  · rw [h1 (c + 1) (by omega), e12, en 0 (by omega)]; exact r1
  · rw [h1 (c + 2) (by omega), e12, en 1 (by omega)]; exact r2
  · rw [h1 (c + 3) (by omega), e12, en 2 (by omega)]; exact r3
  · rw [h1 (c + 4) (by omega), e12, en 3 (by omega)]; exact r4
  · rw [h1 (c + 5) (by omega), e12, en 7 (by omega)]; exact r5
  · rw [h1 (c + 6) (by omega), e12, en 8 (by omega)]; exact r6
  · rw [h1 (c + 7) (by omega), e12, en 9 (by omega)]; exact r7
  · rw [h1 (c + 8) (by omega), e12, en 10 (by omega)]; exact r8
/-- LEAST -/
theorem bt_wf_le {w : bt_W} {v : Nat} (h : bt_wf w) (hv : v ≤ 6) : bt_wf (bt_w1 w 12 3 v) := by
  obtain ⟨f1, f2, f3, f4, f5, f6, f7, f8, f9, f10, f11, f12, f13, f14, f15, f16, f17, f18⟩ := h
  have en : ∀ g, g ≠ 12 → bt_w1 w 12 3 v g = w g := fun g hg => bt_w1_n hg
  have ek : ∀ k, k ≠ 3 → bt_w1 w 12 3 v 12 k = w 12 k := fun k hk => by rw [bt_w1_s, if_neg hk]
  unfold bt_wf
  rw [en 0 (by omega), en 1 (by omega), en 2 (by omega), en 3 (by omega), en 4 (by omega), en 5 (by omega), en 6 (by omega), en 7 (by omega), en 8 (by omega), en 9 (by omega), en 10 (by omega), en 11 (by omega), ek 0 (by omega), ek 1 (by omega), ek 2 (by omega), ek 4 (by omega), ek 5 (by omega)]
  exact ⟨f1, f2, f3, f4, by rw [bt_w1_s, if_pos rfl]; exact hv, f6, f7, f8, f9, f10, f11, f12, f13, f14, f15, f16, f17, f18⟩
theorem bt_cW_le {M M' : bt_M} {c v : Nat} {w : bt_W} (hw : bt_cW M c w) (hv : v ≤ 6) (h1 : ∀ x : Nat, x ≠ c → M' x = M x) (h2 : ∀ i, i ≠ 15 → M' c i = M c i) (h3 : M' c 15 = nI v) : bt_cW M' c (bt_w1 w 12 3 v) := by
  obtain ⟨hf, g8, g9, g10, g11, g12, g13, g14, g15, g16, g17, r1, r2, r3, r4, r5, r6, r7, r8⟩ := hw
  have en : ∀ g, g ≠ 12 → bt_w1 w 12 3 v g = w g := fun g hg => bt_w1_n hg
  have ek : ∀ k, k ≠ 3 → bt_w1 w 12 3 v 12 k = w 12 k := fun k hk => by rw [bt_w1_s, if_neg hk]
  refine ⟨bt_wf_le hf hv, ?_, ?_, ?_, ?_, ?_, ?_, ?_, ?_, ?_, ?_, ?_, ?_, ?_, ?_, ?_, ?_, ?_, ?_⟩
  · rw [h2 8 (by omega), ek 0 (by omega)]; exact g8
  · rw [h2 9 (by omega), ek 0 (by omega), en 4 (by omega)]; exact g9
  · rw [h2 10 (by omega), ek 0 (by omega), en 5 (by omega)]; exact g10
  · rw [h2 11 (by omega), ek 0 (by omega), en 6 (by omega)]; exact g11
  · rw [h2 12 (by omega), ek 1 (by omega)]; exact g12
  · rw [h2 13 (by omega), ek 1 (by omega), en 11 (by omega)]; exact g13
  · rw [h2 14 (by omega), ek 2 (by omega)]; exact g14
  · rw [h3, bt_w1_s, if_pos rfl]
  · rw [h2 16 (by omega), ek 4 (by omega)]; exact g16
  · rw [h2 17 (by omega), ek 5 (by omega)]; exact g17
  · rw [h1 (c + 1) (by omega), ek 0 (by omega), en 0 (by omega)]; exact r1
  · rw [h1 (c + 2) (by omega), ek 0 (by omega), en 1 (by omega)]; exact r2
  · rw [h1 (c + 3) (by omega), ek 0 (by omega), en 2 (by omega)]; exact r3
  · rw [h1 (c + 4) (by omega), ek 0 (by omega), en 3 (by omega)]; exact r4
  · rw [h1 (c + 5) (by omega), ek 1 (by omega), en 7 (by omega)]; exact r5
  · rw [h1 (c + 6) (by omega), ek 1 (by omega), en 8 (by omega)]; exact r6
  · rw [h1 (c + 7) (by omega), ek 1 (by omega), en 9 (by omega)]; exact r7
  · rw [h1 (c + 8) (by omega), ek 1 (by omega), en 10 (by omega)]; exact r8
/-- the model's page: a cell of a stretch (f 0..6), of a car (f 7, 8, 9) -/
theorem bt_mW_st {M M' : bt_M} {p f k v : Nat} {w : bt_W} (hw : bt_mW M p w) (hf7 : f < 7) (hk : k < 8) (hv : v ≤ bt_at bt_bnd f 0) (h1 : ∀ x : Nat, x ≠ 68 → M' x = M x) (h2 : ∀ j : Nat, j ≠ p + 7 * k + f → M' 68 j = M 68 j) (h3 : M' 68 (p + 7 * k + f) = if f = 3 then nI v - 10 else nI v) : bt_mW M' p (bt_w1 w f k v) := by
  obtain ⟨hf, g1, g2, g3, g4, g5, g6, r0, r1, r2, r3, r4, r5, r6, c7, c8, c9, c10, c11⟩ := hw
  have hn := hf.1
  have hm := hf.2.1
  have hwf := bt_wf_w1 (k := k) hf (by omega) hv
  have en : ∀ g, g ≠ f → bt_w1 w f k v g = w g := fun g hg => bt_w1_n hg
  have e12 := en 12 (by omega)
  have key : ∀ g, g ≠ 3 → g < 7 → (∀ i, i < w 12 0 → M 68 (p + 7 * i + g) = nI (w g i)) → ∀ i, i < w 12 0 → M' 68 (p + 7 * i + g) = nI (bt_w1 w f k v g i) := by
    intro g g3 g7 hr i hi
    by_cases e : g = f
    · subst e
      rw [bt_w1_s]
      by_cases hik : i = k
      · subst hik
        rw [h3, if_neg g3, if_pos rfl]
      · rw [if_neg hik, h2 _ (by omega)]
        exact hr i hi
    · rw [en g e, h2 _ (by omega)]
      exact hr i hi
  unfold bt_mW
  rw [e12, en 7 (by omega), en 8 (by omega), en 9 (by omega), en 10 (by omega), en 11 (by omega)]
  refine ⟨hwf, ?_, ?_, ?_, ?_, ?_, ?_, key 0 (by omega) (by omega) r0, key 1 (by omega) (by omega) r1, key 2 (by omega) (by omega) r2, ?_, key 4 (by omega) (by omega) r4, key 5 (by omega) (by omega) r5, key 6 (by omega) (by omega) r6, ?_, ?_, ?_, ?_, ?_⟩
  · rw [h1 67 (by omega)]; exact g1
  · rw [h1 67 (by omega)]; exact g2
  · rw [h2 _ (by omega)]; exact g3
  · rw [h2 _ (by omega)]; exact g4
  · rw [h2 _ (by omega)]; exact g5
  · rw [h2 _ (by omega)]; exact g6
  · intro i hi
    by_cases e : 3 = f
    · subst e
      rw [bt_w1_s]
      by_cases hik : i = k
      · subst hik
        rw [h3, if_pos rfl, if_pos rfl]
      · rw [if_neg hik, h2 _ (by omega)]
        exact r3 i hi
    · rw [en 3 e, h2 _ (by omega)]
      exact r3 i hi
  · intro i hi; rw [h2 _ (by omega)]; exact c7 i hi
  · intro i hi; rw [h2 _ (by omega)]; exact c8 i hi
  · intro i hi; rw [h2 _ (by omega)]; exact c9 i hi
  · intro i hi; rw [h2 _ (by omega)]; exact c10 i hi
  · intro i hi; rw [h2 _ (by omega)]; exact c11 i hi
theorem bt_mW_car {M M' : bt_M} {p f k v : Nat} {w : bt_W} (hw : bt_mW M p w) (hf7 : 7 ≤ f) (hf9 : f ≤ 9) (hk : k < 6) (hv : v ≤ bt_at bt_bnd f 0) (h1 : ∀ x : Nat, x ≠ 68 → M' x = M x) (h2 : ∀ j : Nat, j ≠ p + 58 + 5 * k + (f - 7) → M' 68 j = M 68 j) (h3 : M' 68 (p + 58 + 5 * k + (f - 7)) = nI v) : bt_mW M' p (bt_w1 w f k v) := by
  obtain ⟨hf, g1, g2, g3, g4, g5, g6, r0, r1, r2, r3, r4, r5, r6, c7, c8, c9, c10, c11⟩ := hw
  have hn := hf.1
  have hm := hf.2.1
  have hwf := bt_wf_w1 (k := k) hf (by omega) hv
  have en : ∀ g, g ≠ f → bt_w1 w f k v g = w g := fun g hg => bt_w1_n hg
  have e12 := en 12 (by omega)
  have key : ∀ g, 7 ≤ g → g ≤ 9 → (∀ i, i < w 12 1 → M 68 (p + 58 + 5 * i + (g - 7)) = nI (w g i)) → ∀ i, i < w 12 1 → M' 68 (p + 58 + 5 * i + (g - 7)) = nI (bt_w1 w f k v g i) := by
    intro g g7 g9 hr i hi
    by_cases e : g = f
    · subst e
      rw [bt_w1_s]
      by_cases hik : i = k
      · subst hik
        rw [h3, if_pos rfl]
      · rw [if_neg hik, h2 _ (by omega)]
        exact hr i hi
    · rw [en g e, h2 _ (by omega)]
      exact hr i hi
  unfold bt_mW
  rw [e12, en 0 (by omega), en 1 (by omega), en 2 (by omega), en 3 (by omega), en 4 (by omega), en 5 (by omega), en 6 (by omega), en 10 (by omega), en 11 (by omega)]
  refine ⟨hwf, ?_, ?_, ?_, ?_, ?_, ?_, ?_, ?_, ?_, ?_, ?_, ?_, ?_, key 7 (by omega) (by omega) c7, key 8 (by omega) (by omega) c8, key 9 (by omega) (by omega) c9, ?_, ?_⟩
  · rw [h1 67 (by omega)]; exact g1
  · rw [h1 67 (by omega)]; exact g2
  · rw [h2 _ (by omega)]; exact g3
  · rw [h2 _ (by omega)]; exact g4
  · rw [h2 _ (by omega)]; exact g5
  · rw [h2 _ (by omega)]; exact g6
  · intro i hi; rw [h2 _ (by omega)]; exact r0 i hi
  · intro i hi; rw [h2 _ (by omega)]; exact r1 i hi
  · intro i hi; rw [h2 _ (by omega)]; exact r2 i hi
  · intro i hi; rw [h2 _ (by omega)]; exact r3 i hi
  · intro i hi; rw [h2 _ (by omega)]; exact r4 i hi
  · intro i hi; rw [h2 _ (by omega)]; exact r5 i hi
  · intro i hi; rw [h2 _ (by omega)]; exact r6 i hi
  · intro i hi; rw [h2 _ (by omega)]; exact c10 i hi
  · intro i hi; rw [h2 _ (by omega)]; exact c11 i hi
theorem bt_mW_le {M M' : bt_M} {p v : Nat} {w : bt_W} (hw : bt_mW M p w) (hv : v ≤ 6) (h1 : ∀ x : Nat, x ≠ 68 → M' x = M x) (h2 : ∀ j : Nat, j ≠ p + 57 → M' 68 j = M 68 j) (h3 : M' 68 (p + 57) = nI v) : bt_mW M' p (bt_w1 w 12 3 v) := by
  obtain ⟨hf, g1, g2, g3, g4, g5, g6, r0, r1, r2, r3, r4, r5, r6, c7, c8, c9, c10, c11⟩ := hw
  have hn := hf.1
  have hm := hf.2.1
  have en : ∀ g, g ≠ 12 → bt_w1 w 12 3 v g = w g := fun g hg => bt_w1_n hg
  have ek : ∀ k, k ≠ 3 → bt_w1 w 12 3 v 12 k = w 12 k := fun k hk => by rw [bt_w1_s, if_neg hk]
  unfold bt_mW
  rw [en 0 (by omega), en 1 (by omega), en 2 (by omega), en 3 (by omega), en 4 (by omega), en 5 (by omega), en 6 (by omega), en 7 (by omega), en 8 (by omega), en 9 (by omega), en 10 (by omega), en 11 (by omega), ek 0 (by omega), ek 1 (by omega), ek 2 (by omega), ek 4 (by omega), ek 5 (by omega)]
  refine ⟨bt_wf_le hf hv, ?_, ?_, ?_, ?_, ?_, ?_, ?_, ?_, ?_, ?_, ?_, ?_, ?_, ?_, ?_, ?_, ?_, ?_⟩
  · rw [h1 67 (by omega)]; exact g1
  · rw [h1 67 (by omega)]; exact g2
  · rw [h2 _ (by omega)]; exact g3
  · rw [h3, bt_w1_s, if_pos rfl]
  · rw [h2 _ (by omega)]; exact g5
  · rw [h2 _ (by omega)]; exact g6
  · intro i hi; rw [h2 _ (by omega)]; exact r0 i hi
  · intro i hi; rw [h2 _ (by omega)]; exact r1 i hi
  · intro i hi; rw [h2 _ (by omega)]; exact r2 i hi
  · intro i hi; rw [h2 _ (by omega)]; exact r3 i hi
  · intro i hi; rw [h2 _ (by omega)]; exact r4 i hi
  · intro i hi; rw [h2 _ (by omega)]; exact r5 i hi
  · intro i hi; rw [h2 _ (by omega)]; exact r6 i hi
  · intro i hi; rw [h2 _ (by omega)]; exact c7 i hi
  · intro i hi; rw [h2 _ (by omega)]; exact c8 i hi
  · intro i hi; rw [h2 _ (by omega)]; exact c9 i hi
  · intro i hi; rw [h2 _ (by omega)]; exact c10 i hi
  · intro i hi; rw [h2 _ (by omega)]; exact c11 i hi
