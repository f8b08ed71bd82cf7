/-! SOUNDNESS: locals -/
def bt_lp (f : Value → Value) : Nat → bt_L → List (Nat × Value)
  | _, [] => []
  | i, none :: t => bt_lp f (i + 1) t
  | i, some v :: t => (i, f v) :: bt_lp f (i + 1) t
theorem bt_lp_ge (f : Value → Value) : ∀ (L : bt_L) (o : Nat) (q : Nat × Value), q ∈ bt_lp f o L → o ≤ q.1
  | [], _, _, h => by simp [bt_lp] at h
  | none :: t, o, q, h => by
    have := bt_lp_ge f t (o + 1) q h
    omega
  | some v :: t, o, q, h => by
    rcases List.mem_cons.mp h with rfl | h
    · exact Nat.le_refl _
    · have := bt_lp_ge f t (o + 1) q h
      omega
theorem bt_lp_tl (f : Value → Value) {x : Option Value} {t : bt_L} {o : Nat} {q : Nat × Value} (h : q ∈ bt_lp f (o + 1) t) : q ∈ bt_lp f o (x :: t) := by
  cases x with
  | none => exact h
  | some v => exact List.mem_cons_of_mem _ h
theorem bt_lg_s (f : Value → Value) : ∀ (L : bt_L) (i o : Nat) (k : Value → Prop), bt_lg L i k → ∃ v, k v ∧ (o + i, f v) ∈ bt_lp f o L
  | [], _, _, _, h => False.elim h
  | x :: t, 0, o, k, h => by
    cases x with
    | none => exact False.elim h
    | some v => exact ⟨v, h, List.mem_cons_self⟩
  | x :: t, n + 1, o, k, h => by
    obtain ⟨v, hv, hm⟩ := bt_lg_s f t n (o + 1) k h
    refine ⟨v, hv, bt_lp_tl f ?_⟩
    rw [show o + (n + 1) = o + 1 + n by omega]
    exact hm
theorem bt_c1_cat {v : Value} (h : bt_c1 v = true) : v.category = 1 := by cases v <;> first | rfl | cases h
theorem bt_c1_cat2 {v : Value} (h : bt_c1 v = false) : v.category = 2 := by cases v <;> first | rfl | cases h
theorem bt_tr_cat (ad fa : Nat → Nat) (v : Value) : (bt_tr ad fa v).category = v.category := by cases v <;> rfl
theorem bt_ls_s (f : Value → Value) (hf : ∀ v, (f v).category = v.category) : ∀ (L : bt_L) (i o : Nat) (v : Value) (k : bt_L → Prop), bt_ls L i v k → ∃ L', k L' ∧ i < L.length ∧ L'.length = L.length ∧ ∀ q ∈ bt_lp f o L', q = (o + i, f v) ∨ (q ∈ bt_lp f o L ∧ q.1 ≠ o + i ∧ ¬ (q.1 + 1 = o + i ∧ q.2.category = 2))
  | [], _, _, _, _, h => False.elim h
  | x :: t, 0, o, v, k, h => by
    refine ⟨some v :: t, h, by simp, by simp, fun q hq => ?_⟩
    rcases List.mem_cons.mp hq with rfl | hq
    · exact Or.inl rfl
    · have := bt_lp_ge f t (o + 1) q hq
      exact Or.inr ⟨bt_lp_tl f hq, by omega, by omega⟩
  | x :: [], 1, o, v, k, h => by
    cases hx : bt_o1 x <;> simp [bt_ls, hx] at h
  | x :: y :: t, 1, o, v, k, h => by
    cases hx : bt_o1 x with
    | false => simp [bt_ls, hx] at h
    | true =>
      have h : k (x :: some v :: t) := by simpa [bt_ls, hx] using h
      refine ⟨_, h, by simp, by simp, fun q hq => ?_⟩
      cases x with
      | none =>
        rcases List.mem_cons.mp (show q ∈ (o + 1, f v) :: bt_lp f (o + 1 + 1) t from hq) with rfl | hq
        · exact Or.inl rfl
        · have := bt_lp_ge f t _ q hq
          exact Or.inr ⟨bt_lp_tl f (bt_lp_tl f hq), by omega, by omega⟩
      | some w =>
        rcases List.mem_cons.mp (show q ∈ (o, f w) :: (o + 1, f v) :: bt_lp f (o + 1 + 1) t from hq) with rfl | hq
        · refine Or.inr ⟨List.mem_cons_self, by simp, fun hh => ?_⟩
          have h1 := bt_c1_cat (show bt_c1 w = true from hx)
          have h2 := hh.2
          simp only [hf] at h2
          omega
        rcases List.mem_cons.mp hq with rfl | hq
        · exact Or.inl rfl
        · have := bt_lp_ge f t _ q hq
          exact Or.inr ⟨bt_lp_tl f (bt_lp_tl f hq), by omega, by omega⟩
  | x :: t, n + 2, o, v, k, h => by
    obtain ⟨t', hk, h1, h2, h3⟩ := bt_ls_s f hf t (n + 1) (o + 1) v (fun t' => k (x :: t')) h
    refine ⟨x :: t', hk, by simp only [List.length_cons]; omega, by simp [h2], fun q hq => ?_⟩
    have key : q ∈ bt_lp f (o + 1) t' → q = (o + (n + 2), f v) ∨ (q ∈ bt_lp f o (x :: t) ∧ q.1 ≠ o + (n + 2) ∧ ¬ (q.1 + 1 = o + (n + 2) ∧ q.2.category = 2)) := by
      intro hq
      rcases h3 q hq with h4 | ⟨h4, h5, h6⟩
      · left; rw [h4]; congr 1; omega
      · right; exact ⟨bt_lp_tl f h4, by omega, fun hh => h6 ⟨by omega, hh.2⟩⟩
    cases x with
    | none => exact key hq
    | some w =>
      rcases List.mem_cons.mp (show q ∈ (o, f w) :: bt_lp f (o + 1) t' from hq) with rfl | hq
      · exact Or.inr ⟨List.mem_cons_self, by simp only [ne_eq]; omega, fun hh => by have := hh.1; simp only at this; omega⟩
      · exact key hq
theorem bt_ls2_s (f : Value → Value) (hf : ∀ v, (f v).category = v.category) : ∀ (L : bt_L) (i o : Nat) (v : Value) (k : bt_L → Prop), bt_ls2 L i v k → ∃ L', k L' ∧ i + 1 < L.length ∧ L'.length = L.length ∧ ∀ q ∈ bt_lp f o L', q = (o + i, f v) ∨ (q ∈ bt_lp f o L ∧ q.1 ≠ o + i ∧ q.1 ≠ o + i + 1 ∧ ¬ (q.1 + 1 = o + i ∧ q.2.category = 2))
  | [], _, _, _, _, h => False.elim h
  | x :: [], 0, o, v, k, h => False.elim h
  | x :: y :: t, 0, o, v, k, h => by
    refine ⟨some v :: none :: t, h, by simp, by simp, fun q hq => ?_⟩
    rcases List.mem_cons.mp (show q ∈ (o, f v) :: bt_lp f (o + 1 + 1) t from hq) with rfl | hq
    · exact Or.inl rfl
    · have := bt_lp_ge f t _ q hq
      exact Or.inr ⟨bt_lp_tl f (bt_lp_tl f hq), by omega, by omega, by omega⟩
  | x :: [], 1, o, v, k, h => by
    cases hx : bt_o1 x <;> simp [bt_ls2, hx] at h
  | x :: y :: [], 1, o, v, k, h => by
    cases hx : bt_o1 x <;> simp [bt_ls2, hx] at h
  | x :: y :: z :: t, 1, o, v, k, h => by
    cases hx : bt_o1 x with
    | false => simp [bt_ls2, hx] at h
    | true =>
      have h : k (x :: some v :: none :: t) := by simpa [bt_ls2, hx] using h
      refine ⟨_, h, by simp, by simp, fun q hq => ?_⟩
      cases x with
      | none =>
        rcases List.mem_cons.mp (show q ∈ (o + 1, f v) :: bt_lp f (o + 1 + 1 + 1) t from hq) with rfl | hq
        · exact Or.inl rfl
        · have := bt_lp_ge f t _ q hq
          exact Or.inr ⟨bt_lp_tl f (bt_lp_tl f (bt_lp_tl f hq)), by omega, by omega, by omega⟩
      | some w =>
        rcases List.mem_cons.mp (show q ∈ (o, f w) :: (o + 1, f v) :: bt_lp f (o + 1 + 1 + 1) t from hq) with rfl | hq
        · refine Or.inr ⟨List.mem_cons_self, by simp, by simp only [ne_eq]; omega, fun hh => ?_⟩
          have h1 := bt_c1_cat (show bt_c1 w = true from hx)
          have h2 := hh.2
          simp only [hf] at h2
          omega
        rcases List.mem_cons.mp hq with rfl | hq
        · exact Or.inl rfl
        · have := bt_lp_ge f t _ q hq
          exact Or.inr ⟨bt_lp_tl f (bt_lp_tl f (bt_lp_tl f hq)), by omega, by omega, by omega⟩
  | x :: t, n + 2, o, v, k, h => by
    obtain ⟨t', hk, h1, h2, h3⟩ := bt_ls2_s f hf t (n + 1) (o + 1) v (fun t' => k (x :: t')) h
    refine ⟨x :: t', hk, by simp only [List.length_cons]; omega, by simp [h2], fun q hq => ?_⟩
    have key : q ∈ bt_lp f (o + 1) t' → q = (o + (n + 2), f v) ∨ (q ∈ bt_lp f o (x :: t) ∧ q.1 ≠ o + (n + 2) ∧ q.1 ≠ o + (n + 2) + 1 ∧ ¬ (q.1 + 1 = o + (n + 2) ∧ q.2.category = 2)) := by
      intro hq
      rcases h3 q hq with h4 | ⟨h4, h5, h6, h7⟩
      · left; rw [h4]; congr 1; omega
      · right; exact ⟨bt_lp_tl f h4, by omega, by omega, fun hh => h7 ⟨by omega, hh.2⟩⟩
    cases x with
    | none => exact key hq
    | some w =>
      rcases List.mem_cons.mp (show q ∈ (o, f w) :: bt_lp f (o + 1) t' from hq) with rfl | hq
      · exact Or.inr ⟨List.mem_cons_self, by simp only [ne_eq]; omega, by simp only [ne_eq]; omega, fun hh => by have := hh.1; simp only at this; omega⟩
      · exact key hq
def bt_lr (ad fa : Nat → Nat) (ls : Array Slot) (nL : Nat) (L : bt_L) : Prop := L.length = nL ∧ lv_has ls nL (bt_lp (bt_tr ad fa) 0 L)
theorem bt_lr_g {ad fa : Nat → Nat} {ls : Array Slot} {nL i : Nat} {L : bt_L} {k : Value → Prop} (h : bt_lr ad fa ls nL L) (hk : bt_lg L i k) : ∃ v, k v ∧ ls[i]? = some (.val (bt_tr ad fa v)) := by
  obtain ⟨v, hv, hm⟩ := bt_lg_s (bt_tr ad fa) L i 0 k hk
  rw [Nat.zero_add] at hm
  exact ⟨v, hv, h.2.2.2 _ hm⟩
theorem bt_lr_s {ad fa : Nat → Nat} {ls : Array Slot} {nL i : Nat} {L : bt_L} {v : Value} {k : bt_L → Prop} (h : bt_lr ad fa ls nL L) (hc : v.category = 1) (hk : bt_ls L i v k) : ∃ L', k L' ∧ i < nL ∧ ∀ ls' : Array Slot, lv_has ls' nL ((i, bt_tr ad fa v) :: (bt_lp (bt_tr ad fa) 0 L).filter (fun q => !(q.1 == i) && !(q.1 + 1 == i && q.2.category == 2))) → bt_lr ad fa ls' nL L' := by
  obtain ⟨L', h1, h2, h3, h4⟩ := bt_ls_s (bt_tr ad fa) (bt_tr_cat ad fa) L i 0 v k hk
  refine ⟨L', h1, by rw [← h.1]; exact h2, fun ls' hl => ⟨by rw [h3]; exact h.1, hl.1, hl.2.1, fun q hq => hl.2.2 q ?_⟩⟩
  rcases h4 q hq with h5 | ⟨h5, h6, h7⟩
  · rw [h5, Nat.zero_add]; exact List.mem_cons_self
  · refine List.mem_cons_of_mem _ (List.mem_filter.mpr ⟨h5, ?_⟩)
    rw [Nat.zero_add] at h6 h7
    simp only [Bool.and_eq_true, Bool.not_eq_true', beq_eq_false_iff_ne, ne_eq, Bool.and_eq_false_iff]
    refine ⟨h6, ?_⟩
    by_cases h8 : q.1 + 1 = i
    · exact Or.inr fun h9 => h7 ⟨h8, h9⟩
    · exact Or.inl h8
theorem bt_lr_s2 {ad fa : Nat → Nat} {ls : Array Slot} {nL i : Nat} {L : bt_L} {v : Value} {k : bt_L → Prop} (h : bt_lr ad fa ls nL L) (hk : bt_ls2 L i v k) : ∃ L', k L' ∧ i + 1 < nL ∧ ∀ ls' : Array Slot, lv_has ls' nL ((i, bt_tr ad fa v) :: (bt_lp (bt_tr ad fa) 0 L).filter (fun q => !(q.1 == i) && (!(q.1 == i + 1) && !(q.1 + 1 == i && q.2.category == 2)))) → bt_lr ad fa ls' nL L' := by
  obtain ⟨L', h1, h2, h3, h4⟩ := bt_ls2_s (bt_tr ad fa) (bt_tr_cat ad fa) L i 0 v k hk
  refine ⟨L', h1, by rw [← h.1]; exact h2, fun ls' hl => ⟨by rw [h3]; exact h.1, hl.1, hl.2.1, fun q hq => hl.2.2 q ?_⟩⟩
  rcases h4 q hq with h5 | ⟨h5, h6, h7, h10⟩
  · rw [h5, Nat.zero_add]; exact List.mem_cons_self
  · refine List.mem_cons_of_mem _ (List.mem_filter.mpr ⟨h5, ?_⟩)
    rw [Nat.zero_add] at h6 h7 h10
    simp only [Bool.and_eq_true, Bool.not_eq_true', beq_eq_false_iff_ne, ne_eq, Bool.and_eq_false_iff]
    refine ⟨h6, h7, ?_⟩
    by_cases h8 : q.1 + 1 = i
    · exact Or.inr fun h9 => h10 ⟨h8, h9⟩
    · exact Or.inl h8
