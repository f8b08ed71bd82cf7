/-! what the pieces of an instruction say -/
theorem bt_k1i_s {st : List Value} {k : Int32 → List Value → Prop} (h : bt_k1i st k) : ∃ a r, st = .int a :: r ∧ k a r := by
  unfold bt_k1i at h
  split at h
  · exact ⟨_, _, rfl, h⟩
  · exact False.elim h
theorem bt_k2i_s {st : List Value} {k : Int32 → Int32 → List Value → Prop} (h : bt_k2i st k) : ∃ a b r, st = .int b :: .int a :: r ∧ k a b r := by
  unfold bt_k2i at h
  split at h
  · exact ⟨_, _, _, rfl, h⟩
  · exact False.elim h
theorem bt_k1l_s {st : List Value} {k : Int64 → List Value → Prop} (h : bt_k1l st k) : ∃ a r, st = .long a :: r ∧ k a r := by
  unfold bt_k1l at h
  split at h
  · exact ⟨_, _, rfl, h⟩
  · exact False.elim h
theorem bt_k2l_s {st : List Value} {k : Int64 → Int64 → List Value → Prop} (h : bt_k2l st k) : ∃ a b r, st = .long b :: .long a :: r ∧ k a b r := by
  unfold bt_k2l at h
  split at h
  · exact ⟨_, _, _, rfl, h⟩
  · exact False.elim h
theorem bt_kr_s {st : List Value} {k : Nat → List Value → Prop} (h : bt_kr st k) : ∃ c r, st = .ref c :: r ∧ k c r := by
  unfold bt_kr at h
  split at h
  · exact ⟨_, _, rfl, h⟩
  · exact False.elim h
theorem bt_kir_s {st : List Value} {k : Int32 → Nat → List Value → Prop} {kx : Int32 → List Value → Prop} (h : bt_kir st k kx) : (∃ i c r, st = .int i :: .ref c :: r ∧ k i c r) ∨ ∃ i r, st = .int i :: .retAddr 0 :: r ∧ kx i r := by
  unfold bt_kir at h
  split at h
  · exact Or.inl ⟨_, _, _, rfl, h⟩
  · exact Or.inr ⟨_, _, rfl, h⟩
  · exact False.elim h
theorem bt_kxir_s {st : List Value} {k : Int32 → Int32 → Nat → List Value → Prop} (h : bt_kxir st k) : ∃ x i c r, st = .int x :: .int i :: .ref c :: r ∧ k x i c r := by
  unfold bt_kxir at h
  split at h
  · exact ⟨_, _, _, _, rfl, h⟩
  · exact False.elim h
theorem bt_klir_s {st : List Value} {k : Int64 → Int32 → Nat → List Value → Prop} (h : bt_klir st k) : ∃ x i c r, st = .long x :: .int i :: .ref c :: r ∧ k x i c r := by
  unfold bt_klir at h
  split at h
  · exact ⟨_, _, _, _, rfl, h⟩
  · exact False.elim h
theorem bt_k1_s {st : List Value} {k : Value → List Value → Prop} (h : bt_k1 st k) : ∃ v r, st = v :: r ∧ v.category = 1 ∧ k v r := by
  unfold bt_k1 at h
  split at h
  · split at h
    · exact ⟨_, _, rfl, bt_c1_cat (by assumption), h⟩
    · exact False.elim h
  · exact False.elim h
theorem bt_k2_s {st : List Value} {k : Value → Value → List Value → Prop} (h : bt_k2 st k) : ∃ v w r, st = v :: w :: r ∧ v.category = 1 ∧ w.category = 1 ∧ k v w r := by
  unfold bt_k2 at h
  split at h
  · split at h
    · exact ⟨_, _, _, rfl, bt_c1_cat (by assumption), bt_c1_cat (by assumption), h⟩
    · exact False.elim h
  · exact False.elim h
theorem bt_li_s {ad fa : Nat → Nat} {ls : Array Slot} {nL i : Nat} {L : bt_L} {k : Int32 → Prop} (hl : bt_lr ad fa ls nL L) (h : bt_li L i k) : ∃ x, k x ∧ ls[i]? = some (.val (.int x)) := by
  obtain ⟨v, hv, hg⟩ := bt_lr_g hl h
  split at hv
  · exact ⟨_, hv, hg⟩
  · exact False.elim hv
theorem bt_ll_s {ad fa : Nat → Nat} {ls : Array Slot} {nL i : Nat} {L : bt_L} {k : Int64 → Prop} (hl : bt_lr ad fa ls nL L) (h : bt_ll L i k) : ∃ x, k x ∧ ls[i]? = some (.val (.long x)) := by
  obtain ⟨v, hv, hg⟩ := bt_lr_g hl h
  split at hv
  · exact ⟨_, hv, hg⟩
  · exact False.elim hv
theorem bt_la_s {ad fa : Nat → Nat} {ls : Array Slot} {nL i : Nat} {L : bt_L} {k : Value → Prop} (hl : bt_lr ad fa ls nL L) (h : bt_la L i k) : ∃ v a, k v ∧ bt_tr ad fa v = .ref a ∧ ls[i]? = some (.val (.ref a)) := by
  obtain ⟨v, hv, hg⟩ := bt_lr_g hl h
  split at hv
  · exact ⟨_, _, hv, rfl, hg⟩
  · exact ⟨_, _, hv, rfl, hg⟩
  · exact False.elim hv
theorem bt_tg_s {tg : List (Int32 × Nat)} {k : Nat → Prop} {pc : Nat} {o : Int} (h : bt_tg tg k) (ho : bt_tgok pc o tg = true) : ∃ t : Nat, (pc : Int) + o = (t : Int) ∧ k t := by
  unfold bt_tg at h
  split at h
  · exact ⟨_, of_decide_eq_true ho, h⟩
  · exact False.elim h
theorem bt_fl_s : ∀ {FL : bt_F} {i : Nat} {k : Nat → Nat → Prop}, bt_fl FL i k → ∃ ci f, (i, ci, f) ∈ FL ∧ k ci f
  | [], _, _, h => False.elim h
  | (a, ci, f) :: t, i, k, h => by
    unfold bt_fl at h
    split at h
    · next hb =>
      have e : a = i := Nat.eq_of_beq_eq_true hb
      subst e
      exact ⟨ci, f, List.mem_cons_self, h⟩
    · obtain ⟨ci', f', hm, hk⟩ := bt_fl_s h
      exact ⟨ci', f', List.mem_cons_of_mem _ hm, hk⟩
theorem bt_ob_s {c ci : Nat} {k : Prop} (h : bt_ob c ci k) : ∃ n, bt_sh c = (0, ci, n) ∧ k := by
  unfold bt_ob at h
  split at h
  · next ci' n hsh =>
    split at h
    · next hb =>
      have e : ci' = ci := Nat.eq_of_beq_eq_true hb
      subst e
      exact ⟨n, hsh, h⟩
    · exact False.elim h
  · exact False.elim h
theorem bt_sw_s {x : Int32} {d : Prop} {k : Nat → Prop} : ∀ {ts : List (Int32 × Nat)}, bt_sw x ts k d → (∃ (j : Nat) (q : Int32 × Nat), ts[j]? = some q ∧ x = q.1 ∧ k q.2) ∨ ((∀ (j : Nat) (q : Int32 × Nat), ts[j]? = some q → x ≠ q.1) ∧ d)
  | [], h => Or.inr ⟨fun j q hq => by simp at hq, h⟩
  | (a, t) :: r, h => by
    by_cases hx : x = a
    · exact Or.inl ⟨0, (a, t), rfl, hx, h.1 hx⟩
    · rcases bt_sw_s (h.2 hx) with ⟨j, q, h1, h2, h3⟩ | ⟨h1, h2⟩
      · exact Or.inl ⟨j + 1, q, h1, h2, h3⟩
      · refine Or.inr ⟨fun j q hq => ?_, h2⟩
        cases j with
        | zero => cases hq; exact hx
        | succ j => exact h1 j q hq
theorem bt_swok_s {pc : Nat} : ∀ {ts : List (Int32 × Nat)} {os : List Int} {lo : Int}, bt_swok pc lo ts os = true → ts.length = os.length ∧ ∀ (j : Nat) (q : Int32 × Nat), ts[j]? = some q → q.1.toInt = lo + j ∧ ∃ o, os[j]? = some o ∧ (pc : Int) + o = (q.2 : Int)
  | [], [], _, _ => ⟨rfl, fun j q hq => by simp at hq⟩
  | [], _ :: _, _, h => by simp [bt_swok] at h
  | _ :: _, [], _, h => by simp [bt_swok] at h
  | (a, t) :: r, o :: os, lo, h => by
    simp only [bt_swok, Bool.and_eq_true, decide_eq_true_eq] at h
    obtain ⟨h1, h2⟩ := bt_swok_s h.2
    refine ⟨by simp [h1], fun j q hq => ?_⟩
    cases j with
    | zero =>
      cases hq
      exact ⟨by rw [h.1.1]; simp, o, rfl, h.1.2⟩
    | succ j =>
      obtain ⟨h3, o', h4, h5⟩ := h2 j q hq
      exact ⟨by rw [h3]; omega, o', h4, h5⟩
theorem bt_call_s : ∀ {CT : bt_C} {i kj : Nat} {st : List Value} {M : bt_M} {N : bt_N} {k : List Value → bt_M → bt_N → Prop}, bt_call CT i kj st M N k → ∃ na sp, (i, kj, na, sp) ∈ CT ∧ bt_do na sp st M N k
  | [], _, _, _, _, _, _, h => False.elim h
  | (a, kd, na, sp) :: t, i, kj, st, M, N, k, h => by
    unfold bt_call at h
    split at h
    · next hb =>
      have e : a = i := Nat.eq_of_beq_eq_true hb
      subst e
      split at h
      · next hb2 =>
        have e : kd = kj := Nat.eq_of_beq_eq_true hb2
        subst e
        exact ⟨na, sp, List.mem_cons_self, h⟩
      · exact False.elim h
    · obtain ⟨na', sp', hm, hk⟩ := bt_call_s h
      exact ⟨na', sp', List.mem_cons_of_mem _ hm, hk⟩
theorem bt_pop_s : ∀ {n : Nat} {st acc : List Value} {k : List Value → List Value → Prop}, bt_pop n st acc k → ∃ as r, as.length = n ∧ st = as.reverse ++ r ∧ k (as ++ acc) r
  | 0, st, acc, k, h => ⟨[], st, rfl, rfl, h⟩
  | n + 1, [], acc, k, h => False.elim h
  | n + 1, v :: st, acc, k, h => by
    obtain ⟨as, r, h1, h2, h3⟩ := bt_pop_s (show bt_pop n st (v :: acc) k from h)
    exact ⟨as ++ [v], r, by simp [h1], by simp [h2], by simpa using h3⟩
theorem bt_sum_s (ad fa : Nat → Nat) : ∀ (r : List Value), ((r.map (bt_tr ad fa)).map fun v => v.category).sum = bt_sum r
  | [] => rfl
  | v :: r => by
    simp only [List.map_cons, List.sum_cons, bt_tr_cat, bt_sum, bt_sum_s ad fa r]
    cases hv : bt_c1 v with
    | true => rw [bt_c1_cat hv]; simp only; omega
    | false => rw [bt_c1_cat2 hv]; simp only; omega
