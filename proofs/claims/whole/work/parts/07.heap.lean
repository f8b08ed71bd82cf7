/-! SOUNDNESS: the heap -/
def bt_tys (ca : Nat → ClassId) : List (ClassId × FieldType) := [(ca 0, .int), (ca 1, .long), (ca 2, .byte), (ca 3, .boolean), (ca 4, .object RX4), (ca 5, .object RX2), (ca 6, .array .int)]
def bt_fv (ad : Nat → Nat) (M : bt_M) (N : bt_N) (c ci k : Nat) : Value := match bt_ft ci k with
  | 0 => .int (M c k)
  | 1 => .long (N c k)
  | _ => .ref (ad (bt_rf c k))
def bt_ar (ad : Nat → Nat) (M : bt_M) (N : bt_N) (c t : Nat) : (Nat → Int32) ⊕ (Nat → Int64) ⊕ (Nat → UInt32) ⊕ (Nat → UInt64) ⊕ (Nat → Option Nat) := match t with
  | 0 => .inl (M c)
  | 1 => .inr (.inl (N c))
  | 2 => .inl (M c)
  | 3 => .inl (M c)
  | _ => .inr (.inr (.inr (.inr (fun k => some (ad (bt_rf c k))))))
def bt_ct (ca : Nat → ClassId) (ad : Nat → Nat) (M : bt_M) (N : bt_N) (c : Nat) : va_E := match bt_sh c with
  | (0, ci, _) => .inr (ci, (List.range (bt_nf ci)).map (bt_fv ad M N c ci))
  | (_, t, n) => .inl (ca t, n, bt_ar ad M N c t)
def bt_ws (ca : Nat → ClassId) (ad : Nat → Nat) (M : bt_M) (N : bt_N) : va_W := (List.range 88).map (fun c => (ad c, bt_ct ca ad M N c))
theorem bt_ws_get {ca : Nat → ClassId} {ad : Nat → Nat} {M : bt_M} {N : bt_N} {c : Nat} (h : c < 88) : (bt_ws ca ad M N)[c]? = some (ad c, bt_ct ca ad M N c) := by
  simp [bt_ws, h]
theorem bt_ws_set {ca : Nat → ClassId} {ad : Nat → Nat} {M M' : bt_M} {N N' : bt_N} {c : Nat} {e : va_E} (he : bt_ct ca ad M' N' c = e) (h : ∀ c', c' ≠ c → bt_ct ca ad M N c' = bt_ct ca ad M' N' c') : (bt_ws ca ad M N).set c (ad c, e) = bt_ws ca ad M' N' := by
  subst he
  apply List.ext_getElem?
  intro k
  by_cases hk : k = c
  · subst hk
    by_cases hl : k < 88
    · simp [bt_ws, hl]
    · simp [bt_ws, hl]
  · simp only [List.getElem?_set_ne (Ne.symm hk), bt_ws, List.getElem?_map]
    by_cases hl : k < 88
    · simp [hl, h k hk]
    · simp [hl]
theorem bt_at_out {α : Type} (d : α) : ∀ (l : List α) (k : Nat), l.length ≤ k → bt_at l k d = d
  | [], _, _ => rfl
  | _ :: l, 0, hk => by simp at hk
  | _ :: l, k + 1, hk => bt_at_out d l k (by simpa using hk)
theorem bt_sh_lt {c : Nat} {a b n : Nat} (h : bt_sh c = (a, b, n)) (ha : a < 9) : c < 88 := by
  have key : ∀ (l : List (Nat × Nat × Nat)) (k : Nat), l.length ≤ k → bt_at l k (9, 0, 0) = (9, 0, 0) := bt_at_out (9, 0, 0)
  rcases Nat.lt_or_ge c 88 with hc | hc
  · exact hc
  · have h2 : bt_sh c = (9, 0, 0) := key bt_shl c (by simpa [bt_shl] using hc)
    rw [h2] at h
    cases h
    omega
theorem bt_at_all {α : Type} (P : α → Prop) (d : α) (hd : P d) : ∀ (l : List α), (∀ x ∈ l, P x) → ∀ k, P (bt_at l k d)
  | [], _, _ => hd
  | x :: l, h, 0 => h x List.mem_cons_self
  | x :: l, h, k + 1 => bt_at_all P d hd l (fun y hy => h y (List.mem_cons_of_mem _ hy)) k
theorem bt_sh_n {c : Nat} {a b n : Nat} (h : bt_sh c = (a, b, n)) : n < 2 ^ 31 := by
  have h1 := bt_at_all (fun q : Nat × Nat × Nat => q.2.2 < 1000) (9, 0, 0) (by decide) bt_shl (by decide) c
  have h2 : (bt_sh c).2.2 < 1000 := h1
  rw [h] at h2
  simp only at h2
  omega
theorem bt_ct_o {ca : Nat → ClassId} {ad : Nat → Nat} {M : bt_M} {N : bt_N} {c ci n : Nat} (h : bt_sh c = (0, ci, n)) : bt_ct ca ad M N c = .inr (ci, (List.range (bt_nf ci)).map (bt_fv ad M N c ci)) := by
  simp [bt_ct, h]
theorem bt_ct_a {ca : Nat → ClassId} {ad : Nat → Nat} {M : bt_M} {N : bt_N} {c t n : Nat} (h : bt_sh c = (1, t, n)) : bt_ct ca ad M N c = .inl (ca t, n, bt_ar ad M N c t) := by
  simp [bt_ct, h]
theorem bt_fv_M {ad : Nat → Nat} {M M' : bt_M} {N N' : bt_N} {c ci : Nat} (h : ∀ k, bt_ft ci k = 0 → M c k = M' c k) (h2 : ∀ k, bt_ft ci k = 1 → N c k = N' c k) : bt_fv ad M N c ci = bt_fv ad M' N' c ci := by
  funext k
  unfold bt_fv
  split
  · rw [h k (by assumption)]
  · rw [h2 k (by assumption)]
  · rfl
theorem bt_ct_M {ca : Nat → ClassId} {ad : Nat → Nat} {M M' : bt_M} {N N' : bt_N} {c : Nat} (h : M c = M' c) (h2 : N c = N' c) : bt_ct ca ad M N c = bt_ct ca ad M' N' c := by
  have e : ∀ ci, bt_fv ad M N c ci = bt_fv ad M' N' c ci := fun ci => bt_fv_M (fun k _ => by rw [h]) (fun k _ => by rw [h2])
  have e2 : ∀ t, bt_ar ad M N c t = bt_ar ad M' N' c t := by
    intro t
    unfold bt_ar
    rw [h, h2]
  unfold bt_ct
  split
  · rw [e]
  · rw [e2]
/-- an int field is written -/
theorem bt_ws_pI {ca : Nat → ClassId} {ad : Nat → Nat} {M : bt_M} {N : bt_N} {c ci n f : Nat} {x : Int32} (h : bt_sh c = (0, ci, n)) (hf : bt_ft ci f = 0) : (bt_ws ca ad M N).set c (ad c, .inr (ci, ((List.range (bt_nf ci)).map (bt_fv ad M N c ci)).set f (.int x))) = bt_ws ca ad (va_up M c (upd (M c) f x)) N := by
  apply bt_ws_set
  · rw [bt_ct_o h]
    congr 2
    apply List.ext_getElem?
    intro k
    by_cases hk : k = f
    · subst hk
      by_cases hl : k < bt_nf ci
      · simp [hl, bt_fv, hf, va_up, upd]
      · simp [hl]
    · rw [List.getElem?_set_ne (Ne.symm hk)]
      by_cases hl : k < bt_nf ci
      · simp [hl, bt_fv, va_up, upd, hk]
      · simp [hl]
  · intro c' hc
    exact bt_ct_M (by simp [va_up, hc]) rfl
theorem bt_ws_pL {ca : Nat → ClassId} {ad : Nat → Nat} {M : bt_M} {N : bt_N} {c ci n f : Nat} {x : Int64} (h : bt_sh c = (0, ci, n)) (hf : bt_ft ci f = 1) : (bt_ws ca ad M N).set c (ad c, .inr (ci, ((List.range (bt_nf ci)).map (bt_fv ad M N c ci)).set f (.long x))) = bt_ws ca ad M (va_up N c (vp_updL (N c) f x)) := by
  apply bt_ws_set
  · rw [bt_ct_o h]
    congr 2
    apply List.ext_getElem?
    intro k
    by_cases hk : k = f
    · subst hk
      by_cases hl : k < bt_nf ci
      · simp [hl, bt_fv, hf, va_up, vp_updL]
      · simp [hl]
    · rw [List.getElem?_set_ne (Ne.symm hk)]
      by_cases hl : k < bt_nf ci
      · simp [hl, bt_fv, va_up, vp_updL, hk]
      · simp [hl]
  · intro c' hc
    exact bt_ct_M rfl (by simp [va_up, hc])
/-- an array's ints are written -/
theorem bt_ws_aI {ca : Nat → ClassId} {ad : Nat → Nat} {M : bt_M} {N : bt_N} {c t n : Nat} {f : Nat → Int32} (h : bt_sh c = (1, t, n)) (ht : t = 0 ∨ t = 2 ∨ t = 3) : (bt_ws ca ad M N).set c (ad c, .inl (ca t, n, .inl f)) = bt_ws ca ad (va_up M c f) N := by
  apply bt_ws_set
  · rw [bt_ct_a h]
    rcases ht with rfl | rfl | rfl <;> simp [bt_ar, va_up]
  · intro c' hc
    exact bt_ct_M (by simp [va_up, hc]) rfl
theorem bt_ws_aL {ca : Nat → ClassId} {ad : Nat → Nat} {M : bt_M} {N : bt_N} {c n : Nat} {f : Nat → Int64} (h : bt_sh c = (1, 1, n)) : (bt_ws ca ad M N).set c (ad c, .inl (ca 1, n, .inr (.inl f))) = bt_ws ca ad M (va_up N c f) := by
  apply bt_ws_set
  · rw [bt_ct_a h]
    simp [bt_ar, va_up]
  · intro c' hc
    exact bt_ct_M rfl (by simp [va_up, hc])
theorem bt_wsD {ca : Nat → ClassId} {ad : Nat → Nat} {base : Nat} (hi : ∀ i j, i < 88 → j < 88 → ad i = ad j → i = j) (hb : ∀ i, i < 88 → base ≤ ad i) (M : bt_M) (N : bt_N) : va_D (fun q => base ≤ q) (bt_ws ca ad M N) := by
  have key : ∀ (k : Nat) (q : Nat × va_E), (bt_ws ca ad M N)[k]? = some q → k < 88 ∧ q.1 = ad k := by
    intro k q h
    by_cases hk : k < 88
    · rw [bt_ws_get hk] at h
      cases h
      exact ⟨hk, rfl⟩
    · simp [bt_ws, hk] at h
  refine ⟨fun i j p q h1 h2 h3 => ?_, fun k q h => ?_⟩
  · obtain ⟨a1, a2⟩ := key i p h1
    obtain ⟨b1, b2⟩ := key j q h2
    exact hi i j a1 b1 (by rw [← a2, ← b2, h3])
  · obtain ⟨a1, a2⟩ := key k q h
    show base ≤ q.1
    rw [a2]
    exact hb k a1
