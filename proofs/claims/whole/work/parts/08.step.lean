/-! SOUNDNESS: one instruction -/
abbrev bt_G : Type := Program × Launch × Env × Room × State × MethodId × Array Value × List Frame × Method × Code × Nat × Nat × (State → Prop)
abbrev bt_Y : Type := (Nat → ClassId) × (Nat → Nat → Nat) × (Nat → ClassId) × (Nat → Nat) × (Nat → Nat) × Nat
def bt_V (g : bt_G) (y : bt_Y) (nL pc : Nat) (L : bt_L) (st : List Value) (M : bt_M) (N : bt_N) : Prop := match g, y with
  | (p, l, e, R, s, m, args, below, meth, c, cells, slots, Q), (dC, dI, ca, ad, fa, base) =>
    ∀ (H : Heap) (locs : List Loc) (ls : Array Slot), va_P (dC, dI) bt_cl (bt_ws ca ad M N) H → va_S (fun q => base ≤ q) s.heap H locs → bt_lr ad fa ls nL L → W p l e R s m args below meth c H locs cells slots Q (F0 m pc ls (st.map (bt_tr ad fa)))
def bt_nst : List Cond := [.methodLinkNest RX3 95 yX5_within RX5, .methodLinkNest RX3 148 yX5_bit RX5, .methodLinkNest RX4 77 yX5_bit RX5, .methodLinkNest RX1 61 yX5_bit RX5, .methodLinkNest RX0 77 yX5_bit RX5, .methodLinkNest RX2 22 yX5_within RX5]
def bt_sb : List (List Int32) := [[114, 111, 97, 100], [99, 97, 114], [110, 101, 118, 101, 114], [111, 110, 101], [98, 111, 108, 100], [102, 111, 108, 108, 111, 119], [116, 105, 109, 105, 100], [115, 108, 111, 119], [111, 100, 100, 115], [104, 105, 108, 108], [108, 97, 121, 98, 121], [108, 97, 110, 101]]
def bt_sl : List Nat := [4, 3, 5, 3, 4, 6, 5, 4, 4, 4, 5, 4]
/-- what is known of a state: the classes, the nests, the texts -/
def bt_Kn (y : bt_Y) (U : State) (H : Heap) : Prop := match y with
  | (dC, dI, ca, ad, fa, base) => va_K (dC, dI) bt_cl (bt_tys ca) U ∧ (∀ w ∈ bt_nst, va_Nw w U) ∧ (∀ (j : Nat) (q : String × Nat × String), bt_strs[j]? = some q → vk_R q.1 q.2.1 q.2.2 (fa (j + 1)) U) ∧ (∃ adV, vk_S 12 bt_sl bt_sb (fun i => fa (i + 1)) adV (fun q => base ≤ q) U H) ∧ va_Z "java/lang/String" "COMPACT_STRINGS" "Z" (.int 1) (fun q => base ≤ q) U H ∧ ∃ fq : Option Nat, va_Z "jdk/internal/util/Preconditions" "SIOOBE_FORMATTER" "Ljava/util/function/BiFunction;" (va_rf fq) (fun q => base ≤ q) U H
/-- what stands around a method's body -/
def bt_Cx (g : bt_G) (y : bt_Y) (own : String) (cc : ByteArray) (nL SL : Nat) (xs : Nat → Int32) : Prop := match g, y with
  | (p, l, e, R, s, m, args, below, meth, c, cells, slots, Q), (dC, dI, ca, ad, fa, base) =>
    p.tables.exec = Jvm.exec ∧ c.code = cc ∧ c.maxLocals = nL ∧ s.vm.findClass own = some m.cls ∧ (∀ w ∈ bt_big, w.before args s = true) ∧ bt_Kn (dC, dI, ca, ad, fa, base) s s.heap ∧ (∀ i j, i < 88 → j < 88 → ad i = ad j → i = j) ∧ (∀ i, i < 88 → base ≤ ad i) ∧ base ≤ s.heap.size ∧ (∀ S, SL = S + 1 → va_X (fa 0) S xs s s.heap ∧ fa 0 < base ∧ S < 2 ^ 31) ∧ cells ≤ R.cells ∧ slots ≤ R.slots
/-- the fields that a class links -/
def bt_okF (own : String) (FL : bt_F) : Prop := ∀ q ∈ FL, ∀ r, bt_cl[q.2.1]? = some r → Cond.fieldLink own q.1 r.1 (r.2.1 q.2.2).2.1 (r.2.1 q.2.2).2.2.1 ∈ bt_big
/-- a call -/
def bt_okC (g : bt_G) (y : bt_Y) (cc : ByteArray) (nL : Nat) (CT : bt_C) : Prop := ∀ q ∈ CT, ∀ (pc : Nat) (L : bt_L) (st : List Value) (M : bt_M) (N : bt_N) (k : List Value → bt_M → bt_N → Prop),
  ((q.2.1 = 0 ∧ decode cc pc = .ok (.invokestatic q.1, 3)) ∨ (q.2.1 = 1 ∧ decode cc pc = .ok (.invokevirtual q.1, 3))) → bt_do q.2.2.1 q.2.2.2 st M N k → (∀ st' M' N', k st' M' N' → bt_V g y nL (pc + 3) L st' M' N') → bt_V g y nL pc L st M N
/-- an answer -/
def bt_okR (g : bt_G) (y : bt_Y) (cc : ByteArray) (nL rt : Nat) (Rt : bt_R) : Prop :=
  (rt = 0 → ∀ pc L M N, decode cc pc = .ok (.return_, 1) → Rt none M N → bt_V g y nL pc L [] M N) ∧
  (rt = 1 → ∀ pc L M N x, decode cc pc = .ok (.ireturn, 1) → Rt (some (.int x)) M N → bt_V g y nL pc L [.int x] M N) ∧
  (rt = 2 → ∀ pc L M N x, decode cc pc = .ok (.ireturn, 1) → (x = 0 ∨ x = 1) → Rt (some (.int x)) M N → bt_V g y nL pc L [.int x] M N) ∧
  (rt = 3 → ∀ pc L M N x, decode cc pc = .ok (.lreturn, 1) → Rt (some (.long x)) M N → bt_V g y nL pc L [.long x] M N)
theorem bt_cl7 {P : Nat → vw_C → Prop} (h0 : P 0 (RX0, TX0, 11)) (h1 : P 1 (RX1, TX1, 4)) (h2 : P 2 (RX2, TX2, 3)) (h3 : P 3 (RX3, TX3, 14)) (h4 : P 4 (RX4, TX4, 18)) (h5 : P 5 (RX5, TX5, 9)) (h6 : P 6 (RX6, TX6, 27)) : ∀ (ci : Nat) (r : vw_C), bt_cl[ci]? = some r → P ci r := by
  intro ci r h
  have h7 : ci < 7 := by
    rcases Nat.lt_or_ge ci 7 with h1 | h1
    · exact h1
    · rw [List.getElem?_eq_none (by simpa [bt_cl] using h1)] at h
      cases h
  rcases (show ci = 0 ∨ ci = 1 ∨ ci = 2 ∨ ci = 3 ∨ ci = 4 ∨ ci = 5 ∨ ci = 6 by omega) with rfl | rfl | rfl | rfl | rfl | rfl | rfl <;> cases h <;> assumption
theorem bt_clN : ∀ (ci : Nat) (r : vw_C), bt_cl[ci]? = some r → r.2.2 = bt_nf ci := bt_cl7 (by decide) (by decide) (by decide) (by decide) (by decide) (by decide) (by decide)
theorem bt_clW : ∀ (ci : Nat) (r : vw_C), bt_cl[ci]? = some r → ∀ w ∈ u_ws r.1 r.2.1 r.2.2, w ∈ bt_big := bt_cl7 (by decide +kernel) (by decide +kernel) (by decide +kernel) (by decide +kernel) (by decide +kernel) (by decide +kernel) (by decide +kernel)
theorem bt_clD : ∀ (ci : Nat) (r : vw_C), bt_cl[ci]? = some r → ∀ f, f < r.2.2 → (r.2.1 f).1 = r.1 := bt_cl7 (by decide +kernel) (by decide +kernel) (by decide +kernel) (by decide +kernel) (by decide +kernel) (by decide +kernel) (by decide +kernel)
theorem bt_clX : ∀ (ci : Nat) (r : vw_C), bt_cl[ci]? = some r → ∀ a, a < r.2.2 → ∀ b, b < r.2.2 → a ≠ b → (r.2.1 a).2.1 ≠ (r.2.1 b).2.1 := bt_cl7 nmX0 nmX1 nmX2 nmX3 nmX4 nmX5 nmX6
theorem bt_clY : ∀ (ci : Nat) (r : vw_C), bt_cl[ci]? = some r → ∃ ty : Nat → FieldType, ∀ k, k < r.2.2 → parseFieldDescriptor (r.2.1 k).2.2.1 = some (ty k) := bt_cl7 ⟨_, tyX0_ok⟩ ⟨_, tyX1_ok⟩ ⟨_, tyX2_ok⟩ ⟨_, tyX3_ok⟩ ⟨_, tyX4_ok⟩ ⟨_, tyX5_ok⟩ ⟨_, tyX6_ok⟩
theorem bt_clT : ∀ (ci : Nat) (r : vw_C), bt_cl[ci]? = some r → ∀ f, f < r.2.2 → bt_ft ci f < 2 → (r.2.1 f).2.2.2 = false ∧ parseFieldDescriptor (r.2.1 f).2.2.1 = some (if bt_ft ci f = 0 then .int else .long) := bt_cl7 (by decide +kernel) (by decide +kernel) (by decide +kernel) (by decide +kernel) (by decide +kernel) (by decide +kernel) (by decide +kernel)
/-- the class of an object, a field of it -/
theorem bt_sh_c {c ci n : Nat} (h : bt_sh c = (0, ci, n)) : ∃ r, bt_cl[ci]? = some r := by
  have h1 := bt_at_all (fun q : Nat × Nat × Nat => q.1 = 0 → q.2.1 < 7) (9, 0, 0) (by decide) bt_shl (by decide) c
  have h2 : (bt_sh c).1 = 0 → (bt_sh c).2.1 < 7 := h1
  rw [h] at h2
  exact ⟨_, List.getElem?_eq_getElem (by simpa [bt_cl] using h2 rfl)⟩
theorem bt_ft_lt {ci f : Nat} {r : vw_C} (hr : bt_cl[ci]? = some r) (h : bt_ft ci f ≤ 2) : f < r.2.2 := by
  rcases Nat.lt_or_ge f r.2.2 with h1 | h1
  · exact h1
  · have key : ∀ (ci : Nat) (r : vw_C), bt_cl[ci]? = some r → (bt_at bt_fts ci []).length = r.2.2 := bt_cl7 (by decide) (by decide) (by decide) (by decide) (by decide) (by decide) (by decide)
    have h2 : bt_ft ci f = 9 := bt_at_out 9 _ f (by rw [key ci r hr]; exact h1)
    omega
