/-! THE STATE: live world, images, numbers, rows, sheets. u: 0 bytes on the tape, 1 fault, 2 torn, 3 4 images kept, 5 seen, 6.. sizes of sheets and 1 (0: nothing), 10.. their lanes; z: 0 the tape, 1 2 who was seen when; q: cells of sheets -/
abbrev bt_S : Type := bt_W × (Nat → bt_W) × (Nat → Nat) × (Nat → Nat → Nat) × (Nat → Nat → Int32)
def bt_sW (w : bt_W) (im : Nat → bt_W) (u : Nat → Nat) (z : Nat → Nat → Nat) : Prop := u 0 ≤ 160 ∧ (∀ j, z 0 j < 128) ∧ u 1 ≤ 6 ∧ u 2 ≤ 4 ∧ u 3 ≤ 1 ∧ u 4 ≤ 1 ∧ u 5 ≤ 6 ∧ (∀ k, k < 4 → u (6 + k) ≤ 41 ∧ u (10 + k) ≤ 2) ∧ (∀ n, n < u 5 → z 1 n < w 12 1 ∧ z 2 n ≤ 999) ∧ (u 3 = 1 → im 0 12 0 = w 12 0 ∧ im 0 12 1 = w 12 1) ∧ (u 4 = 1 → im 1 12 0 = w 12 0 ∧ im 1 12 1 = w 12 1)
def bt_cI (M : bt_M) (S : bt_S) : Prop := match S with
  | (w, im, u, z, q) => bt_cW M 2 w ∧ bt_sW w im u z ∧ M 20 2 = nI (u 0) ∧ (∀ j, j < u 0 → M 1 j = nI (z 0 j)) ∧ M 20 3 = nI (u 1) ∧ M 0 7 = nI (u 3 + 2 * u 4) ∧ M 0 8 = nI (u 2) ∧ (u 3 = 1 → bt_cW M 22 (im 0)) ∧ (u 4 = 1 → bt_cW M 31 (im 1)) ∧ (∀ k, k < 4 → M (41 + 2 * k) 2 = nI (u (6 + k)) - 1 ∧ M (41 + 2 * k) 1 = nI (u (10 + k)) ∧ ∀ j, j < 40 → M (42 + 2 * k) j = q k j) ∧ M 49 5 = nI (u 5) ∧ ∀ n, n < u 5 → M 50 n = nI (z 1 n) ∧ M 51 n = nI (z 2 n)
def bt_cuts : List Nat := [0, 4, 8, 12, 17, 21, 25, 28, 33, 36, 40, 46, 51]
def bt_lets : List Nat := [114, 111, 97, 100, 104, 105, 108, 108, 111, 100, 100, 115, 108, 97, 121, 98, 121, 108, 97, 110, 101, 115, 108, 111, 119, 99, 97, 114, 110, 101, 118, 101, 114, 111, 110, 101, 98, 111, 108, 100, 102, 111, 108, 108, 111, 119, 116, 105, 109, 105, 100]
def bt_mI (M : bt_M) (S : bt_S) : Prop := match S with
  | (w, im, u, z, q) => bt_mW M 0 w ∧ bt_sW w im u z ∧ M 67 10 = nI (u 0) ∧ (∀ j, j < u 0 → M 71 j = nI (z 0 j)) ∧ M 67 11 = nI (u 1) ∧ M 67 26 = nI (u 2) ∧ M 75 0 = nI (u 3) ∧ M 75 1 = nI (u 4) ∧ (u 3 = 1 → bt_mW M 90 (im 0)) ∧ (u 4 = 1 → bt_mW M 180 (im 1)) ∧ (∀ k, k < 4 → M 76 k = (if u (6 + k) = 0 then -4 else nI (u (10 + k))) ∧ (u (6 + k) ≠ 0 → M 77 k = nI (u (6 + k) - 1)) ∧ ∀ j, j < 40 → M 78 (40 * k + j) = q k j) ∧ M 67 21 = nI (u 5) ∧ (∀ n, n < u 5 → M 74 (2 * n) = nI (z 1 n) ∧ M 74 (2 * n + 1) = nI (z 2 n)) ∧ (∀ j, j < 13 → M 72 j = nI (bt_at bt_cuts j 0)) ∧ ∀ j, j < 51 → M 73 j = nI (bt_at bt_lets j 0)
abbrev bt_cfr (M M' : bt_M) : Prop := ∀ x : Nat, (67 ≤ x ∧ x < 79) → M' x = M x
abbrev bt_mfx (M M' : bt_M) : Prop := ∀ x : Nat, x < 67 → M' x = M x
abbrev bt_fn : Type := List Value → bt_S → Option (Value × bt_S)
def bt_spC (f : bt_fn) : bt_Sp := fun as M N K => match as with
  | .ref c :: t => c = 0 ∧ ∃ S r S', bt_cI M S ∧ f t S = some (r, S') ∧ ∀ M' N', bt_cfr M M' → bt_cI M' S' → K (some r) M' N'
  | _ => False
def bt_spM (f : bt_fn) : bt_Sp := fun as M N K => match as with
  | .ref c :: t => c = 67 ∧ ∃ S r S', bt_mI M S ∧ f t S = some (r, S') ∧ ∀ M', bt_mfx M M' → bt_mI M' S' → K (some r) M' N
  | _ => False
theorem bt_spC_e {f : bt_fn} {as : List Value} {M : bt_M} {N : bt_N} {K : bt_R} (h : bt_spC f as M N K) : ∃ t S r S', as = .ref 0 :: t ∧ bt_cI M S ∧ f t S = some (r, S') ∧ ∀ M' N', bt_cfr M M' → bt_cI M' S' → K (some r) M' N' := by
  unfold bt_spC at h
  split at h
  · obtain ⟨rfl, S, r, S', h1, h2, h3⟩ := h
    exact ⟨_, S, r, S', rfl, h1, h2, h3⟩
  · exact False.elim h
theorem bt_spM_e {f : bt_fn} {as : List Value} {M : bt_M} {N : bt_N} {K : bt_R} (h : bt_spM f as M N K) : ∃ t S r S', as = .ref 67 :: t ∧ bt_mI M S ∧ f t S = some (r, S') ∧ ∀ M', bt_mfx M M' → bt_mI M' S' → K (some r) M' N := by
  unfold bt_spM at h
  split at h
  · obtain ⟨rfl, S, r, S', h1, h2, h3⟩ := h
    exact ⟨_, S, r, S', rfl, h1, h2, h3⟩
  · exact False.elim h
theorem bt_cW_kept {M M' : bt_M} {c : Nat} {w : bt_W} (h : bt_cW M c w) (hx : ∀ x : Nat, c ≤ x → x ≤ c + 8 → M' x = M x) : bt_cW M' c w := bt_cW_copy h (fun f _ _ => by rw [hx c (by omega) (by omega)]) (fun r _ _ j _ => by rw [hx _ (by omega) (by omega)]) (fun r _ _ j _ => by rw [hx _ (by omega) (by omega)])
/-- the class's state lies in these cells -/
theorem bt_cI_same {M M' : bt_M} {S : bt_S} (h : bt_cI M S) (h1 : ∀ x : Nat, (x ≤ 10 ∨ (20 ≤ x ∧ x ≤ 48) ∨ x = 50 ∨ x = 51) → M' x = M x) (h2 : M' 49 5 = M 49 5) : bt_cI M' S := by
  obtain ⟨w, im, u, z, q⟩ := S
  obtain ⟨a1, a2, a3, a4, a5, a6, a7, a8, a9, a10, a11, a12⟩ := h
  refine ⟨bt_cW_kept a1 (fun x _ _ => h1 x (by omega)), a2, ?_, ?_, ?_, ?_, ?_, fun z => bt_cW_kept (a8 z) (fun x _ _ => h1 x (by omega)), fun z => bt_cW_kept (a9 z) (fun x _ _ => h1 x (by omega)), ?_, ?_, ?_⟩
  · rw [h1 20 (by omega)]; exact a3
  · rw [h1 1 (by omega)]; exact a4
  · rw [h1 20 (by omega)]; exact a5
  · rw [h1 0 (by omega)]; exact a6
  · rw [h1 0 (by omega)]; exact a7
  · intro k hk
    rw [h1 (41 + 2 * k) (by omega), h1 (42 + 2 * k) (by omega)]; exact a10 k hk
  · rw [h2]; exact a11
  · rw [h1 50 (by omega), h1 51 (by omega)]; exact a12
/-- the live world changes -/
theorem bt_cI_live {M M' : bt_M} {w w' : bt_W} {im : Nat → bt_W} {u : Nat → Nat} {z : Nat → Nat → Nat} {q : Nat → Nat → Int32} (h : bt_cI M (w, im, u, z, q)) (hw : bt_cW M' 2 w') (hn : w' 12 0 = w 12 0 ∧ w' 12 1 = w 12 1) (h1 : ∀ x : Nat, (x ≤ 1 ∨ (20 ≤ x ∧ x ≤ 51)) → M' x = M x) : bt_cI M' (w', im, u, z, q) := by
  obtain ⟨a1, a2, a3, a4, a5, a6, a7, a8, a9, a10, a11, a12⟩ := h
  refine ⟨hw, ?_, ?_, ?_, ?_, ?_, ?_, fun z => bt_cW_kept (a8 z) (fun x _ _ => h1 x (by omega)), fun z => bt_cW_kept (a9 z) (fun x _ _ => h1 x (by omega)), ?_, ?_, ?_⟩
  · unfold bt_sW at a2 ⊢
    rw [hn.1, hn.2]
    exact a2
  · rw [h1 20 (by omega)]; exact a3
  · rw [h1 1 (by omega)]; exact a4
  · rw [h1 20 (by omega)]; exact a5
  · rw [h1 0 (by omega)]; exact a6
  · rw [h1 0 (by omega)]; exact a7
  · intro k hk
    rw [h1 (41 + 2 * k) (by omega), h1 (42 + 2 * k) (by omega)]; exact a10 k hk
  · rw [h1 49 (by omega)]; exact a11
  · rw [h1 50 (by omega), h1 51 (by omega)]; exact a12
/-- the model's state lies in cells 67 and on, pages 3 to 5 apart -/
theorem bt_mI_same {M M' : bt_M} {S : bt_S} (h : bt_mI M S) (h1 : ∀ x : Nat, 67 ≤ x → x ≠ 68 → x ≠ 69 → x ≠ 70 → M' x = M x) (h2 : ∀ j : Nat, j < 270 → M' 68 j = M 68 j) : bt_mI M' S := by
  obtain ⟨w, im, u, z, q⟩ := S
  obtain ⟨a1, a2, a3, a4, a5, a6, a7, a8, a9, a10, a11, a12, a13, a14, a15⟩ := h
  have mk : ∀ {p : Nat} {w : bt_W}, bt_mW M p w → p + 90 ≤ 270 → bt_mW M' p w := by
    intro p w hw hp
    obtain ⟨hf, g1, g2, g3, g4, g5, g6, r0, r1, r2, r3, r4, r5, r6, c7, c8, c9, c10, c11⟩ := hw
    have hn := hf.1
    have hm := hf.2.1
    refine ⟨hf, ?_, ?_, ?_, ?_, ?_, ?_, ?_, ?_, ?_, ?_, ?_, ?_, ?_, ?_, ?_, ?_, ?_, ?_⟩
    · rw [h1 67 (by omega) (by omega) (by omega) (by omega)]; exact g1
    · rw [h1 67 (by omega) (by omega) (by omega) (by omega)]; exact g2
    · rw [h2 _ (by omega)]; exact g3
    · rw [h2 _ (by omega)]; exact g4
    · rw [h2 _ (by omega)]; exact g5
    · rw [h2 _ (by omega)]; exact g6
    · intro i hi; rw [h2 _ (by omega)]; exact r0 i hi
    · intro i hi; rw [h2 _ (by omega)]; exact r1 i hi
    · intro i hi; rw [h2 _ (by omega)]; exact r2 i hi
    · intro i hi; rw [h2 _ (by omega)]; exact r3 i hi
    · intro i hi; rw [h2 _ (by omega)]; exact r4 i hi
    · intro i hi; rw [h2 _ (by omega)]; exact r5 i hi
    · intro i hi; rw [h2 _ (by omega)]; exact r6 i hi
    · intro i hi; rw [h2 _ (by omega)]; exact c7 i hi
    · intro i hi; rw [h2 _ (by omega)]; exact c8 i hi
    · intro i hi; rw [h2 _ (by omega)]; exact c9 i hi
    · intro i hi; rw [h2 _ (by omega)]; exact c10 i hi
    · intro i hi; rw [h2 _ (by omega)]; exact c11 i hi
  refine ⟨mk a1 (by omega), a2, ?_, ?_, ?_, ?_, ?_, ?_, fun z => mk (a9 z) (by omega), fun z => mk (a10 z) (by omega), ?_, ?_, ?_, ?_, ?_⟩
  · rw [h1 67 (by omega) (by omega) (by omega) (by omega)]; exact a3
  · rw [h1 71 (by omega) (by omega) (by omega) (by omega)]; exact a4
  · rw [h1 67 (by omega) (by omega) (by omega) (by omega)]; exact a5
  · rw [h1 67 (by omega) (by omega) (by omega) (by omega)]; exact a6
  · rw [h1 75 (by omega) (by omega) (by omega) (by omega)]; exact a7
  · rw [h1 75 (by omega) (by omega) (by omega) (by omega)]; exact a8
  · rw [h1 76 (by omega) (by omega) (by omega) (by omega), h1 77 (by omega) (by omega) (by omega) (by omega), h1 78 (by omega) (by omega) (by omega) (by omega)]; exact a11
  · rw [h1 67 (by omega) (by omega) (by omega) (by omega)]; exact a12
  · rw [h1 74 (by omega) (by omega) (by omega) (by omega)]; exact a13
  · rw [h1 72 (by omega) (by omega) (by omega) (by omega)]; exact a14
  · rw [h1 73 (by omega) (by omega) (by omega) (by omega)]; exact a15
/-- the model's live page changes -/
theorem bt_mI_live {M M' : bt_M} {w w' : bt_W} {im : Nat → bt_W} {u : Nat → Nat} {z : Nat → Nat → Nat} {q : Nat → Nat → Int32} (h : bt_mI M (w, im, u, z, q)) (hw : bt_mW M' 0 w') (hn : w' 12 0 = w 12 0 ∧ w' 12 1 = w 12 1) (h1 : ∀ x : Nat, 67 ≤ x → x ≠ 68 → M' x = M x) (h2 : ∀ j : Nat, 90 ≤ j → j < 270 → M' 68 j = M 68 j) : bt_mI M' (w', im, u, z, q) := by
  obtain ⟨a1, a2, a3, a4, a5, a6, a7, a8, a9, a10, a11, a12, a13, a14, a15⟩ := h
  have kp : ∀ {p : Nat} {w : bt_W}, bt_mW M p w → 90 ≤ p → p + 90 ≤ 270 → bt_mW M' p w := by
    intro p w hw hp0 hp
    obtain ⟨hf, g1, g2, g3, g4, g5, g6, r0, r1, r2, r3, r4, r5, r6, c7, c8, c9, c10, c11⟩ := hw
    have hn := hf.1
    have hm := hf.2.1
    refine ⟨hf, ?_, ?_, ?_, ?_, ?_, ?_, ?_, ?_, ?_, ?_, ?_, ?_, ?_, ?_, ?_, ?_, ?_, ?_⟩
    · rw [h1 67 (by omega) (by omega)]; exact g1
    · rw [h1 67 (by omega) (by omega)]; exact g2
    · rw [h2 _ (by omega) (by omega)]; exact g3
    · rw [h2 _ (by omega) (by omega)]; exact g4
    · rw [h2 _ (by omega) (by omega)]; exact g5
    · rw [h2 _ (by omega) (by omega)]; exact g6
    · intro i hi; rw [h2 _ (by omega) (by omega)]; exact r0 i hi
    · intro i hi; rw [h2 _ (by omega) (by omega)]; exact r1 i hi
    · intro i hi; rw [h2 _ (by omega) (by omega)]; exact r2 i hi
    · intro i hi; rw [h2 _ (by omega) (by omega)]; exact r3 i hi
    · intro i hi; rw [h2 _ (by omega) (by omega)]; exact r4 i hi
    · intro i hi; rw [h2 _ (by omega) (by omega)]; exact r5 i hi
    · intro i hi; rw [h2 _ (by omega) (by omega)]; exact r6 i hi
    · intro i hi; rw [h2 _ (by omega) (by omega)]; exact c7 i hi
    · intro i hi; rw [h2 _ (by omega) (by omega)]; exact c8 i hi
    · intro i hi; rw [h2 _ (by omega) (by omega)]; exact c9 i hi
    · intro i hi; rw [h2 _ (by omega) (by omega)]; exact c10 i hi
    · intro i hi; rw [h2 _ (by omega) (by omega)]; exact c11 i hi
  refine ⟨hw, ?_, ?_, ?_, ?_, ?_, ?_, ?_, fun z => kp (a9 z) (by omega) (by omega), fun z => kp (a10 z) (by omega) (by omega), ?_, ?_, ?_, ?_, ?_⟩
  · unfold bt_sW at a2 ⊢
    rw [hn.1, hn.2]
    exact a2
  · rw [h1 67 (by omega) (by omega)]; exact a3
  · rw [h1 71 (by omega) (by omega)]; exact a4
  · rw [h1 67 (by omega) (by omega)]; exact a5
  · rw [h1 67 (by omega) (by omega)]; exact a6
  · rw [h1 75 (by omega) (by omega)]; exact a7
  · rw [h1 75 (by omega) (by omega)]; exact a8
  · rw [h1 76 (by omega) (by omega), h1 77 (by omega) (by omega), h1 78 (by omega) (by omega)]; exact a11
  · rw [h1 67 (by omega) (by omega)]; exact a12
  · rw [h1 74 (by omega) (by omega)]; exact a13
  · rw [h1 72 (by omega) (by omega)]; exact a14
  · rw [h1 73 (by omega) (by omega)]; exact a15
