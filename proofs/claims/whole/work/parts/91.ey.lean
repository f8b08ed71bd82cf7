/-! THE LAW'S ENTRY: all that is known -/
theorem bw_isr {args : Array Value} {s : State} {t : Term} (h : (Cond.isRef t).before args s = true) : ∃ q : Option Nat, t.eval args s none [] s = some (va_rf q) := by
  simp only [Cond.before, Cond.holds, Cond.value] at h
  cases he : t.eval args s none [] s with
  | none => simp [he] at h
  | some v =>
    cases v with
    | null => exact ⟨none, rfl⟩
    | ref a => exact ⟨some a, rfl⟩
    | _ => simp [he] at h
set_option maxRecDepth 100000 in
theorem bw_sr : ∀ j, j < 12 → Cond.stringRef (bt_at bt_strs j ("", 0, "")).1 (bt_at bt_strs j ("", 0, "")).2.1 (bt_at bt_strs j ("", 0, "")).2.2 ∈ tables_1 := by decide +kernel
set_option maxRecDepth 100000 in
theorem bw_entry {p : Program} {s : State} {m : MethodId} {meth : Method} {c : Code} {b L : Nat} {xs : Nat → Int32} (C0 : lw_At p s m meth c b L xs) : ∃ (dC : Nat → ClassId) (dI : Nat → Nat → Nat) (ca : Nat → ClassId) (fa : Nat → Nat), fa 0 = b ∧ (∀ ad, bt_Kn (dC, dI, ca, ad, fa, s.heap.size) s s.heap) ∧ bw_Kc dC dI ca s := by
  obtain ⟨hx, hb, hr, hml, hown, hts, hX, hbl, hlocks, hgv⟩ := id C0
  have htb : ∀ w ∈ bt_big, w.before #[Value.ref b] s = true := fun w hw => hts w (bt_bigI hw)
  have hA : ∀ a : Nat, a < s.heap.size → ¬ (fun q : Nat => s.heap.size ≤ q) a := fun a h => Nat.not_le.mpr h
  have hfl := flat_of_before _ hgv
  obtain ⟨c0, iS0, hKn0⟩ := u_known (C := RX0) (T := TX0) (N := 11) (n := 11) htb (bt_clW 0 _ rfl) (hts _ (bw_tW 211 (by decide +kernel)))
  obtain ⟨c1, iS1, hKn1⟩ := u_known (C := RX1) (T := TX1) (N := 4) (n := 4) htb (bt_clW 1 _ rfl) (hts _ (bw_tW 259 (by decide +kernel)))
  obtain ⟨c2, iS2, hKn2⟩ := u_known (C := RX2) (T := TX2) (N := 3) (n := 3) htb (bt_clW 2 _ rfl) (hts _ (bw_tW 192 (by decide +kernel)))
  obtain ⟨c3, iS3, hKn3⟩ := u_known (C := RX3) (T := TX3) (N := 14) (n := 14) htb (bt_clW 3 _ rfl) (hts _ (bw_tW 24 (by decide +kernel)))
  obtain ⟨c4, iS4, hKn4⟩ := u_known (C := RX4) (T := TX4) (N := 18) (n := 18) htb (bt_clW 4 _ rfl) (hts _ (bw_tW 30 (by decide +kernel)))
  obtain ⟨c5, iS5, hKn5⟩ := u_known (C := RX5) (T := TX5) (N := 9) (n := 9) htb (bt_clW 5 _ rfl) (hts _ (bw_tW 16 (by decide +kernel)))
  obtain ⟨c6, iS6, hKn6⟩ := u_known (C := RX6) (T := TX6) (N := 27) (n := 27) htb (bt_clW 6 _ rfl) (hts _ (bw_tW 802 (by decide +kernel)))
  obtain ⟨a6, a0, hA2⟩ := bw_A2.of (hts _ (bw_tW 217 (by decide +kernel))) (hts _ (bw_tW 139 (by decide +kernel)))
  obtain ⟨a1, hl1, hl2⟩ := bw_arrK (ty := .long) (hts _ (bw_tW 279 (by decide +kernel))) (fun C h => by cases h)
  obtain ⟨a2, hy1, hy2⟩ := bw_arrK (ty := .byte) (hts _ (bw_tW 138 (by decide +kernel))) (fun C h => by cases h)
  obtain ⟨a3, hz1, hz2⟩ := bw_arrK (ty := .boolean) (hts _ (bw_tW 889 (by decide +kernel))) (fun C h => by cases h)
  obtain ⟨a4, hw1, hw2⟩ := bw_ovrK (C := RX4) (hts _ (bw_tW 189 (by decide +kernel)))
  obtain ⟨a5, hv1, hv2⟩ := bw_ovrK (C := RX2) (hts _ (bw_tW 191 (by decide +kernel)))
  obtain ⟨kA, kC, dd, g1, g2, g3, g4, g5, g6⟩ := id hA2
  obtain ⟨adK, adV, hvk, hev⟩ := bw_strs hgv hA
  obtain ⟨fq, hfq⟩ := bw_isr (hfl (Cond.isRef (Term.static "jdk/internal/util/Preconditions" "SIOOBE_FORMATTER" "Ljava/util/function/BiFunction;")) (by decide +kernel))
  have hcs := va_eqt (hfl (Cond.eq (Term.static "java/lang/String" "COMPACT_STRINGS" "Z") (Term.int 1)) (by decide +kernel))
  have hK : va_K (fun k => bt_at [c0, c1, c2, c3, c4, c5, c6] k c0, fun k => bt_at [iS0, iS1, iS2, iS3, iS4, iS5, iS6] k iS0) bt_cl (bt_tys (fun k => bt_at [a0, a1, a2, a3, a4, a5, a6] k a0)) s := by
    refine ⟨bt_cl7 (P := fun k q => u_Kn s q.1 q.2.1 q.2.2 (bt_at [c0, c1, c2, c3, c4, c5, c6] k c0) (bt_at [iS0, iS1, iS2, iS3, iS4, iS5, iS6] k iS0)) hKn0 hKn1 hKn2 hKn3 hKn4 hKn5 hKn6, ?_⟩
    intro k q hq
    match k, hq with
    | 0, hq => cases hq; exact ⟨fun n z => ⟨fun k h => (by cases h), kC, g3, dd, g4⟩, g6⟩
    | 1, hq => cases hq; exact ⟨hl1, hl2⟩
    | 2, hq => cases hq; exact ⟨hy1, hy2⟩
    | 3, hq => cases hq; exact ⟨hz1, hz2⟩
    | 4, hq => cases hq; exact ⟨hw1, hw2⟩
    | 5, hq => cases hq; exact ⟨hv1, hv2⟩
    | 6, hq => cases hq; exact ⟨fun n z => ⟨fun k h => (by cases h), kA, g1, a0, g2⟩, g5⟩
    | k + 7, hq => simp [bt_tys] at hq
  refine ⟨fun k => bt_at [c0, c1, c2, c3, c4, c5, c6] k c0, fun k => bt_at [iS0, iS1, iS2, iS3, iS4, iS5, iS6] k iS0, fun k => bt_at [a0, a1, a2, a3, a4, a5, a6] k a0, fun k => (match k with
    | 0 => b
    | k + 1 => adK k), rfl, fun ad => ⟨hK, ?_, ?_, ⟨adV, hvk⟩, va_Zof (hts _ (bw_tW 368 (by decide +kernel))) (hts _ (bw_tW 8 (by decide +kernel))) hcs hA, fq, va_Zof (hts _ (bw_tW 384 (by decide +kernel))) (hts _ (bw_tW 10 (by decide +kernel))) hfq hA⟩, hK, hA2, va_AO.of (hts _ (bw_tW 189 (by decide +kernel))), va_AO.of (hts _ (bw_tW 191 (by decide +kernel))), ?_⟩
  · exact List.forall_mem_cons.mpr ⟨va_Nw.of rfl (hts _ (bw_tW 345 (by decide +kernel))), List.forall_mem_cons.mpr ⟨va_Nw.of rfl (hts _ (bw_tW 443 (by decide +kernel))), List.forall_mem_cons.mpr ⟨va_Nw.of rfl (hts _ (bw_tW 493 (by decide +kernel))), List.forall_mem_cons.mpr ⟨va_Nw.of rfl (hts _ (bw_tW 629 (by decide +kernel))), List.forall_mem_cons.mpr ⟨va_Nw.of rfl (hts _ (bw_tW 726 (by decide +kernel))), List.forall_mem_cons.mpr ⟨va_Nw.of rfl (hts _ (bw_tW 779 (by decide +kernel))), fun _ h => absurd h List.not_mem_nil⟩⟩⟩⟩⟩⟩
  · intro j q hq
    obtain ⟨e1, e2⟩ := bw_at_g bt_strs j q ("", 0, "") hq
    have hj : j < 12 := e2
    have h1 := hts _ (List.mem_append_right _ (bw_sr j hj))
    have h2 := hev j hj
    unfold bw_tm at h2
    rw [e1] at h1 h2
    exact vk_R.of h1 h2
  · exact List.forall_mem_cons.mpr ⟨va_Nw.of rfl (hts _ (bw_tW 25 (by decide +kernel))), List.forall_mem_cons.mpr ⟨va_Nw.of rfl (hts _ (bw_tW 31 (by decide +kernel))), List.forall_mem_cons.mpr ⟨va_Nw.of rfl (hts _ (bw_tW 188 (by decide +kernel))), List.forall_mem_cons.mpr ⟨va_Nw.of rfl (hts _ (bw_tW 193 (by decide +kernel))), List.forall_mem_cons.mpr ⟨va_Nw.of rfl (hts _ (bw_tW 212 (by decide +kernel))), List.forall_mem_cons.mpr ⟨va_Nw.of rfl (hts _ (bw_tW 260 (by decide +kernel))), fun _ h => absurd h List.not_mem_nil⟩⟩⟩⟩⟩⟩
