/-! ROWS FOR THE CONSTRUCTORS: new arrays, whose classes are known -/
section BWC
variable {p : Program} {l : Launch} {e : Env} {R : Room} {s : State} {m : MethodId} {args : Array Value} {below : List Frame} {meth : Method} {c : Code} {H : Heap} {locs : List Loc} {cells slots : Nat} {Q : State → Prop} {cc : ByteArray} {pc : Nat} {ls : Array Slot} {rest : List Value} {D : va_G} {cl : List vw_C} {A : Nat → Prop} {tys : List (ClassId × FieldType)} {ws : va_W} {H0 : Heap}
theorem bw_na (hexec : p.tables.exec = Jvm.exec) (hb : c.code = cc) {atype : ArrayType} (harr : (Cond.arrayClass (newarray.typeOf atype)).before args s = true) {ty : FieldType} (hty : newarray.typeOf atype = ty) (hK : va_K D cl tys s) (hP : va_P D cl ws H) (hD : va_D A ws) (hS : va_S A H0 H locs) (hA : ∀ q, H0.size ≤ q → A q) (t0 : Nat) {cA : ClassId} (ht : tys[t0]? = some (cA, ty))
    {n : Int32} {N' : Nat} {a0 : vp_A} (ha : ∀ cA : ClassId, vp_cell cA a0 = arrV cA N' (fun _ => defaultValue ty)) (hn : ¬ n < 0) (hN : n.toNatClampNeg = N') (hbytes : N' * componentBytes ty ≤ 536870912) (hcells : cells + 1 ≤ R.cells) (hslots : slots + N' ≤ R.slots) (hdg : decode cc pc = .ok (.newarray atype, 2))
    (kk : ∀ (q : Nat) (H1 : Heap), va_P D cl (ws ++ [(q, .inl (cA, a0))]) H1 → va_D A (ws ++ [(q, .inl (cA, a0))]) → va_S A H0 H1 locs → W p l e R s m args below meth c H1 locs (cells + 1) (slots + N') Q (F0 m (pc + 2) ls (.ref q :: rest))) : W p l e R s m args below meth c H locs cells slots Q (F0 m pc ls (.int n :: rest)) := by
  refine va_newa hexec hb harr hty hK hP hD hS hA ha hn hN hbytes hcells hslots hdg (fun q cB H1 hK1 hP1 hD1 hS1 => ?_)
  have e1 := (hK.2 t0 _ ht).2
  have e2 := (hK1.2 tys.length (cB, ty) (by simp)).2
  have e3 : cB = cA := by
    subst hty
    cases atype <;> exact Option.some.inj (e2.symm.trans e1)
  subst e3
  exact kk q H1 hP1 hD1 hS1
theorem bw_nq (hexec : p.tables.exec = Jvm.exec) (hb : c.code = cc) {own C : String} {index : Nat} (hown : s.vm.findClass own = some m.cls) (hclink : (Cond.classLink own index C).before args s = true) (hover : va_AO C s) (hK : va_K D cl tys s) (hP : va_P D cl ws H) (hD : va_D A ws) (hS : va_S A H0 H locs) (hA : ∀ q, H0.size ≤ q → A q) (t0 : Nat) {cA : ClassId} (ht : tys[t0]? = some (cA, .object C))
    {n : Int32} {N' : Nat} (hn : ¬ n < 0) (hN : n.toNatClampNeg = N') (hbytes : N' * 4 ≤ 536870912) (hcells : cells + 1 ≤ R.cells) (hslots : slots + N' ≤ R.slots) (hdg : decode cc pc = .ok (.anewarray index, 3))
    (kk : ∀ (q : Nat) (H1 : Heap), va_P D cl (ws ++ [(q, .inl (cA, N', .inr (.inr (.inr (.inr (fun _ => none))))))]) H1 → va_D A (ws ++ [(q, .inl (cA, N', .inr (.inr (.inr (.inr (fun _ => none))))))]) → va_S A H0 H1 locs → W p l e R s m args below meth c H1 locs (cells + 1) (slots + N') Q (F0 m (pc + 3) ls (.ref q :: rest))) : W p l e R s m args below meth c H locs cells slots Q (F0 m pc ls (.int n :: rest)) := by
  refine va_newq hexec hb hown hclink hover hK hP hD hS hA hn hN hbytes hcells hslots hdg (fun q cB H1 hK1 hP1 hD1 hS1 => ?_)
  obtain ⟨_, _, _, _, _, e1⟩ := (hK.2 t0 _ ht).2
  obtain ⟨_, _, _, _, _, e2⟩ := (hK1.2 tys.length (cB, .object C) (by simp)).2
  have e3 : cB = cA := Option.some.inj (e2.symm.trans e1)
  subst e3
  exact kk q H1 hP1 hD1 hS1
def bw_w9 (c6 c0 : ClassId) (q : Nat) : va_W := (List.range 10).map (fun k => match k with
  | 0 => (q, .inl (c6, 9, .inr (.inr (.inr (.inr (fun k => some (q + 1 + k)))))))
  | k + 1 => (q + 1 + k, .inl (c0, 6, .inl (fun _ => 0))))
theorem bw_w9_a {c6 c0 : ClassId} {q k : Nat} {x : Nat × va_E} (h : (bw_w9 c6 c0 q)[k]? = some x) : k < 10 ∧ x.1 = q + k ∧ ((k = 0 ∧ x.2 = .inl (c6, 9, .inr (.inr (.inr (.inr (fun k => some (q + 1 + k))))))) ∨ ∃ j, k = j + 1 ∧ x.2 = .inl (c0, 6, .inl (fun _ => 0))) := by
  have hk : k < 10 := by
    rcases Nat.lt_or_ge k 10 with h1 | h1
    · exact h1
    · rw [List.getElem?_eq_none (by simpa [bw_w9] using h1)] at h
      cases h
  refine ⟨hk, ?_⟩
  simp only [bw_w9, List.getElem?_map, List.getElem?_range hk, Option.map_some, Option.some.injEq] at h
  cases k with
  | zero =>
    subst h
    exact ⟨rfl, Or.inl ⟨rfl, rfl⟩⟩
  | succ j =>
    subst h
    exact ⟨by show q + 1 + j = _; omega, Or.inr ⟨j, rfl, rfl⟩⟩
theorem bw_nm (hexec : p.tables.exec = Jvm.exec) (hb : c.code = cc) {own : String} {index : Nat} (hown : s.vm.findClass own = some m.cls) (hclink : (Cond.classLink own index "[[I").before args s = true) {c6 c0 : ClassId} (h2 : bw_A2 c6 c0 s) (hP : va_P D cl ws H) (hD : va_D A ws) (hS : va_S A H0 H locs) (hA : ∀ q, H0.size ≤ q → A q) (hcells : cells + 10 ≤ R.cells) (hslots : slots + 63 ≤ R.slots) (hdg : decode cc pc = .ok (.multianewarray index 2, 4))
    (kk : ∀ (q : Nat) (H1 : Heap) (locs1 : List Loc), va_P D cl (ws ++ bw_w9 c6 c0 q) H1 → va_D A (ws ++ bw_w9 c6 c0 q) → va_S A H0 H1 locs1 → W p l e R s m args below meth c H1 locs1 (cells + 10) (slots + 63) Q (F0 m (pc + 4) ls (.ref q :: rest))) : W p l e R s m args below meth c H locs cells slots Q (F0 m pc ls (.int 6 :: .int 9 :: rest)) := by
  refine bw_mnew hexec hb hown hclink h2 hcells hslots hdg (fun H1 locs1 g1 g2 g3 g4 g5 => ?_)
  have hk : ∀ (k : Nat) (x : Nat × va_E), ws[k]? = some x → H1[x.1]? = H[x.1]? := fun k x hx => g3 x.1 ((hP k x hx).lt)
  refine kk H.size H1 locs1 ((hP.kept hk).app (fun k x hx => ?_)) (va_D.app hD ⟨fun i j x y hx hy he => ?_, fun k x hx => ?_⟩ (fun i j x y hx hy he => ?_)) ⟨Nat.le_trans hS.1 (by omega), fun x h1 h3 => (g3 x (Nat.lt_of_lt_of_le h1 hS.1)).trans (hS.2.1 x h1 h3), fun q hq => ?_⟩
  · obtain ⟨h1, h3, h4⟩ := bw_w9_a hx
    obtain ⟨xa, xe⟩ := x
    dsimp only at h3
    subst h3
    rcases h4 with ⟨rfl, h4⟩ | ⟨j, rfl, h4⟩
    · dsimp only at h4
      subst h4
      show H1[H.size + 0]? = some (vp_cell c6 (9, .inr (.inr (.inr (.inr (fun k => some (H.size + 1 + k)))))))
      rw [Nat.add_zero, g2, vp_cell_q]
      unfold bw_oc arrV
      congr 2
    · dsimp only at h4
      subst h4
      show H1[H.size + (j + 1)]? = some (vp_cell c0 (6, .inl (fun _ => 0)))
      rw [show H.size + (j + 1) = H.size + 1 + j by omega, g4 j (by omega)]
      rfl
  · obtain ⟨h1, h3, -⟩ := bw_w9_a hx
    obtain ⟨h4, h5, -⟩ := bw_w9_a hy
    omega
  · obtain ⟨h1, h3, -⟩ := bw_w9_a hx
    rw [h3]
    exact hA _ (Nat.le_trans hS.1 (by omega))
  · obtain ⟨h1, h3, -⟩ := bw_w9_a hy
    have := (hP i x hx).lt
    omega
  · rcases g5 q hq with h1 | h1
    · exact hS.2.2 q h1
    · rw [h1]
      exact hA _ hS.1
end BWC
