theorem bt_atk_s : ∀ (l : List Nat) (n : Nat) (k : Nat → Prop), bt_atk l n k ↔ k (bt_at l n 0)
  | [], _, _ => Iff.rfl
  | _ :: _, 0, _ => Iff.rfl
  | _ :: t, n + 1, k => bt_atk_s t n k
theorem bt_rf_o {c ci n f : Nat} (h : bt_sh c = (0, ci, n)) : bt_rf c f = bt_at (bt_at bt_rfl c []) f 0 := by
  unfold bt_rf
  split
  · simp [bt_sh, bt_shl, bt_at] at h
  · simp [bt_sh, bt_shl, bt_at] at h
  · simp [bt_sh, bt_shl, bt_at] at h
  · rfl
theorem bt_nIix {i : Int32} {j n : Nat} (hi : i = nI j) (hj : j < n) (hn : n < 2 ^ 31) : vp_in i n ∧ i.toNatClampNeg = j := by
  subst hi
  exact ⟨vp_in_nI hj hn, nI_clamp (by omega)⟩
set_option maxHeartbeats 4000000 in
theorem bt_step {g : bt_G} {y : bt_Y} {own : String} {cc : ByteArray} {nL SL : Nat} {xs : Nat → Int32} {FL : bt_F} {CT : bt_C} {rt : Nat} {Rt : bt_R} (cx : bt_Cx g y own cc nL SL xs) (hF : bt_okF own FL) (hC : bt_okC g y cc nL CT) (hR : bt_okR g y cc nL rt Rt)
    {en : bt_E} (he : bt_okE own cc en = true) {L : bt_L} {st : List Value} {M : bt_M} {N : bt_N} {ks : bt_L → List Value → bt_M → bt_N → Prop} {kj : Nat → bt_L → List Value → bt_M → bt_N → Prop} (h : bt_wp1 FL CT rt SL xs Rt en L st M N ks kj)
    (hs : ∀ L' st' M' N', ks L' st' M' N' → bt_V g y nL (en.1 + en.2.2.1) L' st' M' N') (hj : ∀ t L' st' M' N', kj t L' st' M' N' → bt_V g y nL t L' st' M' N') : bt_V g y nL en.1 L st M N := by
  obtain ⟨pc, I, len, tg, ci, cl⟩ := en
  have hd : decode cc pc = .ok (I, len) := of_decide_eq_true (Bool.and_eq_true_iff.mp he).1
  have ho : bt_ok2 own (pc, I, len, tg, ci, cl) = true := (Bool.and_eq_true_iff.mp he).2
  clear he
  dsimp only at hs hj ⊢
  obtain ⟨p, l, e, R, s, m, args, below, meth, c, cells, slots, Q⟩ := g
  obtain ⟨dC, dI, ca, ad, fa, base⟩ := y
  obtain ⟨hx, hb, hml, hown, hts, hKn, hai, hab, hbs, hsc, hcl, hsl⟩ := id cx
  obtain ⟨hK, hnst, hstr, hvk, hvz⟩ := id hKn
  have hDD : ∀ (M : bt_M) (N : bt_N), va_D (fun q => base ≤ q) (bt_ws ca ad M N) := bt_wsD hai hab
  cases I with
  | iconst n =>
    obtain ⟨h1, h2⟩ : Int32.ofInt n = ci ∧ len = 1 := by simpa [bt_ok2] using ho
    subst h2
    intro H locs ls hP hS hl
    exact lv_iconst hx hb hd h1 (hs _ _ _ _ h H locs ls hP hS hl)
  | bipush n =>
    obtain ⟨h1, h2⟩ : (Int8.ofInt n).toInt32 = ci ∧ len = 2 := by simpa [bt_ok2] using ho
    subst h2
    intro H locs ls hP hS hl
    exact lv_bipush hx hb hd h1 (hs _ _ _ _ h H locs ls hP hS hl)
  | sipush n =>
    obtain ⟨h1, h2⟩ : (Int16.ofInt n).toInt32 = ci ∧ len = 3 := by simpa [bt_ok2] using ho
    subst h2
    intro H locs ls hP hS hl
    exact lv_sipush hx hb hd h1 (hs _ _ _ _ h H locs ls hP hS hl)
  | lconst n =>
    obtain ⟨h1, h2⟩ : Int64.ofNat (n : Nat) = cl ∧ len = 1 := by simpa [bt_ok2] using ho
    subst h2
    intro H locs ls hP hS hl
    exact lv_lconst hx hb hd h1 (hs _ _ _ _ h H locs ls hP hS hl)
  | ldc i =>
    intro H locs ls hP hS hl
    cases tg with
    | nil =>
      obtain ⟨h1, h2⟩ : Cond.constant own i ci ∈ bt_big ∧ len = 2 := by simpa [bt_ok2] using ho
      subst h2
      exact lv_ldc hx hb hown (hts _ h1) hd (hs _ _ _ _ h H locs ls hP hS hl)
    | cons t ts =>
      obtain ⟨t0, j⟩ := t
      simp only [bt_ok2] at ho
      cases hq : bt_strs[j]? with
      | none => rw [hq] at ho; simp at ho
      | some q =>
        rw [hq] at ho
        obtain ⟨⟨h1, h3⟩, h2⟩ : (q.1 = own ∧ q.2.1 = i) ∧ len = 2 := by simpa using ho
        subst h2; subst h1; subst h3
        exact va_ldcS hx hb hown (hstr j q hq) hd (hs _ _ _ _ h H locs ls hP hS hl)
  | ldc_w i =>
    obtain ⟨h1, h2⟩ : Cond.constant own i ci ∈ bt_big ∧ len = 3 := by simpa [bt_ok2] using ho
    subst h2
    intro H locs ls hP hS hl
    exact lv_ldcw hx hb hown (hts _ h1) hd (hs _ _ _ _ h H locs ls hP hS hl)
  | ldc2_w i =>
    obtain ⟨h1, h2⟩ : Cond.constantLong own i cl ∈ bt_big ∧ len = 3 := by simpa [bt_ok2] using ho
    subst h2
    intro H locs ls hP hS hl
    exact lv_ldc2 hx hb hown (hts _ h1) hd (hs _ _ _ _ h H locs ls hP hS hl)
  | iload_n k =>
    obtain rfl : len = 1 := by simpa [bt_ok2] using ho
    intro H locs ls hP hS hl
    obtain ⟨x, hk, hg⟩ := bt_li_s hl h
    exact lv_iload_n hx hb hd rfl hg (hs _ _ _ _ hk H locs ls hP hS hl)
  | iload k =>
    obtain rfl : len = 2 := by simpa [bt_ok2] using ho
    intro H locs ls hP hS hl
    obtain ⟨x, hk, hg⟩ := bt_li_s hl h
    exact lv_iload hx hb hd hg (hs _ _ _ _ hk H locs ls hP hS hl)
  | lload_n k =>
    obtain rfl : len = 1 := by simpa [bt_ok2] using ho
    intro H locs ls hP hS hl
    obtain ⟨x, hk, hg⟩ := bt_ll_s hl h
    exact lv_lload_n hx hb hd rfl hg (hs _ _ _ _ hk H locs ls hP hS hl)
  | lload k =>
    obtain rfl : len = 2 := by simpa [bt_ok2] using ho
    intro H locs ls hP hS hl
    obtain ⟨x, hk, hg⟩ := bt_ll_s hl h
    exact lv_lload hx hb hd hg (hs _ _ _ _ hk H locs ls hP hS hl)
  | aload_n k =>
    obtain rfl : len = 1 := by simpa [bt_ok2] using ho
    intro H locs ls hP hS hl
    have h : bt_la L k.val (fun x => ks L (x :: st) M N) := h
    obtain ⟨x, a, hk, hv, hg⟩ := bt_la_s hl h
    have kk := hs _ _ _ _ hk H locs ls hP hS hl
    rw [List.map_cons, hv] at kk
    exact lv_aload_n hx hb hd rfl hg kk
  | aload k =>
    obtain rfl : len = 2 := by simpa [bt_ok2] using ho
    intro H locs ls hP hS hl
    have h : bt_la L k (fun x => ks L (x :: st) M N) := h
    obtain ⟨x, a, hk, hv, hg⟩ := bt_la_s hl h
    have kk := hs _ _ _ _ hk H locs ls hP hS hl
    rw [List.map_cons, hv] at kk
    exact lv_aload hx hb hd hg kk
  | istore_n k =>
    obtain rfl : len = 1 := by simpa [bt_ok2] using ho
    intro H locs ls hP hS hl
    obtain ⟨x, r, rfl, h⟩ := bt_k1i_s h
    obtain ⟨L', hk, hn, hL⟩ := bt_lr_s hl rfl h
    exact lv_istore_n hx hb hd rfl hl.2 hn rfl (fun ls' h' => hs _ _ _ _ hk H locs ls' hP hS (hL ls' h'))
  | istore k =>
    obtain rfl : len = 2 := by simpa [bt_ok2] using ho
    intro H locs ls hP hS hl
    obtain ⟨x, r, rfl, h⟩ := bt_k1i_s h
    obtain ⟨L', hk, hn, hL⟩ := bt_lr_s hl rfl h
    exact lv_istore hx hb hd hl.2 hn rfl (fun ls' h' => hs _ _ _ _ hk H locs ls' hP hS (hL ls' h'))
  | lstore_n k =>
    obtain rfl : len = 1 := by simpa [bt_ok2] using ho
    intro H locs ls hP hS hl
    obtain ⟨x, r, rfl, h⟩ := bt_k1l_s h
    obtain ⟨L', hk, hn, hL⟩ := bt_lr_s2 hl h
    exact lv_lstore_n hx hb hd rfl hl.2 hn rfl (fun ls' h' => hs _ _ _ _ hk H locs ls' hP hS (hL ls' h'))
  | lstore k =>
    obtain rfl : len = 2 := by simpa [bt_ok2] using ho
    intro H locs ls hP hS hl
    obtain ⟨x, r, rfl, h⟩ := bt_k1l_s h
    obtain ⟨L', hk, hn, hL⟩ := bt_lr_s2 hl h
    exact lv_lstore hx hb hd hl.2 hn rfl (fun ls' h' => hs _ _ _ _ hk H locs ls' hP hS (hL ls' h'))
  | astore_n k =>
    obtain rfl : len = 1 := by simpa [bt_ok2] using ho
    intro H locs ls hP hS hl
    obtain ⟨x, r, rfl, h⟩ := bt_kr_s h
    obtain ⟨L', hk, hn, hL⟩ := bt_lr_s hl rfl h
    exact lv_astore_n hx hb hd rfl hl.2 hn rfl (fun ls' h' => hs _ _ _ _ hk H locs ls' hP hS (hL ls' h'))
  | astore k =>
    obtain rfl : len = 2 := by simpa [bt_ok2] using ho
    intro H locs ls hP hS hl
    obtain ⟨x, r, rfl, h⟩ := bt_kr_s h
    obtain ⟨L', hk, hn, hL⟩ := bt_lr_s hl rfl h
    exact lv_astore hx hb hd hl.2 hn rfl (fun ls' h' => hs _ _ _ _ hk H locs ls' hP hS (hL ls' h'))
  | iinc k n =>
    obtain ⟨h1, h2⟩ : Int32.ofInt n = ci ∧ len = 3 := by simpa [bt_ok2] using ho
    subst h2
    intro H locs ls hP hS hl
    obtain ⟨v, hv, hm⟩ := bt_lg_s (bt_tr ad fa) L k 0 _ h
    rw [Nat.zero_add] at hm
    obtain ⟨x, rfl, hv⟩ : ∃ x, v = .int x ∧ bt_ls L k (.int (x + ci)) (fun L' => ks L' st M N) := by
      split at hv
      · exact ⟨_, rfl, hv⟩
      · exact False.elim hv
    obtain ⟨L', hk, hn, hL⟩ := bt_lr_s hl rfl hv
    obtain ⟨q, hq⟩ := List.getElem?_of_mem hm
    exact lv_iinc hx hb hd hl.2 hq (by rw [h1]) hn rfl (fun ls' h' => hs _ _ _ _ hk H locs ls' hP hS (hL ls' h'))
  | iadd =>
    obtain rfl : len = 1 := by simpa [bt_ok2] using ho
    intro H locs ls hP hS hl
    obtain ⟨a, b, r, rfl, h⟩ := bt_k2i_s h
    exact lv_iadd hx hb hd (hs _ _ _ _ h H locs ls hP hS hl)
  | isub =>
    obtain rfl : len = 1 := by simpa [bt_ok2] using ho
    intro H locs ls hP hS hl
    obtain ⟨a, b, r, rfl, h⟩ := bt_k2i_s h
    exact lv_isub hx hb hd (hs _ _ _ _ h H locs ls hP hS hl)
  | imul =>
    obtain rfl : len = 1 := by simpa [bt_ok2] using ho
    intro H locs ls hP hS hl
    obtain ⟨a, b, r, rfl, h⟩ := bt_k2i_s h
    exact lv_imul hx hb hd (hs _ _ _ _ h H locs ls hP hS hl)
  | iand =>
    obtain rfl : len = 1 := by simpa [bt_ok2] using ho
    intro H locs ls hP hS hl
    obtain ⟨a, b, r, rfl, h⟩ := bt_k2i_s h
    exact lv_iand hx hb hd (hs _ _ _ _ h H locs ls hP hS hl)
  | ior =>
    obtain rfl : len = 1 := by simpa [bt_ok2] using ho
    intro H locs ls hP hS hl
    obtain ⟨a, b, r, rfl, h⟩ := bt_k2i_s h
    exact lv_ior hx hb hd (hs _ _ _ _ h H locs ls hP hS hl)
  | ixor =>
    obtain rfl : len = 1 := by simpa [bt_ok2] using ho
    intro H locs ls hP hS hl
    obtain ⟨a, b, r, rfl, h⟩ := bt_k2i_s h
    exact lv_ixor hx hb hd (hs _ _ _ _ h H locs ls hP hS hl)
  | irem =>
    obtain rfl : len = 1 := by simpa [bt_ok2] using ho
    intro H locs ls hP hS hl
    obtain ⟨a, b, r, rfl, h0, h⟩ := bt_k2i_s h
    exact lv_irem hx hb hd h0 (hs _ _ _ _ h H locs ls hP hS hl)
  | ishl =>
    obtain rfl : len = 1 := by simpa [bt_ok2] using ho
    intro H locs ls hP hS hl
    obtain ⟨a, b, r, rfl, h⟩ := bt_k2i_s h
    exact lv_ishl hx hb hd (hs _ _ _ _ h H locs ls hP hS hl)
  | ishr =>
    obtain rfl : len = 1 := by simpa [bt_ok2] using ho
    intro H locs ls hP hS hl
    obtain ⟨a, b, r, rfl, h⟩ := bt_k2i_s h
    exact lv_ishr hx hb hd (hs _ _ _ _ h H locs ls hP hS hl)
  | iushr =>
    obtain rfl : len = 1 := by simpa [bt_ok2] using ho
    intro H locs ls hP hS hl
    obtain ⟨a, b, r, rfl, h⟩ := bt_k2i_s h
    exact lv_iushr hx hb hd rfl (hs _ _ _ _ h H locs ls hP hS hl)
  | i2l =>
    obtain rfl : len = 1 := by simpa [bt_ok2] using ho
    intro H locs ls hP hS hl
    obtain ⟨a, r, rfl, h⟩ := bt_k1i_s h
    exact lv_i2l hx hb hd rfl (hs _ _ _ _ h H locs ls hP hS hl)
  | i2b =>
    obtain rfl : len = 1 := by simpa [bt_ok2] using ho
    intro H locs ls hP hS hl
    obtain ⟨a, r, rfl, h⟩ := bt_k1i_s h
    exact lv_i2b hx hb hd rfl (hs _ _ _ _ h H locs ls hP hS hl)
  | i2s =>
    obtain rfl : len = 1 := by simpa [bt_ok2] using ho
    intro H locs ls hP hS hl
    obtain ⟨a, r, rfl, h⟩ := bt_k1i_s h
    exact lv_i2s hx hb hd rfl (hs _ _ _ _ h H locs ls hP hS hl)
  | ladd =>
    obtain rfl : len = 1 := by simpa [bt_ok2] using ho
    intro H locs ls hP hS hl
    obtain ⟨a, b, r, rfl, h⟩ := bt_k2l_s h
    exact lv_ladd hx hb hd (hs _ _ _ _ h H locs ls hP hS hl)
  | lsub =>
    obtain rfl : len = 1 := by simpa [bt_ok2] using ho
    intro H locs ls hP hS hl
    obtain ⟨a, b, r, rfl, h⟩ := bt_k2l_s h
    exact lv_lsub hx hb hd (hs _ _ _ _ h H locs ls hP hS hl)
  | lmul =>
    obtain rfl : len = 1 := by simpa [bt_ok2] using ho
    intro H locs ls hP hS hl
    obtain ⟨a, b, r, rfl, h⟩ := bt_k2l_s h
    exact lv_lmul hx hb hd (hs _ _ _ _ h H locs ls hP hS hl)
  | ldiv =>
    obtain rfl : len = 1 := by simpa [bt_ok2] using ho
    intro H locs ls hP hS hl
    obtain ⟨a, b, r, rfl, h0, h⟩ := bt_k2l_s h
    exact lv_ldiv hx hb hd h0 (hs _ _ _ _ h H locs ls hP hS hl)
  | lrem =>
    obtain rfl : len = 1 := by simpa [bt_ok2] using ho
    intro H locs ls hP hS hl
    obtain ⟨a, b, r, rfl, h0, h⟩ := bt_k2l_s h
    exact lv_lrem hx hb hd h0 (hs _ _ _ _ h H locs ls hP hS hl)
  | lneg =>
    obtain rfl : len = 1 := by simpa [bt_ok2] using ho
    intro H locs ls hP hS hl
    obtain ⟨a, r, rfl, h⟩ := bt_k1l_s h
    exact lv_lneg hx hb hd (hs _ _ _ _ h H locs ls hP hS hl)
  | lcmp =>
    obtain rfl : len = 1 := by simpa [bt_ok2] using ho
    intro H locs ls hP hS hl
    obtain ⟨a, b, r, rfl, h⟩ := bt_k2l_s h
    exact W.lcmp hx hb hd (hs _ _ _ _ h H locs ls hP hS hl)
  | dup =>
    obtain rfl : len = 1 := by simpa [bt_ok2] using ho
    intro H locs ls hP hS hl
    obtain ⟨v, r, rfl, h1, h⟩ := bt_k1_s h
    exact lv_dup hx hb hd (by rw [bt_tr_cat]; exact h1) (hs _ _ _ _ h H locs ls hP hS hl)
  | pop =>
    obtain rfl : len = 1 := by simpa [bt_ok2] using ho
    intro H locs ls hP hS hl
    obtain ⟨v, r, rfl, h1, h⟩ := bt_k1_s h
    exact lv_pop hx hb hd (by rw [bt_tr_cat]; exact h1) (hs _ _ _ _ h H locs ls hP hS hl)
  | dup2 =>
    obtain rfl : len = 1 := by simpa [bt_ok2] using ho
    intro H locs ls hP hS hl
    obtain ⟨v, w, r, rfl, h1, h2, h⟩ := bt_k2_s h
    exact lv_dup2_11 hx hb hd (by rw [bt_tr_cat]; exact h1) (by rw [bt_tr_cat]; exact h2) (hs _ _ _ _ h H locs ls hP hS hl)
  | goto o =>
    obtain ⟨h1, rfl⟩ : bt_tgok pc o tg = true ∧ len = 3 := by simpa [bt_ok2] using ho
    intro H locs ls hP hS hl
    obtain ⟨t, ht, h⟩ := bt_tg_s h h1
    exact lv_goto hx hb hd ht (hj _ _ _ _ _ h H locs ls hP hS hl)
  | if_icmp b o =>
    obtain ⟨h1, rfl⟩ : bt_tgok pc o tg = true ∧ len = 3 := by simpa [bt_ok2] using ho
    intro H locs ls hP hS hl
    obtain ⟨x, y, r, rfl, h⟩ := bt_k2i_s h
    obtain ⟨t, ht, h⟩ := bt_tg_s h h1
    cases b with
    | eq => exact lv_icmp_eq hx hb hd ht (fun q => hj _ _ _ _ _ (h.1 q) H locs ls hP hS hl) (fun q => hs _ _ _ _ (h.2 q) H locs ls hP hS hl)
    | ne => exact lv_icmp_ne hx hb hd ht (fun q => hj _ _ _ _ _ (h.1 q) H locs ls hP hS hl) (fun q => hs _ _ _ _ (h.2 q) H locs ls hP hS hl)
    | lt => exact lv_icmp_lt hx hb hd ht (fun q => hj _ _ _ _ _ (h.1 q) H locs ls hP hS hl) (fun q => hs _ _ _ _ (h.2 q) H locs ls hP hS hl)
    | ge => exact lv_icmp_ge hx hb hd ht (fun q => hj _ _ _ _ _ (h.1 q) H locs ls hP hS hl) (fun q => hs _ _ _ _ (h.2 q) H locs ls hP hS hl)
    | gt => exact lv_icmp_gt hx hb hd ht (fun q => hj _ _ _ _ _ (h.1 q) H locs ls hP hS hl) (fun q => hs _ _ _ _ (h.2 q) H locs ls hP hS hl)
    | le => exact lv_icmp_le hx hb hd ht (fun q => hj _ _ _ _ _ (h.1 q) H locs ls hP hS hl) (fun q => hs _ _ _ _ (h.2 q) H locs ls hP hS hl)
  | ifCond b o =>
    obtain ⟨h1, rfl⟩ : bt_tgok pc o tg = true ∧ len = 3 := by simpa [bt_ok2] using ho
    intro H locs ls hP hS hl
    obtain ⟨x, r, rfl, h⟩ := bt_k1i_s h
    obtain ⟨t, ht, h⟩ := bt_tg_s h h1
    cases b with
    | eq => exact lv_if_eq hx hb hd ht (fun q => hj _ _ _ _ _ (h.1 q) H locs ls hP hS hl) (fun q => hs _ _ _ _ (h.2 q) H locs ls hP hS hl)
    | ne => exact lv_if_ne hx hb hd ht (fun q => hj _ _ _ _ _ (h.1 q) H locs ls hP hS hl) (fun q => hs _ _ _ _ (h.2 q) H locs ls hP hS hl)
    | lt => exact lv_if_lt hx hb hd ht (fun q => hj _ _ _ _ _ (h.1 q) H locs ls hP hS hl) (fun q => hs _ _ _ _ (h.2 q) H locs ls hP hS hl)
    | ge => exact lv_if_ge hx hb hd ht (fun q => hj _ _ _ _ _ (h.1 q) H locs ls hP hS hl) (fun q => hs _ _ _ _ (h.2 q) H locs ls hP hS hl)
    | gt => exact lv_if_gt hx hb hd ht (fun q => hj _ _ _ _ _ (h.1 q) H locs ls hP hS hl) (fun q => hs _ _ _ _ (h.2 q) H locs ls hP hS hl)
    | le => exact lv_if_le hx hb hd ht (fun q => hj _ _ _ _ _ (h.1 q) H locs ls hP hS hl) (fun q => hs _ _ _ _ (h.2 q) H locs ls hP hS hl)
  | tableswitch d lo hi offs =>
    intro H locs ls hP hS hl
    obtain ⟨x, r, rfl, h⟩ := bt_k1i_s h
    cases tg with
    | nil => exact False.elim h
    | cons t ts =>
      obtain ⟨t0, t⟩ := t
      obtain ⟨⟨h1, h2⟩, h3⟩ : ((pc : Int) + d = (t : Int) ∧ bt_swok pc lo ts offs.toList = true) ∧ hi = lo + ts.length - 1 := by simpa [bt_ok2] using ho
      obtain ⟨h4, h5⟩ := bt_swok_s h2
      rcases bt_sw_s h with ⟨j, q, hq, rfl, hk⟩ | ⟨hn, hk⟩
      · obtain ⟨g1, o, g2, g3⟩ := h5 j q hq
        have hjl : j < ts.length := (List.getElem?_eq_some_iff.mp hq).1
        refine lv_tableIn (off := o) (tgt := q.2) hx hb hd (by omega) (by omega) ?_ g3 (hj _ _ _ _ _ hk H locs ls hP hS hl)
        rw [← Array.getElem?_toList, show (q.1.toInt - lo).toNat = j by omega]
        exact g2
      · refine lv_tableOut hx hb hd ?_ h1 (hj _ _ _ _ _ hk H locs ls hP hS hl)
        rcases Int.lt_or_le x.toInt lo with hl1 | hl1
        · exact Or.inl hl1
        · right
          rcases Int.lt_or_le hi x.toInt with hl2 | hl2
          · exact hl2
          · exfalso
            have hjl : (x.toInt - lo).toNat < ts.length := by omega
            have hq := List.getElem?_eq_getElem hjl
            have g1 := (h5 _ _ hq).1
            exact hn _ _ hq (Int32.toInt_inj.mp (by rw [g1]; omega))
  | iaload =>
    obtain rfl : len = 1 := by simpa [bt_ok2] using ho
    intro H locs ls hP hS hl
    rcases bt_kir_s h with ⟨i, a, r, rfl, n, hsh, j, hi, hjn, hk⟩ | ⟨i, r, rfl, j, hi, hjn, hk⟩
    · obtain ⟨h1, h2⟩ := bt_nIix hi hjn (bt_sh_n hsh)
      have kk := hs _ _ _ _ hk H locs ls hP hS hl
      refine va_iald hx hb hK hP a 0 (n := n) (f := M a) ?_ rfl h1 hd (by rw [h2]; exact kk)
      rw [bt_ws_get (bt_sh_lt hsh (by omega)), bt_ct_a hsh]
      rfl
    · cases SL with
      | zero => omega
      | succ S =>
        obtain ⟨hX, hb0, hbig⟩ := hsc S rfl
        have kk := hs _ _ _ _ hk H locs ls hP hS hl
        obtain ⟨h1, h2⟩ := bt_nIix hi (Nat.lt_of_succ_lt_succ hjn) hbig
        exact va_sld hx hb hX (by omega) (Nat.not_le.mpr hb0) hS h1 hd (by rw [h2]; exact kk)
  | baload =>
    obtain rfl : len = 1 := by simpa [bt_ok2] using ho
    intro H locs ls hP hS hl
    rcases bt_kir_s h with ⟨i, a, r, rfl, h8⟩ | ⟨i, r, rfl, h8⟩
    · split at h8
      · obtain ⟨n, hsh, j, hi, hjn, hk⟩ := h8
        obtain ⟨h1, h2⟩ := bt_nIix hi hjn (bt_sh_n hsh)
        have kk := hs _ _ _ _ hk H locs ls hP hS hl
        refine va_bald hx hb hK hP a 2 (n := n) (f := M a) ?_ rfl h1 hd (by rw [h2]; exact kk)
        rw [bt_ws_get (bt_sh_lt hsh (by omega)), bt_ct_a hsh]
        rfl
      · obtain ⟨n, hsh, j, hi, hjn, hk⟩ := h8
        obtain ⟨h1, h2⟩ := bt_nIix hi hjn (bt_sh_n hsh)
        have kk := hs _ _ _ _ hk H locs ls hP hS hl
        refine va_zald hx hb hK hP a 3 (n := n) (f := M a) ?_ rfl h1 hd (by rw [h2]; exact kk)
        rw [bt_ws_get (bt_sh_lt hsh (by omega)), bt_ct_a hsh]
        rfl
      · exact False.elim h8
    · exact False.elim h8
  | laload =>
    obtain rfl : len = 1 := by simpa [bt_ok2] using ho
    intro H locs ls hP hS hl
    rcases bt_kir_s h with ⟨i, a, r, rfl, n, hsh, j, hi, hjn, hk⟩ | ⟨i, r, rfl, h⟩
    · obtain ⟨h1, h2⟩ := bt_nIix hi hjn (bt_sh_n hsh)
      have kk := hs _ _ _ _ hk H locs ls hP hS hl
      refine va_lald hx hb hK hP a 1 (n := n) (f := N a) ?_ rfl h1 hd (by rw [h2]; exact kk)
      rw [bt_ws_get (bt_sh_lt hsh (by omega)), bt_ct_a hsh]
      rfl
    · exact False.elim h
  | aaload =>
    obtain rfl : len = 1 := by simpa [bt_ok2] using ho
    intro H locs ls hP hS hl
    rcases bt_kir_s h with ⟨i, a, r, rfl, h8⟩ | ⟨i, r, rfl, h8⟩
    · split at h8
      · obtain ⟨n, hsh, j, hi, hjn, hk⟩ := h8
        obtain ⟨h1, h2⟩ := bt_nIix hi hjn (bt_sh_n hsh)
        have kk := hs _ _ _ _ hk H locs ls hP hS hl
        refine va_aldq hx hb hK hP a 4 (n := n) (f := fun k => some (ad (bt_rf a k))) ?_ rfl h1 hd (by rw [h2]; exact kk)
        rw [bt_ws_get (bt_sh_lt hsh (by omega)), bt_ct_a hsh]
        rfl
      · obtain ⟨n, hsh, j, hi, hjn, hk⟩ := h8
        obtain ⟨h1, h2⟩ := bt_nIix hi hjn (bt_sh_n hsh)
        have kk := hs _ _ _ _ hk H locs ls hP hS hl
        refine va_aldq hx hb hK hP a 5 (n := n) (f := fun k => some (ad (bt_rf a k))) ?_ rfl h1 hd (by rw [h2]; exact kk)
        rw [bt_ws_get (bt_sh_lt hsh (by omega)), bt_ct_a hsh]
        rfl
      · obtain ⟨n, hsh, j, hi, hjn, hk⟩ := h8
        obtain ⟨h1, h2⟩ := bt_nIix hi hjn (bt_sh_n hsh)
        have kk := hs _ _ _ _ hk H locs ls hP hS hl
        have ha : (bt_ws ca ad M N)[a]? = some (ad a, .inl (ca 6, n, .inr (.inr (.inr (.inr (fun k => some (ad (bt_rf a k)))))))) := by
          rw [bt_ws_get (bt_sh_lt hsh (by omega)), bt_ct_a hsh]
          rfl
        have hlt : i.toNatClampNeg < n := by omega
        refine W.aald (v := .ref (ad (bt_rf a j))) (ty := .array .int) hx hb (hP a _ ha) ((hK.2 6 _ rfl).1 n (fun k => va_rf (some (ad (bt_rf a k))))) rfl (fun q => by cases q) (by show ¬ (i < 0 ∨ (arrV _ _ _).slots.size ≤ _); rw [arrV_size]; exact h1) (by show (arrV _ _ _).slots[_]? = _; rw [arrV_read _ _ hlt, h2]; rfl) rfl rfl hd kk
      · exact False.elim h8
    · exact False.elim h8
  | iastore =>
    obtain rfl : len = 1 := by simpa [bt_ok2] using ho
    intro H locs ls hP hS hl
    obtain ⟨x, i, a, r, rfl, n, hsh, j, hi, hjn, hk⟩ := bt_kxir_s h
    obtain ⟨h1, h2⟩ := bt_nIix hi hjn (bt_sh_n hsh)
    refine va_iast hx hb hK hP (hDD M N) hS a 0 (n := n) (f := M a) ?_ rfl h1 hd (fun H1 locs1 hP1 hD1 hS1 => ?_)
    · rw [bt_ws_get (bt_sh_lt hsh (by omega)), bt_ct_a hsh]
      rfl
    · rw [h2, bt_ws_aI hsh (Or.inl rfl)] at hP1
      exact hs _ _ _ _ (hk _ rfl) H1 locs1 ls hP1 hS1 hl
  | bastore =>
    obtain rfl : len = 1 := by simpa [bt_ok2] using ho
    intro H locs ls hP hS hl
    obtain ⟨x, i, a, r, rfl, h8⟩ := bt_kxir_s h
    split at h8
    · obtain ⟨n, hsh, j, hi, hjn, hk⟩ := h8
      obtain ⟨h1, h2⟩ := bt_nIix hi hjn (bt_sh_n hsh)
      refine va_bast hx hb hK hP (hDD M N) hS a 2 (n := n) (f := M a) ?_ rfl h1 hd (fun H1 locs1 hP1 hD1 hS1 => ?_)
      · rw [bt_ws_get (bt_sh_lt hsh (by omega)), bt_ct_a hsh]
        rfl
      · rw [h2, bt_ws_aI hsh (Or.inr (Or.inl rfl)), vp_nar_byte] at hP1
        exact hs _ _ _ _ (hk _ rfl) H1 locs1 ls hP1 hS1 hl
    · obtain ⟨n, hsh, j, hi, hjn, hk⟩ := h8
      obtain ⟨h1, h2⟩ := bt_nIix hi hjn (bt_sh_n hsh)
      refine va_zast hx hb hK hP (hDD M N) hS a 3 (n := n) (f := M a) ?_ rfl h1 hd (fun H1 locs1 hP1 hD1 hS1 => ?_)
      · rw [bt_ws_get (bt_sh_lt hsh (by omega)), bt_ct_a hsh]
        rfl
      · rw [h2, bt_ws_aI hsh (Or.inr (Or.inr rfl)), show vp_nar .boolean x = x &&& 1 from rfl] at hP1
        exact hs _ _ _ _ (hk _ rfl) H1 locs1 ls hP1 hS1 hl
    · exact False.elim h8
  | lastore =>
    obtain rfl : len = 1 := by simpa [bt_ok2] using ho
    intro H locs ls hP hS hl
    obtain ⟨x, i, a, r, rfl, n, hsh, j, hi, hjn, hk⟩ := bt_klir_s h
    obtain ⟨h1, h2⟩ := bt_nIix hi hjn (bt_sh_n hsh)
    refine va_last hx hb hK hP (hDD M N) hS a 1 (n := n) (f := N a) ?_ rfl h1 hd (fun H1 locs1 hP1 hD1 hS1 => ?_)
    · rw [bt_ws_get (bt_sh_lt hsh (by omega)), bt_ct_a hsh]
      rfl
    · rw [h2, bt_ws_aL hsh] at hP1
      exact hs _ _ _ _ (hk _ rfl) H1 locs1 ls hP1 hS1 hl
  | arraylength =>
    obtain rfl : len = 1 := by simpa [bt_ok2] using ho
    intro H locs ls hP hS hl
    simp only [bt_wp1] at h
    split at h
    · cases SL with
      | zero => exact False.elim h
      | succ S =>
        obtain ⟨hX, hb0, hbig⟩ := hsc S rfl
        exact va_slen hx hb hX (by omega) (Nat.not_le.mpr hb0) hS hd (hs _ _ _ _ h H locs ls hP hS hl)
    · exact False.elim h
  | getfield i =>
    obtain rfl : len = 3 := by simpa [bt_ok2] using ho
    intro H locs ls hP hS hl
    obtain ⟨a, r, rfl, h8⟩ := bt_kr_s h
    obtain ⟨ci, f, hm, h8⟩ := bt_fl_s h8
    obtain ⟨n, hsh, h8⟩ := bt_ob_s h8
    obtain ⟨q, hq⟩ := bt_sh_c hsh
    obtain ⟨C, T, NF⟩ := q
    have hft : bt_ft ci f ≤ 2 := by
      unfold bt_gf at h8
      split at h8
      · omega
      · omega
      · omega
      · exact False.elim h8
    have hlt := bt_ft_lt hq hft
    have hnf := bt_clN ci _ hq
    have hw : (bt_ws ca ad M N)[a]? = some (ad a, .inr (ci, (List.range (bt_nf ci)).map (bt_fv ad M N a ci))) := by
      rw [bt_ws_get (bt_sh_lt hsh (by omega)), bt_ct_o hsh]
    have hv : ((List.range (bt_nf ci)).map (bt_fv ad M N a ci))[f]? = some (bt_fv ad M N a ci f) := by
      dsimp only at hnf hlt
      rw [← hnf]
      simp [hlt]
    have hdc := bt_clD ci _ hq f hlt
    dsimp only at hdc
    refine va_get (ref := C) hx hb hts (bt_clW ci _ hq) hown hK hP a hw hq f hlt (hts _ (hF _ hm _ hq)) (by rw [hdc]; exact fun x hx => hx) hv hd ?_
    unfold bt_gf at h8
    split at h8
    · next e => rw [show bt_fv ad M N a ci f = .int (M a f) by simp [bt_fv, e]]; exact hs _ _ _ _ h8 H locs ls hP hS hl
    · next e => rw [show bt_fv ad M N a ci f = .long (N a f) by simp [bt_fv, e]]; exact hs _ _ _ _ h8 H locs ls hP hS hl
    · next e =>
      rw [show bt_fv ad M N a ci f = .ref (ad (bt_rf a f)) by simp [bt_fv, e]]
      rw [bt_atk_s, ← bt_rf_o hsh] at h8
      exact hs _ _ _ _ h8 H locs ls hP hS hl
    · exact False.elim h8
  | putfield i =>
    obtain rfl : len = 3 := by simpa [bt_ok2] using ho
    intro H locs ls hP hS hl
    have h8 : bt_pf FL i st M N (fun r M' N' => ks L r M' N') := h
    unfold bt_pf at h8
    split at h8
    · next x a r =>
      obtain ⟨ci, f, hm, h8⟩ := bt_fl_s h8
      obtain ⟨n, hsh, h8⟩ := bt_ob_s h8
      split at h8
      · next e0 =>
        obtain ⟨q, hq⟩ := bt_sh_c hsh
        obtain ⟨C, T, NF⟩ := q
        have hlt := bt_ft_lt hq (by omega : bt_ft ci f ≤ 2)
        have hnf := bt_clN ci _ hq
        have hw : (bt_ws ca ad M N)[a]? = some (ad a, .inr (ci, (List.range (bt_nf ci)).map (bt_fv ad M N a ci))) := by
          rw [bt_ws_get (bt_sh_lt hsh (by omega)), bt_ct_o hsh]
        obtain ⟨hfin, hpd⟩ := bt_clT ci _ hq f hlt (by omega)
        rw [if_pos e0] at hpd
        have hdc := bt_clD ci _ hq f hlt
        obtain ⟨ty, hty⟩ := bt_clY ci _ hq
        dsimp only at hdc hnf hlt
        refine va_put (ref := C) (ty := .int) (v := .int x) hx hb hts (bt_clW ci _ hq) ty hty (bt_clX ci _ hq) hown hK hP (hDD M N) hS a hw hq f hlt (hts _ (hF _ hm _ hq)) (by rw [hdc]; exact fun x hx => hx) hfin hpd rfl rfl (by simp; omega) hd (fun H1 locs1 hP1 hD1 hS1 => ?_)
        rw [bt_ws_pI hsh e0] at hP1
        exact hs _ _ _ _ (h8 _ rfl) H1 locs1 ls hP1 hS1 hl
      · exact False.elim h8
    · next x a r =>
      obtain ⟨ci, f, hm, h8⟩ := bt_fl_s h8
      obtain ⟨n, hsh, h8⟩ := bt_ob_s h8
      split at h8
      · next e0 =>
        obtain ⟨q, hq⟩ := bt_sh_c hsh
        obtain ⟨C, T, NF⟩ := q
        have hlt := bt_ft_lt hq (by omega : bt_ft ci f ≤ 2)
        have hnf := bt_clN ci _ hq
        have hw : (bt_ws ca ad M N)[a]? = some (ad a, .inr (ci, (List.range (bt_nf ci)).map (bt_fv ad M N a ci))) := by
          rw [bt_ws_get (bt_sh_lt hsh (by omega)), bt_ct_o hsh]
        obtain ⟨hfin, hpd⟩ := bt_clT ci _ hq f hlt (by omega)
        rw [if_neg (by omega)] at hpd
        have hdc := bt_clD ci _ hq f hlt
        obtain ⟨ty, hty⟩ := bt_clY ci _ hq
        dsimp only at hdc hnf hlt
        refine va_put (ref := C) (ty := .long) (v := .long x) hx hb hts (bt_clW ci _ hq) ty hty (bt_clX ci _ hq) hown hK hP (hDD M N) hS a hw hq f hlt (hts _ (hF _ hm _ hq)) (by rw [hdc]; exact fun x hx => hx) hfin hpd rfl rfl (by simp; omega) hd (fun H1 locs1 hP1 hD1 hS1 => ?_)
        rw [bt_ws_pL hsh e0] at hP1
        exact hs _ _ _ _ (h8 _ rfl) H1 locs1 ls hP1 hS1 hl
      · exact False.elim h8
    · exact False.elim h8
  | invokestatic i =>
    obtain rfl : len = 3 := by simpa [bt_ok2] using ho
    obtain ⟨na, sp, hm, hk⟩ := bt_call_s h
    exact hC _ hm pc L st M N _ (Or.inl ⟨rfl, hd⟩) hk (fun st' M' N' q => hs _ _ _ _ q)
  | invokevirtual i =>
    obtain rfl : len = 3 := by simpa [bt_ok2] using ho
    obtain ⟨na, sp, hm, hk⟩ := bt_call_s h
    exact hC _ hm pc L st M N _ (Or.inr ⟨rfl, hd⟩) hk (fun st' M' N' q => hs _ _ _ _ q)
  | ireturn =>
    obtain rfl : len = 1 := by simpa [bt_ok2] using ho
    obtain ⟨x, r, rfl, h8⟩ := bt_k1i_s h
    unfold bt_ir at h8
    split at h8
    · split at h8
      · exact hR.2.1 rfl pc L M N x hd h8
      · exact hR.2.2.1 rfl pc L M N x hd h8.1 h8.2
      · exact False.elim h8
    · exact False.elim h8
  | lreturn =>
    obtain rfl : len = 1 := by simpa [bt_ok2] using ho
    obtain ⟨x, r, rfl, h8⟩ := bt_k1l_s h
    split at h8
    · exact hR.2.2.2 rfl pc L M N x hd h8
    · exact False.elim h8
  | return_ =>
    obtain rfl : len = 1 := by simpa [bt_ok2] using ho
    simp only [bt_wp1] at h
    split at h
    · exact hR.1 rfl pc L M N hd h
    · exact False.elim h
  | _ => exact False.elim h
