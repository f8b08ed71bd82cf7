/-! THE LAW: each kind of a round, the loop -/
theorem bw_mI_c {M M1 : bt_M} {S : bt_S} (h : bt_mI M S) (e : bt_cfr M M1) : bt_mI M1 S := by
  obtain ⟨w, im, u, z, q⟩ := S
  have e67 := e 67 (by omega)
  have e71 := e 71 (by omega)
  have e72 := e 72 (by omega)
  have e73 := e 73 (by omega)
  have e74 := e 74 (by omega)
  have e75 := e 75 (by omega)
  have e76 := e 76 (by omega)
  have e77 := e 77 (by omega)
  have e78 := e 78 (by omega)
  have e68 := e 68 (by omega)
  have e69 := e 69 (by omega)
  have e70 := e 70 (by omega)
  simp only [bt_mI, bt_mW, bt_pg, e67, e68, e69, e70, e71, e72, e73, e74, e75, e76, e77, e78] at h ⊢
  exact h
theorem bw_cI_m {M M1 : bt_M} {S : bt_S} (h : bt_cI M S) (e : bt_mfx M M1) : bt_cI M1 S := bt_cI_same h (fun x hx => e x (by omega)) (by rw [e 49 (by omega)])
theorem bw_j (a k : Nat) : nI a + nI k = nI (a + k) := nI_add a k
theorem bw_cmp (x : Int64) : lg_cmp x x = 0 := by
  unfold lg_cmp
  rw [if_neg (fun c => Int64.lt_irrefl c), if_pos rfl]
abbrev bt_SL : List Nat := [18, 1366, 212, 235, 258, 271, 284, 307, 340, 373, 406, 439, 472, 505, 564, 587, 630, 653, 666, 699, 722, 735, 769, 803, 827, 871, 894, 917, 940, 963, 986, 1020, 1053, 1076, 1099, 1112, 1145, 1168, 1191, 1234, 1277, 1330, 1343]
abbrev bt_LT : List Nat := [212, 235, 258, 271, 284, 307, 340, 373, 406, 439, 472, 505, 564, 587, 630, 653, 666, 699, 722, 735, 769, 803, 827, 871, 894, 917, 940, 963, 986, 1020, 1053, 1076, 1099, 1112, 1145, 1168, 1191, 1234, 1277, 1330, 1343]
abbrev bw_L (j : Nat) : bt_L := [some (.retAddr 0), some (.ref 0), some (.ref 67), some (.int (nI j))]
def bw_case (Sz : Nat) (xs : Nat → Int32) (Rt : bt_R) (K : bt_P) (pc : Nat) : Prop := ∀ (j : Nat) (M : bt_M) (N : bt_N) (S : bt_S), j + 5 ≤ Sz → bt_cI M S → bt_mI M S → (∀ M1 N1 S1, bt_cI M1 S1 → bt_mI M1 S1 → K 1366 (bw_L j) [] M1 N1) → bt_wp bt_TL [] bt_CL 2 (Sz + 1) xs Rt bt_SL K 80 (bt_suf bt_TL pc) (bw_L j) [] M N
theorem bw_t_feed (S : bt_S) (a0 : Int32) : ∃ x S1, f_feed [.int a0] S = some (.int x, S1) := by
  obtain ⟨w, im, u, z, q⟩ := S
  exact ⟨_, _, rfl⟩
set_option maxRecDepth 100000 in
theorem bw_k0 (Sz : Nat) (xs : Nat → Int32) (Rt : bt_R) (K : bt_P) : bw_case Sz xs Rt K 212 := by
  intro j M N S hj hc hm hK
  obtain ⟨x, S1, hf⟩ := bw_t_feed S (xs (j + 1))
  exact ⟨j + 1, bw_j j 1, by omega, ⟨rfl, S, _, _, hc, hf, fun M1 N1 e1 i1 => ⟨j + 1, bw_j j 1, by omega, ⟨rfl, S, _, _, bw_mI_c hm e1, hf, fun M2 e2 i2 => ⟨fun _ => hK M2 N1 S1 (bw_cI_m i1 e2) i2, fun c => absurd rfl c⟩⟩⟩⟩⟩
theorem bw_t_end (S : bt_S) (a0 : Int32) : ∃ x S1, f_end [.int a0] S = some (.int x, S1) := by
  obtain ⟨w, im, u, z, q⟩ := S
  exact ⟨_, _, rfl⟩
set_option maxRecDepth 100000 in
theorem bw_k1 (Sz : Nat) (xs : Nat → Int32) (Rt : bt_R) (K : bt_P) : bw_case Sz xs Rt K 235 := by
  intro j M N S hj hc hm hK
  obtain ⟨x, S1, hf⟩ := bw_t_end S (xs (j + 1))
  exact ⟨j + 1, bw_j j 1, by omega, ⟨rfl, S, _, _, hc, hf, fun M1 N1 e1 i1 => ⟨j + 1, bw_j j 1, by omega, ⟨rfl, S, _, _, bw_mI_c hm e1, hf, fun M2 e2 i2 => ⟨fun _ => hK M2 N1 S1 (bw_cI_m i1 e2) i2, fun c => absurd rfl c⟩⟩⟩⟩⟩
theorem bw_t_text (S : bt_S) : ∃ x S1, f_text [] S = some (.int x, S1) := by
  obtain ⟨w, im, u, z, q⟩ := S
  unfold f_text
  dsimp only
  split
  · exact ⟨_, _, rfl⟩
  · exact ⟨_, _, rfl⟩
set_option maxRecDepth 100000 in
theorem bw_k2 (Sz : Nat) (xs : Nat → Int32) (Rt : bt_R) (K : bt_P) : bw_case Sz xs Rt K 258 := by
  intro j M N S hj hc hm hK
  obtain ⟨x, S1, hf⟩ := bw_t_text S
  exact ⟨rfl, S, _, _, hc, hf, fun M1 N1 e1 i1 => ⟨rfl, S, _, _, bw_mI_c hm e1, hf, fun M2 e2 i2 => ⟨fun _ => hK M2 N1 S1 (bw_cI_m i1 e2) i2, fun c => absurd rfl c⟩⟩⟩
theorem bw_t_fault (S : bt_S) : ∃ x S1, f_fault [] S = some (.int x, S1) := by
  obtain ⟨w, im, u, z, q⟩ := S
  exact ⟨_, _, rfl⟩
set_option maxRecDepth 100000 in
theorem bw_k3 (Sz : Nat) (xs : Nat → Int32) (Rt : bt_R) (K : bt_P) : bw_case Sz xs Rt K 271 := by
  intro j M N S hj hc hm hK
  obtain ⟨x, S1, hf⟩ := bw_t_fault S
  exact ⟨rfl, S, _, _, hc, hf, fun M1 N1 e1 i1 => ⟨rfl, S, _, _, bw_mI_c hm e1, hf, fun M2 e2 i2 => ⟨fun _ => hK M2 N1 S1 (bw_cI_m i1 e2) i2, fun c => absurd rfl c⟩⟩⟩
theorem bw_t_rule (S : bt_S) (a0 : Int32) : ∃ x S1, f_rule [.int a0] S = some (.int x, S1) := by
  obtain ⟨w, im, u, z, q⟩ := S
  exact ⟨_, _, rfl⟩
set_option maxRecDepth 100000 in
theorem bw_k4 (Sz : Nat) (xs : Nat → Int32) (Rt : bt_R) (K : bt_P) : bw_case Sz xs Rt K 284 := by
  intro j M N S hj hc hm hK
  obtain ⟨x, S1, hf⟩ := bw_t_rule S (xs (j + 1))
  exact ⟨j + 1, bw_j j 1, by omega, ⟨rfl, S, _, _, hc, hf, fun M1 N1 e1 i1 => ⟨j + 1, bw_j j 1, by omega, ⟨rfl, S, _, _, bw_mI_c hm e1, hf, fun M2 e2 i2 => ⟨fun _ => hK M2 N1 S1 (bw_cI_m i1 e2) i2, fun c => absurd rfl c⟩⟩⟩⟩⟩
theorem bw_t_road (S : bt_S) (a0 a1 : Int32) : ∃ x S1, f_road [.int a0, .int a1] S = some (.int x, S1) := by
  obtain ⟨w, im, u, z, q⟩ := S
  exact ⟨_, _, rfl⟩
set_option maxRecDepth 100000 in
theorem bw_k5 (Sz : Nat) (xs : Nat → Int32) (Rt : bt_R) (K : bt_P) : bw_case Sz xs Rt K 307 := by
  intro j M N S hj hc hm hK
  obtain ⟨x, S1, hf⟩ := bw_t_road S (xs (j + 1)) (xs (j + 2))
  exact ⟨j + 1, bw_j j 1, by omega, ⟨j + 2, bw_j j 2, by omega, ⟨rfl, S, _, _, hc, hf, fun M1 N1 e1 i1 => ⟨j + 1, bw_j j 1, by omega, ⟨j + 2, bw_j j 2, by omega, ⟨rfl, S, _, _, bw_mI_c hm e1, hf, fun M2 e2 i2 => ⟨fun _ => hK M2 N1 S1 (bw_cI_m i1 e2) i2, fun c => absurd rfl c⟩⟩⟩⟩⟩⟩⟩
theorem bw_t_car (S : bt_S) (a0 a1 : Int32) : ∃ x S1, f_car [.int a0, .int a1] S = some (.int x, S1) := by
  obtain ⟨w, im, u, z, q⟩ := S
  exact ⟨_, _, rfl⟩
set_option maxRecDepth 100000 in
theorem bw_k6 (Sz : Nat) (xs : Nat → Int32) (Rt : bt_R) (K : bt_P) : bw_case Sz xs Rt K 340 := by
  intro j M N S hj hc hm hK
  obtain ⟨x, S1, hf⟩ := bw_t_car S (xs (j + 1)) (xs (j + 2))
  exact ⟨j + 1, bw_j j 1, by omega, ⟨j + 2, bw_j j 2, by omega, ⟨rfl, S, _, _, hc, hf, fun M1 N1 e1 i1 => ⟨j + 1, bw_j j 1, by omega, ⟨j + 2, bw_j j 2, by omega, ⟨rfl, S, _, _, bw_mI_c hm e1, hf, fun M2 e2 i2 => ⟨fun _ => hK M2 N1 S1 (bw_cI_m i1 e2) i2, fun c => absurd rfl c⟩⟩⟩⟩⟩⟩⟩
theorem bw_t_use (S : bt_S) (a0 a1 : Int32) : ∃ x S1, f_use [.int a0, .int a1] S = some (.int x, S1) := by
  obtain ⟨w, im, u, z, q⟩ := S
  exact ⟨_, _, rfl⟩
set_option maxRecDepth 100000 in
theorem bw_k7 (Sz : Nat) (xs : Nat → Int32) (Rt : bt_R) (K : bt_P) : bw_case Sz xs Rt K 373 := by
  intro j M N S hj hc hm hK
  obtain ⟨x, S1, hf⟩ := bw_t_use S (xs (j + 1)) (xs (j + 2))
  exact ⟨j + 1, bw_j j 1, by omega, ⟨j + 2, bw_j j 2, by omega, ⟨rfl, S, _, _, hc, hf, fun M1 N1 e1 i1 => ⟨j + 1, bw_j j 1, by omega, ⟨j + 2, bw_j j 2, by omega, ⟨rfl, S, _, _, bw_mI_c hm e1, hf, fun M2 e2 i2 => ⟨fun _ => hK M2 N1 S1 (bw_cI_m i1 e2) i2, fun c => absurd rfl c⟩⟩⟩⟩⟩⟩⟩
theorem bw_t_gap (S : bt_S) (a0 a1 : Int32) : ∃ x S1, f_gap [.int a0, .int a1] S = some (.int x, S1) := by
  obtain ⟨w, im, u, z, q⟩ := S
  exact ⟨_, _, rfl⟩
set_option maxRecDepth 100000 in
theorem bw_k8 (Sz : Nat) (xs : Nat → Int32) (Rt : bt_R) (K : bt_P) : bw_case Sz xs Rt K 406 := by
  intro j M N S hj hc hm hK
  obtain ⟨x, S1, hf⟩ := bw_t_gap S (xs (j + 1)) (xs (j + 2))
  exact ⟨j + 1, bw_j j 1, by omega, ⟨j + 2, bw_j j 2, by omega, ⟨rfl, S, _, _, hc, hf, fun M1 N1 e1 i1 => ⟨j + 1, bw_j j 1, by omega, ⟨j + 2, bw_j j 2, by omega, ⟨rfl, S, _, _, bw_mI_c hm e1, hf, fun M2 e2 i2 => ⟨fun _ => hK M2 N1 S1 (bw_cI_m i1 e2) i2, fun c => absurd rfl c⟩⟩⟩⟩⟩⟩⟩
theorem bw_t_sight (S : bt_S) (a0 a1 : Int32) : ∃ x S1, f_sight [.int a0, .int a1] S = some (.int x, S1) := by
  obtain ⟨w, im, u, z, q⟩ := S
  exact ⟨_, _, rfl⟩
set_option maxRecDepth 100000 in
theorem bw_k9 (Sz : Nat) (xs : Nat → Int32) (Rt : bt_R) (K : bt_P) : bw_case Sz xs Rt K 439 := by
  intro j M N S hj hc hm hK
  obtain ⟨x, S1, hf⟩ := bw_t_sight S (xs (j + 1)) (xs (j + 2))
  exact ⟨j + 1, bw_j j 1, by omega, ⟨j + 2, bw_j j 2, by omega, ⟨rfl, S, _, _, hc, hf, fun M1 N1 e1 i1 => ⟨j + 1, bw_j j 1, by omega, ⟨j + 2, bw_j j 2, by omega, ⟨rfl, S, _, _, bw_mI_c hm e1, hf, fun M2 e2 i2 => ⟨fun _ => hK M2 N1 S1 (bw_cI_m i1 e2) i2, fun c => absurd rfl c⟩⟩⟩⟩⟩⟩⟩
theorem bw_t_odd (S : bt_S) (a0 a1 : Int32) : ∃ x S1, f_odd [.int a0, .int a1] S = some (.int x, S1) := by
  obtain ⟨w, im, u, z, q⟩ := S
  exact ⟨_, _, rfl⟩
set_option maxRecDepth 100000 in
theorem bw_k10 (Sz : Nat) (xs : Nat → Int32) (Rt : bt_R) (K : bt_P) : bw_case Sz xs Rt K 472 := by
  intro j M N S hj hc hm hK
  obtain ⟨x, S1, hf⟩ := bw_t_odd S (xs (j + 1)) (xs (j + 2))
  exact ⟨j + 1, bw_j j 1, by omega, ⟨j + 2, bw_j j 2, by omega, ⟨rfl, S, _, _, hc, hf, fun M1 N1 e1 i1 => ⟨j + 1, bw_j j 1, by omega, ⟨j + 2, bw_j j 2, by omega, ⟨rfl, S, _, _, bw_mI_c hm e1, hf, fun M2 e2 i2 => ⟨fun _ => hK M2 N1 S1 (bw_cI_m i1 e2) i2, fun c => absurd rfl c⟩⟩⟩⟩⟩⟩⟩
theorem bw_t_build (S : bt_S) (a0 a1 a2 : Int32) : ∃ x S1, f_build [.int a0, .int a1, .int a2] S = some (.int x, S1) := by
  obtain ⟨w, im, u, z, q⟩ := S
  exact ⟨_, _, rfl⟩
set_option maxRecDepth 100000 in
theorem bw_k11 (Sz : Nat) (xs : Nat → Int32) (Rt : bt_R) (K : bt_P) : bw_case Sz xs Rt K 505 := by
  intro j M N S hj hc hm hK
  obtain ⟨x, S1, hf⟩ := bw_t_build S (xs (j + 1)) (xs (j + 2)) 0
  obtain ⟨y, S2, hg⟩ := bw_t_build S (xs (j + 1)) (xs (j + 2)) 1
  exact ⟨j + 1, bw_j j 1, by omega, ⟨j + 2, bw_j j 2, by omega, ⟨j + 3, bw_j j 3, by omega, ⟨fun c => ⟨rfl, S, _, _, hc, hf, fun M1 N1 e1 i1 => ⟨j + 1, bw_j j 1, by omega, ⟨j + 2, bw_j j 2, by omega, ⟨j + 3, bw_j j 3, by omega, ⟨fun _ => ⟨rfl, S, _, _, bw_mI_c hm e1, hf, fun M2 e2 i2 => ⟨fun _ => hK M2 N1 S1 (bw_cI_m i1 e2) i2, fun c => absurd rfl c⟩⟩, fun c2 => absurd c c2⟩⟩⟩⟩⟩, fun c => ⟨rfl, S, _, _, hc, hg, fun M1 N1 e1 i1 => ⟨j + 1, bw_j j 1, by omega, ⟨j + 2, bw_j j 2, by omega, ⟨j + 3, bw_j j 3, by omega, ⟨fun c2 => absurd c2 c, fun _ => ⟨rfl, S, _, _, bw_mI_c hm e1, hg, fun M2 e2 i2 => ⟨fun _ => hK M2 N1 S2 (bw_cI_m i1 e2) i2, fun c => absurd rfl c⟩⟩⟩⟩⟩⟩⟩⟩⟩⟩⟩
theorem bw_t_polite (S : bt_S) (a0 : Int32) : ∃ x S1, f_polite [.int a0] S = some (.int x, S1) := by
  obtain ⟨w, im, u, z, q⟩ := S
  exact ⟨_, _, rfl⟩
set_option maxRecDepth 100000 in
theorem bw_k12 (Sz : Nat) (xs : Nat → Int32) (Rt : bt_R) (K : bt_P) : bw_case Sz xs Rt K 564 := by
  intro j M N S hj hc hm hK
  obtain ⟨x, S1, hf⟩ := bw_t_polite S (xs (j + 1))
  exact ⟨j + 1, bw_j j 1, by omega, ⟨rfl, S, _, _, hc, hf, fun M1 N1 e1 i1 => ⟨j + 1, bw_j j 1, by omega, ⟨rfl, S, _, _, bw_mI_c hm e1, hf, fun M2 e2 i2 => ⟨fun _ => hK M2 N1 S1 (bw_cI_m i1 e2) i2, fun c => absurd rfl c⟩⟩⟩⟩⟩
theorem bw_t_teach (S : bt_S) (a0 a1 a2 : Int32) : ∃ x S1, f_teach [.int a0, .int a1, .int a2] S = some (.int x, S1) := by
  obtain ⟨w, im, u, z, q⟩ := S
  exact ⟨_, _, rfl⟩
set_option maxRecDepth 100000 in
theorem bw_k13 (Sz : Nat) (xs : Nat → Int32) (Rt : bt_R) (K : bt_P) : bw_case Sz xs Rt K 587 := by
  intro j M N S hj hc hm hK
  obtain ⟨x, S1, hf⟩ := bw_t_teach S (xs (j + 1)) (xs (j + 2)) (xs (j + 3))
  exact ⟨j + 1, bw_j j 1, by omega, ⟨j + 2, bw_j j 2, by omega, ⟨j + 3, bw_j j 3, by omega, ⟨rfl, S, _, _, hc, hf, fun M1 N1 e1 i1 => ⟨j + 1, bw_j j 1, by omega, ⟨j + 2, bw_j j 2, by omega, ⟨j + 3, bw_j j 3, by omega, ⟨rfl, S, _, _, bw_mI_c hm e1, hf, fun M2 e2 i2 => ⟨fun _ => hK M2 N1 S1 (bw_cI_m i1 e2) i2, fun c => absurd rfl c⟩⟩⟩⟩⟩⟩⟩⟩⟩
theorem bw_t_drive (S : bt_S) (a0 : Int32) : ∃ x S1, f_drive [.int a0] S = some (.int x, S1) := by
  obtain ⟨w, im, u, z, q⟩ := S
  exact ⟨_, _, rfl⟩
set_option maxRecDepth 100000 in
theorem bw_k14 (Sz : Nat) (xs : Nat → Int32) (Rt : bt_R) (K : bt_P) : bw_case Sz xs Rt K 630 := by
  intro j M N S hj hc hm hK
  obtain ⟨x, S1, hf⟩ := bw_t_drive S (xs (j + 1))
  exact ⟨j + 1, bw_j j 1, by omega, ⟨rfl, S, _, _, hc, hf, fun M1 N1 e1 i1 => ⟨j + 1, bw_j j 1, by omega, ⟨rfl, S, _, _, bw_mI_c hm e1, hf, fun M2 e2 i2 => ⟨fun _ => hK M2 N1 S1 (bw_cI_m i1 e2) i2, fun c => absurd rfl c⟩⟩⟩⟩⟩
theorem bw_t_on (S : bt_S) : ∃ x S1, f_on [] S = some (.int x, S1) := by
  obtain ⟨w, im, u, z, q⟩ := S
  exact ⟨_, _, rfl⟩
set_option maxRecDepth 100000 in
theorem bw_k15 (Sz : Nat) (xs : Nat → Int32) (Rt : bt_R) (K : bt_P) : bw_case Sz xs Rt K 653 := by
  intro j M N S hj hc hm hK
  obtain ⟨x, S1, hf⟩ := bw_t_on S
  exact ⟨rfl, S, _, _, hc, hf, fun M1 N1 e1 i1 => ⟨rfl, S, _, _, bw_mI_c hm e1, hf, fun M2 e2 i2 => ⟨fun _ => hK M2 N1 S1 (bw_cI_m i1 e2) i2, fun c => absurd rfl c⟩⟩⟩
theorem bw_t_ahead (S : bt_S) (a0 a1 : Int32) : ∃ x S1, f_ahead [.int a0, .int a1] S = some (.int x, S1) := by
  obtain ⟨w, im, u, z, q⟩ := S
  exact ⟨_, _, rfl⟩
set_option maxRecDepth 100000 in
theorem bw_k16 (Sz : Nat) (xs : Nat → Int32) (Rt : bt_R) (K : bt_P) : bw_case Sz xs Rt K 666 := by
  intro j M N S hj hc hm hK
  obtain ⟨x, S1, hf⟩ := bw_t_ahead S (xs (j + 1)) (xs (j + 2))
  exact ⟨j + 1, bw_j j 1, by omega, ⟨j + 2, bw_j j 2, by omega, ⟨rfl, S, _, _, hc, hf, fun M1 N1 e1 i1 => ⟨j + 1, bw_j j 1, by omega, ⟨j + 2, bw_j j 2, by omega, ⟨rfl, S, _, _, bw_mI_c hm e1, hf, fun M2 e2 i2 => ⟨fun _ => hK M2 N1 S1 (bw_cI_m i1 e2) i2, fun c => absurd rfl c⟩⟩⟩⟩⟩⟩⟩
theorem bw_t_tail (S : bt_S) (a0 : Int32) : ∃ x S1, f_tail [.int a0] S = some (.int x, S1) := by
  obtain ⟨w, im, u, z, q⟩ := S
  exact ⟨_, _, rfl⟩
set_option maxRecDepth 100000 in
theorem bw_k17 (Sz : Nat) (xs : Nat → Int32) (Rt : bt_R) (K : bt_P) : bw_case Sz xs Rt K 699 := by
  intro j M N S hj hc hm hK
  obtain ⟨x, S1, hf⟩ := bw_t_tail S (xs (j + 1))
  exact ⟨j + 1, bw_j j 1, by omega, ⟨rfl, S, _, _, hc, hf, fun M1 N1 e1 i1 => ⟨j + 1, bw_j j 1, by omega, ⟨rfl, S, _, _, bw_mI_c hm e1, hf, fun M2 e2 i2 => ⟨fun _ => hK M2 N1 S1 (bw_cI_m i1 e2) i2, fun c => absurd rfl c⟩⟩⟩⟩⟩
theorem bw_t_lost (S : bt_S) : ∃ x S1, f_lost [] S = some (.int x, S1) := by
  obtain ⟨w, im, u, z, q⟩ := S
  exact ⟨_, _, rfl⟩
set_option maxRecDepth 100000 in
theorem bw_k18 (Sz : Nat) (xs : Nat → Int32) (Rt : bt_R) (K : bt_P) : bw_case Sz xs Rt K 722 := by
  intro j M N S hj hc hm hK
  obtain ⟨x, S1, hf⟩ := bw_t_lost S
  exact ⟨rfl, S, _, _, hc, hf, fun M1 N1 e1 i1 => ⟨rfl, S, _, _, bw_mI_c hm e1, hf, fun M2 e2 i2 => ⟨fun _ => hK M2 N1 S1 (bw_cI_m i1 e2) i2, fun c => absurd rfl c⟩⟩⟩
theorem bw_t_past (S : bt_S) (a0 a1 : Int32) : ∃ x S1, f_past [.int a0, .int a1] S = some (.long x, S1) := by
  obtain ⟨w, im, u, z, q⟩ := S
  exact ⟨_, _, rfl⟩
set_option maxRecDepth 100000 in
theorem bw_k19 (Sz : Nat) (xs : Nat → Int32) (Rt : bt_R) (K : bt_P) : bw_case Sz xs Rt K 735 := by
  intro j M N S hj hc hm hK
  obtain ⟨x, S1, hf⟩ := bw_t_past S (xs (j + 1)) (xs (j + 2))
  exact ⟨j + 1, bw_j j 1, by omega, ⟨j + 2, bw_j j 2, by omega, ⟨rfl, S, _, _, hc, hf, fun M1 N1 e1 i1 => ⟨j + 1, bw_j j 1, by omega, ⟨j + 2, bw_j j 2, by omega, ⟨rfl, S, _, _, bw_mI_c hm e1, hf, fun M2 e2 i2 => ⟨fun _ => hK M2 N1 S1 (bw_cI_m i1 e2) i2, fun c => absurd (bw_cmp x) c⟩⟩⟩⟩⟩⟩⟩
theorem bw_t_mean (S : bt_S) (a0 a1 : Int32) : ∃ x S1, f_mean [.int a0, .int a1] S = some (.long x, S1) := by
  obtain ⟨w, im, u, z, q⟩ := S
  exact ⟨_, _, rfl⟩
set_option maxRecDepth 100000 in
theorem bw_k20 (Sz : Nat) (xs : Nat → Int32) (Rt : bt_R) (K : bt_P) : bw_case Sz xs Rt K 769 := by
  intro j M N S hj hc hm hK
  obtain ⟨x, S1, hf⟩ := bw_t_mean S (xs (j + 1)) (xs (j + 2))
  exact ⟨j + 1, bw_j j 1, by omega, ⟨j + 2, bw_j j 2, by omega, ⟨rfl, S, _, _, hc, hf, fun M1 N1 e1 i1 => ⟨j + 1, bw_j j 1, by omega, ⟨j + 2, bw_j j 2, by omega, ⟨rfl, S, _, _, bw_mI_c hm e1, hf, fun M2 e2 i2 => ⟨fun _ => hK M2 N1 S1 (bw_cI_m i1 e2) i2, fun c => absurd (bw_cmp x) c⟩⟩⟩⟩⟩⟩⟩
theorem bw_t_row (S : bt_S) (a0 : Int32) : ∃ x S1, f_row [.int a0] S = some (.long x, S1) := by
  obtain ⟨w, im, u, z, q⟩ := S
  exact ⟨_, _, rfl⟩
set_option maxRecDepth 100000 in
theorem bw_k21 (Sz : Nat) (xs : Nat → Int32) (Rt : bt_R) (K : bt_P) : bw_case Sz xs Rt K 803 := by
  intro j M N S hj hc hm hK
  obtain ⟨x, S1, hf⟩ := bw_t_row S (xs (j + 1))
  exact ⟨j + 1, bw_j j 1, by omega, ⟨rfl, S, _, _, hc, hf, fun M1 N1 e1 i1 => ⟨j + 1, bw_j j 1, by omega, ⟨rfl, S, _, _, bw_mI_c hm e1, hf, fun M2 e2 i2 => ⟨fun _ => hK M2 N1 S1 (bw_cI_m i1 e2) i2, fun c => absurd (bw_cmp x) c⟩⟩⟩⟩⟩
theorem bw_t_where (S : bt_S) (a0 a1 a2 : Int32) : ∃ x S1, f_where [.int a0, .int a1, .int a2] S = some (.long x, S1) := by
  obtain ⟨w, im, u, z, q⟩ := S
  exact ⟨_, _, rfl⟩
set_option maxRecDepth 100000 in
theorem bw_k22 (Sz : Nat) (xs : Nat → Int32) (Rt : bt_R) (K : bt_P) : bw_case Sz xs Rt K 827 := by
  intro j M N S hj hc hm hK
  obtain ⟨x, S1, hf⟩ := bw_t_where S (xs (j + 1)) (xs (j + 2)) (xs (j + 3))
  exact ⟨j + 1, bw_j j 1, by omega, ⟨j + 2, bw_j j 2, by omega, ⟨j + 3, bw_j j 3, by omega, ⟨rfl, S, _, _, hc, hf, fun M1 N1 e1 i1 => ⟨j + 1, bw_j j 1, by omega, ⟨j + 2, bw_j j 2, by omega, ⟨j + 3, bw_j j 3, by omega, ⟨rfl, S, _, _, bw_mI_c hm e1, hf, fun M2 e2 i2 => ⟨fun _ => hK M2 N1 S1 (bw_cI_m i1 e2) i2, fun c => absurd (bw_cmp x) c⟩⟩⟩⟩⟩⟩⟩⟩⟩
theorem bw_t_cost (S : bt_S) (a0 : Int32) : ∃ x S1, f_cost [.int a0] S = some (.int x, S1) := by
  obtain ⟨w, im, u, z, q⟩ := S
  exact ⟨_, _, rfl⟩
set_option maxRecDepth 100000 in
theorem bw_k23 (Sz : Nat) (xs : Nat → Int32) (Rt : bt_R) (K : bt_P) : bw_case Sz xs Rt K 871 := by
  intro j M N S hj hc hm hK
  obtain ⟨x, S1, hf⟩ := bw_t_cost S (xs (j + 1))
  exact ⟨j + 1, bw_j j 1, by omega, ⟨rfl, S, _, _, hc, hf, fun M1 N1 e1 i1 => ⟨j + 1, bw_j j 1, by omega, ⟨rfl, S, _, _, bw_mI_c hm e1, hf, fun M2 e2 i2 => ⟨fun _ => hK M2 N1 S1 (bw_cI_m i1 e2) i2, fun c => absurd rfl c⟩⟩⟩⟩⟩
theorem bw_t_third (S : bt_S) (a0 : Int32) : ∃ x S1, f_third [.int a0] S = some (.int x, S1) := by
  obtain ⟨w, im, u, z, q⟩ := S
  exact ⟨_, _, rfl⟩
set_option maxRecDepth 100000 in
theorem bw_k24 (Sz : Nat) (xs : Nat → Int32) (Rt : bt_R) (K : bt_P) : bw_case Sz xs Rt K 894 := by
  intro j M N S hj hc hm hK
  obtain ⟨x, S1, hf⟩ := bw_t_third S (xs (j + 1))
  exact ⟨j + 1, bw_j j 1, by omega, ⟨rfl, S, _, _, hc, hf, fun M1 N1 e1 i1 => ⟨j + 1, bw_j j 1, by omega, ⟨rfl, S, _, _, bw_mI_c hm e1, hf, fun M2 e2 i2 => ⟨fun _ => hK M2 N1 S1 (bw_cI_m i1 e2) i2, fun c => absurd rfl c⟩⟩⟩⟩⟩
theorem bw_t_layby (S : bt_S) (a0 : Int32) : ∃ x S1, f_layby [.int a0] S = some (.int x, S1) := by
  obtain ⟨w, im, u, z, q⟩ := S
  exact ⟨_, _, rfl⟩
set_option maxRecDepth 100000 in
theorem bw_k25 (Sz : Nat) (xs : Nat → Int32) (Rt : bt_R) (K : bt_P) : bw_case Sz xs Rt K 917 := by
  intro j M N S hj hc hm hK
  obtain ⟨x, S1, hf⟩ := bw_t_layby S (xs (j + 1))
  exact ⟨j + 1, bw_j j 1, by omega, ⟨rfl, S, _, _, hc, hf, fun M1 N1 e1 i1 => ⟨j + 1, bw_j j 1, by omega, ⟨rfl, S, _, _, bw_mI_c hm e1, hf, fun M2 e2 i2 => ⟨fun _ => hK M2 N1 S1 (bw_cI_m i1 e2) i2, fun c => absurd rfl c⟩⟩⟩⟩⟩
theorem bw_t_fair (S : bt_S) (a0 : Int32) : ∃ x S1, f_fair [.int a0] S = some (.int x, S1) := by
  obtain ⟨w, im, u, z, q⟩ := S
  exact ⟨_, _, rfl⟩
set_option maxRecDepth 100000 in
theorem bw_k26 (Sz : Nat) (xs : Nat → Int32) (Rt : bt_R) (K : bt_P) : bw_case Sz xs Rt K 940 := by
  intro j M N S hj hc hm hK
  obtain ⟨x, S1, hf⟩ := bw_t_fair S (xs (j + 1))
  exact ⟨j + 1, bw_j j 1, by omega, ⟨rfl, S, _, _, hc, hf, fun M1 N1 e1 i1 => ⟨j + 1, bw_j j 1, by omega, ⟨rfl, S, _, _, bw_mI_c hm e1, hf, fun M2 e2 i2 => ⟨fun _ => hK M2 N1 S1 (bw_cI_m i1 e2) i2, fun c => absurd rfl c⟩⟩⟩⟩⟩
theorem bw_t_need (S : bt_S) (a0 : Int32) : ∃ x S1, f_need [.int a0] S = some (.int x, S1) := by
  obtain ⟨w, im, u, z, q⟩ := S
  exact ⟨_, _, rfl⟩
set_option maxRecDepth 100000 in
theorem bw_k27 (Sz : Nat) (xs : Nat → Int32) (Rt : bt_R) (K : bt_P) : bw_case Sz xs Rt K 963 := by
  intro j M N S hj hc hm hK
  obtain ⟨x, S1, hf⟩ := bw_t_need S (xs (j + 1))
  exact ⟨j + 1, bw_j j 1, by omega, ⟨rfl, S, _, _, hc, hf, fun M1 N1 e1 i1 => ⟨j + 1, bw_j j 1, by omega, ⟨rfl, S, _, _, bw_mI_c hm e1, hf, fun M2 e2 i2 => ⟨fun _ => hK M2 N1 S1 (bw_cI_m i1 e2) i2, fun c => absurd rfl c⟩⟩⟩⟩⟩
theorem bw_t_dare (S : bt_S) (a0 a1 : Int32) : ∃ x S1, f_dare [.int a0, .int a1] S = some (.long x, S1) := by
  obtain ⟨w, im, u, z, q⟩ := S
  exact ⟨_, _, rfl⟩
set_option maxRecDepth 100000 in
theorem bw_k28 (Sz : Nat) (xs : Nat → Int32) (Rt : bt_R) (K : bt_P) : bw_case Sz xs Rt K 986 := by
  intro j M N S hj hc hm hK
  obtain ⟨x, S1, hf⟩ := bw_t_dare S (xs (j + 1)) (xs (j + 2))
  exact ⟨j + 1, bw_j j 1, by omega, ⟨j + 2, bw_j j 2, by omega, ⟨rfl, S, _, _, hc, hf, fun M1 N1 e1 i1 => ⟨j + 1, bw_j j 1, by omega, ⟨j + 2, bw_j j 2, by omega, ⟨rfl, S, _, _, bw_mI_c hm e1, hf, fun M2 e2 i2 => ⟨fun _ => hK M2 N1 S1 (bw_cI_m i1 e2) i2, fun c => absurd (bw_cmp x) c⟩⟩⟩⟩⟩⟩⟩
theorem bw_t_see (S : bt_S) (a0 a1 : Int32) : ∃ x S1, f_see [.int a0, .int a1] S = some (.int x, S1) := by
  obtain ⟨w, im, u, z, q⟩ := S
  exact ⟨_, _, rfl⟩
set_option maxRecDepth 100000 in
theorem bw_k29 (Sz : Nat) (xs : Nat → Int32) (Rt : bt_R) (K : bt_P) : bw_case Sz xs Rt K 1020 := by
  intro j M N S hj hc hm hK
  obtain ⟨x, S1, hf⟩ := bw_t_see S (xs (j + 1)) (xs (j + 2))
  exact ⟨j + 1, bw_j j 1, by omega, ⟨j + 2, bw_j j 2, by omega, ⟨rfl, S, _, _, hc, hf, fun M1 N1 e1 i1 => ⟨j + 1, bw_j j 1, by omega, ⟨j + 2, bw_j j 2, by omega, ⟨rfl, S, _, _, bw_mI_c hm e1, hf, fun M2 e2 i2 => ⟨fun _ => hK M2 N1 S1 (bw_cI_m i1 e2) i2, fun c => absurd rfl c⟩⟩⟩⟩⟩⟩⟩
theorem bw_t_forget (S : bt_S) (a0 : Int32) : ∃ x S1, f_forget [.int a0] S = some (.int x, S1) := by
  obtain ⟨w, im, u, z, q⟩ := S
  exact ⟨_, _, rfl⟩
set_option maxRecDepth 100000 in
theorem bw_k30 (Sz : Nat) (xs : Nat → Int32) (Rt : bt_R) (K : bt_P) : bw_case Sz xs Rt K 1053 := by
  intro j M N S hj hc hm hK
  obtain ⟨x, S1, hf⟩ := bw_t_forget S (xs (j + 1))
  exact ⟨j + 1, bw_j j 1, by omega, ⟨rfl, S, _, _, hc, hf, fun M1 N1 e1 i1 => ⟨j + 1, bw_j j 1, by omega, ⟨rfl, S, _, _, bw_mI_c hm e1, hf, fun M2 e2 i2 => ⟨fun _ => hK M2 N1 S1 (bw_cI_m i1 e2) i2, fun c => absurd rfl c⟩⟩⟩⟩⟩
theorem bw_t_fits (S : bt_S) (a0 : Int32) : ∃ x S1, f_fits [.int a0] S = some (.int x, S1) := by
  obtain ⟨w, im, u, z, q⟩ := S
  exact ⟨_, _, rfl⟩
set_option maxRecDepth 100000 in
theorem bw_k31 (Sz : Nat) (xs : Nat → Int32) (Rt : bt_R) (K : bt_P) : bw_case Sz xs Rt K 1076 := by
  intro j M N S hj hc hm hK
  obtain ⟨x, S1, hf⟩ := bw_t_fits S (xs (j + 1))
  exact ⟨j + 1, bw_j j 1, by omega, ⟨rfl, S, _, _, hc, hf, fun M1 N1 e1 i1 => ⟨j + 1, bw_j j 1, by omega, ⟨rfl, S, _, _, bw_mI_c hm e1, hf, fun M2 e2 i2 => ⟨fun _ => hK M2 N1 S1 (bw_cI_m i1 e2) i2, fun c => absurd rfl c⟩⟩⟩⟩⟩
theorem bw_t_could (S : bt_S) : ∃ x S1, f_could [] S = some (.int x, S1) := by
  obtain ⟨w, im, u, z, q⟩ := S
  exact ⟨_, _, rfl⟩
set_option maxRecDepth 100000 in
theorem bw_k32 (Sz : Nat) (xs : Nat → Int32) (Rt : bt_R) (K : bt_P) : bw_case Sz xs Rt K 1099 := by
  intro j M N S hj hc hm hK
  obtain ⟨x, S1, hf⟩ := bw_t_could S
  exact ⟨rfl, S, _, _, hc, hf, fun M1 N1 e1 i1 => ⟨rfl, S, _, _, bw_mI_c hm e1, hf, fun M2 e2 i2 => ⟨fun _ => hK M2 N1 S1 (bw_cI_m i1 e2) i2, fun c => absurd rfl c⟩⟩⟩
theorem bw_t_drift (S : bt_S) (a0 a1 : Int32) : ∃ x S1, f_drift [.int a0, .int a1] S = some (.int x, S1) := by
  obtain ⟨w, im, u, z, q⟩ := S
  exact ⟨_, _, rfl⟩
set_option maxRecDepth 100000 in
theorem bw_k33 (Sz : Nat) (xs : Nat → Int32) (Rt : bt_R) (K : bt_P) : bw_case Sz xs Rt K 1112 := by
  intro j M N S hj hc hm hK
  obtain ⟨x, S1, hf⟩ := bw_t_drift S (xs (j + 1)) (xs (j + 2))
  exact ⟨j + 1, bw_j j 1, by omega, ⟨j + 2, bw_j j 2, by omega, ⟨rfl, S, _, _, hc, hf, fun M1 N1 e1 i1 => ⟨j + 1, bw_j j 1, by omega, ⟨j + 2, bw_j j 2, by omega, ⟨rfl, S, _, _, bw_mI_c hm e1, hf, fun M2 e2 i2 => ⟨fun _ => hK M2 N1 S1 (bw_cI_m i1 e2) i2, fun c => absurd rfl c⟩⟩⟩⟩⟩⟩⟩
theorem bw_t_keep (S : bt_S) (a0 : Int32) : ∃ x S1, f_keep [.int a0] S = some (.int x, S1) := by
  obtain ⟨w, im, u, z, q⟩ := S
  exact ⟨_, _, rfl⟩
set_option maxRecDepth 100000 in
theorem bw_k34 (Sz : Nat) (xs : Nat → Int32) (Rt : bt_R) (K : bt_P) : bw_case Sz xs Rt K 1145 := by
  intro j M N S hj hc hm hK
  obtain ⟨x, S1, hf⟩ := bw_t_keep S (xs (j + 1))
  exact ⟨j + 1, bw_j j 1, by omega, ⟨rfl, S, _, _, hc, hf, fun M1 N1 e1 i1 => ⟨j + 1, bw_j j 1, by omega, ⟨rfl, S, _, _, bw_mI_c hm e1, hf, fun M2 e2 i2 => ⟨fun _ => hK M2 N1 S1 (bw_cI_m i1 e2) i2, fun c => absurd rfl c⟩⟩⟩⟩⟩
theorem bw_t_back (S : bt_S) (a0 : Int32) : ∃ x S1, f_back [.int a0] S = some (.int x, S1) := by
  obtain ⟨w, im, u, z, q⟩ := S
  exact ⟨_, _, rfl⟩
set_option maxRecDepth 100000 in
theorem bw_k35 (Sz : Nat) (xs : Nat → Int32) (Rt : bt_R) (K : bt_P) : bw_case Sz xs Rt K 1168 := by
  intro j M N S hj hc hm hK
  obtain ⟨x, S1, hf⟩ := bw_t_back S (xs (j + 1))
  exact ⟨j + 1, bw_j j 1, by omega, ⟨rfl, S, _, _, hc, hf, fun M1 N1 e1 i1 => ⟨j + 1, bw_j j 1, by omega, ⟨rfl, S, _, _, bw_mI_c hm e1, hf, fun M2 e2 i2 => ⟨fun _ => hK M2 N1 S1 (bw_cI_m i1 e2) i2, fun c => absurd rfl c⟩⟩⟩⟩⟩
theorem bw_t_sheet (S : bt_S) (a0 a1 a2 : Int32) : ∃ x S1, f_sheet [.int a0, .int a1, .int a2] S = some (.int x, S1) := by
  obtain ⟨w, im, u, z, q⟩ := S
  exact ⟨_, _, rfl⟩
set_option maxRecDepth 100000 in
theorem bw_k36 (Sz : Nat) (xs : Nat → Int32) (Rt : bt_R) (K : bt_P) : bw_case Sz xs Rt K 1191 := by
  intro j M N S hj hc hm hK
  obtain ⟨x, S1, hf⟩ := bw_t_sheet S (xs (j + 1)) (xs (j + 2)) (xs (j + 3))
  exact ⟨j + 1, bw_j j 1, by omega, ⟨j + 2, bw_j j 2, by omega, ⟨j + 3, bw_j j 3, by omega, ⟨rfl, S, _, _, hc, hf, fun M1 N1 e1 i1 => ⟨j + 1, bw_j j 1, by omega, ⟨j + 2, bw_j j 2, by omega, ⟨j + 3, bw_j j 3, by omega, ⟨rfl, S, _, _, bw_mI_c hm e1, hf, fun M2 e2 i2 => ⟨fun _ => hK M2 N1 S1 (bw_cI_m i1 e2) i2, fun c => absurd rfl c⟩⟩⟩⟩⟩⟩⟩⟩⟩
theorem bw_t_lay (S : bt_S) (a0 a1 a2 : Int32) : ∃ x S1, f_lay [.int a0, .int a1, .int a2] S = some (.int x, S1) := by
  obtain ⟨w, im, u, z, q⟩ := S
  exact ⟨_, _, rfl⟩
set_option maxRecDepth 100000 in
theorem bw_k37 (Sz : Nat) (xs : Nat → Int32) (Rt : bt_R) (K : bt_P) : bw_case Sz xs Rt K 1234 := by
  intro j M N S hj hc hm hK
  obtain ⟨x, S1, hf⟩ := bw_t_lay S (xs (j + 1)) (xs (j + 2)) (xs (j + 3))
  exact ⟨j + 1, bw_j j 1, by omega, ⟨j + 2, bw_j j 2, by omega, ⟨j + 3, bw_j j 3, by omega, ⟨rfl, S, _, _, hc, hf, fun M1 N1 e1 i1 => ⟨j + 1, bw_j j 1, by omega, ⟨j + 2, bw_j j 2, by omega, ⟨j + 3, bw_j j 3, by omega, ⟨rfl, S, _, _, bw_mI_c hm e1, hf, fun M2 e2 i2 => ⟨fun _ => hK M2 N1 S1 (bw_cI_m i1 e2) i2, fun c => absurd rfl c⟩⟩⟩⟩⟩⟩⟩⟩⟩
theorem bw_t_read (S : bt_S) (a0 a1 a2 a3 : Int32) : ∃ x S1, f_read [.int a0, .int a1, .int a2, .int a3] S = some (.int x, S1) := by
  obtain ⟨w, im, u, z, q⟩ := S
  exact ⟨_, _, rfl⟩
set_option maxRecDepth 100000 in
theorem bw_k38 (Sz : Nat) (xs : Nat → Int32) (Rt : bt_R) (K : bt_P) : bw_case Sz xs Rt K 1277 := by
  intro j M N S hj hc hm hK
  obtain ⟨x, S1, hf⟩ := bw_t_read S (xs (j + 1)) (xs (j + 2)) (xs (j + 3)) (xs (j + 4))
  exact ⟨j + 1, bw_j j 1, by omega, ⟨j + 2, bw_j j 2, by omega, ⟨j + 3, bw_j j 3, by omega, ⟨j + 4, bw_j j 4, by omega, ⟨rfl, S, _, _, hc, hf, fun M1 N1 e1 i1 => ⟨j + 1, bw_j j 1, by omega, ⟨j + 2, bw_j j 2, by omega, ⟨j + 3, bw_j j 3, by omega, ⟨j + 4, bw_j j 4, by omega, ⟨rfl, S, _, _, bw_mI_c hm e1, hf, fun M2 e2 i2 => ⟨fun _ => hK M2 N1 S1 (bw_cI_m i1 e2) i2, fun c => absurd rfl c⟩⟩⟩⟩⟩⟩⟩⟩⟩⟩⟩
theorem bw_t_torn (S : bt_S) : ∃ x S1, f_torn [] S = some (.int x, S1) := by
  obtain ⟨w, im, u, z, q⟩ := S
  exact ⟨_, _, rfl⟩
set_option maxRecDepth 100000 in
theorem bw_k39 (Sz : Nat) (xs : Nat → Int32) (Rt : bt_R) (K : bt_P) : bw_case Sz xs Rt K 1330 := by
  intro j M N S hj hc hm hK
  obtain ⟨x, S1, hf⟩ := bw_t_torn S
  exact ⟨rfl, S, _, _, hc, hf, fun M1 N1 e1 i1 => ⟨rfl, S, _, _, bw_mI_c hm e1, hf, fun M2 e2 i2 => ⟨fun _ => hK M2 N1 S1 (bw_cI_m i1 e2) i2, fun c => absurd rfl c⟩⟩⟩
theorem bw_t_count (S : bt_S) (a0 : Int32) : ∃ x S1, f_count [.int a0] S = some (.int x, S1) := by
  obtain ⟨w, im, u, z, q⟩ := S
  exact ⟨_, _, rfl⟩
set_option maxRecDepth 100000 in
theorem bw_k40 (Sz : Nat) (xs : Nat → Int32) (Rt : bt_R) (K : bt_P) : bw_case Sz xs Rt K 1343 := by
  intro j M N S hj hc hm hK
  obtain ⟨x, S1, hf⟩ := bw_t_count S (xs (j + 1))
  exact ⟨j + 1, bw_j j 1, by omega, ⟨rfl, S, _, _, hc, hf, fun M1 N1 e1 i1 => ⟨j + 1, bw_j j 1, by omega, ⟨rfl, S, _, _, bw_mI_c hm e1, hf, fun M2 e2 i2 => ⟨fun _ => hK M2 N1 S1 (bw_cI_m i1 e2) i2, fun c => absurd rfl c⟩⟩⟩⟩⟩
set_option maxRecDepth 100000 in
theorem bw_ks (Sz : Nat) (xs : Nat → Int32) (Rt : bt_R) (K : bt_P) : ∀ pc ∈ bt_LT, bw_case Sz xs Rt K pc := List.forall_mem_cons.mpr ⟨bw_k0 Sz xs Rt K, List.forall_mem_cons.mpr ⟨bw_k1 Sz xs Rt K, List.forall_mem_cons.mpr ⟨bw_k2 Sz xs Rt K, List.forall_mem_cons.mpr ⟨bw_k3 Sz xs Rt K, List.forall_mem_cons.mpr ⟨bw_k4 Sz xs Rt K, List.forall_mem_cons.mpr ⟨bw_k5 Sz xs Rt K, List.forall_mem_cons.mpr ⟨bw_k6 Sz xs Rt K, List.forall_mem_cons.mpr ⟨bw_k7 Sz xs Rt K, List.forall_mem_cons.mpr ⟨bw_k8 Sz xs Rt K, List.forall_mem_cons.mpr ⟨bw_k9 Sz xs Rt K, List.forall_mem_cons.mpr ⟨bw_k10 Sz xs Rt K, List.forall_mem_cons.mpr ⟨bw_k11 Sz xs Rt K, List.forall_mem_cons.mpr ⟨bw_k12 Sz xs Rt K, List.forall_mem_cons.mpr ⟨bw_k13 Sz xs Rt K, List.forall_mem_cons.mpr ⟨bw_k14 Sz xs Rt K, List.forall_mem_cons.mpr ⟨bw_k15 Sz xs Rt K, List.forall_mem_cons.mpr ⟨bw_k16 Sz xs Rt K, List.forall_mem_cons.mpr ⟨bw_k17 Sz xs Rt K, List.forall_mem_cons.mpr ⟨bw_k18 Sz xs Rt K, List.forall_mem_cons.mpr ⟨bw_k19 Sz xs Rt K, List.forall_mem_cons.mpr ⟨bw_k20 Sz xs Rt K, List.forall_mem_cons.mpr ⟨bw_k21 Sz xs Rt K, List.forall_mem_cons.mpr ⟨bw_k22 Sz xs Rt K, List.forall_mem_cons.mpr ⟨bw_k23 Sz xs Rt K, List.forall_mem_cons.mpr ⟨bw_k24 Sz xs Rt K, List.forall_mem_cons.mpr ⟨bw_k25 Sz xs Rt K, List.forall_mem_cons.mpr ⟨bw_k26 Sz xs Rt K, List.forall_mem_cons.mpr ⟨bw_k27 Sz xs Rt K, List.forall_mem_cons.mpr ⟨bw_k28 Sz xs Rt K, List.forall_mem_cons.mpr ⟨bw_k29 Sz xs Rt K, List.forall_mem_cons.mpr ⟨bw_k30 Sz xs Rt K, List.forall_mem_cons.mpr ⟨bw_k31 Sz xs Rt K, List.forall_mem_cons.mpr ⟨bw_k32 Sz xs Rt K, List.forall_mem_cons.mpr ⟨bw_k33 Sz xs Rt K, List.forall_mem_cons.mpr ⟨bw_k34 Sz xs Rt K, List.forall_mem_cons.mpr ⟨bw_k35 Sz xs Rt K, List.forall_mem_cons.mpr ⟨bw_k36 Sz xs Rt K, List.forall_mem_cons.mpr ⟨bw_k37 Sz xs Rt K, List.forall_mem_cons.mpr ⟨bw_k38 Sz xs Rt K, List.forall_mem_cons.mpr ⟨bw_k39 Sz xs Rt K, List.forall_mem_cons.mpr ⟨bw_k40 Sz xs Rt K, fun _ h => absurd h List.not_mem_nil⟩⟩⟩⟩⟩⟩⟩⟩⟩⟩⟩⟩⟩⟩⟩⟩⟩⟩⟩⟩⟩⟩⟩⟩⟩⟩⟩⟩⟩⟩⟩⟩⟩⟩⟩⟩⟩⟩⟩⟩⟩
def bw_I (Sz : Nat) (u pc : Nat) (L : bt_L) (st : List Value) (M : bt_M) (N : bt_N) : Prop := ∃ j S, L = bw_L j ∧ st = [] ∧ j ≤ Sz ∧ bt_cI M S ∧ bt_mI M S ∧ ((pc = 18 ∧ u = 3 * (Sz + 5 - j) + 2) ∨ (pc ∈ bt_LT ∧ j + 5 ≤ Sz ∧ u = 3 * (Sz + 5 - j) + 1) ∨ (pc = 1366 ∧ j + 5 ≤ Sz ∧ u = 3 * (Sz + 5 - j)))
theorem bw_gt {Sz j : Nat} (hS : Sz < 2 ^ 31) (hj : j ≤ Sz) (h : ¬ nI Sz - nI 5 < nI j) : j + 5 ≤ Sz := by
  rcases Nat.lt_or_ge Sz 5 with h5 | h5
  · exfalso
    apply h
    rcases (show Sz = 0 ∨ Sz = 1 ∨ Sz = 2 ∨ Sz = 3 ∨ Sz = 4 by omega) with rfl | rfl | rfl | rfl | rfl <;> refine Int32.lt_of_lt_of_le (b := nI 0) (by decide) (nI_le (Nat.zero_le _) (by omega))
  · obtain ⟨t, rfl⟩ : ∃ t, Sz = t + 5 := ⟨Sz - 5, by omega⟩
    rw [← nI_add, show nI t + nI 5 - nI 5 = nI t by rw [Int32.add_sub_cancel]] at h
    rcases Nat.lt_or_ge t j with c | c
    · exact absurd ((nI_ltI (by omega) (by omega)).mpr c) h
    · omega
set_option maxRecDepth 100000 in
theorem bw_loop {Sz : Nat} {xs : Nat → Int32} {Rt : bt_R} {P : bt_P} (hS : Sz < 2 ^ 31) (hP : bt_cls bt_TL [] bt_CL 2 (Sz + 1) xs Rt P) (hR : ∀ M N, Rt (some (.int 1)) M N) : ∀ u pc L st M N, bw_I Sz u pc L st M N → P pc L st M N := by
  refine bt_loop (by decide +kernel) hP 80 bt_SL (bw_I Sz) ?_
  rintro u pc L st M N ⟨j, S, rfl, rfl, hj, hc, hm, hq⟩
  rcases hq with ⟨rfl, hu⟩ | ⟨hpc, h5, hu⟩ | ⟨rfl, h5, hu⟩
  · refine ⟨fun c => ⟨Or.inr rfl, hR M N⟩, fun c => ?_⟩
    have h5 := bw_gt hS hj c
    have kk : ∀ t ∈ bt_LT, ∃ u', u' < u ∧ bw_I Sz u' t (bw_L j) [] M N := fun t ht => ⟨3 * (Sz + 5 - j) + 1, by omega, j, S, rfl, rfl, hj, hc, hm, Or.inr (Or.inl ⟨ht, h5, rfl⟩)⟩
    have kd : ∃ u', u' < u ∧ bw_I Sz u' 1366 (bw_L j) [] M N := ⟨3 * (Sz + 5 - j), by omega, j, S, rfl, rfl, hj, hc, hm, Or.inr (Or.inr ⟨rfl, h5, rfl⟩)⟩
    exact ⟨j, rfl, by omega, ⟨fun _ => kk 212 (by decide), fun _ => ⟨fun _ => kk 235 (by decide), fun _ => ⟨fun _ => kk 258 (by decide), fun _ => ⟨fun _ => kk 271 (by decide), fun _ => ⟨fun _ => kk 284 (by decide), fun _ => ⟨fun _ => kk 307 (by decide), fun _ => ⟨fun _ => kk 340 (by decide), fun _ => ⟨fun _ => kk 373 (by decide), fun _ => ⟨fun _ => kk 406 (by decide), fun _ => ⟨fun _ => kk 439 (by decide), fun _ => ⟨fun _ => kk 472 (by decide), fun _ => ⟨fun _ => kk 505 (by decide), fun _ => ⟨fun _ => kk 564 (by decide), fun _ => ⟨fun _ => kk 587 (by decide), fun _ => ⟨fun _ => kk 630 (by decide), fun _ => ⟨fun _ => kk 653 (by decide), fun _ => ⟨fun _ => kk 666 (by decide), fun _ => ⟨fun _ => kk 699 (by decide), fun _ => ⟨fun _ => kk 722 (by decide), fun _ => ⟨fun _ => kk 735 (by decide), fun _ => ⟨fun _ => kk 769 (by decide), fun _ => ⟨fun _ => kk 803 (by decide), fun _ => ⟨fun _ => kk 827 (by decide), fun _ => ⟨fun _ => kk 871 (by decide), fun _ => ⟨fun _ => kk 894 (by decide), fun _ => ⟨fun _ => kk 917 (by decide), fun _ => ⟨fun _ => kk 940 (by decide), fun _ => ⟨fun _ => kk 963 (by decide), fun _ => ⟨fun _ => kk 986 (by decide), fun _ => ⟨fun _ => kk 1020 (by decide), fun _ => ⟨fun _ => kk 1053 (by decide), fun _ => ⟨fun _ => kk 1076 (by decide), fun _ => ⟨fun _ => kk 1099 (by decide), fun _ => ⟨fun _ => kk 1112 (by decide), fun _ => ⟨fun _ => kk 1145 (by decide), fun _ => ⟨fun _ => kk 1168 (by decide), fun _ => ⟨fun _ => kk 1191 (by decide), fun _ => ⟨fun _ => kk 1234 (by decide), fun _ => ⟨fun _ => kk 1277 (by decide), fun _ => ⟨fun _ => kk 1330 (by decide), fun _ => ⟨fun _ => kk 1343 (by decide), fun _ => kd⟩⟩⟩⟩⟩⟩⟩⟩⟩⟩⟩⟩⟩⟩⟩⟩⟩⟩⟩⟩⟩⟩⟩⟩⟩⟩⟩⟩⟩⟩⟩⟩⟩⟩⟩⟩⟩⟩⟩⟩⟩⟩
  · exact bw_ks Sz xs Rt _ pc hpc j M N S h5 hc hm (fun M1 N1 S1 g1 g2 => ⟨3 * (Sz + 5 - j), by omega, j, S1, rfl, rfl, hj, g1, g2, Or.inr (Or.inr ⟨rfl, h5, rfl⟩)⟩)
  · refine ⟨3 * (Sz + 5 - (j + 5)) + 2, by omega, j + 5, S, ?_, rfl, by omega, hc, hm, Or.inl ⟨rfl, rfl⟩⟩
    rw [bw_L, ← bw_j j 5]
    rfl
