/-! THE ABSTRACT MACHINE: cells by number, M and N what they hold, one instruction as a predicate transformer -/
abbrev bt_M : Type := Nat → Nat → Int32
abbrev bt_N : Type := Nat → Nat → Int64
abbrev bt_L : Type := List (Option Value)
abbrev bt_R : Type := Option Value → bt_M → bt_N → Prop
abbrev bt_Sp : Type := List Value → bt_M → bt_N → bt_R → Prop
abbrev bt_E : Type := Nat × Instr × Nat × List (Int32 × Nat) × Int32 × Int64
abbrev bt_C : Type := List (Nat × Nat × Nat × bt_Sp)
abbrev bt_F : Type := List (Nat × Nat × Nat)
/-- the tables' words that stay -/
def bt_big : List Cond := lw_tbl.filter goodWord
theorem bt_bigG : ∀ w ∈ bt_big, goodWord w = true := fun _ h => (List.mem_filter.mp h).2
theorem bt_bigI {w : Cond} (h : w ∈ bt_big) : w ∈ lw_tbl := (List.mem_filter.mp h).1
theorem bt_bigM {w : Cond} (h : w ∈ lw_tbl) (hg : goodWord w = true) : w ∈ bt_big := List.mem_filter.mpr ⟨h, hg⟩
theorem bt_bigN {w : Cond} (i : Nat) (h : lw_tbl[i]? = some w) (hg : goodWord w = true) : w ∈ bt_big := bt_bigM (List.mem_of_getElem? h) hg
/-! THE SHAPE -/
abbrev bt_cl : List vw_C := [(RX0, TX0, 11), (RX1, TX1, 4), (RX2, TX2, 3), (RX3, TX3, 14), (RX4, TX4, 18), (RX5, TX5, 9), (RX6, TX6, 27)]
def bt_at {α : Type} : List α → Nat → α → α
  | [], _, d => d
  | x :: _, 0, _ => x
  | _ :: t, n + 1, d => bt_at t n d
/-- kind (0 an object, 1 an array), class or type of its elements, length -/
def bt_shl : List (Nat × Nat × Nat) := [
  (0, 5, 0), (1, 2, 160),
  (0, 4, 0), (1, 0, 8), (1, 0, 8), (1, 0, 8), (1, 0, 8), (1, 0, 6), (1, 0, 6), (1, 0, 6), (1, 0, 6),
  (0, 4, 0), (1, 0, 8), (1, 0, 8), (1, 0, 8), (1, 0, 8), (1, 0, 6), (1, 0, 6), (1, 0, 6), (1, 0, 6),
  (0, 3, 0),
  (1, 4, 2),
  (0, 4, 0), (1, 0, 8), (1, 0, 8), (1, 0, 8), (1, 0, 8), (1, 0, 6), (1, 0, 6), (1, 0, 6), (1, 0, 6),
  (0, 4, 0), (1, 0, 8), (1, 0, 8), (1, 0, 8), (1, 0, 8), (1, 0, 6), (1, 0, 6), (1, 0, 6), (1, 0, 6),
  (1, 5, 4),
  (0, 2, 0), (1, 0, 40), (0, 2, 0), (1, 0, 40), (0, 2, 0), (1, 0, 40), (0, 2, 0), (1, 0, 40),
  (0, 0, 0), (1, 0, 6), (1, 0, 6), (1, 0, 9), (1, 0, 9), (1, 6, 9),
  (1, 0, 6), (1, 0, 6), (1, 0, 6), (1, 0, 6), (1, 0, 6), (1, 0, 6), (1, 0, 6), (1, 0, 6), (1, 0, 6),
  (0, 1, 0), (1, 1, 64), (1, 1, 64),
  (0, 6, 0), (1, 0, 540), (1, 0, 90), (1, 0, 7), (1, 0, 160), (1, 0, 13), (1, 0, 51), (1, 0, 12), (1, 3, 2), (1, 0, 4), (1, 0, 4), (1, 0, 160),
  (0, 4, 0), (1, 0, 8), (1, 0, 8), (1, 0, 8), (1, 0, 8), (1, 0, 6), (1, 0, 6), (1, 0, 6), (1, 0, 6)]
def bt_sh (c : Nat) : Nat × Nat × Nat := bt_at bt_shl c (9, 0, 0)
/-- the kinds of fields: 0 int, 1 long, 2 a reference -/
def bt_fts : List (List Nat) := [
  [2, 2, 2, 2, 2, 0, 0, 0, 0, 0, 0], [2, 2, 1, 0], [2, 0, 0], [2, 2, 0, 0, 0, 0, 0, 0, 0, 0, 0, 0, 0, 0],
  [2, 2, 2, 2, 2, 2, 2, 2, 0, 0, 0, 0, 0, 0, 0, 0, 0, 0], [2, 2, 2, 2, 2, 2, 2, 0, 0],
  [2, 0, 0, 2, 0, 0, 0, 2, 0, 2, 0, 0, 0, 0, 0, 0, 0, 0, 2, 2, 2, 0, 2, 2, 2, 2, 0]]
def bt_ft (ci k : Nat) : Nat := bt_at (bt_at bt_fts ci []) k 9
def bt_nfs : List Nat := [11, 4, 3, 14, 18, 9, 27]
def bt_nf (ci : Nat) : Nat := bt_at bt_nfs ci 0
/-- what references a cell holds -/
def bt_rfl : List (List Nat) := [[20, 2, 79, 21, 40, 49, 64], [], [3, 4, 5, 6, 7, 8, 9, 10], [], [], [], [], [], [], [], [], [12, 13, 14, 15, 16, 17, 18, 19], [], [], [], [], [], [], [], [], [1, 11], [], [23, 24, 25, 26, 27, 28, 29, 30], [], [], [], [], [], [], [], [], [32, 33, 34, 35, 36, 37, 38, 39], [], [], [], [], [], [], [], [], [], [42], [], [44], [], [46], [], [48], [], [50, 51, 52, 53, 54], [], [], [], [], [], [], [], [], [], [], [], [], [], [], [65, 66], [], [], [68, 0, 0, 69, 0, 0, 0, 70, 0, 71, 0, 0, 0, 0, 0, 0, 0, 0, 72, 73, 74, 0, 75, 76, 77, 78, 0], [], [], [], [], [], [], [], [], [], [], [], [80, 81, 82, 83, 84, 85, 86, 87]]
def bt_rf (c k : Nat) : Nat := match c with
  | 21 => 22 + 9 * k
  | 40 => 41 + 2 * k
  | 54 => 55 + k
  | c => bt_at (bt_at bt_rfl c []) k 0
def bt_atk : List Nat → Nat → (Nat → Prop) → Prop
  | [], _, k => k 0
  | x :: _, 0, k => k x
  | _ :: t, n + 1, k => bt_atk t n k
def bt_tr (ad fa : Nat → Nat) : Value → Value
  | .ref c => .ref (ad c)
  | .retAddr n => .ref (fa n)
  | v => v
/-! ONE INSTRUCTION -/
def bt_k1i (st : List Value) (k : Int32 → List Value → Prop) : Prop := match st with
  | .int a :: r => k a r
  | _ => False
def bt_k2i (st : List Value) (k : Int32 → Int32 → List Value → Prop) : Prop := match st with
  | .int b :: .int a :: r => k a b r
  | _ => False
def bt_k1l (st : List Value) (k : Int64 → List Value → Prop) : Prop := match st with
  | .long a :: r => k a r
  | _ => False
def bt_k2l (st : List Value) (k : Int64 → Int64 → List Value → Prop) : Prop := match st with
  | .long b :: .long a :: r => k a b r
  | _ => False
def bt_kr (st : List Value) (k : Nat → List Value → Prop) : Prop := match st with
  | .ref c :: r => k c r
  | _ => False
def bt_kir (st : List Value) (k : Int32 → Nat → List Value → Prop) (kx : Int32 → List Value → Prop) : Prop := match st with
  | .int i :: .ref c :: r => k i c r
  | .int i :: .retAddr 0 :: r => kx i r
  | _ => False
def bt_kxir (st : List Value) (k : Int32 → Int32 → Nat → List Value → Prop) : Prop := match st with
  | .int x :: .int i :: .ref c :: r => k x i c r
  | _ => False
def bt_klir (st : List Value) (k : Int64 → Int32 → Nat → List Value → Prop) : Prop := match st with
  | .long x :: .int i :: .ref c :: r => k x i c r
  | _ => False
def bt_c1 : Value → Bool
  | .long _ => false
  | .double _ => false
  | _ => true
def bt_k1 (st : List Value) (k : Value → List Value → Prop) : Prop := match st with
  | v :: r => (match bt_c1 v with
    | true => k v r
    | false => False)
  | _ => False
def bt_k2 (st : List Value) (k : Value → Value → List Value → Prop) : Prop := match st with
  | v :: w :: r => (match bt_c1 v, bt_c1 w with
    | true, true => k v w r
    | _, _ => False)
  | _ => False
def bt_lg : bt_L → Nat → (Value → Prop) → Prop
  | [], _, _ => False
  | x :: _, 0, k => (match x with
    | some v => k v
    | none => False)
  | _ :: t, n + 1, k => bt_lg t n k
def bt_li (L : bt_L) (i : Nat) (k : Int32 → Prop) : Prop := bt_lg L i (fun v => match v with
  | .int x => k x
  | _ => False)
def bt_ll (L : bt_L) (i : Nat) (k : Int64 → Prop) : Prop := bt_lg L i (fun v => match v with
  | .long x => k x
  | _ => False)
def bt_la (L : bt_L) (i : Nat) (k : Value → Prop) : Prop := bt_lg L i (fun v => match v with
  | .ref x => k (.ref x)
  | .retAddr x => k (.retAddr x)
  | _ => False)
def bt_o1 : Option Value → Bool
  | some v => bt_c1 v
  | none => true
/-- storing a value of one slot -/
def bt_ls : bt_L → Nat → Value → (bt_L → Prop) → Prop
  | [], _, _, _ => False
  | _ :: t, 0, v, k => k (some v :: t)
  | x :: t, 1, v, k => (match bt_o1 x, t with
    | true, _ :: t' => k (x :: some v :: t')
    | _, _ => False)
  | x :: t, n + 2, v, k => bt_ls t (n + 1) v (fun t' => k (x :: t'))
/-- storing a long -/
def bt_ls2 : bt_L → Nat → Value → (bt_L → Prop) → Prop
  | [], _, _, _ => False
  | _ :: t, 0, v, k => (match t with
    | _ :: t' => k (some v :: none :: t')
    | _ => False)
  | x :: t, 1, v, k => (match bt_o1 x, t with
    | true, _ :: _ :: t' => k (x :: some v :: none :: t')
    | _, _ => False)
  | x :: t, n + 2, v, k => bt_ls2 t (n + 1) v (fun t' => k (x :: t'))
/-- a place of an array of a type -/
def bt_ix (t c : Nat) (i : Int32) (k : Nat → Prop) : Prop := ∃ n, bt_sh c = (1, t, n) ∧ ∃ j, i = nI j ∧ j < n ∧ k j
def bt_fl : bt_F → Nat → (Nat → Nat → Prop) → Prop
  | [], _, _ => False
  | (a, ci, f) :: t, i, k => (match Nat.beq a i with
    | true => k ci f
    | false => bt_fl t i k)
/-- a field of an object of the class -/
def bt_ob (c ci : Nat) (k : Prop) : Prop := match bt_sh c with
  | (0, ci', _) => (match Nat.beq ci' ci with
    | true => k
    | false => False)
  | _ => False
def bt_gf (ci f c : Nat) (M : bt_M) (N : bt_N) (k : Value → Prop) : Prop := match bt_ft ci f with
  | 0 => k (.int (M c f))
  | 1 => k (.long (N c f))
  | 2 => bt_atk (bt_at bt_rfl c []) f (fun r => k (.ref r))
  | _ => False
def bt_pf (FL : bt_F) (i : Nat) (st : List Value) (M : bt_M) (N : bt_N) (k : List Value → bt_M → bt_N → Prop) : Prop := match st with
  | .int x :: .ref c :: r => bt_fl FL i (fun ci f => bt_ob c ci (match bt_ft ci f with
    | 0 => ∀ M', M' = va_up M c (upd (M c) f x) → k r M' N
    | _ => False))
  | .long x :: .ref c :: r => bt_fl FL i (fun ci f => bt_ob c ci (match bt_ft ci f with
    | 1 => ∀ N', N' = va_up N c (vp_updL (N c) f x) → k r M N'
    | _ => False))
  | _ => False
def bt_pop : Nat → List Value → List Value → (List Value → List Value → Prop) → Prop
  | 0, st, acc, k => k acc st
  | n + 1, v :: st, acc, k => bt_pop n st (v :: acc) k
  | _ + 1, [], _, _ => False
def bt_sum : List Value → Nat
  | [] => 0
  | v :: r => (match bt_c1 v with
    | true => bt_sum r + 1
    | false => bt_sum r + 2)
def bt_res (r : Option Value) (st : List Value) (k : List Value → Prop) : Prop := match r with
  | none => k st
  | some v => k (v :: st)
def bt_do (na : Nat) (sp : bt_Sp) (st : List Value) (M : bt_M) (N : bt_N) (k : List Value → bt_M → bt_N → Prop) : Prop :=
  bt_pop na st [] (fun as r => (match Nat.ble (bt_sum r) 8 with
    | true => sp as M N (fun v M' N' => bt_res v r (fun st' => k st' M' N'))
    | false => False))
def bt_call : bt_C → Nat → Nat → List Value → bt_M → bt_N → (List Value → bt_M → bt_N → Prop) → Prop
  | [], _, _, _, _, _, _ => False
  | (a, kd, na, sp) :: t, i, kj, st, M, N, k => (match Nat.beq a i with
    | true => (match Nat.beq kd kj with
      | true => bt_do na sp st M N k
      | false => False)
    | false => bt_call t i kj st M N k)
def bt_sw (x : Int32) : List (Int32 × Nat) → (Nat → Prop) → Prop → Prop
  | [], _, d => d
  | (a, t) :: r, k, d => (x = a → k t) ∧ (¬ x = a → bt_sw x r k d)
def bt_tg (tg : List (Int32 × Nat)) (k : Nat → Prop) : Prop := match tg with
  | (_, t) :: _ => k t
  | [] => False
def bt_if (b : ClassFile.Cond) (x y : Int32) (kt kf : Prop) : Prop := match b with
  | .eq => (x = y → kt) ∧ (¬ x = y → kf)
  | .ne => (¬ x = y → kt) ∧ (x = y → kf)
  | .lt => (x < y → kt) ∧ (¬ x < y → kf)
  | .ge => (y ≤ x → kt) ∧ (¬ y ≤ x → kf)
  | .gt => (y < x → kt) ∧ (¬ y < x → kf)
  | .le => (x ≤ y → kt) ∧ (¬ x ≤ y → kf)
def bt_ir (rt : Nat) (x : Int32) (r : List Value) (k : Prop) : Prop := match r with
  | [] => (match rt with
    | 1 => k
    | 2 => (x = 0 ∨ x = 1) ∧ k
    | _ => False)
  | _ => False
/-- an instruction: FL fields, CT calls, rt the kind of the answer (0 none, 1 int, 2 boolean, 3 long), SL (its length and 1; 0: none) and xs the script; ks goes on behind it, kj elsewhere, Rt the answer -/
def bt_wp1 (FL : bt_F) (CT : bt_C) (rt SL : Nat) (xs : Nat → Int32) (Rt : bt_R) (e : bt_E) (L : bt_L) (st : List Value) (M : bt_M) (N : bt_N)
    (ks : bt_L → List Value → bt_M → bt_N → Prop) (kj : Nat → bt_L → List Value → bt_M → bt_N → Prop) : Prop := match e with
  | (_, I, _, tg, ci, cl) => match I with
  | .iconst _ => ks L (.int ci :: st) M N
  | .bipush _ => ks L (.int ci :: st) M N
  | .sipush _ => ks L (.int ci :: st) M N
  | .lconst _ => ks L (.long cl :: st) M N
  | .ldc _ => (match tg with
    | [] => ks L (.int ci :: st) M N
    | (_, j) :: _ => ks L (.retAddr (j + 1) :: st) M N)
  | .ldc_w _ => ks L (.int ci :: st) M N
  | .ldc2_w _ => ks L (.long cl :: st) M N
  | .iload_n k => bt_li L k.val (fun x => ks L (.int x :: st) M N)
  | .iload k => bt_li L k (fun x => ks L (.int x :: st) M N)
  | .lload_n k => bt_ll L k.val (fun x => ks L (.long x :: st) M N)
  | .lload k => bt_ll L k (fun x => ks L (.long x :: st) M N)
  | .aload_n k => bt_la L k.val (fun x => ks L (x :: st) M N)
  | .aload k => bt_la L k (fun x => ks L (x :: st) M N)
  | .istore_n k => bt_k1i st (fun x r => bt_ls L k.val (.int x) (fun L' => ks L' r M N))
  | .istore k => bt_k1i st (fun x r => bt_ls L k (.int x) (fun L' => ks L' r M N))
  | .lstore_n k => bt_k1l st (fun x r => bt_ls2 L k.val (.long x) (fun L' => ks L' r M N))
  | .lstore k => bt_k1l st (fun x r => bt_ls2 L k (.long x) (fun L' => ks L' r M N))
  | .astore_n k => bt_kr st (fun x r => bt_ls L k.val (.ref x) (fun L' => ks L' r M N))
  | .astore k => bt_kr st (fun x r => bt_ls L k (.ref x) (fun L' => ks L' r M N))
  | .iinc k _ => bt_li L k (fun x => bt_ls L k (.int (x + ci)) (fun L' => ks L' st M N))
  | .iadd => bt_k2i st (fun a b r => ks L (.int (a + b) :: r) M N)
  | .isub => bt_k2i st (fun a b r => ks L (.int (a - b) :: r) M N)
  | .imul => bt_k2i st (fun a b r => ks L (.int (a * b) :: r) M N)
  | .iand => bt_k2i st (fun a b r => ks L (.int (a &&& b) :: r) M N)
  | .ior => bt_k2i st (fun a b r => ks L (.int (a ||| b) :: r) M N)
  | .ixor => bt_k2i st (fun a b r => ks L (.int (a ^^^ b) :: r) M N)
  | .irem => bt_k2i st (fun a b r => ¬ b = 0 ∧ ks L (.int (a - a / b * b) :: r) M N)
  | .ishl => bt_k2i st (fun a b r => ks L (.int (a <<< (b &&& 31)) :: r) M N)
  | .ishr => bt_k2i st (fun a b r => ks L (.int (a >>> (b &&& 31)) :: r) M N)
  | .iushr => bt_k2i st (fun a b r => ks L (.int (a.toUInt32 >>> (b.toUInt32 &&& Int32.toUInt32 31)).toInt32 :: r) M N)
  | .i2l => bt_k1i st (fun a r => ks L (.long a.toInt64 :: r) M N)
  | .i2b => bt_k1i st (fun a r => ks L (.int a.toInt8.toInt32 :: r) M N)
  | .i2s => bt_k1i st (fun a r => ks L (.int a.toInt16.toInt32 :: r) M N)
  | .ladd => bt_k2l st (fun a b r => ks L (.long (a + b) :: r) M N)
  | .lsub => bt_k2l st (fun a b r => ks L (.long (a - b) :: r) M N)
  | .lmul => bt_k2l st (fun a b r => ks L (.long (a * b) :: r) M N)
  | .ldiv => bt_k2l st (fun a b r => ¬ b = 0 ∧ ks L (.long (a / b) :: r) M N)
  | .lrem => bt_k2l st (fun a b r => ¬ b = 0 ∧ ks L (.long (a - a / b * b) :: r) M N)
  | .lneg => bt_k1l st (fun a r => ks L (.long (-a) :: r) M N)
  | .lcmp => bt_k2l st (fun a b r => ks L (.int (lg_cmp a b) :: r) M N)
  | .dup => bt_k1 st (fun v r => ks L (v :: v :: r) M N)
  | .pop => bt_k1 st (fun _ r => ks L r M N)
  | .dup2 => bt_k2 st (fun v w r => ks L (v :: w :: v :: w :: r) M N)
  | .goto _ => bt_tg tg (fun t => kj t L st M N)
  | .if_icmp b _ => bt_k2i st (fun x y r => bt_tg tg (fun t => bt_if b x y (kj t L r M N) (ks L r M N)))
  | .ifCond b _ => bt_k1i st (fun x r => bt_tg tg (fun t => bt_if b x 0 (kj t L r M N) (ks L r M N)))
  | .tableswitch _ _ _ _ => bt_k1i st (fun x r => (match tg with
    | (_, d) :: ts => bt_sw x ts (fun t => kj t L r M N) (kj d L r M N)
    | [] => False))
  | .iaload => bt_kir st (fun i c r => bt_ix 0 c i (fun j => ks L (.int (M c j) :: r) M N)) (fun i r => ∃ j, i = nI j ∧ j + 1 < SL ∧ ks L (.int (xs j) :: r) M N)
  | .baload => bt_kir st (fun i c r => (match (bt_sh c).2.1 with
    | 2 => bt_ix 2 c i (fun j => ks L (.int (M c j) :: r) M N)
    | 3 => bt_ix 3 c i (fun j => ks L (.int (M c j) :: r) M N)
    | _ => False)) (fun _ _ => False)
  | .laload => bt_kir st (fun i c r => bt_ix 1 c i (fun j => ks L (.long (N c j) :: r) M N)) (fun _ _ => False)
  | .aaload => bt_kir st (fun i c r => (match (bt_sh c).2.1 with
    | 4 => bt_ix 4 c i (fun j => ks L (.ref (bt_rf c j) :: r) M N)
    | 5 => bt_ix 5 c i (fun j => ks L (.ref (bt_rf c j) :: r) M N)
    | 6 => bt_ix 6 c i (fun j => ks L (.ref (bt_rf c j) :: r) M N)
    | _ => False)) (fun _ _ => False)
  | .iastore => bt_kxir st (fun x i c r => bt_ix 0 c i (fun j => ∀ M', M' = va_up M c (upd (M c) j x) → ks L r M' N))
  | .bastore => bt_kxir st (fun x i c r => (match (bt_sh c).2.1 with
    | 2 => bt_ix 2 c i (fun j => ∀ M', M' = va_up M c (upd (M c) j x.toInt8.toInt32) → ks L r M' N)
    | 3 => bt_ix 3 c i (fun j => ∀ M', M' = va_up M c (upd (M c) j (x &&& 1)) → ks L r M' N)
    | _ => False))
  | .lastore => bt_klir st (fun x i c r => bt_ix 1 c i (fun j => ∀ N', N' = va_up N c (vp_updL (N c) j x) → ks L r M N'))
  | .arraylength => (match st with
    | .retAddr 0 :: r => (match SL with
      | 0 => False
      | S + 1 => ks L (.int (nI S) :: r) M N)
    | _ => False)
  | .getfield i => bt_kr st (fun c r => bt_fl FL i (fun ci f => bt_ob c ci (bt_gf ci f c M N (fun v => ks L (v :: r) M N))))
  | .putfield i => bt_pf FL i st M N (fun r M' N' => ks L r M' N')
  | .invokestatic i => bt_call CT i 0 st M N (fun r M' N' => ks L r M' N')
  | .invokevirtual i => bt_call CT i 1 st M N (fun r M' N' => ks L r M' N')
  | .ireturn => bt_k1i st (fun x r => bt_ir rt x r (Rt (some (.int x)) M N))
  | .lreturn => bt_k1l st (fun x r => (match r, rt with
    | [], 3 => Rt (some (.long x)) M N
    | _, _ => False))
  | .return_ => (match st, rt with
    | [], 0 => Rt none M N
    | _, _ => False)
  | _ => False
def bt_suf : List bt_E → Nat → List bt_E
  | [], _ => []
  | e :: r, t => (match Nat.beq e.1 t with
    | true => e :: r
    | false => bt_suf r t)
def bt_el : List Nat → Nat → Bool
  | [], _ => false
  | a :: r, t => (match Nat.beq a t with
    | true => true
    | false => bt_el r t)
/-- the code from here on, up to the stops -/
def bt_wp (T : List bt_E) (FL : bt_F) (CT : bt_C) (rt SL : Nat) (xs : Nat → Int32) (Rt : bt_R) (S : List Nat) (K : Nat → bt_L → List Value → bt_M → bt_N → Prop) : Nat → List bt_E → bt_L → List Value → bt_M → bt_N → Prop
  | 0, _, _, _, _, _ => False
  | _ + 1, [], _, _, _, _ => False
  | n + 1, e :: is, L, st, M, N => bt_wp1 FL CT rt SL xs Rt e L st M N
      (fun L' st' M' N' => (match is with
        | [] => False
        | e' :: _ => (match bt_el S e'.1 with
          | true => K e'.1 L' st' M' N'
          | false => bt_wp T FL CT rt SL xs Rt S K n is L' st' M' N')))
      (fun t L' st' M' N' => (match bt_el S t with
          | true => K t L' st' M' N'
          | false => bt_wp T FL CT rt SL xs Rt S K n (bt_suf T t) L' st' M' N'))
