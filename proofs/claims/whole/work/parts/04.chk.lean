/-! A CODE TABLE IS THE CODE -/
def bt_strs : List (String × Nat × String) := [("BehindTractor$Tape", 108, "road"), ("BehindTractor$Tape", 117, "car"), ("BehindTractor$Tape", 185, "never"), ("BehindTractor$Tape", 187, "one"), ("BehindTractor$Tape", 189, "bold"), ("BehindTractor$Tape", 191, "follow"), ("BehindTractor$Tape", 193, "timid"), ("BehindTractor$Tape", 122, "slow"), ("BehindTractor$Tape", 127, "odds"), ("BehindTractor$Tape", 136, "hill"), ("BehindTractor$Tape", 141, "layby"), ("BehindTractor$Tape", 143, "lane")]
def bt_swok (pc : Nat) (lo : Int) : List (Int32 × Nat) → List Int → Bool
  | [], [] => true
  | (a, t) :: r, o :: os => decide (a.toInt = lo) && decide ((pc : Int) + o = (t : Int)) && bt_swok pc (lo + 1) r os
  | _, _ => false
def bt_tgok (pc : Nat) (o : Int) (tg : List (Int32 × Nat)) : Bool := match tg with
  | (_, t) :: _ => decide ((pc : Int) + o = (t : Int))
  | [] => false
def bt_ok2 (own : String) (e : bt_E) : Bool := match e.2.1 with
  | .iconst n => decide (Int32.ofInt n = e.2.2.2.2.1) && e.2.2.1 == 1
  | .bipush n => decide ((Int8.ofInt n).toInt32 = e.2.2.2.2.1) && e.2.2.1 == 2
  | .sipush n => decide ((Int16.ofInt n).toInt32 = e.2.2.2.2.1) && e.2.2.1 == 3
  | .lconst n => decide (Int64.ofNat (n : Nat) = e.2.2.2.2.2) && e.2.2.1 == 1
  | .iinc _ n => decide (Int32.ofInt n = e.2.2.2.2.1) && e.2.2.1 == 3
  | .goto o => bt_tgok e.1 o e.2.2.2.1 && e.2.2.1 == 3
  | .if_icmp _ o => bt_tgok e.1 o e.2.2.2.1 && e.2.2.1 == 3
  | .ifCond _ o => bt_tgok e.1 o e.2.2.2.1 && e.2.2.1 == 3
  | .tableswitch d lo hi offs => (match e.2.2.2.1 with
    | (_, t) :: ts => decide ((e.1 : Int) + d = (t : Int)) && bt_swok e.1 lo ts offs.toList && decide (hi = lo + ts.length - 1)
    | [] => false)
  | .ldc i => (match e.2.2.2.1 with
    | [] => decide (Cond.constant own i e.2.2.2.2.1 ∈ bt_big) && e.2.2.1 == 2
    | (_, j) :: _ => (match bt_strs[j]? with
      | some q => decide (q.1 = own) && decide (q.2.1 = i) && e.2.2.1 == 2
      | none => false))
  | .ldc_w i => decide (Cond.constant own i e.2.2.2.2.1 ∈ bt_big) && e.2.2.1 == 3
  | .ldc2_w i => decide (Cond.constantLong own i e.2.2.2.2.2 ∈ bt_big) && e.2.2.1 == 3
  | .iload _ => e.2.2.1 == 2
  | .lload _ => e.2.2.1 == 2
  | .aload _ => e.2.2.1 == 2
  | .istore _ => e.2.2.1 == 2
  | .lstore _ => e.2.2.1 == 2
  | .astore _ => e.2.2.1 == 2
  | .getfield _ => e.2.2.1 == 3
  | .putfield _ => e.2.2.1 == 3
  | .invokestatic _ => e.2.2.1 == 3
  | .invokevirtual _ => e.2.2.1 == 3
  | .invokespecial _ => e.2.2.1 == 3
  | .new _ => true
  | .newarray _ => true
  | .anewarray _ => true
  | .multianewarray _ _ => true
  | .athrow => true
  | .getstatic _ => true
  | _ => e.2.2.1 == 1
def bt_okE (own : String) (cc : ByteArray) (e : bt_E) : Bool := decide (decode cc e.1 = .ok (e.2.1, e.2.2.1)) && bt_ok2 own e
def bt_adj : List bt_E → Bool
  | [] => true
  | [_] => true
  | a :: b :: t => (a.1 + a.2.2.1 == b.1) && bt_adj (b :: t)
def bt_okT (own : String) (cc : ByteArray) (T : List bt_E) : Bool := T.all (bt_okE own cc) && bt_adj T
